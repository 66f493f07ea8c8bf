/-! ===== CLS 11: the plain methods ===== -/
abbrev isPc (m : Nat) (p : Int32) : Prop := 0 ≤ p ∧ p ≤ nI m - 1
abbrev lvC (V : Nat → Nat → Nat → Int32) (m : Nat) (p : Int32) : Prop := isPc m p ∧ ¬ V 1 p.toNatClampNeg 4 = 0
theorem pc_ok {m j : Nat} (h60 : m ≤ 60) (hj : j < m) : isPc m (nI j) := nat_in rfl (by omega) hj
theorem cl_ok {m j : Nat} (h60 : m ≤ 60) (hj : j < m) : (nI j).toNatClampNeg = j := nI_clamp (by omega)
theorem lv_ok {V : Nat → Nat → Nat → Int32} {m j : Nat} (h60 : m ≤ 60) (hj : j < m) (hal : ¬ V 1 j 4 = 0) : lvC V m (nI j) := ⟨pc_ok h60 hj, by rw [cl_ok h60 hj]; exact hal⟩
theorem pc_no {m : Nat} {x : Int32} (h60 : m ≤ 60) (h : noP m x) : ¬ isPc m x := inP_no (by omega) h
theorem lv_no {V : Nat → Nat → Nat → Int32} {m : Nat} {x : Int32} (h60 : m ≤ 60) (h : noA m V x) : ¬ lvC V m x := fun z => h ⟨x.toNatClampNeg, (in_nat rfl (by omega) z.1).2, (in_nat rfl (by omega) z.1).1, z.2⟩
theorem le9 {x : Int32} (h : ¬ 10 ≤ x) : x ≤ 9 := by
  rw [Int32.le_iff_toInt_le] at h ⊢
  have e1 : (10 : Int32).toInt = 10 := by decide
  have e2 : (9 : Int32).toInt = 9 := by decide
  rw [e1] at h; rw [e2]; omega
set_option maxRecDepth 100000 in
set_option maxHeartbeats 4000000 in
theorem c_X7_isHolding (l : Launch) (E : En) (P : HP) (x : Int32)  : Mt l E yX7_isHolding cX7_isHolding 1 (some .boolean) (rmX 0 0 0 0) [.int x] (P) (fun _ : Unit => some (.int (b2i (0 ≤ x ∧ x ≤ 9)))) (fun _ => P) := by
  refine Mt_of (by decide +kernel) (Nat.le_of_ble_eq_true rfl) (fun J O => ?_)
  show J _ 0 0 0 [some (.int x)] []

  refine x_iload_n (pc := 0) O dX7_isHolding_0 rfl ?_
  refine x_if_lt (pc := 1) O 14 dX7_isHolding_1 (by decide) (fun c1 => ?_) (fun c1 => ?_)
  · refine x_iconst (v := 0) (pc := 14) O dX7_isHolding_14 (by decide) ?_
    exact x_ret (v := some (.int _)) (pc := 15) O dX7_isHolding_15 rfl (rfl) ⟨Nat.le_refl _, Nat.le_refl _, (), congrArg (fun z => some (Value.int z)) ((b2i_f (fun z => absurd c1 (Int32.not_lt.mpr z.1))).symm), fun h hh => hh⟩
  · refine x_iload_n (pc := 4) O dX7_isHolding_4 rfl ?_
    refine x_bipush (v := 10) (pc := 5) O dX7_isHolding_5 (by decide) ?_
    refine x_icmp_ge (pc := 7) O 14 dX7_isHolding_7 (by decide) (fun c7 => ?_) (fun c7 => ?_)
    · refine x_iconst (v := 0) (pc := 14) O dX7_isHolding_14 (by decide) ?_
      exact x_ret (v := some (.int _)) (pc := 15) O dX7_isHolding_15 rfl (rfl) ⟨Nat.le_refl _, Nat.le_refl _, (), congrArg (fun z => some (Value.int z)) ((b2i_f (fun z => absurd (Int32.le_trans c7 z.2) (by decide))).symm), fun h hh => hh⟩
    · refine x_iconst (v := 1) (pc := 10) O dX7_isHolding_10 (by decide) ?_
      refine x_goto (pc := 11) O 15 dX7_isHolding_11 (by decide) ?_
      exact x_ret (v := some (.int _)) (pc := 15) O dX7_isHolding_15 rfl (rfl) ⟨Nat.le_refl _, Nat.le_refl _, (), congrArg (fun z => some (Value.int z)) ((b2i_t ⟨Int32.not_lt.mp c1, le9 c7⟩).symm), fun h hh => hh⟩
set_option maxRecDepth 100000 in
set_option maxHeartbeats 4000000 in
theorem c_X7_findSuit (l : Launch) (E : En) (adr : Nat → Nat → Nat) (V : Nat → Nat → Nat → Int32) (VL : Nat → Nat → Nat → Int64) (m ns : Nat) (ch : Nat → List Rt) (k : Nat) (hs : V 0 7 7 = nI ns) (h40 : ns ≤ 40) (hk : k < ns) : Mt l E yX7_findSuit cX7_findSuit 2 (some (.object "ManorRolls$Suit")) (rmX 0 0 0 0) [.ref (adr 0 7), .int (nI k)] (CV E adr V VL m ns ch) (fun _ : Unit => some (.ref (adr 2 k))) (fun _ => CV E adr V VL m ns ch) := by
  refine Mt_of (by decide +kernel) (Nat.le_of_ble_eq_true rfl) (fun J O => ?_)
  show J _ 0 0 0 [some (.ref (adr 0 7)), some (.int (nI k))] []
  refine x_iload_n (pc := 0) O dX7_findSuit_0 rfl ?_
  refine x_if_lt (pc := 1) O 30 dX7_findSuit_1 (by decide) (fun c1 => ?_) (fun c1 => ?_)
  · exact absurd c1 (nI_pos (by omega))
  · refine x_iload_n (pc := 4) O dX7_findSuit_4 rfl ?_
    refine x_aload_n (pc := 5) O dX7_findSuit_5 rfl rfl ?_
    refine cv_get (t := 0) (n := 7) (pc := 6) O dX7_findSuit_6 fdX7_54 rfl rfl rfl ?_
    refine x_icmp_ge (pc := 9) O 30 dX7_findSuit_9 (by decide) (fun c9 => ?_) (fun c9 => ?_)
    · rw [hs, nI_leI (by omega) (by omega)] at c9
      omega
    · refine x_iload_n (pc := 12) O dX7_findSuit_12 rfl ?_
      refine x_aload_n (pc := 13) O dX7_findSuit_13 rfl rfl ?_
      refine cv_get (t := 0) (n := 7) (pc := 14) O dX7_findSuit_14 fdX7_50 rfl rfl rfl ?_
      refine cv_slen (pc := 17) O (fun _ h9 => h9) dX7_findSuit_17 ?_
      refine x_icmp_ge (pc := 18) O 30 dX7_findSuit_18 (by decide) (fun c18 => ?_) (fun c18 => ?_)
      · rw [nI_leI (by omega) (by omega)] at c18
        omega
      · refine x_aload_n (pc := 21) O dX7_findSuit_21 rfl rfl ?_
        refine cv_get (t := 0) (n := 7) (pc := 22) O dX7_findSuit_22 fdX7_50 rfl rfl rfl ?_
        refine x_iload_n (pc := 25) O dX7_findSuit_25 rfl ?_
        refine cv_sld (pc := 26) O dX7_findSuit_26 hk h40 ?_
        refine x_goto (pc := 27) O 31 dX7_findSuit_27 (by decide) ?_
        exact x_ret (v := some (.ref (adr 2 k))) (pc := 31) O dX7_findSuit_31 rfl trivial ⟨Nat.le_refl _, Nat.le_refl _, (), rfl, fun h hh => hh⟩
set_option maxRecDepth 100000 in
set_option maxHeartbeats 4000000 in
theorem c_X7_findSuit_no (l : Launch) (E : En) (adr : Nat → Nat → Nat) (V : Nat → Nat → Nat → Int32) (VL : Nat → Nat → Nat → Int64) (m ns : Nat) (ch : Nat → List Rt) (x : Int32) (hs : V 0 7 7 = nI ns) (h40 : ns ≤ 40) (hx : noP ns x) : Mt l E yX7_findSuit cX7_findSuit 2 (some (.object "ManorRolls$Suit")) (rmX 0 0 0 0) [.ref (adr 0 7), .int x] (CV E adr V VL m ns ch) (fun _ : Unit => some .null) (fun _ => CV E adr V VL m ns ch) := by
  refine Mt_of (by decide +kernel) (Nat.le_of_ble_eq_true rfl) (fun J O => ?_)
  show J _ 0 0 0 [some (.ref (adr 0 7)), some (.int x)] []
  refine x_iload_n (pc := 0) O dX7_findSuit_0 rfl ?_
  refine x_if_lt (pc := 1) O 30 dX7_findSuit_1 (by decide) (fun c1 => ?_) (fun c1 => ?_)
  · refine x_null (pc := 30) O dX7_findSuit_30 ?_
    exact x_ret (v := some .null) (pc := 31) O dX7_findSuit_31 rfl trivial ⟨Nat.le_refl _, Nat.le_refl _, (), rfl, fun h hh => hh⟩
  · refine x_iload_n (pc := 4) O dX7_findSuit_4 rfl ?_
    refine x_aload_n (pc := 5) O dX7_findSuit_5 rfl rfl ?_
    refine cv_get (t := 0) (n := 7) (pc := 6) O dX7_findSuit_6 fdX7_54 rfl rfl rfl ?_
    refine x_icmp_ge (pc := 9) O 30 dX7_findSuit_9 (by decide) (fun c9 => ?_) (fun c9 => ?_)
    · refine x_null (pc := 30) O dX7_findSuit_30 ?_
      exact x_ret (v := some .null) (pc := 31) O dX7_findSuit_31 rfl trivial ⟨Nat.le_refl _, Nat.le_refl _, (), rfl, fun h hh => hh⟩
    · exact absurd ((noP_of (by omega) hx).resolve_left c1) (by rw [← hs]; exact c9)
set_option maxRecDepth 100000 in
set_option maxHeartbeats 4000000 in
theorem c_X7_sick (l : Launch) (E : En) (adr : Nat → Nat → Nat) (V : Nat → Nat → Nat → Int32) (VL : Nat → Nat → Nat → Int64) (m ns : Nat) (ch : Nat → List Rt) (p x : Int32) (hc : V 0 3 1 = nI m) (h60 : m ≤ 60) : Mt l E yX7_sick cX7_sick 4 (some .boolean) (rmX 2 43 0 0) [.ref (adr 0 7), .int p, .int x] (CV E adr V VL m ns ch) (fun _ : Unit => some (.int (b2i (lvC V m p ∧ 0 ≤ x ∧ x ≤ 60)))) (fun _ => CV E adr (if lvC V m p ∧ 0 ≤ x ∧ x ≤ 60 then up3 V 1 p.toNatClampNeg 11 x else V) VL m ns ch) := by
  refine Mt_of (by decide +kernel) (Nat.le_of_ble_eq_true rfl) (fun J O => ?_)
  show J _ 0 0 0 [some (.ref (adr 0 7)), some (.int p), some (.int x), none] []
  refine x_aload_n (pc := 0) O dX7_sick_0 rfl rfl ?_
  refine cv_get (t := 0) (n := 7) (pc := 1) O dX7_sick_1 fdX7_28 rfl rfl rfl ?_
  refine x_iload_n (pc := 4) O dX7_sick_4 rfl ?_
  rcases noA_or m V p with ⟨j, hj, rfl, hal⟩ | hna
  · refine x_callV (pc := 5) (rest := []) (ci := 3) O (c_X3_findAlive l E _ _ _ _ _ _ j hc h60 hj hal) dX7_sick_5 cbX7_79 im_yX3_findAlive se_yX3_findAlive rfl (cv_recv (t := 0) (n := 3) rfl rfl) rfl rfl (Nat.le_of_ble_eq_true rfl) ⟨Nat.le_of_ble_eq_true rfl, Nat.le_of_ble_eq_true rfl⟩ ⟨Nat.le_of_ble_eq_true rfl, Nat.le_of_ble_eq_true rfl⟩ (fun _ => ?_)
    dsimp only [Option.toList, List.append, List.nil_append, List.cons_append, Nat.add_zero, Nat.reduceAdd]
    refine x_astore_n (pc := 8) O dX7_sick_8 (by decide) rfl rfl ?_
    refine x_aload_n (pc := 9) O dX7_sick_9 rfl rfl ?_
    refine x_ifnull (pc := 10) O dX7_sick_10 ?_
    refine x_iload_n (pc := 13) O dX7_sick_13 rfl ?_
    refine x_if_lt (pc := 14) O 23 dX7_sick_14 (by decide) (fun c14 => ?_) (fun c14 => ?_)
    · refine x_iconst (v := 0) (pc := 23) O dX7_sick_23 (by decide) ?_
      have hc9 : ¬ (lvC V m (nI j) ∧ 0 ≤ x ∧ x ≤ 60) := fun z => absurd c14 (Int32.not_lt.mpr z.2.1)
      exact x_ret (v := some (.int _)) (pc := 24) O dX7_sick_24 rfl rfl ⟨Nat.le_of_ble_eq_true rfl, Nat.le_of_ble_eq_true rfl, (), congrArg (fun z => some (Value.int z)) (b2i_f hc9).symm, fun h hh => by rw [if_neg hc9]; exact hh⟩
    · refine x_iload_n (pc := 17) O dX7_sick_17 rfl ?_
      refine x_bipush (v := 60) (pc := 18) O dX7_sick_18 (by decide) ?_
      refine x_icmp_le (pc := 20) O 25 dX7_sick_20 (by decide) (fun c20 => ?_) (fun c20 => ?_)
      · refine x_aload_n (pc := 25) O dX7_sick_25 rfl rfl ?_
        refine x_iload_n (pc := 26) O dX7_sick_26 rfl ?_
        refine cv_put (t := 1) (n := j) (pc := 27) O dX7_sick_27 fpX7_139 rfl rfl (okC1 (by omega)) rfl (Nat.le_of_ble_eq_true rfl) rfl ?_
        refine x_iconst (v := 1) (pc := 30) O dX7_sick_30 (by decide) ?_
        have hc9 : lvC V m (nI j) ∧ 0 ≤ x ∧ x ≤ 60 := ⟨lv_ok h60 hj hal, Int32.not_lt.mp c14, c20⟩
        exact x_ret (v := some (.int _)) (pc := 31) O dX7_sick_31 rfl rfl ⟨Nat.le_of_ble_eq_true rfl, Nat.le_of_ble_eq_true rfl, (), congrArg (fun z => some (Value.int z)) (b2i_t hc9).symm, fun h hh => by rw [if_pos hc9, cl_ok h60 hj]; exact hh⟩
      · refine x_iconst (v := 0) (pc := 23) O dX7_sick_23 (by decide) ?_
        have hc9 : ¬ (lvC V m (nI j) ∧ 0 ≤ x ∧ x ≤ 60) := fun z => c20 z.2.2
        exact x_ret (v := some (.int _)) (pc := 24) O dX7_sick_24 rfl rfl ⟨Nat.le_of_ble_eq_true rfl, Nat.le_of_ble_eq_true rfl, (), congrArg (fun z => some (Value.int z)) (b2i_f hc9).symm, fun h hh => by rw [if_neg hc9]; exact hh⟩
  · refine x_callV (pc := 5) (rest := []) (ci := 3) O (c_X3_findAlive_no l E _ _ _ _ _ _ _ hc h60 hna) dX7_sick_5 cbX7_79 im_yX3_findAlive se_yX3_findAlive rfl (cv_recv (t := 0) (n := 3) rfl rfl) rfl rfl (Nat.le_of_ble_eq_true rfl) ⟨Nat.le_of_ble_eq_true rfl, Nat.le_of_ble_eq_true rfl⟩ ⟨Nat.le_of_ble_eq_true rfl, Nat.le_of_ble_eq_true rfl⟩ (fun _ => ?_)
    dsimp only [Option.toList, List.append, List.nil_append, List.cons_append, Nat.add_zero, Nat.reduceAdd]
    refine x_astore_n (pc := 8) O dX7_sick_8 (by decide) rfl rfl ?_
    refine x_aload_n (pc := 9) O dX7_sick_9 rfl rfl ?_
    refine x_ifnullN (pc := 10) O 23 dX7_sick_10 (by decide) ?_
    refine x_iconst (v := 0) (pc := 23) O dX7_sick_23 (by decide) ?_
    have hc9 : ¬ (lvC V m p ∧ 0 ≤ x ∧ x ≤ 60) := fun z => lv_no h60 hna z.1
    exact x_ret (v := some (.int _)) (pc := 24) O dX7_sick_24 rfl rfl ⟨Nat.le_of_ble_eq_true rfl, Nat.le_of_ble_eq_true rfl, (), congrArg (fun z => some (Value.int z)) (b2i_f hc9).symm, fun h hh => by rw [if_neg hc9]; exact hh⟩
set_option maxRecDepth 100000 in
set_option maxHeartbeats 4000000 in
theorem c_X7_works (l : Launch) (E : En) (adr : Nat → Nat → Nat) (V : Nat → Nat → Nat → Int32) (VL : Nat → Nat → Nat → Int64) (m ns : Nat) (ch : Nat → List Rt) (p x s : Int32) (hc : V 0 3 1 = nI m) (h60 : m ≤ 60) : Mt l E yX7_works cX7_works 5 (some .int) (rmX 1 21 0 0) [.ref (adr 0 7), .int p, .int x, .int s] (CV E adr V VL m ns ch) (fun _ : Unit => some (.int (if isPc m p ∧ 1 ≤ x ∧ x ≤ V 1 p.toNatClampNeg 7 then V 1 p.toNatClampNeg 7 - x else -1))) (fun _ => CV E adr (if isPc m p ∧ 1 ≤ x ∧ x ≤ V 1 p.toNatClampNeg 7 then (if s = 0 then up3 (up3 V 1 p.toNatClampNeg 7 (V 1 p.toNatClampNeg 7 - x)) 1 p.toNatClampNeg 8 (V 1 p.toNatClampNeg 8 + x) else up3 (up3 (up3 V 1 p.toNatClampNeg 7 (V 1 p.toNatClampNeg 7 - x)) 1 p.toNatClampNeg 9 (V 1 p.toNatClampNeg 9 + x)) 1 p.toNatClampNeg 6 (V 1 p.toNatClampNeg 6 + x)) else V) VL m ns ch) := by
  refine Mt_of (by decide +kernel) (Nat.le_of_ble_eq_true rfl) (fun J O => ?_)
  show J _ 0 0 0 [some (.ref (adr 0 7)), some (.int p), some (.int x), some (.int s), none] []
  refine x_aload_n (pc := 0) O dX7_works_0 rfl rfl ?_
  refine cv_get (t := 0) (n := 7) (pc := 1) O dX7_works_1 fdX7_28 rfl rfl rfl ?_
  refine x_iload_n (pc := 4) O dX7_works_4 rfl ?_
  rcases noP_or m p with ⟨j, hj, rfl⟩ | hno
  · refine x_callV (pc := 5) (rest := []) (ci := 3) O (c_X3_find l E _ _ _ _ _ _ j hc h60 hj) dX7_works_5 cbX7_105 im_yX3_find se_yX3_find rfl (cv_recv (t := 0) (n := 3) rfl rfl) rfl rfl (Nat.le_of_ble_eq_true rfl) ⟨Nat.le_of_ble_eq_true rfl, Nat.le_of_ble_eq_true rfl⟩ ⟨Nat.le_of_ble_eq_true rfl, Nat.le_of_ble_eq_true rfl⟩ (fun _ => ?_)
    dsimp only [Option.toList, List.append, List.nil_append, List.cons_append, Nat.add_zero, Nat.reduceAdd]
    refine x_astore (pc := 8) O dX7_works_8 (by decide) rfl rfl ?_
    refine x_aload (pc := 10) O dX7_works_10 rfl rfl ?_
    refine x_ifnull (pc := 12) O dX7_works_12 ?_
    refine x_iload_n (pc := 15) O dX7_works_15 rfl ?_
    refine x_iconst (v := 1) (pc := 16) O dX7_works_16 (by decide) ?_
    refine x_icmp_lt (pc := 17) O 29 dX7_works_17 (by decide) (fun c17 => ?_) (fun c17 => ?_)
    · refine x_iconst (v := (-1)) (pc := 29) O dX7_works_29 (by decide) ?_
      have hc9 : ¬ (isPc m (nI j) ∧ 1 ≤ x ∧ x ≤ V 1 (nI j).toNatClampNeg 7) := fun z => absurd c17 (Int32.not_lt.mpr z.2.1)
      exact x_ret (v := some (.int _)) (pc := 30) O dX7_works_30 rfl rfl ⟨Nat.le_of_ble_eq_true rfl, Nat.le_of_ble_eq_true rfl, (), congrArg (fun z => some (Value.int z)) (if_neg hc9).symm, fun h hh => by rw [if_neg hc9]; exact hh⟩
    · refine x_iload_n (pc := 20) O dX7_works_20 rfl ?_
      refine x_aload (pc := 21) O dX7_works_21 rfl rfl ?_
      refine cv_get (t := 1) (n := j) (pc := 23) O dX7_works_23 fdX7_142 (okC1 (by omega)) rfl rfl ?_
      refine x_icmp_le (pc := 26) O 31 dX7_works_26 (by decide) (fun c26 => ?_) (fun c26 => ?_)
      · refine x_aload (pc := 31) O dX7_works_31 rfl rfl ?_
        refine x_dup (pc := 33) O dX7_works_33 rfl ?_
        refine cv_get (t := 1) (n := j) (pc := 34) O dX7_works_34 fdX7_142 (okC1 (by omega)) rfl rfl ?_
        refine x_iload_n (pc := 37) O dX7_works_37 rfl ?_
        refine x_isub (pc := 38) O dX7_works_38 ?_
        refine cv_put (t := 1) (n := j) (pc := 39) O dX7_works_39 fpX7_142 rfl rfl (okC1 (by omega)) rfl (Nat.le_of_ble_eq_true rfl) rfl ?_
        refine x_iload_n (pc := 42) O dX7_works_42 rfl ?_
        refine x_if_eq (pc := 43) O 71 dX7_works_43 (by decide) (fun c43 => ?_) (fun c43 => ?_)
        · refine x_aload (pc := 71) O dX7_works_71 rfl rfl ?_
          refine x_dup (pc := 73) O dX7_works_73 rfl ?_
          refine cv_get (t := 1) (n := j) (pc := 74) O dX7_works_74 fdX7_148 (okC1 (by omega)) rfl rfl ?_
          rw [up3_eq, va_up_ne _ _ (by decide)]
          refine x_iload_n (pc := 77) O dX7_works_77 rfl ?_
          refine x_iadd (pc := 78) O dX7_works_78 ?_
          refine cv_put (t := 1) (n := j) (pc := 79) O dX7_works_79 fpX7_148 rfl rfl (okC1 (by omega)) rfl (Nat.le_of_ble_eq_true rfl) rfl ?_
          refine x_aload (pc := 82) O dX7_works_82 rfl rfl ?_
          refine cv_get (t := 1) (n := j) (pc := 84) O dX7_works_84 fdX7_142 (okC1 (by omega)) rfl rfl ?_
          rw [up3_eq, va_up_ne _ _ (by decide), up3_eq, va_up_self]
          have hc9 : isPc m (nI j) ∧ 1 ≤ x ∧ x ≤ V 1 (nI j).toNatClampNeg 7 := ⟨pc_ok h60 hj, Int32.not_lt.mp c17, by rw [cl_ok h60 hj]; exact c26⟩
          exact x_ret (v := some (.int _)) (pc := 87) O dX7_works_87 rfl rfl ⟨Nat.le_of_ble_eq_true rfl, Nat.le_of_ble_eq_true rfl, (), congrArg (fun z => some (Value.int z)) (by rw [if_pos hc9, cl_ok h60 hj]), fun h hh => by rw [if_pos hc9, if_pos c43, cl_ok h60 hj]; exact hh⟩
        · refine x_aload (pc := 46) O dX7_works_46 rfl rfl ?_
          refine x_dup (pc := 48) O dX7_works_48 rfl ?_
          refine cv_get (t := 1) (n := j) (pc := 49) O dX7_works_49 fdX7_145 (okC1 (by omega)) rfl rfl ?_
          rw [up3_eq, va_up_ne _ _ (by decide)]
          refine x_iload_n (pc := 52) O dX7_works_52 rfl ?_
          refine x_iadd (pc := 53) O dX7_works_53 ?_
          refine cv_put (t := 1) (n := j) (pc := 54) O dX7_works_54 fpX7_145 rfl rfl (okC1 (by omega)) rfl (Nat.le_of_ble_eq_true rfl) rfl ?_
          refine x_aload (pc := 57) O dX7_works_57 rfl rfl ?_
          refine x_dup (pc := 59) O dX7_works_59 rfl ?_
          refine cv_get (t := 1) (n := j) (pc := 60) O dX7_works_60 fdX7_123 (okC1 (by omega)) rfl rfl ?_
          rw [up3_eq, va_up_ne _ _ (by decide), up3_eq, va_up_ne _ _ (by decide)]
          refine x_iload_n (pc := 63) O dX7_works_63 rfl ?_
          refine x_iadd (pc := 64) O dX7_works_64 ?_
          refine cv_put (t := 1) (n := j) (pc := 65) O dX7_works_65 fpX7_123 rfl rfl (okC1 (by omega)) rfl (Nat.le_of_ble_eq_true rfl) rfl ?_
          refine x_goto (pc := 68) O 82 dX7_works_68 (by decide) ?_
          refine x_aload (pc := 82) O dX7_works_82 rfl rfl ?_
          refine cv_get (t := 1) (n := j) (pc := 84) O dX7_works_84 fdX7_142 (okC1 (by omega)) rfl rfl ?_
          rw [up3_eq, va_up_ne _ _ (by decide), up3_eq, va_up_ne _ _ (by decide), up3_eq, va_up_self]
          have hc9 : isPc m (nI j) ∧ 1 ≤ x ∧ x ≤ V 1 (nI j).toNatClampNeg 7 := ⟨pc_ok h60 hj, Int32.not_lt.mp c17, by rw [cl_ok h60 hj]; exact c26⟩
          exact x_ret (v := some (.int _)) (pc := 87) O dX7_works_87 rfl rfl ⟨Nat.le_of_ble_eq_true rfl, Nat.le_of_ble_eq_true rfl, (), congrArg (fun z => some (Value.int z)) (by rw [if_pos hc9, cl_ok h60 hj]), fun h hh => by rw [if_pos hc9, if_neg c43, cl_ok h60 hj]; exact hh⟩
      · refine x_iconst (v := (-1)) (pc := 29) O dX7_works_29 (by decide) ?_
        have hc9 : ¬ (isPc m (nI j) ∧ 1 ≤ x ∧ x ≤ V 1 (nI j).toNatClampNeg 7) := fun z => c26 (by have := z.2.2; rw [cl_ok h60 hj] at this; exact this)
        exact x_ret (v := some (.int _)) (pc := 30) O dX7_works_30 rfl rfl ⟨Nat.le_of_ble_eq_true rfl, Nat.le_of_ble_eq_true rfl, (), congrArg (fun z => some (Value.int z)) (if_neg hc9).symm, fun h hh => by rw [if_neg hc9]; exact hh⟩
  · refine x_callV (pc := 5) (rest := []) (ci := 3) O (c_X3_find_no l E _ _ _ _ _ _ _ hc h60 hno) dX7_works_5 cbX7_105 im_yX3_find se_yX3_find rfl (cv_recv (t := 0) (n := 3) rfl rfl) rfl rfl (Nat.le_of_ble_eq_true rfl) ⟨Nat.le_of_ble_eq_true rfl, Nat.le_of_ble_eq_true rfl⟩ ⟨Nat.le_of_ble_eq_true rfl, Nat.le_of_ble_eq_true rfl⟩ (fun _ => ?_)
    dsimp only [Option.toList, List.append, List.nil_append, List.cons_append, Nat.add_zero, Nat.reduceAdd]
    refine x_astore (pc := 8) O dX7_works_8 (by decide) rfl rfl ?_
    refine x_aload (pc := 10) O dX7_works_10 rfl rfl ?_
    refine x_ifnullN (pc := 12) O 29 dX7_works_12 (by decide) ?_
    refine x_iconst (v := (-1)) (pc := 29) O dX7_works_29 (by decide) ?_
    have hc9 : ¬ (isPc m p ∧ 1 ≤ x ∧ x ≤ V 1 p.toNatClampNeg 7) := fun z => pc_no h60 hno z.1
    exact x_ret (v := some (.int _)) (pc := 30) O dX7_works_30 rfl rfl ⟨Nat.le_of_ble_eq_true rfl, Nat.le_of_ble_eq_true rfl, (), congrArg (fun z => some (Value.int z)) (if_neg hc9).symm, fun h hh => by rw [if_neg hc9]; exact hh⟩
set_option maxRecDepth 100000 in
set_option maxHeartbeats 4000000 in
theorem c_X7_pay (l : Launch) (E : En) (adr : Nat → Nat → Nat) (V : Nat → Nat → Nat → Int32) (VL : Nat → Nat → Nat → Int64) (m ns : Nat) (ch : Nat → List Rt) (p x : Int32) (hc : V 0 3 1 = nI m) (h60 : m ≤ 60) : Mt l E yX7_pay cX7_pay 4 (some .int) (rmX 1 21 0 0) [.ref (adr 0 7), .int p, .int x] (CV E adr V VL m ns ch) (fun _ : Unit => some (.int (if isPc m p ∧ 1 ≤ x ∧ x ≤ V 1 p.toNatClampNeg 6 then V 1 p.toNatClampNeg 6 - x else -1))) (fun _ => CV E adr (if isPc m p ∧ 1 ≤ x ∧ x ≤ V 1 p.toNatClampNeg 6 then up3 (up3 V 1 p.toNatClampNeg 6 (V 1 p.toNatClampNeg 6 - x)) 0 7 8 (V 0 7 8 + x) else V) VL m ns ch) := by
  refine Mt_of (by decide +kernel) (Nat.le_of_ble_eq_true rfl) (fun J O => ?_)
  show J _ 0 0 0 [some (.ref (adr 0 7)), some (.int p), some (.int x), none] []
  refine x_aload_n (pc := 0) O dX7_pay_0 rfl rfl ?_
  refine cv_get (t := 0) (n := 7) (pc := 1) O dX7_pay_1 fdX7_28 rfl rfl rfl ?_
  refine x_iload_n (pc := 4) O dX7_pay_4 rfl ?_
  rcases noP_or m p with ⟨j, hj, rfl⟩ | hno
  · refine x_callV (pc := 5) (rest := []) (ci := 3) O (c_X3_find l E _ _ _ _ _ _ j hc h60 hj) dX7_pay_5 cbX7_105 im_yX3_find se_yX3_find rfl (cv_recv (t := 0) (n := 3) rfl rfl) rfl rfl (Nat.le_of_ble_eq_true rfl) ⟨Nat.le_of_ble_eq_true rfl, Nat.le_of_ble_eq_true rfl⟩ ⟨Nat.le_of_ble_eq_true rfl, Nat.le_of_ble_eq_true rfl⟩ (fun _ => ?_)
    dsimp only [Option.toList, List.append, List.nil_append, List.cons_append, Nat.add_zero, Nat.reduceAdd]
    refine x_astore_n (pc := 8) O dX7_pay_8 (by decide) rfl rfl ?_
    refine x_aload_n (pc := 9) O dX7_pay_9 rfl rfl ?_
    refine x_ifnull (pc := 10) O dX7_pay_10 ?_
    refine x_iload_n (pc := 13) O dX7_pay_13 rfl ?_
    refine x_iconst (v := 1) (pc := 14) O dX7_pay_14 (by decide) ?_
    refine x_icmp_lt (pc := 15) O 26 dX7_pay_15 (by decide) (fun c15 => ?_) (fun c15 => ?_)
    · refine x_iconst (v := (-1)) (pc := 26) O dX7_pay_26 (by decide) ?_
      have hc9 : ¬ (isPc m (nI j) ∧ 1 ≤ x ∧ x ≤ V 1 (nI j).toNatClampNeg 6) := fun z => absurd c15 (Int32.not_lt.mpr z.2.1)
      exact x_ret (v := some (.int _)) (pc := 27) O dX7_pay_27 rfl rfl ⟨Nat.le_of_ble_eq_true rfl, Nat.le_of_ble_eq_true rfl, (), congrArg (fun z => some (Value.int z)) (if_neg hc9).symm, fun h hh => by rw [if_neg hc9]; exact hh⟩
    · refine x_iload_n (pc := 18) O dX7_pay_18 rfl ?_
      refine x_aload_n (pc := 19) O dX7_pay_19 rfl rfl ?_
      refine cv_get (t := 1) (n := j) (pc := 20) O dX7_pay_20 fdX7_123 (okC1 (by omega)) rfl rfl ?_
      refine x_icmp_le (pc := 23) O 28 dX7_pay_23 (by decide) (fun c23 => ?_) (fun c23 => ?_)
      · refine x_aload_n (pc := 28) O dX7_pay_28 rfl rfl ?_
        refine x_dup (pc := 29) O dX7_pay_29 rfl ?_
        refine cv_get (t := 1) (n := j) (pc := 30) O dX7_pay_30 fdX7_123 (okC1 (by omega)) rfl rfl ?_
        refine x_iload_n (pc := 33) O dX7_pay_33 rfl ?_
        refine x_isub (pc := 34) O dX7_pay_34 ?_
        refine cv_put (t := 1) (n := j) (pc := 35) O dX7_pay_35 fpX7_123 rfl rfl (okC1 (by omega)) rfl (Nat.le_of_ble_eq_true rfl) rfl ?_
        refine x_aload_n (pc := 38) O dX7_pay_38 rfl rfl ?_
        refine x_dup (pc := 39) O dX7_pay_39 rfl ?_
        refine cv_get (t := 0) (n := 7) (pc := 40) O dX7_pay_40 fdX7_57 rfl rfl rfl ?_
        rw [up3_ne _ _ _ (fun z => absurd z.1 (by decide))]
        refine x_iload_n (pc := 43) O dX7_pay_43 rfl ?_
        refine x_iadd (pc := 44) O dX7_pay_44 ?_
        refine cv_put (t := 0) (n := 7) (pc := 45) O dX7_pay_45 fpX7_57 rfl rfl rfl rfl (Nat.le_of_ble_eq_true rfl) rfl ?_
        refine x_aload_n (pc := 48) O dX7_pay_48 rfl rfl ?_
        refine cv_get (t := 1) (n := j) (pc := 49) O dX7_pay_49 fdX7_123 (okC1 (by omega)) rfl rfl ?_
        rw [up3_ne _ _ _ (fun z => absurd z.1 (by decide)), up3_eq, va_up_self]
        have hc9 : isPc m (nI j) ∧ 1 ≤ x ∧ x ≤ V 1 (nI j).toNatClampNeg 6 := ⟨pc_ok h60 hj, Int32.not_lt.mp c15, by rw [cl_ok h60 hj]; exact c23⟩
        exact x_ret (v := some (.int _)) (pc := 52) O dX7_pay_52 rfl rfl ⟨Nat.le_of_ble_eq_true rfl, Nat.le_of_ble_eq_true rfl, (), congrArg (fun z => some (Value.int z)) (by rw [if_pos hc9, cl_ok h60 hj]), fun h hh => by rw [if_pos hc9, cl_ok h60 hj]; exact hh⟩
      · refine x_iconst (v := (-1)) (pc := 26) O dX7_pay_26 (by decide) ?_
        have hc9 : ¬ (isPc m (nI j) ∧ 1 ≤ x ∧ x ≤ V 1 (nI j).toNatClampNeg 6) := fun z => c23 (by have := z.2.2; rw [cl_ok h60 hj] at this; exact this)
        exact x_ret (v := some (.int _)) (pc := 27) O dX7_pay_27 rfl rfl ⟨Nat.le_of_ble_eq_true rfl, Nat.le_of_ble_eq_true rfl, (), congrArg (fun z => some (Value.int z)) (if_neg hc9).symm, fun h hh => by rw [if_neg hc9]; exact hh⟩
  · refine x_callV (pc := 5) (rest := []) (ci := 3) O (c_X3_find_no l E _ _ _ _ _ _ _ hc h60 hno) dX7_pay_5 cbX7_105 im_yX3_find se_yX3_find rfl (cv_recv (t := 0) (n := 3) rfl rfl) rfl rfl (Nat.le_of_ble_eq_true rfl) ⟨Nat.le_of_ble_eq_true rfl, Nat.le_of_ble_eq_true rfl⟩ ⟨Nat.le_of_ble_eq_true rfl, Nat.le_of_ble_eq_true rfl⟩ (fun _ => ?_)
    dsimp only [Option.toList, List.append, List.nil_append, List.cons_append, Nat.add_zero, Nat.reduceAdd]
    refine x_astore_n (pc := 8) O dX7_pay_8 (by decide) rfl rfl ?_
    refine x_aload_n (pc := 9) O dX7_pay_9 rfl rfl ?_
    refine x_ifnullN (pc := 10) O 26 dX7_pay_10 (by decide) ?_
    refine x_iconst (v := (-1)) (pc := 26) O dX7_pay_26 (by decide) ?_
    have hc9 : ¬ (isPc m p ∧ 1 ≤ x ∧ x ≤ V 1 p.toNatClampNeg 6) := fun z => pc_no h60 hno z.1
    exact x_ret (v := some (.int _)) (pc := 27) O dX7_pay_27 rfl rfl ⟨Nat.le_of_ble_eq_true rfl, Nat.le_of_ble_eq_true rfl, (), congrArg (fun z => some (Value.int z)) (if_neg hc9).symm, fun h hh => by rw [if_neg hc9]; exact hh⟩
theorem sc_ok {ns k : Nat} (h40 : ns ≤ 40) (hk : k < ns) : (0 ≤ nI k ∧ nI k ≤ nI ns - 1) := nat_in rfl (by omega) hk
theorem sl_ok {ns k : Nat} (h40 : ns ≤ 40) (hk : k < ns) : (nI k).toNatClampNeg = k := nI_clamp (by omega)
set_option maxRecDepth 100000 in
set_option maxHeartbeats 4000000 in
theorem c_X7_appear (l : Launch) (E : En) (adr : Nat → Nat → Nat) (V : Nat → Nat → Nat → Int32) (VL : Nat → Nat → Nat → Int64) (m ns : Nat) (ch : Nat → List Rt) (p x : Int32) (hs : V 0 7 7 = nI ns) (h40 : ns ≤ 40) : Mt l E yX7_appear cX7_appear 4 (some .boolean) (rmX 1 21 0 0) [.ref (adr 0 7), .int p, .int x] (CV E adr V VL m ns ch) (fun _ : Unit => some (.int (b2i ((0 ≤ p ∧ p ≤ nI ns - 1) ∧ V 2 p.toNatClampNeg 3 = 0 ∧ 0 ≤ x ∧ x ≤ 3)))) (fun _ => CV E adr (if (0 ≤ p ∧ p ≤ nI ns - 1) ∧ V 2 p.toNatClampNeg 3 = 0 ∧ 0 ≤ x ∧ x ≤ 3 then up3 V 2 p.toNatClampNeg 4 x else V) VL m ns ch) := by
  refine Mt_of (by decide +kernel) (Nat.le_of_ble_eq_true rfl) (fun J O => ?_)
  show J _ 0 0 0 [some (.ref (adr 0 7)), some (.int p), some (.int x), none] []
  refine x_aload_n (pc := 0) O dX7_appear_0 rfl rfl ?_
  refine x_iload_n (pc := 1) O dX7_appear_1 rfl ?_
  rcases noP_or ns p with ⟨k, hk, rfl⟩ | hno
  · refine x_callV (pc := 2) (rest := []) (ci := 7) O (c_X7_findSuit l E _ _ _ _ _ _ k hs h40 hk) dX7_appear_2 cbX7_154 im_yX7_findSuit se_yX7_findSuit rfl (cv_recv (t := 0) (n := 7) rfl rfl) rfl rfl (Nat.le_of_ble_eq_true rfl) ⟨Nat.le_of_ble_eq_true rfl, Nat.le_of_ble_eq_true rfl⟩ ⟨Nat.le_of_ble_eq_true rfl, Nat.le_of_ble_eq_true rfl⟩ (fun _ => ?_)
    dsimp only [Option.toList, List.append, List.nil_append, List.cons_append, Nat.add_zero, Nat.reduceAdd]
    refine x_astore_n (pc := 5) O dX7_appear_5 (by decide) rfl rfl ?_
    refine x_aload_n (pc := 6) O dX7_appear_6 rfl rfl ?_
    refine x_ifnull (pc := 7) O dX7_appear_7 ?_
    refine x_aload_n (pc := 10) O dX7_appear_10 rfl rfl ?_
    refine cv_get (t := 2) (n := k) (pc := 11) O dX7_appear_11 fdX7_158 (okC2 (by omega)) rfl rfl ?_
    refine x_if_ne (pc := 14) O 26 dX7_appear_14 (by decide) (fun c14 => ?_) (fun c14 => ?_)
    · refine x_iconst (v := 0) (pc := 26) O dX7_appear_26 (by decide) ?_
      have hc9 : ¬ ((0 ≤ nI k ∧ nI k ≤ nI ns - 1) ∧ V 2 (nI k).toNatClampNeg 3 = 0 ∧ 0 ≤ x ∧ x ≤ 3) := fun z => c14 (by have := z.2.1; rw [sl_ok h40 hk] at this; exact this)
      exact x_ret (v := some (.int _)) (pc := 27) O dX7_appear_27 rfl rfl ⟨Nat.le_of_ble_eq_true rfl, Nat.le_of_ble_eq_true rfl, (), congrArg (fun z => some (Value.int z)) (b2i_f hc9).symm, fun h hh => by rw [if_neg hc9]; exact hh⟩
    · refine x_iload_n (pc := 17) O dX7_appear_17 rfl ?_
      refine x_if_lt (pc := 18) O 26 dX7_appear_18 (by decide) (fun c18 => ?_) (fun c18 => ?_)
      · refine x_iconst (v := 0) (pc := 26) O dX7_appear_26 (by decide) ?_
        have hc9 : ¬ ((0 ≤ nI k ∧ nI k ≤ nI ns - 1) ∧ V 2 (nI k).toNatClampNeg 3 = 0 ∧ 0 ≤ x ∧ x ≤ 3) := fun z => absurd c18 (Int32.not_lt.mpr z.2.2.1)
        exact x_ret (v := some (.int _)) (pc := 27) O dX7_appear_27 rfl rfl ⟨Nat.le_of_ble_eq_true rfl, Nat.le_of_ble_eq_true rfl, (), congrArg (fun z => some (Value.int z)) (b2i_f hc9).symm, fun h hh => by rw [if_neg hc9]; exact hh⟩
      · refine x_iload_n (pc := 21) O dX7_appear_21 rfl ?_
        refine x_iconst (v := 3) (pc := 22) O dX7_appear_22 (by decide) ?_
        refine x_icmp_le (pc := 23) O 28 dX7_appear_23 (by decide) (fun c23 => ?_) (fun c23 => ?_)
        · refine x_aload_n (pc := 28) O dX7_appear_28 rfl rfl ?_
          refine x_iload_n (pc := 29) O dX7_appear_29 rfl ?_
          refine cv_put (t := 2) (n := k) (pc := 30) O dX7_appear_30 fpX7_161 rfl rfl (okC2 (by omega)) rfl (Nat.le_of_ble_eq_true rfl) rfl ?_
          refine x_iconst (v := 1) (pc := 33) O dX7_appear_33 (by decide) ?_
          have hc9 : (0 ≤ nI k ∧ nI k ≤ nI ns - 1) ∧ V 2 (nI k).toNatClampNeg 3 = 0 ∧ 0 ≤ x ∧ x ≤ 3 := ⟨sc_ok h40 hk, by rw [sl_ok h40 hk]; exact c14, Int32.not_lt.mp c18, c23⟩
          exact x_ret (v := some (.int _)) (pc := 34) O dX7_appear_34 rfl rfl ⟨Nat.le_of_ble_eq_true rfl, Nat.le_of_ble_eq_true rfl, (), congrArg (fun z => some (Value.int z)) (b2i_t hc9).symm, fun h hh => by rw [if_pos hc9, sl_ok h40 hk]; exact hh⟩
        · refine x_iconst (v := 0) (pc := 26) O dX7_appear_26 (by decide) ?_
          have hc9 : ¬ ((0 ≤ nI k ∧ nI k ≤ nI ns - 1) ∧ V 2 (nI k).toNatClampNeg 3 = 0 ∧ 0 ≤ x ∧ x ≤ 3) := fun z => c23 z.2.2.2
          exact x_ret (v := some (.int _)) (pc := 27) O dX7_appear_27 rfl rfl ⟨Nat.le_of_ble_eq_true rfl, Nat.le_of_ble_eq_true rfl, (), congrArg (fun z => some (Value.int z)) (b2i_f hc9).symm, fun h hh => by rw [if_neg hc9]; exact hh⟩
  · refine x_callV (pc := 2) (rest := []) (ci := 7) O (c_X7_findSuit_no l E _ _ _ _ _ _ _ hs h40 hno) dX7_appear_2 cbX7_154 im_yX7_findSuit se_yX7_findSuit rfl (cv_recv (t := 0) (n := 7) rfl rfl) rfl rfl (Nat.le_of_ble_eq_true rfl) ⟨Nat.le_of_ble_eq_true rfl, Nat.le_of_ble_eq_true rfl⟩ ⟨Nat.le_of_ble_eq_true rfl, Nat.le_of_ble_eq_true rfl⟩ (fun _ => ?_)
    dsimp only [Option.toList, List.append, List.nil_append, List.cons_append, Nat.add_zero, Nat.reduceAdd]
    refine x_astore_n (pc := 5) O dX7_appear_5 (by decide) rfl rfl ?_
    refine x_aload_n (pc := 6) O dX7_appear_6 rfl rfl ?_
    refine x_ifnullN (pc := 7) O 26 dX7_appear_7 (by decide) ?_
    refine x_iconst (v := 0) (pc := 26) O dX7_appear_26 (by decide) ?_
    have hc9 : ¬ ((0 ≤ p ∧ p ≤ nI ns - 1) ∧ V 2 p.toNatClampNeg 3 = 0 ∧ 0 ≤ x ∧ x ≤ 3) := fun z => inP_no (by omega) hno z.1
    exact x_ret (v := some (.int _)) (pc := 27) O dX7_appear_27 rfl rfl ⟨Nat.le_of_ble_eq_true rfl, Nat.le_of_ble_eq_true rfl, (), congrArg (fun z => some (Value.int z)) (b2i_f hc9).symm, fun h hh => by rw [if_neg hc9]; exact hh⟩
set_option maxRecDepth 100000 in
set_option maxHeartbeats 4000000 in
theorem c_X7_suited (l : Launch) (E : En) (adr : Nat → Nat → Nat) (V : Nat → Nat → Nat → Int32) (VL : Nat → Nat → Nat → Int64) (m ns : Nat) (ch : Nat → List Rt) (p x : Int32) (hs : V 0 7 7 = nI ns) (h40 : ns ≤ 40) : Mt l E yX7_suited cX7_suited 4 (some .int) (rmX 1 21 0 0) [.ref (adr 0 7), .int p, .int x] (CV E adr V VL m ns ch) (fun _ : Unit => some (.int (if 0 ≤ p ∧ p ≤ nI ns - 1 then (if x = nI 0 then V 2 p.toNatClampNeg 3 else if x = nI 1 then V 2 p.toNatClampNeg 5 else if x = nI 2 then V 2 p.toNatClampNeg 6 else -1) else -1))) (fun _ => CV E adr V VL m ns ch) := by
  refine Mt_of (by decide +kernel) (Nat.le_of_ble_eq_true rfl) (fun J O => ?_)
  show J _ 0 0 0 [some (.ref (adr 0 7)), some (.int p), some (.int x), none] []
  refine x_aload_n (pc := 0) O dX7_suited_0 rfl rfl ?_
  refine x_iload_n (pc := 1) O dX7_suited_1 rfl ?_
  rcases noP_or ns p with ⟨k, hk, rfl⟩ | hno
  · refine x_callV (pc := 2) (rest := []) (ci := 7) O (c_X7_findSuit l E _ _ _ _ _ _ k hs h40 hk) dX7_suited_2 cbX7_154 im_yX7_findSuit se_yX7_findSuit rfl (cv_recv (t := 0) (n := 7) rfl rfl) rfl rfl (Nat.le_of_ble_eq_true rfl) ⟨Nat.le_of_ble_eq_true rfl, Nat.le_of_ble_eq_true rfl⟩ ⟨Nat.le_of_ble_eq_true rfl, Nat.le_of_ble_eq_true rfl⟩ (fun _ => ?_)
    dsimp only [Option.toList, List.append, List.nil_append, List.cons_append, Nat.add_zero, Nat.reduceAdd]
    refine x_astore_n (pc := 5) O dX7_suited_5 (by decide) rfl rfl ?_
    refine x_aload_n (pc := 6) O dX7_suited_6 rfl rfl ?_
    refine x_ifnonnull (pc := 7) O 12 dX7_suited_7 (by decide) ?_
    refine x_iload_n (pc := 12) O dX7_suited_12 rfl ?_
    rcases tb_split x 2 (by decide) with hx13 | ⟨k13, hk13, rfl⟩
    · refine x_tout (pc := 13) O 55 dX7_suited_13 hx13 (by decide) ?_
      refine x_iconst (v := (-1)) (pc := 55) O dX7_suited_55 (by decide) ?_
      exact x_ret (v := some (.int _)) (pc := 56) O dX7_suited_56 rfl (rfl) ⟨Nat.le_refl _, Nat.le_refl _, (), congrArg (fun z => some (Value.int z)) (by rw [if_pos (sc_ok h40 hk), if_neg (tb_ne (k := 0) hx13 (by decide) (by decide)), if_neg (tb_ne (k := 1) hx13 (by decide) (by decide)), if_neg (tb_ne (k := 2) hx13 (by decide) (by decide))]), fun h hh => hh⟩
    · rcases (show k13 = 0 ∨ k13 = 1 ∨ k13 = 2 by omega) with rfl | rfl | rfl
      · refine x_tin (off := 27) (pc := 13) O 40 dX7_suited_13 (by decide) (by decide) (by decide) (by decide) ?_
        refine x_aload_n (pc := 40) O dX7_suited_40 rfl rfl ?_
        refine cv_get (t := 2) (n := k) (pc := 41) O dX7_suited_41 fdX7_158 (okC2 (by omega)) rfl rfl ?_
        exact x_ret (v := some (.int _)) (pc := 44) O dX7_suited_44 rfl (rfl) ⟨Nat.le_refl _, Nat.le_refl _, (), congrArg (fun z => some (Value.int z)) (by rw [if_pos (sc_ok h40 hk), sl_ok h40 hk]; rfl), fun h hh => hh⟩
      · refine x_tin (off := 32) (pc := 13) O 45 dX7_suited_13 (by decide) (by decide) (by decide) (by decide) ?_
        refine x_aload_n (pc := 45) O dX7_suited_45 rfl rfl ?_
        refine cv_get (t := 2) (n := k) (pc := 46) O dX7_suited_46 fdX7_218 (okC2 (by omega)) rfl rfl ?_
        exact x_ret (v := some (.int _)) (pc := 49) O dX7_suited_49 rfl (rfl) ⟨Nat.le_refl _, Nat.le_refl _, (), congrArg (fun z => some (Value.int z)) (by rw [if_pos (sc_ok h40 hk), sl_ok h40 hk]; rfl), fun h hh => hh⟩
      · refine x_tin (off := 37) (pc := 13) O 50 dX7_suited_13 (by decide) (by decide) (by decide) (by decide) ?_
        refine x_aload_n (pc := 50) O dX7_suited_50 rfl rfl ?_
        refine cv_get (t := 2) (n := k) (pc := 51) O dX7_suited_51 fdX7_221 (okC2 (by omega)) rfl rfl ?_
        exact x_ret (v := some (.int _)) (pc := 54) O dX7_suited_54 rfl (rfl) ⟨Nat.le_refl _, Nat.le_refl _, (), congrArg (fun z => some (Value.int z)) (by rw [if_pos (sc_ok h40 hk), sl_ok h40 hk]; rfl), fun h hh => hh⟩
  · refine x_callV (pc := 2) (rest := []) (ci := 7) O (c_X7_findSuit_no l E _ _ _ _ _ _ _ hs h40 hno) dX7_suited_2 cbX7_154 im_yX7_findSuit se_yX7_findSuit rfl (cv_recv (t := 0) (n := 7) rfl rfl) rfl rfl (Nat.le_of_ble_eq_true rfl) ⟨Nat.le_of_ble_eq_true rfl, Nat.le_of_ble_eq_true rfl⟩ ⟨Nat.le_of_ble_eq_true rfl, Nat.le_of_ble_eq_true rfl⟩ (fun _ => ?_)
    dsimp only [Option.toList, List.append, List.nil_append, List.cons_append, Nat.add_zero, Nat.reduceAdd]
    refine x_astore_n (pc := 5) O dX7_suited_5 (by decide) rfl rfl ?_
    refine x_aload_n (pc := 6) O dX7_suited_6 rfl rfl ?_
    refine x_ifnonnullN (pc := 7) O dX7_suited_7 ?_
    refine x_iconst (v := (-1)) (pc := 10) O dX7_suited_10 (by decide) ?_
    exact x_ret (v := some (.int _)) (pc := 11) O dX7_suited_11 rfl (rfl) ⟨Nat.le_refl _, Nat.le_refl _, (), congrArg (fun z => some (Value.int z)) ((if_neg (inP_no (by omega) hno)).symm), fun h hh => hh⟩
def toldC (V : Nat → Nat → Nat → Int32) (ch : Nat → List Rt) (j : Nat) (p x : Int32) : Int32 := if x = nI 0 then V 1 j 0 else if x = nI 1 then V 1 j 1 else if x = nI 2 then V 1 j 2 else if x = nI 3 then (if V 1 j 4 = 0 then 0 else 1) else if x = nI 4 then V 1 j 5 else if x = nI 5 then V 1 j 3 else if x = nI 6 then hcC ch p 120 else if x = nI 7 then pcC ch p 120 else if x = nI 8 then V 1 j 6 else if x = nI 9 then V 1 j 7 else if x = nI 10 then V 1 j 8 else if x = nI 11 then V 1 j 9 else if x = nI 12 then V 1 j 10 else if x = nI 13 then V 1 j 11 else -2
set_option maxRecDepth 100000 in
set_option maxHeartbeats 4000000 in
theorem c_X7_told (l : Launch) (E : En) (adr : Nat → Nat → Nat) (V : Nat → Nat → Nat → Int32) (VL : Nat → Nat → Nat → Int64) (m ns : Nat) (ch : Nat → List Rt) (p x : Int32) (hc : V 0 3 1 = nI m) (h60 : m ≤ 60) : Mt l E yX7_told cX7_told 4 (some .int) (rmX 2 45 0 0) [.ref (adr 0 7), .int p, .int x] (CV E adr V VL m ns ch) (fun _ : Unit => some (.int (if isPc m p then toldC V ch p.toNatClampNeg p x else -2))) (fun _ => CV E adr V VL m ns ch) := by
  refine Mt_of (by decide +kernel) (Nat.le_of_ble_eq_true rfl) (fun J O => ?_)
  show J _ 0 0 0 [some (.ref (adr 0 7)), some (.int p), some (.int x), none] []
  refine x_aload_n (pc := 0) O dX7_told_0 rfl rfl ?_
  refine cv_get (t := 0) (n := 7) (pc := 1) O dX7_told_1 fdX7_28 rfl rfl rfl ?_
  refine x_iload_n (pc := 4) O dX7_told_4 rfl ?_
  rcases noP_or m p with ⟨j, hj, rfl⟩ | hno
  · refine x_callV (pc := 5) (rest := []) (ci := 3) O (c_X3_find l E _ _ _ _ _ _ j hc h60 hj) dX7_told_5 cbX7_105 im_yX3_find se_yX3_find rfl (cv_recv (t := 0) (n := 3) rfl rfl) rfl rfl (Nat.le_of_ble_eq_true rfl) ⟨Nat.le_of_ble_eq_true rfl, Nat.le_of_ble_eq_true rfl⟩ ⟨Nat.le_of_ble_eq_true rfl, Nat.le_of_ble_eq_true rfl⟩ (fun _ => ?_)
    dsimp only [Option.toList, List.append, List.nil_append, List.cons_append, Nat.add_zero, Nat.reduceAdd]
    refine x_astore_n (pc := 8) O dX7_told_8 (by decide) rfl rfl ?_
    refine x_aload_n (pc := 9) O dX7_told_9 rfl rfl ?_
    refine x_ifnonnull (pc := 10) O 16 dX7_told_10 (by decide) ?_
    refine x_iload_n (pc := 16) O dX7_told_16 rfl ?_
    rcases tb_split x 13 (by decide) with hx17 | ⟨k17, hk17, rfl⟩
    · refine x_tout (pc := 17) O 174 dX7_told_17 hx17 (by decide) ?_
      refine x_bipush (v := (-2)) (pc := 174) O dX7_told_174 (by decide) ?_
      exact x_ret (v := some (.int _)) (pc := 176) O dX7_told_176 rfl (rfl) ⟨Nat.le_refl _, Nat.le_refl _, (), congrArg (fun z => some (Value.int z)) (by rw [if_pos (pc_ok h60 hj)]; unfold toldC; rw [if_neg (tb_ne (k := 0) hx17 (by decide) (by decide)), if_neg (tb_ne (k := 1) hx17 (by decide) (by decide)), if_neg (tb_ne (k := 2) hx17 (by decide) (by decide)), if_neg (tb_ne (k := 3) hx17 (by decide) (by decide)), if_neg (tb_ne (k := 4) hx17 (by decide) (by decide)), if_neg (tb_ne (k := 5) hx17 (by decide) (by decide)), if_neg (tb_ne (k := 6) hx17 (by decide) (by decide)), if_neg (tb_ne (k := 7) hx17 (by decide) (by decide)), if_neg (tb_ne (k := 8) hx17 (by decide) (by decide)), if_neg (tb_ne (k := 9) hx17 (by decide) (by decide)), if_neg (tb_ne (k := 10) hx17 (by decide) (by decide)), if_neg (tb_ne (k := 11) hx17 (by decide) (by decide)), if_neg (tb_ne (k := 12) hx17 (by decide) (by decide)), if_neg (tb_ne (k := 13) hx17 (by decide) (by decide))]), fun h hh => hh⟩
    · rcases (show k17 = 0 ∨ k17 = 1 ∨ k17 = 2 ∨ k17 = 3 ∨ k17 = 4 ∨ k17 = 5 ∨ k17 = 6 ∨ k17 = 7 ∨ k17 = 8 ∨ k17 = 9 ∨ k17 = 10 ∨ k17 = 11 ∨ k17 = 12 ∨ k17 = 13 by omega) with rfl | rfl | rfl | rfl | rfl | rfl | rfl | rfl | rfl | rfl | rfl | rfl | rfl | rfl
      · refine x_tin (off := 71) (pc := 17) O 88 dX7_told_17 (by decide) (by decide) (by decide) (by decide) ?_
        refine x_aload_n (pc := 88) O dX7_told_88 rfl rfl ?_
        refine cv_get (t := 1) (n := j) (pc := 89) O dX7_told_89 fdX7_83 (okC1 (by omega)) rfl rfl ?_
        exact x_ret (v := some (.int _)) (pc := 92) O dX7_told_92 rfl (rfl) ⟨Nat.le_refl _, Nat.le_refl _, (), congrArg (fun z => some (Value.int z)) (by rw [if_pos (pc_ok h60 hj), cl_ok h60 hj]; rfl), fun h hh => hh⟩
      · refine x_tin (off := 76) (pc := 17) O 93 dX7_told_17 (by decide) (by decide) (by decide) (by decide) ?_
        refine x_aload_n (pc := 93) O dX7_told_93 rfl rfl ?_
        refine cv_get (t := 1) (n := j) (pc := 94) O dX7_told_94 fdX7_203 (okC1 (by omega)) rfl rfl ?_
        exact x_ret (v := some (.int _)) (pc := 97) O dX7_told_97 rfl (rfl) ⟨Nat.le_refl _, Nat.le_refl _, (), congrArg (fun z => some (Value.int z)) (by rw [if_pos (pc_ok h60 hj), cl_ok h60 hj]; rfl), fun h hh => hh⟩
      · refine x_tin (off := 81) (pc := 17) O 98 dX7_told_17 (by decide) (by decide) (by decide) (by decide) ?_
        refine x_aload_n (pc := 98) O dX7_told_98 rfl rfl ?_
        refine cv_get (t := 1) (n := j) (pc := 99) O dX7_told_99 fdX7_206 (okC1 (by omega)) rfl rfl ?_
        exact x_ret (v := some (.int _)) (pc := 102) O dX7_told_102 rfl (rfl) ⟨Nat.le_refl _, Nat.le_refl _, (), congrArg (fun z => some (Value.int z)) (by rw [if_pos (pc_ok h60 hj), cl_ok h60 hj]; rfl), fun h hh => hh⟩
      · refine x_tin (off := 86) (pc := 17) O 103 dX7_told_17 (by decide) (by decide) (by decide) (by decide) ?_
        refine x_aload_n (pc := 103) O dX7_told_103 rfl rfl ?_
        refine cv_get (t := 1) (n := j) (pc := 104) O dX7_told_104 fdX7_97 (okC1 (by omega)) rfl rfl ?_
        refine x_if_eq (pc := 107) O 114 dX7_told_107 (by decide) (fun c107 => ?_) (fun c107 => ?_)
        · refine x_iconst (v := 0) (pc := 114) O dX7_told_114 (by decide) ?_
          exact x_ret (v := some (.int _)) (pc := 115) O dX7_told_115 rfl (rfl) ⟨Nat.le_refl _, Nat.le_refl _, (), congrArg (fun z => some (Value.int z)) (by rw [if_pos (pc_ok h60 hj), cl_ok h60 hj]; show _ = (if V 1 j 4 = 0 then (0 : Int32) else 1); rw [if_pos c107]), fun h hh => hh⟩
        · refine x_iconst (v := 1) (pc := 110) O dX7_told_110 (by decide) ?_
          refine x_goto (pc := 111) O 115 dX7_told_111 (by decide) ?_
          exact x_ret (v := some (.int _)) (pc := 115) O dX7_told_115 rfl (rfl) ⟨Nat.le_refl _, Nat.le_refl _, (), congrArg (fun z => some (Value.int z)) (by rw [if_pos (pc_ok h60 hj), cl_ok h60 hj]; show _ = (if V 1 j 4 = 0 then (0 : Int32) else 1); rw [if_neg c107]), fun h hh => hh⟩
      · refine x_tin (off := 99) (pc := 17) O 116 dX7_told_17 (by decide) (by decide) (by decide) (by decide) ?_
        refine x_aload_n (pc := 116) O dX7_told_116 rfl rfl ?_
        refine cv_get (t := 1) (n := j) (pc := 117) O dX7_told_117 fdX7_86 (okC1 (by omega)) rfl rfl ?_
        exact x_ret (v := some (.int _)) (pc := 120) O dX7_told_120 rfl (rfl) ⟨Nat.le_refl _, Nat.le_refl _, (), congrArg (fun z => some (Value.int z)) (by rw [if_pos (pc_ok h60 hj), cl_ok h60 hj]; rfl), fun h hh => hh⟩
      · refine x_tin (off := 104) (pc := 17) O 121 dX7_told_17 (by decide) (by decide) (by decide) (by decide) ?_
        refine x_aload_n (pc := 121) O dX7_told_121 rfl rfl ?_
        refine cv_get (t := 1) (n := j) (pc := 122) O dX7_told_122 fdX7_209 (okC1 (by omega)) rfl rfl ?_
        exact x_ret (v := some (.int _)) (pc := 125) O dX7_told_125 rfl (rfl) ⟨Nat.le_refl _, Nat.le_refl _, (), congrArg (fun z => some (Value.int z)) (by rw [if_pos (pc_ok h60 hj), cl_ok h60 hj]; rfl), fun h hh => hh⟩
      · refine x_tin (off := 109) (pc := 17) O 126 dX7_told_17 (by decide) (by decide) (by decide) (by decide) ?_
        refine x_aload_n (pc := 126) O dX7_told_126 rfl rfl ?_
        refine cv_get (t := 0) (n := 7) (pc := 127) O dX7_told_127 fdX7_35 rfl rfl rfl ?_
        refine x_iload_n (pc := 130) O dX7_told_130 rfl ?_
        refine x_callV (pc := 131) (rest := []) (ci := 2) O (v_X2_heldBy l E _ _ _ _ _ _ _) dX7_told_131 cbX7_130 im_yX2_heldBy se_yX2_heldBy rfl (cv_recv (t := 0) (n := 2) rfl rfl) rfl rfl (Nat.le_of_ble_eq_true rfl) ⟨Nat.le_of_ble_eq_true rfl, Nat.le_of_ble_eq_true rfl⟩ ⟨Nat.le_of_ble_eq_true rfl, Nat.le_of_ble_eq_true rfl⟩ (fun _ => ?_)
        dsimp only [Option.toList, List.append, List.nil_append, List.cons_append, Nat.add_zero, Nat.reduceAdd]
        exact x_ret (v := some (.int _)) (pc := 134) O dX7_told_134 rfl (rfl) ⟨Nat.le_refl _, Nat.le_refl _, (), congrArg (fun z => some (Value.int z)) (by rw [if_pos (pc_ok h60 hj), cl_ok h60 hj]; rfl), fun h hh => hh⟩
      · refine x_tin (off := 118) (pc := 17) O 135 dX7_told_17 (by decide) (by decide) (by decide) (by decide) ?_
        refine x_aload_n (pc := 135) O dX7_told_135 rfl rfl ?_
        refine cv_get (t := 0) (n := 7) (pc := 136) O dX7_told_136 fdX7_35 rfl rfl rfl ?_
        refine x_iload_n (pc := 139) O dX7_told_139 rfl ?_
        refine x_callV (pc := 140) (rest := []) (ci := 2) O (v_X2_partsOf l E _ _ _ _ _ _ _) dX7_told_140 cbX7_212 im_yX2_partsOf se_yX2_partsOf rfl (cv_recv (t := 0) (n := 2) rfl rfl) rfl rfl (Nat.le_of_ble_eq_true rfl) ⟨Nat.le_of_ble_eq_true rfl, Nat.le_of_ble_eq_true rfl⟩ ⟨Nat.le_of_ble_eq_true rfl, Nat.le_of_ble_eq_true rfl⟩ (fun _ => ?_)
        dsimp only [Option.toList, List.append, List.nil_append, List.cons_append, Nat.add_zero, Nat.reduceAdd]
        exact x_ret (v := some (.int _)) (pc := 143) O dX7_told_143 rfl (rfl) ⟨Nat.le_refl _, Nat.le_refl _, (), congrArg (fun z => some (Value.int z)) (by rw [if_pos (pc_ok h60 hj), cl_ok h60 hj]; rfl), fun h hh => hh⟩
      · refine x_tin (off := 127) (pc := 17) O 144 dX7_told_17 (by decide) (by decide) (by decide) (by decide) ?_
        refine x_aload_n (pc := 144) O dX7_told_144 rfl rfl ?_
        refine cv_get (t := 1) (n := j) (pc := 145) O dX7_told_145 fdX7_123 (okC1 (by omega)) rfl rfl ?_
        exact x_ret (v := some (.int _)) (pc := 148) O dX7_told_148 rfl (rfl) ⟨Nat.le_refl _, Nat.le_refl _, (), congrArg (fun z => some (Value.int z)) (by rw [if_pos (pc_ok h60 hj), cl_ok h60 hj]; rfl), fun h hh => hh⟩
      · refine x_tin (off := 132) (pc := 17) O 149 dX7_told_17 (by decide) (by decide) (by decide) (by decide) ?_
        refine x_aload_n (pc := 149) O dX7_told_149 rfl rfl ?_
        refine cv_get (t := 1) (n := j) (pc := 150) O dX7_told_150 fdX7_142 (okC1 (by omega)) rfl rfl ?_
        exact x_ret (v := some (.int _)) (pc := 153) O dX7_told_153 rfl (rfl) ⟨Nat.le_refl _, Nat.le_refl _, (), congrArg (fun z => some (Value.int z)) (by rw [if_pos (pc_ok h60 hj), cl_ok h60 hj]; rfl), fun h hh => hh⟩
      · refine x_tin (off := 137) (pc := 17) O 154 dX7_told_17 (by decide) (by decide) (by decide) (by decide) ?_
        refine x_aload_n (pc := 154) O dX7_told_154 rfl rfl ?_
        refine cv_get (t := 1) (n := j) (pc := 155) O dX7_told_155 fdX7_148 (okC1 (by omega)) rfl rfl ?_
        exact x_ret (v := some (.int _)) (pc := 158) O dX7_told_158 rfl (rfl) ⟨Nat.le_refl _, Nat.le_refl _, (), congrArg (fun z => some (Value.int z)) (by rw [if_pos (pc_ok h60 hj), cl_ok h60 hj]; rfl), fun h hh => hh⟩
      · refine x_tin (off := 142) (pc := 17) O 159 dX7_told_17 (by decide) (by decide) (by decide) (by decide) ?_
        refine x_aload_n (pc := 159) O dX7_told_159 rfl rfl ?_
        refine cv_get (t := 1) (n := j) (pc := 160) O dX7_told_160 fdX7_145 (okC1 (by omega)) rfl rfl ?_
        exact x_ret (v := some (.int _)) (pc := 163) O dX7_told_163 rfl (rfl) ⟨Nat.le_refl _, Nat.le_refl _, (), congrArg (fun z => some (Value.int z)) (by rw [if_pos (pc_ok h60 hj), cl_ok h60 hj]; rfl), fun h hh => hh⟩
      · refine x_tin (off := 147) (pc := 17) O 164 dX7_told_17 (by decide) (by decide) (by decide) (by decide) ?_
        refine x_aload_n (pc := 164) O dX7_told_164 rfl rfl ?_
        refine cv_get (t := 1) (n := j) (pc := 165) O dX7_told_165 fdX7_215 (okC1 (by omega)) rfl rfl ?_
        exact x_ret (v := some (.int _)) (pc := 168) O dX7_told_168 rfl (rfl) ⟨Nat.le_refl _, Nat.le_refl _, (), congrArg (fun z => some (Value.int z)) (by rw [if_pos (pc_ok h60 hj), cl_ok h60 hj]; rfl), fun h hh => hh⟩
      · refine x_tin (off := 152) (pc := 17) O 169 dX7_told_17 (by decide) (by decide) (by decide) (by decide) ?_
        refine x_aload_n (pc := 169) O dX7_told_169 rfl rfl ?_
        refine cv_get (t := 1) (n := j) (pc := 170) O dX7_told_170 fdX7_139 (okC1 (by omega)) rfl rfl ?_
        exact x_ret (v := some (.int _)) (pc := 173) O dX7_told_173 rfl (rfl) ⟨Nat.le_refl _, Nat.le_refl _, (), congrArg (fun z => some (Value.int z)) (by rw [if_pos (pc_ok h60 hj), cl_ok h60 hj]; rfl), fun h hh => hh⟩
  · refine x_callV (pc := 5) (rest := []) (ci := 3) O (c_X3_find_no l E _ _ _ _ _ _ _ hc h60 hno) dX7_told_5 cbX7_105 im_yX3_find se_yX3_find rfl (cv_recv (t := 0) (n := 3) rfl rfl) rfl rfl (Nat.le_of_ble_eq_true rfl) ⟨Nat.le_of_ble_eq_true rfl, Nat.le_of_ble_eq_true rfl⟩ ⟨Nat.le_of_ble_eq_true rfl, Nat.le_of_ble_eq_true rfl⟩ (fun _ => ?_)
    dsimp only [Option.toList, List.append, List.nil_append, List.cons_append, Nat.add_zero, Nat.reduceAdd]
    refine x_astore_n (pc := 8) O dX7_told_8 (by decide) rfl rfl ?_
    refine x_aload_n (pc := 9) O dX7_told_9 rfl rfl ?_
    refine x_ifnonnullN (pc := 10) O dX7_told_10 ?_
    refine x_bipush (v := (-2)) (pc := 13) O dX7_told_13 (by decide) ?_
    exact x_ret (v := some (.int _)) (pc := 15) O dX7_told_15 rfl (rfl) ⟨Nat.le_refl _, Nat.le_refl _, (), congrArg (fun z => some (Value.int z)) ((if_neg (pc_no h60 hno)).symm), fun h hh => hh⟩
def countC (V : Nat → Nat → Nat → Int32) (ch : Nat → List Rt) (m : Nat) (x : Int32) : Int32 := if x = nI 0 then V 0 7 0 else if x = nI 1 then nI m else if x = nI 2 then V 0 7 2 else if x = nI 3 then V 0 7 7 else if x = nI 4 then hcC ch (-1) 120 else if x = nI 5 then csum V m else if x = nI 6 then V 0 7 8 else if x = nI 7 then V 0 2 1 else -1
set_option maxRecDepth 100000 in
set_option maxHeartbeats 4000000 in
theorem c_X7_count (l : Launch) (E : En) (adr : Nat → Nat → Nat) (V : Nat → Nat → Nat → Int32) (VL : Nat → Nat → Nat → Int64) (m ns : Nat) (ch : Nat → List Rt) (x : Int32) (hc : V 0 3 1 = nI m) (h60 : m ≤ 60) : Mt l E yX7_count cX7_count 2 (some .int) (rmX 2 45 0 0) [.ref (adr 0 7), .int x] (CV E adr V VL m ns ch) (fun _ : Unit => some (.int (countC V ch m x))) (fun _ => CV E adr V VL m ns ch) := by
  refine Mt_of (by decide +kernel) (Nat.le_of_ble_eq_true rfl) (fun J O => ?_)
  show J _ 0 0 0 [some (.ref (adr 0 7)), some (.int x)] []
  refine x_iload_n (pc := 0) O dX7_count_0 rfl ?_
  rcases tb_split x 7 (by decide) with hx1 | ⟨k1, hk1, rfl⟩
  · refine x_tout (pc := 1) O 101 dX7_count_1 hx1 (by decide) ?_
    refine x_iconst (v := (-1)) (pc := 101) O dX7_count_101 (by decide) ?_
    exact x_ret (v := some (.int _)) (pc := 102) O dX7_count_102 rfl (rfl) ⟨Nat.le_refl _, Nat.le_refl _, (), congrArg (fun z => some (Value.int z)) (by unfold countC; rw [if_neg (tb_ne (k := 0) hx1 (by decide) (by decide)), if_neg (tb_ne (k := 1) hx1 (by decide) (by decide)), if_neg (tb_ne (k := 2) hx1 (by decide) (by decide)), if_neg (tb_ne (k := 3) hx1 (by decide) (by decide)), if_neg (tb_ne (k := 4) hx1 (by decide) (by decide)), if_neg (tb_ne (k := 5) hx1 (by decide) (by decide)), if_neg (tb_ne (k := 6) hx1 (by decide) (by decide)), if_neg (tb_ne (k := 7) hx1 (by decide) (by decide))]), fun h hh => hh⟩
  · rcases (show k1 = 0 ∨ k1 = 1 ∨ k1 = 2 ∨ k1 = 3 ∨ k1 = 4 ∨ k1 = 5 ∨ k1 = 6 ∨ k1 = 7 by omega) with rfl | rfl | rfl | rfl | rfl | rfl | rfl | rfl
    · refine x_tin (off := 47) (pc := 1) O 48 dX7_count_1 (by decide) (by decide) (by decide) (by decide) ?_
      refine x_aload_n (pc := 48) O dX7_count_48 rfl rfl ?_
      refine cv_get (t := 0) (n := 7) (pc := 49) O dX7_count_49 fdX7_9 rfl rfl rfl ?_
      exact x_ret (v := some (.int _)) (pc := 52) O dX7_count_52 rfl (rfl) ⟨Nat.le_refl _, Nat.le_refl _, (), rfl, fun h hh => hh⟩
    · refine x_tin (off := 52) (pc := 1) O 53 dX7_count_1 (by decide) (by decide) (by decide) (by decide) ?_
      refine x_aload_n (pc := 53) O dX7_count_53 rfl rfl ?_
      refine cv_get (t := 0) (n := 7) (pc := 54) O dX7_count_54 fdX7_28 rfl rfl rfl ?_
      refine cv_get (t := 0) (n := 3) (pc := 57) O dX7_count_57 fdX7_64 rfl rfl rfl ?_
      exact x_ret (v := some (.int _)) (pc := 60) O dX7_count_60 rfl (rfl) ⟨Nat.le_refl _, Nat.le_refl _, (), congrArg (fun z => some (Value.int z)) (hc.trans rfl), fun h hh => hh⟩
    · refine x_tin (off := 60) (pc := 1) O 61 dX7_count_1 (by decide) (by decide) (by decide) (by decide) ?_
      refine x_aload_n (pc := 61) O dX7_count_61 rfl rfl ?_
      refine cv_get (t := 0) (n := 7) (pc := 62) O dX7_count_62 fdX7_22 rfl rfl rfl ?_
      exact x_ret (v := some (.int _)) (pc := 65) O dX7_count_65 rfl (rfl) ⟨Nat.le_refl _, Nat.le_refl _, (), rfl, fun h hh => hh⟩
    · refine x_tin (off := 65) (pc := 1) O 66 dX7_count_1 (by decide) (by decide) (by decide) (by decide) ?_
      refine x_aload_n (pc := 66) O dX7_count_66 rfl rfl ?_
      refine cv_get (t := 0) (n := 7) (pc := 67) O dX7_count_67 fdX7_54 rfl rfl rfl ?_
      exact x_ret (v := some (.int _)) (pc := 70) O dX7_count_70 rfl (rfl) ⟨Nat.le_refl _, Nat.le_refl _, (), rfl, fun h hh => hh⟩
    · refine x_tin (off := 70) (pc := 1) O 71 dX7_count_1 (by decide) (by decide) (by decide) (by decide) ?_
      refine x_aload_n (pc := 71) O dX7_count_71 rfl rfl ?_
      refine cv_get (t := 0) (n := 7) (pc := 72) O dX7_count_72 fdX7_35 rfl rfl rfl ?_
      refine x_iconst (v := (-1)) (pc := 75) O dX7_count_75 (by decide) ?_
      refine x_callV (pc := 76) (rest := []) (ci := 2) O (v_X2_heldBy l E _ _ _ _ _ _ _) dX7_count_76 cbX7_130 im_yX2_heldBy se_yX2_heldBy rfl (cv_recv (t := 0) (n := 2) rfl rfl) rfl rfl (Nat.le_of_ble_eq_true rfl) ⟨Nat.le_of_ble_eq_true rfl, Nat.le_of_ble_eq_true rfl⟩ ⟨Nat.le_of_ble_eq_true rfl, Nat.le_of_ble_eq_true rfl⟩ (fun _ => ?_)
      dsimp only [Option.toList, List.append, List.nil_append, List.cons_append, Nat.add_zero, Nat.reduceAdd]
      exact x_ret (v := some (.int _)) (pc := 79) O dX7_count_79 rfl (rfl) ⟨Nat.le_refl _, Nat.le_refl _, (), rfl, fun h hh => hh⟩
    · refine x_tin (off := 79) (pc := 1) O 80 dX7_count_1 (by decide) (by decide) (by decide) (by decide) ?_
      refine x_aload_n (pc := 80) O dX7_count_80 rfl rfl ?_
      refine cv_get (t := 0) (n := 7) (pc := 81) O dX7_count_81 fdX7_28 rfl rfl rfl ?_
      refine x_callV (pc := 84) (rest := []) (ci := 3) O (c_X3_allOwed l E _ _ _ _ _ _ hc h60) dX7_count_84 cbX7_224 im_yX3_allOwed se_yX3_allOwed rfl (cv_recv (t := 0) (n := 3) rfl rfl) rfl rfl (Nat.le_of_ble_eq_true rfl) ⟨Nat.le_of_ble_eq_true rfl, Nat.le_of_ble_eq_true rfl⟩ ⟨Nat.le_of_ble_eq_true rfl, Nat.le_of_ble_eq_true rfl⟩ (fun _ => ?_)
      dsimp only [Option.toList, List.append, List.nil_append, List.cons_append, Nat.add_zero, Nat.reduceAdd]
      exact x_ret (v := some (.int _)) (pc := 87) O dX7_count_87 rfl (rfl) ⟨Nat.le_refl _, Nat.le_refl _, (), rfl, fun h hh => hh⟩
    · refine x_tin (off := 87) (pc := 1) O 88 dX7_count_1 (by decide) (by decide) (by decide) (by decide) ?_
      refine x_aload_n (pc := 88) O dX7_count_88 rfl rfl ?_
      refine cv_get (t := 0) (n := 7) (pc := 89) O dX7_count_89 fdX7_57 rfl rfl rfl ?_
      exact x_ret (v := some (.int _)) (pc := 92) O dX7_count_92 rfl (rfl) ⟨Nat.le_refl _, Nat.le_refl _, (), rfl, fun h hh => hh⟩
    · refine x_tin (off := 92) (pc := 1) O 93 dX7_count_1 (by decide) (by decide) (by decide) (by decide) ?_
      refine x_aload_n (pc := 93) O dX7_count_93 rfl rfl ?_
      refine cv_get (t := 0) (n := 7) (pc := 94) O dX7_count_94 fdX7_35 rfl rfl rfl ?_
      refine cv_get (t := 0) (n := 2) (pc := 97) O dX7_count_97 fdX7_228 rfl rfl rfl ?_
      exact x_ret (v := some (.int _)) (pc := 100) O dX7_count_100 rfl (rfl) ⟨Nat.le_refl _, Nat.le_refl _, (), rfl, fun h hh => hh⟩
def meT (V : Nat → Nat → Nat → Int32) (m w : Nat) : Nat := if lvC V m (V 1 w 1) then (V 1 w 1).toNatClampNeg else w
set_option maxRecDepth 100000 in
set_option maxHeartbeats 4000000 in
theorem c_X7_oweMerchet (l : Launch) (E : En) (adr : Nat → Nat → Nat) (V : Nat → Nat → Nat → Int32) (VL : Nat → Nat → Nat → Int64) (m ns : Nat) (ch : Nat → List Rt) (w : Nat) (hc : V 0 3 1 = nI m) (h60 : m ≤ 60) (hw : w < m) : Mt l E yX7_oweMerchet cX7_oweMerchet 4 none (rmX 2 43 0 0) [.ref (adr 0 7), .ref (adr 1 w)] (CV E adr V VL m ns ch) (fun _ : Unit => none) (fun _ => CV E adr (up3 V 1 (meT V m w) 6 (V 1 (meT V m w) 6 + V 0 0 6)) VL m ns ch) := by
  refine Mt_of (by decide +kernel) (Nat.le_of_ble_eq_true rfl) (fun J O => ?_)
  show J _ 0 0 0 [some (.ref (adr 0 7)), some (.ref (adr 1 w)), none, none] []
  refine x_aload_n (pc := 0) O dX7_oweMerchet_0 rfl rfl ?_
  refine cv_get (t := 0) (n := 7) (pc := 1) O dX7_oweMerchet_1 fdX7_28 rfl rfl rfl ?_
  refine x_aload_n (pc := 4) O dX7_oweMerchet_4 rfl rfl ?_
  refine cv_get (t := 1) (n := w) (pc := 5) O dX7_oweMerchet_5 fdX7_203 (okC1 hw) rfl rfl ?_
  obtain ⟨x, hx⟩ : ∃ x, x = V 1 w 1 := ⟨_, rfl⟩
  rw [← hx]
  rcases noA_or m V x with ⟨j, hj, rfl, hal⟩ | hna
  · refine x_callV (pc := 8) (rest := []) (ci := 3) O (c_X3_findAlive l E _ _ _ _ _ _ j hc h60 hj hal) dX7_oweMerchet_8 cbX7_79 im_yX3_findAlive se_yX3_findAlive rfl (cv_recv (t := 0) (n := 3) rfl rfl) rfl rfl (Nat.le_of_ble_eq_true rfl) ⟨Nat.le_of_ble_eq_true rfl, Nat.le_of_ble_eq_true rfl⟩ ⟨Nat.le_of_ble_eq_true rfl, Nat.le_of_ble_eq_true rfl⟩ (fun _ => ?_)
    dsimp only [Option.toList, List.append, List.nil_append, List.cons_append, Nat.add_zero, Nat.reduceAdd]
    refine x_astore_n (pc := 11) O dX7_oweMerchet_11 (by decide) rfl rfl ?_
    refine x_aload_n (pc := 12) O dX7_oweMerchet_12 rfl rfl ?_
    refine x_ifnonnull (pc := 13) O 20 dX7_oweMerchet_13 (by decide) ?_
    refine x_aload_n (pc := 20) O dX7_oweMerchet_20 rfl rfl ?_
    refine x_astore_n (pc := 21) O dX7_oweMerchet_21 (by decide) rfl rfl ?_
    refine x_aload_n (pc := 22) O dX7_oweMerchet_22 rfl rfl ?_
    refine x_dup (pc := 23) O dX7_oweMerchet_23 rfl ?_
    refine cv_get (t := 1) (n := j) (pc := 24) O dX7_oweMerchet_24 fdX7_123 (okC1 (by omega)) rfl rfl ?_
    refine x_aload_n (pc := 27) O dX7_oweMerchet_27 rfl rfl ?_
    refine cv_get (t := 0) (n := 7) (pc := 28) O dX7_oweMerchet_28 fdX7_18 rfl rfl rfl ?_
    refine cv_get (t := 0) (n := 0) (pc := 31) O dX7_oweMerchet_31 fdX7_231 rfl rfl rfl ?_
    refine x_iadd (pc := 34) O dX7_oweMerchet_34 ?_
    refine cv_put (t := 1) (n := j) (pc := 35) O dX7_oweMerchet_35 fpX7_123 rfl rfl (okC1 (by omega)) rfl (Nat.le_of_ble_eq_true rfl) rfl ?_
    have e9 : meT V m w = j := by
      unfold meT
      rw [← hx, if_pos (lv_ok h60 hj hal), cl_ok h60 hj]
    exact x_ret (v := none) (pc := 38) O dX7_oweMerchet_38 rfl trivial ⟨Nat.le_refl _, Nat.le_refl _, (), rfl, fun h hh => by rw [e9]; exact hh⟩
  · refine x_callV (pc := 8) (rest := []) (ci := 3) O (c_X3_findAlive_no l E _ _ _ _ _ _ _ hc h60 hna) dX7_oweMerchet_8 cbX7_79 im_yX3_findAlive se_yX3_findAlive rfl (cv_recv (t := 0) (n := 3) rfl rfl) rfl rfl (Nat.le_of_ble_eq_true rfl) ⟨Nat.le_of_ble_eq_true rfl, Nat.le_of_ble_eq_true rfl⟩ ⟨Nat.le_of_ble_eq_true rfl, Nat.le_of_ble_eq_true rfl⟩ (fun _ => ?_)
    dsimp only [Option.toList, List.append, List.nil_append, List.cons_append, Nat.add_zero, Nat.reduceAdd]
    refine x_astore_n (pc := 11) O dX7_oweMerchet_11 (by decide) rfl rfl ?_
    refine x_aload_n (pc := 12) O dX7_oweMerchet_12 rfl rfl ?_
    refine x_ifnonnullN (pc := 13) O dX7_oweMerchet_13 ?_
    refine x_aload_n (pc := 16) O dX7_oweMerchet_16 rfl rfl ?_
    refine x_goto (pc := 17) O 21 dX7_oweMerchet_17 (by decide) ?_
    refine x_astore_n (pc := 21) O dX7_oweMerchet_21 (by decide) rfl rfl ?_
    refine x_aload_n (pc := 22) O dX7_oweMerchet_22 rfl rfl ?_
    refine x_dup (pc := 23) O dX7_oweMerchet_23 rfl ?_
    refine cv_get (t := 1) (n := w) (pc := 24) O dX7_oweMerchet_24 fdX7_123 (okC1 (by omega)) rfl rfl ?_
    refine x_aload_n (pc := 27) O dX7_oweMerchet_27 rfl rfl ?_
    refine cv_get (t := 0) (n := 7) (pc := 28) O dX7_oweMerchet_28 fdX7_18 rfl rfl rfl ?_
    refine cv_get (t := 0) (n := 0) (pc := 31) O dX7_oweMerchet_31 fdX7_231 rfl rfl rfl ?_
    refine x_iadd (pc := 34) O dX7_oweMerchet_34 ?_
    refine cv_put (t := 1) (n := w) (pc := 35) O dX7_oweMerchet_35 fpX7_123 rfl rfl (okC1 (by omega)) rfl (Nat.le_of_ble_eq_true rfl) rfl ?_
    have e9 : meT V m w = w := by
      unfold meT
      rw [← hx, if_neg (lv_no h60 hna)]
    exact x_ret (v := none) (pc := 38) O dX7_oweMerchet_38 rfl trivial ⟨Nat.le_refl _, Nat.le_refl _, (), rfl, fun h hh => by rw [e9]; exact hh⟩
