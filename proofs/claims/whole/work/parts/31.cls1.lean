/-! ===== CLS 1: finding ===== -/
theorem okC1 {m ns nr n : Nat} (h : n < m) : okC m ns nr 1 n = true := by simp [okC, h]
theorem okC2 {m ns nr n : Nat} (h : n < ns) : okC m ns nr 2 n = true := by simp [okC, h]
theorem okC3 {m ns nr n : Nat} (h : n < nr) : okC m ns nr 3 n = true := by simp [okC, h]
/-- a number is a person's, or it isn't -/
abbrev noP (m : Nat) (x : Int32) : Prop := ¬ ∃ j, j < m ∧ x = nI j
theorem noP_or (m : Nat) (x : Int32) : (∃ j, j < m ∧ x = nI j) ∨ noP m x := Classical.em _
theorem noP_of {m : Nat} {x : Int32} (hm : m ≤ 1000000) (h : noP m x) : x < 0 ∨ nI m ≤ x := by
  rcases Classical.em (x < 0) with h0 | h0
  · exact Or.inl h0
  · right
    obtain ⟨z, hz, rfl⟩ := nI_of h0
    rw [nI_leI (by omega) hz]
    rcases Nat.lt_or_ge z m with h1 | h1
    · exact absurd ⟨z, h1, rfl⟩ h
    · exact h1
set_option maxRecDepth 100000 in
set_option maxHeartbeats 4000000 in
theorem c_X3_find (l : Launch) (E : En) (adr : Nat → Nat → Nat) (V : Nat → Nat → Nat → Int32) (VL : Nat → Nat → Nat → Int64) (m ns : Nat) (ch : Nat → List Rt) (j : Nat) (hc : V 0 3 1 = nI m) (h60 : m ≤ 60) (hj : j < m) : Mt l E yX3_find cX3_find 2 (some (.object "ManorRolls$Person")) (rmX 0 0 0 0) [.ref (adr 0 3), .int (nI j)] (CV E adr V VL m ns ch) (fun _ : Unit => some (.ref (adr 1 j))) (fun _ => CV E adr V VL m ns ch) := by
  refine Mt_of (by decide +kernel) (Nat.le_of_ble_eq_true rfl) (fun J O => ?_)
  show J _ 0 0 0 [some (.ref (adr 0 3)), some (.int (nI j))] []
  refine x_iload_n (pc := 0) O dX3_find_0 rfl ?_
  refine x_if_lt (pc := 1) O 30 dX3_find_1 (by decide) (fun c1 => ?_) (fun c1 => ?_)
  · exact absurd c1 (nI_pos (by omega))
  · refine x_iload_n (pc := 4) O dX3_find_4 rfl ?_
    refine x_aload_n (pc := 5) O dX3_find_5 rfl rfl ?_
    refine cv_get (t := 0) (n := 3) (pc := 6) O dX3_find_6 fdX3_17 rfl rfl rfl ?_
    refine x_icmp_ge (pc := 9) O 30 dX3_find_9 (by decide) (fun c9 => ?_) (fun c9 => ?_)
    · rw [hc, nI_leI (by omega) (by omega)] at c9
      omega
    · refine x_iload_n (pc := 12) O dX3_find_12 rfl ?_
      refine x_aload_n (pc := 13) O dX3_find_13 rfl rfl ?_
      refine cv_get (t := 0) (n := 3) (pc := 14) O dX3_find_14 fdX3_11 rfl rfl rfl ?_
      refine cv_plen (pc := 17) O (fun _ h9 => h9) dX3_find_17 ?_
      refine x_icmp_ge (pc := 18) O 30 dX3_find_18 (by decide) (fun c18 => ?_) (fun c18 => ?_)
      · rw [nI_leI (by omega) (by omega)] at c18
        omega
      · refine x_aload_n (pc := 21) O dX3_find_21 rfl rfl ?_
        refine cv_get (t := 0) (n := 3) (pc := 22) O dX3_find_22 fdX3_11 rfl rfl rfl ?_
        refine x_iload_n (pc := 25) O dX3_find_25 rfl ?_
        refine cv_pld (pc := 26) O dX3_find_26 hj h60 ?_
        refine x_goto (pc := 27) O 31 dX3_find_27 (by decide) ?_
        exact x_ret (v := some (.ref (adr 1 j))) (pc := 31) O dX3_find_31 rfl trivial ⟨Nat.le_refl _, Nat.le_refl _, (), rfl, fun h hh => hh⟩
set_option maxRecDepth 100000 in
set_option maxHeartbeats 4000000 in
theorem c_X3_find_no (l : Launch) (E : En) (adr : Nat → Nat → Nat) (V : Nat → Nat → Nat → Int32) (VL : Nat → Nat → Nat → Int64) (m ns : Nat) (ch : Nat → List Rt) (x : Int32) (hc : V 0 3 1 = nI m) (h60 : m ≤ 60) (hx : noP m x) : Mt l E yX3_find cX3_find 2 (some (.object "ManorRolls$Person")) (rmX 0 0 0 0) [.ref (adr 0 3), .int x] (CV E adr V VL m ns ch) (fun _ : Unit => some .null) (fun _ => CV E adr V VL m ns ch) := by
  refine Mt_of (by decide +kernel) (Nat.le_of_ble_eq_true rfl) (fun J O => ?_)
  show J _ 0 0 0 [some (.ref (adr 0 3)), some (.int x)] []
  refine x_iload_n (pc := 0) O dX3_find_0 rfl ?_
  refine x_if_lt (pc := 1) O 30 dX3_find_1 (by decide) (fun c1 => ?_) (fun c1 => ?_)
  · refine x_null (pc := 30) O dX3_find_30 ?_
    exact x_ret (v := some (.null)) (pc := 31) O dX3_find_31 rfl trivial ⟨Nat.le_refl _, Nat.le_refl _, (), rfl, fun h hh => hh⟩
  · refine x_iload_n (pc := 4) O dX3_find_4 rfl ?_
    refine x_aload_n (pc := 5) O dX3_find_5 rfl rfl ?_
    refine cv_get (t := 0) (n := 3) (pc := 6) O dX3_find_6 fdX3_17 rfl rfl rfl ?_
    refine x_icmp_ge (pc := 9) O 30 dX3_find_9 (by decide) (fun c9 => ?_) (fun c9 => ?_)
    · refine x_null (pc := 30) O dX3_find_30 ?_
      exact x_ret (v := some (.null)) (pc := 31) O dX3_find_31 rfl trivial ⟨Nat.le_refl _, Nat.le_refl _, (), rfl, fun h hh => hh⟩
    · exact absurd ((noP_of (by omega) hx).resolve_left c1) (by rw [← hc]; exact c9)
set_option maxRecDepth 100000 in
set_option maxHeartbeats 4000000 in
theorem c_X3_findAlive (l : Launch) (E : En) (adr : Nat → Nat → Nat) (V : Nat → Nat → Nat → Int32) (VL : Nat → Nat → Nat → Int64) (m ns : Nat) (ch : Nat → List Rt) (j : Nat) (hc : V 0 3 1 = nI m) (h60 : m ≤ 60) (hj : j < m) (hal : ¬ V 1 j 4 = 0) : Mt l E yX3_findAlive cX3_findAlive 3 (some (.object "ManorRolls$Person")) (rmX 1 21 0 0) [.ref (adr 0 3), .int (nI j)] (CV E adr V VL m ns ch) (fun _ : Unit => some (.ref (adr 1 j))) (fun _ => CV E adr V VL m ns ch) := by
  refine Mt_of (by decide +kernel) (Nat.le_of_ble_eq_true rfl) (fun J O => ?_)
  show J _ 0 0 0 [some (.ref (adr 0 3)), some (.int (nI j)), none] []
  refine x_aload_n (pc := 0) O dX3_findAlive_0 rfl rfl ?_
  refine x_iload_n (pc := 1) O dX3_findAlive_1 rfl ?_
  refine x_callV (pc := 2) (rest := []) (ci := 3) O (c_X3_find l E _ _ _ _ _ _ j hc h60 hj) dX3_findAlive_2 cbX3_21 im_yX3_find se_yX3_find rfl (cv_recv (t := 0) (n := 3) rfl rfl) rfl rfl (Nat.le_of_ble_eq_true rfl) ⟨Nat.le_of_ble_eq_true rfl, Nat.le_of_ble_eq_true rfl⟩ ⟨Nat.le_of_ble_eq_true rfl, Nat.le_of_ble_eq_true rfl⟩ (fun _ => ?_)
  dsimp only [Option.toList, List.append, List.nil_append, List.cons_append, Nat.add_zero, Nat.reduceAdd]
  refine x_astore_n (pc := 5) O dX3_findAlive_5 (by decide) rfl rfl ?_
  refine x_aload_n (pc := 6) O dX3_findAlive_6 rfl rfl ?_
  refine x_ifnull (pc := 7) O dX3_findAlive_7 ?_
  refine x_aload_n (pc := 10) O dX3_findAlive_10 rfl rfl ?_
  refine cv_get (t := 1) (n := j) (pc := 11) O dX3_findAlive_11 fdX3_25 (okC1 (by omega)) rfl rfl ?_
  refine x_if_eq (pc := 14) O 21 dX3_findAlive_14 (by decide) (fun c14 => ?_) (fun c14 => ?_)
  · exact absurd c14 hal
  · refine x_aload_n (pc := 17) O dX3_findAlive_17 rfl rfl ?_
    refine x_goto (pc := 18) O 22 dX3_findAlive_18 (by decide) ?_
    exact x_ret (v := some (.ref (adr 1 j))) (pc := 22) O dX3_findAlive_22 rfl trivial ⟨Nat.le_refl _, Nat.le_refl _, (), rfl, fun h hh => hh⟩
abbrev noA (m : Nat) (V : Nat → Nat → Nat → Int32) (x : Int32) : Prop := ¬ ∃ j, j < m ∧ x = nI j ∧ ¬ V 1 j 4 = 0
theorem noA_or (m : Nat) (V : Nat → Nat → Nat → Int32) (x : Int32) : (∃ j, j < m ∧ x = nI j ∧ ¬ V 1 j 4 = 0) ∨ noA m V x := Classical.em _
set_option maxRecDepth 100000 in
set_option maxHeartbeats 4000000 in
theorem c_X3_findAlive_no (l : Launch) (E : En) (adr : Nat → Nat → Nat) (V : Nat → Nat → Nat → Int32) (VL : Nat → Nat → Nat → Int64) (m ns : Nat) (ch : Nat → List Rt) (x : Int32) (hc : V 0 3 1 = nI m) (h60 : m ≤ 60) (hna : noA m V x) : Mt l E yX3_findAlive cX3_findAlive 3 (some (.object "ManorRolls$Person")) (rmX 1 21 0 0) [.ref (adr 0 3), .int x] (CV E adr V VL m ns ch) (fun _ : Unit => some .null) (fun _ => CV E adr V VL m ns ch) := by
  refine Mt_of (by decide +kernel) (Nat.le_of_ble_eq_true rfl) (fun J O => ?_)
  show J _ 0 0 0 [some (.ref (adr 0 3)), some (.int x), none] []
  refine x_aload_n (pc := 0) O dX3_findAlive_0 rfl rfl ?_
  refine x_iload_n (pc := 1) O dX3_findAlive_1 rfl ?_
  rcases noP_or m x with ⟨j, hj, rfl⟩ | hno
  · refine x_callV (pc := 2) (rest := []) (ci := 3) O (c_X3_find l E _ _ _ _ _ _ j hc h60 hj) dX3_findAlive_2 cbX3_21 im_yX3_find se_yX3_find rfl (cv_recv (t := 0) (n := 3) rfl rfl) rfl rfl (Nat.le_of_ble_eq_true rfl) ⟨Nat.le_of_ble_eq_true rfl, Nat.le_of_ble_eq_true rfl⟩ ⟨Nat.le_of_ble_eq_true rfl, Nat.le_of_ble_eq_true rfl⟩ (fun _ => ?_)
    dsimp only [Option.toList, List.append, List.nil_append, List.cons_append, Nat.add_zero, Nat.reduceAdd]
    refine x_astore_n (pc := 5) O dX3_findAlive_5 (by decide) rfl rfl ?_
    refine x_aload_n (pc := 6) O dX3_findAlive_6 rfl rfl ?_
    refine x_ifnull (pc := 7) O dX3_findAlive_7 ?_
    refine x_aload_n (pc := 10) O dX3_findAlive_10 rfl rfl ?_
    refine cv_get (t := 1) (n := j) (pc := 11) O dX3_findAlive_11 fdX3_25 (okC1 (by omega)) rfl rfl ?_
    refine x_if_eq (pc := 14) O 21 dX3_findAlive_14 (by decide) (fun c14 => ?_) (fun c14 => ?_)
    · refine x_null (pc := 21) O dX3_findAlive_21 ?_
      exact x_ret (v := some (.null)) (pc := 22) O dX3_findAlive_22 rfl trivial ⟨Nat.le_refl _, Nat.le_refl _, (), rfl, fun h hh => hh⟩
    · exact absurd ⟨j, hj, rfl, c14⟩ hna
  · refine x_callV (pc := 2) (rest := []) (ci := 3) O (c_X3_find_no l E _ _ _ _ _ _ _ hc h60 hno) dX3_findAlive_2 cbX3_21 im_yX3_find se_yX3_find rfl (cv_recv (t := 0) (n := 3) rfl rfl) rfl rfl (Nat.le_of_ble_eq_true rfl) ⟨Nat.le_of_ble_eq_true rfl, Nat.le_of_ble_eq_true rfl⟩ ⟨Nat.le_of_ble_eq_true rfl, Nat.le_of_ble_eq_true rfl⟩ (fun _ => ?_)
    dsimp only [Option.toList, List.append, List.nil_append, List.cons_append, Nat.add_zero, Nat.reduceAdd]
    refine x_astore_n (pc := 5) O dX3_findAlive_5 (by decide) rfl rfl ?_
    refine x_aload_n (pc := 6) O dX3_findAlive_6 rfl rfl ?_
    refine x_ifnullN (pc := 7) O 21 dX3_findAlive_7 (by decide) ?_
    refine x_null (pc := 21) O dX3_findAlive_21 ?_
    exact x_ret (v := some (.null)) (pc := 22) O dX3_findAlive_22 rfl trivial ⟨Nat.le_refl _, Nat.le_refl _, (), rfl, fun h hh => hh⟩
theorem inP_no {m : Nat} {x : Int32} (hm : m ≤ 1000000) (h : noP m x) : ¬ (0 ≤ x ∧ x ≤ nI m - 1) := fun z => h ⟨_, (in_nat rfl hm z).2, (in_nat rfl hm z).1⟩
set_option maxRecDepth 100000 in
set_option maxHeartbeats 4000000 in
theorem c_X3_mayBeParent (l : Launch) (E : En) (adr : Nat → Nat → Nat) (V : Nat → Nat → Nat → Int32) (VL : Nat → Nat → Nat → Int64) (m ns : Nat) (ch : Nat → List Rt) (x s : Int32) (hc : V 0 3 1 = nI m) (h60 : m ≤ 60) : Mt l E yX3_mayBeParent cX3_mayBeParent 4 (some .boolean) (rmX 1 21 0 0) [.ref (adr 0 3), .int x, .int s] (CV E adr V VL m ns ch) (fun _ : Unit => some (.int (b2i (x = -1 ∨ (0 ≤ x ∧ x ≤ nI m - 1) ∧ V 1 x.toNatClampNeg 0 = s)))) (fun _ => CV E adr V VL m ns ch) := by
  refine Mt_of (by decide +kernel) (Nat.le_of_ble_eq_true rfl) (fun J O => ?_)
  show J _ 0 0 0 [some (.ref (adr 0 3)), some (.int x), some (.int s), none] []
  refine x_aload_n (pc := 0) O dX3_mayBeParent_0 rfl rfl ?_
  refine x_iload_n (pc := 1) O dX3_mayBeParent_1 rfl ?_
  rcases noP_or m x with ⟨j, hj, rfl⟩ | hno
  · refine x_callV (pc := 2) (rest := []) (ci := 3) O (c_X3_find l E _ _ _ _ _ _ j hc h60 hj) dX3_mayBeParent_2 cbX3_21 im_yX3_find se_yX3_find rfl (cv_recv (t := 0) (n := 3) rfl rfl) rfl rfl (Nat.le_of_ble_eq_true rfl) ⟨Nat.le_of_ble_eq_true rfl, Nat.le_of_ble_eq_true rfl⟩ ⟨Nat.le_of_ble_eq_true rfl, Nat.le_of_ble_eq_true rfl⟩ (fun _ => ?_)
    dsimp only [Option.toList, List.append, List.nil_append, List.cons_append, Nat.add_zero, Nat.reduceAdd]
    refine x_astore_n (pc := 5) O dX3_mayBeParent_5 (by decide) rfl rfl ?_
    refine x_iload_n (pc := 6) O dX3_mayBeParent_6 rfl ?_
    refine x_iconst (v := (-1)) (pc := 7) O dX3_mayBeParent_7 (by decide) ?_
    refine x_icmp_eq (pc := 8) O 23 dX3_mayBeParent_8 (by decide) (fun c8 => ?_) (fun c8 => ?_)
    · refine x_iconst (v := 1) (pc := 23) O dX3_mayBeParent_23 (by decide) ?_
      refine x_goto (pc := 24) O 28 dX3_mayBeParent_24 (by decide) ?_
      exact x_ret (v := some (.int _)) (pc := 28) O dX3_mayBeParent_28 rfl (rfl) ⟨Nat.le_refl _, Nat.le_refl _, (), congrArg (fun z => some (Value.int z)) ((b2i_t (Or.inl c8)).symm), fun h hh => hh⟩
    · refine x_aload_n (pc := 11) O dX3_mayBeParent_11 rfl rfl ?_
      refine x_ifnull (pc := 12) O dX3_mayBeParent_12 ?_
      refine x_aload_n (pc := 15) O dX3_mayBeParent_15 rfl rfl ?_
      refine cv_get (t := 1) (n := j) (pc := 16) O dX3_mayBeParent_16 fdX3_29 (okC1 (by omega)) rfl rfl ?_
      refine x_iload_n (pc := 19) O dX3_mayBeParent_19 rfl ?_
      refine x_icmp_ne (pc := 20) O 27 dX3_mayBeParent_20 (by decide) (fun c20 => ?_) (fun c20 => ?_)
      · refine x_iconst (v := 0) (pc := 27) O dX3_mayBeParent_27 (by decide) ?_
        exact x_ret (v := some (.int _)) (pc := 28) O dX3_mayBeParent_28 rfl (rfl) ⟨Nat.le_refl _, Nat.le_refl _, (), congrArg (fun z => some (Value.int z)) ((b2i_f (fun z => z.elim c8 (fun z => c20 (by rw [nI_clamp (by omega)] at z; exact z.2)))).symm), fun h hh => hh⟩
      · refine x_iconst (v := 1) (pc := 23) O dX3_mayBeParent_23 (by decide) ?_
        refine x_goto (pc := 24) O 28 dX3_mayBeParent_24 (by decide) ?_
        exact x_ret (v := some (.int _)) (pc := 28) O dX3_mayBeParent_28 rfl (rfl) ⟨Nat.le_refl _, Nat.le_refl _, (), congrArg (fun z => some (Value.int z)) ((b2i_t (Or.inr ⟨nat_in rfl (by omega) hj, by rw [nI_clamp (by omega)]; exact c20⟩)).symm), fun h hh => hh⟩
  · refine x_callV (pc := 2) (rest := []) (ci := 3) O (c_X3_find_no l E _ _ _ _ _ _ _ hc h60 hno) dX3_mayBeParent_2 cbX3_21 im_yX3_find se_yX3_find rfl (cv_recv (t := 0) (n := 3) rfl rfl) rfl rfl (Nat.le_of_ble_eq_true rfl) ⟨Nat.le_of_ble_eq_true rfl, Nat.le_of_ble_eq_true rfl⟩ ⟨Nat.le_of_ble_eq_true rfl, Nat.le_of_ble_eq_true rfl⟩ (fun _ => ?_)
    dsimp only [Option.toList, List.append, List.nil_append, List.cons_append, Nat.add_zero, Nat.reduceAdd]
    refine x_astore_n (pc := 5) O dX3_mayBeParent_5 (by decide) rfl rfl ?_
    refine x_iload_n (pc := 6) O dX3_mayBeParent_6 rfl ?_
    refine x_iconst (v := (-1)) (pc := 7) O dX3_mayBeParent_7 (by decide) ?_
    refine x_icmp_eq (pc := 8) O 23 dX3_mayBeParent_8 (by decide) (fun c8 => ?_) (fun c8 => ?_)
    · refine x_iconst (v := 1) (pc := 23) O dX3_mayBeParent_23 (by decide) ?_
      refine x_goto (pc := 24) O 28 dX3_mayBeParent_24 (by decide) ?_
      exact x_ret (v := some (.int _)) (pc := 28) O dX3_mayBeParent_28 rfl (rfl) ⟨Nat.le_refl _, Nat.le_refl _, (), congrArg (fun z => some (Value.int z)) ((b2i_t (Or.inl c8)).symm), fun h hh => hh⟩
    · refine x_aload_n (pc := 11) O dX3_mayBeParent_11 rfl rfl ?_
      refine x_ifnullN (pc := 12) O 27 dX3_mayBeParent_12 (by decide) ?_
      refine x_iconst (v := 0) (pc := 27) O dX3_mayBeParent_27 (by decide) ?_
      exact x_ret (v := some (.int _)) (pc := 28) O dX3_mayBeParent_28 rfl (rfl) ⟨Nat.le_refl _, Nat.le_refl _, (), congrArg (fun z => some (Value.int z)) ((b2i_f (fun z => z.elim c8 (fun z => inP_no (by omega) hno z.1))).symm), fun h hh => hh⟩
set_option maxRecDepth 100000 in
set_option maxHeartbeats 4000000 in
theorem c_X3_owe (l : Launch) (E : En) (adr : Nat → Nat → Nat) (V : Nat → Nat → Nat → Int32) (VL : Nat → Nat → Nat → Int64) (m ns : Nat) (ch : Nat → List Rt) (j : Nat) (y : Int32) (hc : V 0 3 1 = nI m) (h60 : m ≤ 60) (hj : j < m) : Mt l E yX3_owe cX3_owe 4 none (rmX 1 21 0 0) [.ref (adr 0 3), .int (nI j), .int y] (CV E adr V VL m ns ch) (fun _ : Unit => none) (fun _ => CV E adr (up3 V 1 j 6 (V 1 j 6 + y)) VL m ns ch) := by
  refine Mt_of (by decide +kernel) (Nat.le_of_ble_eq_true rfl) (fun J O => ?_)
  show J _ 0 0 0 [some (.ref (adr 0 3)), some (.int (nI j)), some (.int y), none] []
  refine x_aload_n (pc := 0) O dX3_owe_0 rfl rfl ?_
  refine x_iload_n (pc := 1) O dX3_owe_1 rfl ?_
  refine x_callV (pc := 2) (rest := []) (ci := 3) O (c_X3_find l E _ _ _ _ _ _ j hc h60 hj) dX3_owe_2 cbX3_21 im_yX3_find se_yX3_find rfl (cv_recv (t := 0) (n := 3) rfl rfl) rfl rfl (Nat.le_of_ble_eq_true rfl) ⟨Nat.le_of_ble_eq_true rfl, Nat.le_of_ble_eq_true rfl⟩ ⟨Nat.le_of_ble_eq_true rfl, Nat.le_of_ble_eq_true rfl⟩ (fun _ => ?_)
  dsimp only [Option.toList, List.append, List.nil_append, List.cons_append, Nat.add_zero, Nat.reduceAdd]
  refine x_astore_n (pc := 5) O dX3_owe_5 (by decide) rfl rfl ?_
  refine x_aload_n (pc := 6) O dX3_owe_6 rfl rfl ?_
  refine x_ifnull (pc := 7) O dX3_owe_7 ?_
  refine x_aload_n (pc := 10) O dX3_owe_10 rfl rfl ?_
  refine x_dup (pc := 11) O dX3_owe_11 rfl ?_
  refine cv_get (t := 1) (n := j) (pc := 12) O dX3_owe_12 fdX3_46 (okC1 (by omega)) rfl rfl ?_
  refine x_iload_n (pc := 15) O dX3_owe_15 rfl ?_
  refine x_iadd (pc := 16) O dX3_owe_16 ?_
  refine cv_put (t := 1) (n := j) (pc := 17) O dX3_owe_17 fpX3_46 rfl rfl (okC1 (by omega)) rfl (Nat.le_of_ble_eq_true rfl) rfl ?_
  exact x_ret (v := none) (pc := 20) O dX3_owe_20 rfl trivial ⟨Nat.le_refl _, Nat.le_refl _, (), rfl, fun h hh => hh⟩
def csum (V : Nat → Nat → Nat → Int32) : Nat → Int32
  | 0 => 0
  | k + 1 => csum V k + V 1 k 6
set_option maxRecDepth 100000 in
set_option maxHeartbeats 4000000 in
theorem c_X3_allOwed (l : Launch) (E : En) (adr : Nat → Nat → Nat) (V : Nat → Nat → Nat → Int32) (VL : Nat → Nat → Nat → Int64) (m ns : Nat) (ch : Nat → List Rt) (hc : V 0 3 1 = nI m) (h60 : m ≤ 60) : Mt l E yX3_allOwed cX3_allOwed 4 (some .int) (rmX 1 21 0 0) [.ref (adr 0 3)] (CV E adr V VL m ns ch) (fun _ : Unit => some (.int (csum V m))) (fun _ => CV E adr V VL m ns ch) := by
  refine Mt_of (by decide +kernel) (Nat.le_of_ble_eq_true rfl) (fun J O => ?_)
  show J _ 0 0 0 [some (.ref (adr 0 3)), none, none, none] []
  have loop : ∀ k, k ≤ m → J (CV E adr V VL m ns ch) 0 0 4 [some (.ref (adr 0 3)), some (.int (csum V k)), some (.int (nI k)), none] [] := by
    refine up_ind m (fun k hk ih => ?_)
    refine x_iload_n (pc := 4) O dX3_allOwed_4 rfl ?_
    refine x_aload_n (pc := 5) O dX3_allOwed_5 rfl rfl ?_
    refine cv_get (t := 0) (n := 3) (pc := 6) O dX3_allOwed_6 fdX3_17 rfl rfl rfl ?_
    refine x_icmp_ge (pc := 9) O 39 dX3_allOwed_9 (by decide) (fun c9 => ?_) (fun c9 => ?_)
    · refine x_iload_n (pc := 39) O dX3_allOwed_39 rfl ?_
      have hk2 : k = m := by
        rw [hc, nI_leI (by omega) (by omega)] at c9
        omega
      subst hk2
      exact x_ret (v := some (.int _)) (pc := 40) O dX3_allOwed_40 rfl (rfl) ⟨Nat.le_refl _, Nat.le_refl _, (), rfl, fun h hh => hh⟩
    · have hk3 : k < m := by
        rw [hc, nI_leI (by omega) (by omega)] at c9
        omega
      refine x_aload_n (pc := 12) O dX3_allOwed_12 rfl rfl ?_
      refine x_iload_n (pc := 13) O dX3_allOwed_13 rfl ?_
      refine x_callV (pc := 14) (rest := []) (ci := 3) O (c_X3_find l E _ _ _ _ _ _ k hc h60 hk3) dX3_allOwed_14 cbX3_21 im_yX3_find se_yX3_find rfl (cv_recv (t := 0) (n := 3) rfl rfl) rfl rfl (Nat.le_of_ble_eq_true rfl) ⟨Nat.le_of_ble_eq_true rfl, Nat.le_of_ble_eq_true rfl⟩ ⟨Nat.le_of_ble_eq_true rfl, Nat.le_of_ble_eq_true rfl⟩ (fun _ => ?_)
      dsimp only [Option.toList, List.append, List.nil_append, List.cons_append, Nat.add_zero, Nat.reduceAdd]
      refine x_astore_n (pc := 17) O dX3_allOwed_17 (by decide) rfl rfl ?_
      refine x_iload_n (pc := 18) O dX3_allOwed_18 rfl ?_
      refine x_aload_n (pc := 19) O dX3_allOwed_19 rfl rfl ?_
      refine x_ifnonnull (pc := 20) O 27 dX3_allOwed_20 (by decide) ?_
      refine x_aload_n (pc := 27) O dX3_allOwed_27 rfl rfl ?_
      refine cv_get (t := 1) (n := k) (pc := 28) O dX3_allOwed_28 fdX3_46 (okC1 (by omega)) rfl rfl ?_
      refine x_iadd (pc := 31) O dX3_allOwed_31 ?_
      refine x_istore_n (pc := 32) O dX3_allOwed_32 (by decide) rfl ?_
      refine x_iinc (v := nI (k + 1)) (pc := 33) O dX3_allOwed_33 rfl (nI_succ k).symm rfl ?_
      refine x_goto (pc := 36) O 4 dX3_allOwed_36 (by decide) ?_
      refine x_lv O [some (.ref (adr 0 3)), some (.int (csum V (k + 1))), some (.int (nI (k + 1))), none] ⟨rfl, rfl, rfl, trivial⟩ ?_
      exact ih (by omega)
  refine x_iconst (v := 0) (pc := 0) O dX3_allOwed_0 (by decide) ?_
  refine x_istore_n (pc := 1) O dX3_allOwed_1 (by decide) rfl ?_
  refine x_iconst (v := nI 0) (pc := 2) O dX3_allOwed_2 (by decide) ?_
  refine x_istore_n (pc := 3) O dX3_allOwed_3 (by decide) rfl ?_
  exact loop 0 (Nat.zero_le _)
set_option maxRecDepth 100000 in
set_option maxHeartbeats 4000000 in
theorem c_X2_find (l : Launch) (E : En) (adr : Nat → Nat → Nat) (V : Nat → Nat → Nat → Int32) (VL : Nat → Nat → Nat → Int64) (m ns nr : Nat) (hd : Nat → Nat) (rn : Nat → Option Nat) (s : Nat) (hs : s < 120) : Mt l E yX2_find cX2_find 2 (some (.object "ManorRolls$Right")) (rmX 0 0 0 0) [.ref (adr 0 2), .int (nI s)] (CW E adr V VL m ns nr hd rn) (fun _ : Unit => some (.ref (adr 3 (hd s)))) (fun _ => CW E adr V VL m ns nr hd rn) := by
  refine Mt_of (by decide +kernel) (Nat.le_of_ble_eq_true rfl) (fun J O => ?_)
  show J _ 0 0 0 [some (.ref (adr 0 2)), some (.int (nI s))] []
  refine x_iload_n (pc := 0) O dX2_find_0 rfl ?_
  refine x_if_lt (pc := 1) O 22 dX2_find_1 (by decide) (fun c1 => ?_) (fun c1 => ?_)
  · exact absurd c1 (nI_pos (by omega))
  · refine x_iload_n (pc := 4) O dX2_find_4 rfl ?_
    refine x_aload_n (pc := 5) O dX2_find_5 rfl rfl ?_
    refine c_get (t := 0) (n := 2) (pc := 6) O dX2_find_6 fdX2_11 rfl rfl rfl ?_
    refine c_len (n := 11) (t0 := 3) (pc := 9) O dX2_find_9 rfl rfl rfl ?_
    refine x_icmp_ge (pc := 10) O 22 dX2_find_10 (by decide) (fun c10 => ?_) (fun c10 => ?_)
    · rw [nI_leI (by omega) (by omega)] at c10
      omega
    · refine x_aload_n (pc := 13) O dX2_find_13 rfl rfl ?_
      refine c_get (t := 0) (n := 2) (pc := 14) O dX2_find_14 fdX2_11 rfl rfl rfl ?_
      refine x_iload_n (pc := 17) O dX2_find_17 rfl ?_
      refine c_aald (n := 11) (t0 := 3) (v := some (adr 3 (hd s))) (pc := 18) O dX2_find_18 rfl rfl rfl rfl (by show _ < 120; omega) (by omega) (if_pos hs) ?_
      refine x_goto (pc := 19) O 23 dX2_find_19 (by decide) ?_
      exact x_ret (v := some (.ref (adr 3 (hd s)))) (pc := 23) O dX2_find_23 rfl trivial ⟨Nat.le_refl _, Nat.le_refl _, (), rfl, fun h hh => hh⟩
set_option maxRecDepth 100000 in
set_option maxHeartbeats 4000000 in
theorem c_X4_addChild (l : Launch) (E : En) (adr : Nat → Nat → Nat) (V : Nat → Nat → Nat → Int32) (VL : Nat → Nat → Nat → Int64) (m ns : Nat) (ch : Nat → List Rt) (p c : Nat) (s : Int32) (hp : p < m) : Mt l E yX4_addChild cX4_addChild 3 none (rmX 0 0 0 0) [.ref (adr 1 p), .int (nI c), .int s] (CV E adr V VL m ns ch) (fun _ : Unit => none) (fun _ => CV E adr V (if s = 0 then up3 VL 1 p 12 (VL 1 p 12 ||| ((1 : Int64) <<< ((nI c).toInt64 &&& 63))) else up3 VL 1 p 13 (VL 1 p 13 ||| ((1 : Int64) <<< ((nI c).toInt64 &&& 63)))) m ns ch) := by
  refine Mt_of (by decide +kernel) (Nat.le_of_ble_eq_true rfl) (fun J O => ?_)
  show J _ 0 0 0 [some (.ref (adr 1 p)), some (.int (nI c)), some (.int s)] []
  refine x_iload_n (pc := 0) O dX4_addChild_0 rfl ?_
  refine x_if_ne (pc := 1) O 19 dX4_addChild_1 (by decide) (fun c1 => ?_) (fun c1 => ?_)
  · refine x_aload_n (pc := 19) O dX4_addChild_19 rfl rfl ?_
    refine x_dup (pc := 20) O dX4_addChild_20 rfl ?_
    refine cv_get (t := 1) (n := p) (pc := 21) O dX4_addChild_21 fdX4_35 (okC1 (by omega)) rfl rfl ?_
    refine x_lconst (pc := 24) O dX4_addChild_24 rfl ?_
    refine x_iload_n (pc := 25) O dX4_addChild_25 rfl ?_
    refine x_lshl (pc := 26) O dX4_addChild_26 ?_
    refine x_lor (pc := 27) O dX4_addChild_27 ?_
    refine cv_putl (t := 1) (n := p) (pc := 28) O dX4_addChild_28 fpX4_35 (okC1 (by omega)) rfl (Nat.le_of_ble_eq_true rfl) rfl ?_
    exact x_ret (v := none) (pc := 31) O dX4_addChild_31 rfl trivial ⟨Nat.le_refl _, Nat.le_refl _, (), rfl, fun h hh => by rw [if_neg c1]; exact hh⟩
  · refine x_aload_n (pc := 4) O dX4_addChild_4 rfl rfl ?_
    refine x_dup (pc := 5) O dX4_addChild_5 rfl ?_
    refine cv_get (t := 1) (n := p) (pc := 6) O dX4_addChild_6 fdX4_31 (okC1 (by omega)) rfl rfl ?_
    refine x_lconst (pc := 9) O dX4_addChild_9 rfl ?_
    refine x_iload_n (pc := 10) O dX4_addChild_10 rfl ?_
    refine x_lshl (pc := 11) O dX4_addChild_11 ?_
    refine x_lor (pc := 12) O dX4_addChild_12 ?_
    refine cv_putl (t := 1) (n := p) (pc := 13) O dX4_addChild_13 fpX4_31 (okC1 (by omega)) rfl (Nat.le_of_ble_eq_true rfl) rfl ?_
    refine x_goto (pc := 16) O 31 dX4_addChild_16 (by decide) ?_
    exact x_ret (v := none) (pc := 31) O dX4_addChild_31 rfl trivial ⟨Nat.le_refl _, Nat.le_refl _, (), rfl, fun h hh => by rw [if_pos c1]; exact hh⟩
set_option maxRecDepth 100000 in
set_option maxHeartbeats 4000000 in
theorem c_X4_spendWeeks (l : Launch) (E : En) (adr : Nat → Nat → Nat) (V : Nat → Nat → Nat → Int32) (VL : Nat → Nat → Nat → Int64) (m ns : Nat) (ch : Nat → List Rt) (p : Nat) (n k : Int32) (hp : p < m) : Mt l E yX4_spendWeeks cX4_spendWeeks 4 none (rmX 1 24 0 0) [.ref (adr 1 p), .int n, .int k] (CV E adr V VL m ns ch) (fun _ : Unit => none) (fun _ => CV E adr (if V 1 p 4 = 0 then (up3 (up3 V 1 p 10 (V 1 p 10 + (if V 1 p 11 < n then V 1 p 11 else n) * k)) 1 p 7 (V 1 p 7 + (n - (if V 1 p 11 < n then V 1 p 11 else n)) * k)) else up3 (up3 (up3 V 1 p 10 (V 1 p 10 + (if V 1 p 11 < n then V 1 p 11 else n) * k)) 1 p 7 (V 1 p 7 + (n - (if V 1 p 11 < n then V 1 p 11 else n)) * k)) 1 p 11 (V 1 p 11 - (if V 1 p 11 < n then V 1 p 11 else n))) VL m ns ch) := by
  refine Mt_of (by decide +kernel) (Nat.le_of_ble_eq_true rfl) (fun J O => ?_)
  show J _ 0 0 0 [some (.ref (adr 1 p)), some (.int n), some (.int k), none] []
  refine x_iload_n (pc := 0) O dX4_spendWeeks_0 rfl ?_
  refine x_aload_n (pc := 1) O dX4_spendWeeks_1 rfl rfl ?_
  refine cv_get (t := 1) (n := p) (pc := 2) O dX4_spendWeeks_2 fdX4_38 (okC1 (by omega)) rfl rfl ?_
  refine x_min (pc := 5) O dX4_spendWeeks_5 mi_X4_41 (Nat.le_of_ble_eq_true rfl) (Nat.le_of_ble_eq_true rfl) (Nat.le_of_ble_eq_true rfl) (Nat.le_of_ble_eq_true rfl) ?_
  refine x_istore_n (pc := 8) O dX4_spendWeeks_8 (by decide) rfl ?_
  refine x_aload_n (pc := 9) O dX4_spendWeeks_9 rfl rfl ?_
  refine x_dup (pc := 10) O dX4_spendWeeks_10 rfl ?_
  refine cv_get (t := 1) (n := p) (pc := 11) O dX4_spendWeeks_11 fdX4_47 (okC1 (by omega)) rfl rfl ?_
  refine x_iload_n (pc := 14) O dX4_spendWeeks_14 rfl ?_
  refine x_iload_n (pc := 15) O dX4_spendWeeks_15 rfl ?_
  refine x_imul (pc := 16) O dX4_spendWeeks_16 ?_
  refine x_iadd (pc := 17) O dX4_spendWeeks_17 ?_
  refine cv_put (t := 1) (n := p) (pc := 18) O dX4_spendWeeks_18 fpX4_47 rfl rfl (okC1 (by omega)) rfl (Nat.le_of_ble_eq_true rfl) rfl ?_
  refine x_aload_n (pc := 21) O dX4_spendWeeks_21 rfl rfl ?_
  refine x_dup (pc := 22) O dX4_spendWeeks_22 rfl ?_
  refine cv_get (t := 1) (n := p) (pc := 23) O dX4_spendWeeks_23 fdX4_50 (okC1 (by omega)) rfl rfl ?_
  rw [up3_eq, va_up_ne _ _ (by decide)]
  refine x_iload_n (pc := 26) O dX4_spendWeeks_26 rfl ?_
  refine x_iload_n (pc := 27) O dX4_spendWeeks_27 rfl ?_
  refine x_isub (pc := 28) O dX4_spendWeeks_28 ?_
  refine x_iload_n (pc := 29) O dX4_spendWeeks_29 rfl ?_
  refine x_imul (pc := 30) O dX4_spendWeeks_30 ?_
  refine x_iadd (pc := 31) O dX4_spendWeeks_31 ?_
  refine cv_put (t := 1) (n := p) (pc := 32) O dX4_spendWeeks_32 fpX4_50 rfl rfl (okC1 (by omega)) rfl (Nat.le_of_ble_eq_true rfl) rfl ?_
  refine x_aload_n (pc := 35) O dX4_spendWeeks_35 rfl rfl ?_
  refine cv_get (t := 1) (n := p) (pc := 36) O dX4_spendWeeks_36 fdX4_24 (okC1 (by omega)) rfl rfl ?_
  rw [up3_eq, va_up_ne _ _ (by decide), up3_eq, va_up_ne _ _ (by decide)]
  refine x_if_eq (pc := 39) O 52 dX4_spendWeeks_39 (by decide) (fun c39 => ?_) (fun c39 => ?_)
  · exact x_ret (v := none) (pc := 52) O dX4_spendWeeks_52 rfl trivial ⟨Nat.le_refl _, Nat.le_refl _, (), rfl, fun h hh => by rw [if_pos c39]; exact hh⟩
  · refine x_aload_n (pc := 42) O dX4_spendWeeks_42 rfl rfl ?_
    refine x_dup (pc := 43) O dX4_spendWeeks_43 rfl ?_
    refine cv_get (t := 1) (n := p) (pc := 44) O dX4_spendWeeks_44 fdX4_38 (okC1 (by omega)) rfl rfl ?_
    rw [up3_eq, va_up_ne _ _ (by decide), up3_eq, va_up_ne _ _ (by decide)]
    refine x_iload_n (pc := 47) O dX4_spendWeeks_47 rfl ?_
    refine x_isub (pc := 48) O dX4_spendWeeks_48 ?_
    refine cv_put (t := 1) (n := p) (pc := 49) O dX4_spendWeeks_49 fpX4_38 rfl rfl (okC1 (by omega)) rfl (Nat.le_of_ble_eq_true rfl) rfl ?_
    exact x_ret (v := none) (pc := 52) O dX4_spendWeeks_52 rfl trivial ⟨Nat.le_refl _, Nat.le_refl _, (), rfl, fun h hh => by rw [if_neg c39]; exact hh⟩
