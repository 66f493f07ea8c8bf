/-! ===== CLS 1: finding ===== -/
theorem okC1 {m ns nr n : Nat} (h : n < m) : okC m ns nr 1 n = true := by simp [okC, h]
theorem okC2 {m ns nr n : Nat} (h : n < ns) : okC m ns nr 2 n = true := by simp [okC, h]
theorem okC3 {m ns nr n : Nat} (h : n < nr) : okC m ns nr 3 n = true := by simp [okC, h]
/-- a number is a person's, or it isn't -/
abbrev noP (m : Nat) (x : Int32) : Prop := ¬ ∃ j, j < m ∧ x = nI j
theorem noP_or (m : Nat) (x : Int32) : (∃ j, j < m ∧ x = nI j) ∨ noP m x := Classical.em _
theorem noP_of {m : Nat} {x : Int32} (hm : m ≤ 1000000) (h : noP m x) : x < 0 ∨ nI m ≤ x := by
  rcases Classical.em (x < 0) with h0 | h0
  · exact Or.inl h0
  · right
    obtain ⟨z, hz, rfl⟩ := nI_of h0
    rw [nI_leI (by omega) hz]
    rcases Nat.lt_or_ge z m with h1 | h1
    · exact absurd ⟨z, h1, rfl⟩ h
    · exact h1
set_option maxRecDepth 100000 in
set_option maxHeartbeats 4000000 in
theorem c_X3_find (l : Launch) (E : En) (adr : Nat → Nat → Nat) (V : Nat → Nat → Nat → Int32) (VL : Nat → Nat → Nat → Int64) (m ns nr : Nat) (hd : Nat → Nat) (rn : Nat → Option Nat) (j : Nat) (hc : V 0 3 1 = nI m) (h60 : m ≤ 60) (hj : j < m) : Mt l E yX3_find cX3_find 2 (some (.object "ManorRolls$Person")) (rmX 0 0 0 0) [.ref (adr 0 3), .int (nI j)] (CW E adr V VL m ns nr hd rn) (fun _ : Unit => some (.ref (adr 1 j))) (fun _ => CW E adr V VL m ns nr hd rn) := by
  refine Mt_of (by decide +kernel) (Nat.le_of_ble_eq_true rfl) (fun J O => ?_)
  show J _ 0 0 0 [some (.ref (adr 0 3)), some (.int (nI j))] []
  refine x_iload_n (pc := 0) O dX3_find_0 rfl ?_
  refine x_if_lt (pc := 1) O 30 dX3_find_1 (by decide) (fun c1 => ?_) (fun c1 => ?_)
  · exact absurd c1 (nI_pos (by omega))
  · refine x_iload_n (pc := 4) O dX3_find_4 rfl ?_
    refine x_aload_n (pc := 5) O dX3_find_5 rfl rfl ?_
    refine c_get (t := 0) (n := 3) (pc := 6) O dX3_find_6 fdX3_17 rfl rfl rfl ?_
    refine x_icmp_ge (pc := 9) O 30 dX3_find_9 (by decide) (fun c9 => ?_) (fun c9 => ?_)
    · rw [hc, nI_leI (by omega) (by omega)] at c9
      omega
    · refine x_iload_n (pc := 12) O dX3_find_12 rfl ?_
      refine x_aload_n (pc := 13) O dX3_find_13 rfl rfl ?_
      refine c_get (t := 0) (n := 3) (pc := 14) O dX3_find_14 fdX3_11 rfl rfl rfl ?_
      refine c_len (n := 10) (t0 := 2) (pc := 17) O dX3_find_17 rfl rfl rfl ?_
      refine x_icmp_ge (pc := 18) O 30 dX3_find_18 (by decide) (fun c18 => ?_) (fun c18 => ?_)
      · rw [nI_leI (by omega) (by omega)] at c18
        omega
      · refine x_aload_n (pc := 21) O dX3_find_21 rfl rfl ?_
        refine c_get (t := 0) (n := 3) (pc := 22) O dX3_find_22 fdX3_11 rfl rfl rfl ?_
        refine x_iload_n (pc := 25) O dX3_find_25 rfl ?_
        refine c_aald (n := 10) (t0 := 2) (v := some (adr 1 j)) (pc := 26) O dX3_find_26 rfl rfl rfl rfl (by show _ < 60; omega) (by omega) (if_pos hj) ?_
        refine x_goto (pc := 27) O 31 dX3_find_27 (by decide) ?_
        exact x_ret (v := some (.ref (adr 1 j))) (pc := 31) O dX3_find_31 rfl trivial ⟨Nat.le_refl _, Nat.le_refl _, (), rfl, fun h hh => hh⟩
set_option maxRecDepth 100000 in
set_option maxHeartbeats 4000000 in
theorem c_X3_find_no (l : Launch) (E : En) (adr : Nat → Nat → Nat) (V : Nat → Nat → Nat → Int32) (VL : Nat → Nat → Nat → Int64) (m ns nr : Nat) (hd : Nat → Nat) (rn : Nat → Option Nat) (x : Int32) (hc : V 0 3 1 = nI m) (h60 : m ≤ 60) (hx : noP m x) : Mt l E yX3_find cX3_find 2 (some (.object "ManorRolls$Person")) (rmX 0 0 0 0) [.ref (adr 0 3), .int x] (CW E adr V VL m ns nr hd rn) (fun _ : Unit => some .null) (fun _ => CW E adr V VL m ns nr hd rn) := by
  refine Mt_of (by decide +kernel) (Nat.le_of_ble_eq_true rfl) (fun J O => ?_)
  show J _ 0 0 0 [some (.ref (adr 0 3)), some (.int x)] []
  refine x_iload_n (pc := 0) O dX3_find_0 rfl ?_
  refine x_if_lt (pc := 1) O 30 dX3_find_1 (by decide) (fun c1 => ?_) (fun c1 => ?_)
  · refine x_null (pc := 30) O dX3_find_30 ?_
    exact x_ret (v := some (.null)) (pc := 31) O dX3_find_31 rfl trivial ⟨Nat.le_refl _, Nat.le_refl _, (), rfl, fun h hh => hh⟩
  · refine x_iload_n (pc := 4) O dX3_find_4 rfl ?_
    refine x_aload_n (pc := 5) O dX3_find_5 rfl rfl ?_
    refine c_get (t := 0) (n := 3) (pc := 6) O dX3_find_6 fdX3_17 rfl rfl rfl ?_
    refine x_icmp_ge (pc := 9) O 30 dX3_find_9 (by decide) (fun c9 => ?_) (fun c9 => ?_)
    · refine x_null (pc := 30) O dX3_find_30 ?_
      exact x_ret (v := some (.null)) (pc := 31) O dX3_find_31 rfl trivial ⟨Nat.le_refl _, Nat.le_refl _, (), rfl, fun h hh => hh⟩
    · exact absurd ((noP_of (by omega) hx).resolve_left c1) (by rw [← hc]; exact c9)
set_option maxRecDepth 100000 in
set_option maxHeartbeats 4000000 in
theorem c_X3_findAlive (l : Launch) (E : En) (adr : Nat → Nat → Nat) (V : Nat → Nat → Nat → Int32) (VL : Nat → Nat → Nat → Int64) (m ns nr : Nat) (hd : Nat → Nat) (rn : Nat → Option Nat) (j : Nat) (hc : V 0 3 1 = nI m) (h60 : m ≤ 60) (hj : j < m) (hal : ¬ V 1 j 4 = 0) : Mt l E yX3_findAlive cX3_findAlive 3 (some (.object "ManorRolls$Person")) (rmX 1 21 0 0) [.ref (adr 0 3), .int (nI j)] (CW E adr V VL m ns nr hd rn) (fun _ : Unit => some (.ref (adr 1 j))) (fun _ => CW E adr V VL m ns nr hd rn) := by
  refine Mt_of (by decide +kernel) (Nat.le_of_ble_eq_true rfl) (fun J O => ?_)
  show J _ 0 0 0 [some (.ref (adr 0 3)), some (.int (nI j)), none] []
  refine x_aload_n (pc := 0) O dX3_findAlive_0 rfl rfl ?_
  refine x_iload_n (pc := 1) O dX3_findAlive_1 rfl ?_
  refine x_callV (pc := 2) (rest := []) (ci := 3) O (c_X3_find l E _ _ _ _ _ _ _ _ j hc h60 hj) dX3_findAlive_2 cbX3_21 im_yX3_find se_yX3_find rfl (c_recv (t := 0) (n := 3) rfl rfl) rfl rfl (Nat.le_of_ble_eq_true rfl) ⟨Nat.le_of_ble_eq_true rfl, Nat.le_of_ble_eq_true rfl⟩ ⟨Nat.le_of_ble_eq_true rfl, Nat.le_of_ble_eq_true rfl⟩ (fun _ => ?_)
  dsimp only [Option.toList, List.append, List.nil_append, List.cons_append, Nat.add_zero, Nat.reduceAdd]
  refine x_astore_n (pc := 5) O dX3_findAlive_5 (by decide) rfl rfl ?_
  refine x_aload_n (pc := 6) O dX3_findAlive_6 rfl rfl ?_
  refine x_ifnull (pc := 7) O dX3_findAlive_7 ?_
  refine x_aload_n (pc := 10) O dX3_findAlive_10 rfl rfl ?_
  refine c_get (t := 1) (n := j) (pc := 11) O dX3_findAlive_11 fdX3_25 (okC1 (by omega)) rfl rfl ?_
  refine x_if_eq (pc := 14) O 21 dX3_findAlive_14 (by decide) (fun c14 => ?_) (fun c14 => ?_)
  · exact absurd c14 hal
  · refine x_aload_n (pc := 17) O dX3_findAlive_17 rfl rfl ?_
    refine x_goto (pc := 18) O 22 dX3_findAlive_18 (by decide) ?_
    exact x_ret (v := some (.ref (adr 1 j))) (pc := 22) O dX3_findAlive_22 rfl trivial ⟨Nat.le_refl _, Nat.le_refl _, (), rfl, fun h hh => hh⟩
abbrev noA (m : Nat) (V : Nat → Nat → Nat → Int32) (x : Int32) : Prop := ¬ ∃ j, j < m ∧ x = nI j ∧ ¬ V 1 j 4 = 0
theorem noA_or (m : Nat) (V : Nat → Nat → Nat → Int32) (x : Int32) : (∃ j, j < m ∧ x = nI j ∧ ¬ V 1 j 4 = 0) ∨ noA m V x := Classical.em _
set_option maxRecDepth 100000 in
set_option maxHeartbeats 4000000 in
theorem c_X3_findAlive_no (l : Launch) (E : En) (adr : Nat → Nat → Nat) (V : Nat → Nat → Nat → Int32) (VL : Nat → Nat → Nat → Int64) (m ns nr : Nat) (hd : Nat → Nat) (rn : Nat → Option Nat) (x : Int32) (hc : V 0 3 1 = nI m) (h60 : m ≤ 60) (hna : noA m V x) : Mt l E yX3_findAlive cX3_findAlive 3 (some (.object "ManorRolls$Person")) (rmX 1 21 0 0) [.ref (adr 0 3), .int x] (CW E adr V VL m ns nr hd rn) (fun _ : Unit => some .null) (fun _ => CW E adr V VL m ns nr hd rn) := by
  refine Mt_of (by decide +kernel) (Nat.le_of_ble_eq_true rfl) (fun J O => ?_)
  show J _ 0 0 0 [some (.ref (adr 0 3)), some (.int x), none] []
  refine x_aload_n (pc := 0) O dX3_findAlive_0 rfl rfl ?_
  refine x_iload_n (pc := 1) O dX3_findAlive_1 rfl ?_
  rcases noP_or m x with ⟨j, hj, rfl⟩ | hno
  · refine x_callV (pc := 2) (rest := []) (ci := 3) O (c_X3_find l E _ _ _ _ _ _ _ _ j hc h60 hj) dX3_findAlive_2 cbX3_21 im_yX3_find se_yX3_find rfl (c_recv (t := 0) (n := 3) rfl rfl) rfl rfl (Nat.le_of_ble_eq_true rfl) ⟨Nat.le_of_ble_eq_true rfl, Nat.le_of_ble_eq_true rfl⟩ ⟨Nat.le_of_ble_eq_true rfl, Nat.le_of_ble_eq_true rfl⟩ (fun _ => ?_)
    dsimp only [Option.toList, List.append, List.nil_append, List.cons_append, Nat.add_zero, Nat.reduceAdd]
    refine x_astore_n (pc := 5) O dX3_findAlive_5 (by decide) rfl rfl ?_
    refine x_aload_n (pc := 6) O dX3_findAlive_6 rfl rfl ?_
    refine x_ifnull (pc := 7) O dX3_findAlive_7 ?_
    refine x_aload_n (pc := 10) O dX3_findAlive_10 rfl rfl ?_
    refine c_get (t := 1) (n := j) (pc := 11) O dX3_findAlive_11 fdX3_25 (okC1 (by omega)) rfl rfl ?_
    refine x_if_eq (pc := 14) O 21 dX3_findAlive_14 (by decide) (fun c14 => ?_) (fun c14 => ?_)
    · refine x_null (pc := 21) O dX3_findAlive_21 ?_
      exact x_ret (v := some (.null)) (pc := 22) O dX3_findAlive_22 rfl trivial ⟨Nat.le_refl _, Nat.le_refl _, (), rfl, fun h hh => hh⟩
    · exact absurd ⟨j, hj, rfl, c14⟩ hna
  · refine x_callV (pc := 2) (rest := []) (ci := 3) O (c_X3_find_no l E _ _ _ _ _ _ _ _ _ hc h60 hno) dX3_findAlive_2 cbX3_21 im_yX3_find se_yX3_find rfl (c_recv (t := 0) (n := 3) rfl rfl) rfl rfl (Nat.le_of_ble_eq_true rfl) ⟨Nat.le_of_ble_eq_true rfl, Nat.le_of_ble_eq_true rfl⟩ ⟨Nat.le_of_ble_eq_true rfl, Nat.le_of_ble_eq_true rfl⟩ (fun _ => ?_)
    dsimp only [Option.toList, List.append, List.nil_append, List.cons_append, Nat.add_zero, Nat.reduceAdd]
    refine x_astore_n (pc := 5) O dX3_findAlive_5 (by decide) rfl rfl ?_
    refine x_aload_n (pc := 6) O dX3_findAlive_6 rfl rfl ?_
    refine x_ifnullN (pc := 7) O 21 dX3_findAlive_7 (by decide) ?_
    refine x_null (pc := 21) O dX3_findAlive_21 ?_
    exact x_ret (v := some (.null)) (pc := 22) O dX3_findAlive_22 rfl trivial ⟨Nat.le_refl _, Nat.le_refl _, (), rfl, fun h hh => hh⟩
abbrev mpP (m : Nat) (V : Nat → Nat → Nat → Int32) (x s : Int32) : Prop := x = -1 ∨ ∃ j, j < m ∧ x = nI j ∧ V 1 j 0 = s
noncomputable def mpB (m : Nat) (V : Nat → Nat → Nat → Int32) (x s : Int32) : Int32 := @b2i (mpP m V x s) (Classical.propDecidable _)
