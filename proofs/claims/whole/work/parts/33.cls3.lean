/-! ===== CLS 3: rights along their chain ===== -/
def onD (V : Nat → Nat → Nat → Int32) (rn : Nat → Option Nat) (day : Int32) : Nat → Nat → Option Nat
  | 0, _ => none
  | f + 1, k => if V 3 k 2 ≤ day then some k else (match rn k with
    | none => none
    | some k2 => onD V rn day f k2)
def stA (rn : Nat → Option Nat) : Nat → Nat → Option Nat
  | 0, k => some k
  | t + 1, k => match rn k with
    | none => none
    | some k2 => stA rn t k2
set_option maxRecDepth 100000 in
set_option maxHeartbeats 4000000 in
theorem c_X2_onDay (l : Launch) (E : En) (adr : Nat → Nat → Nat) (V : Nat → Nat → Nat → Int32) (VL : Nat → Nat → Nat → Int64) (m ns nr : Nat) (hd : Nat → Nat) (rn : Nat → Option Nat) (s : Nat) (day : Int32) (hhd : ∀ s, s < 120 → hd s < nr) (hrn : ∀ k k2, rn k = some k2 → k2 < k) (hs : s < 120) : Mt l E yX2_onDay cX2_onDay 4 (some (.object "ManorRolls$Right")) (rmX 1 21 0 0) [.ref (adr 0 2), .int (nI s), .int day] (CW E adr V VL m ns nr hd rn) (fun c : Option Nat => some (va_rf (c.map (adr 3)))) (fun c h => c = onD V rn day (hd s + 1) (hd s) ∧ CW E adr V VL m ns nr hd rn h) := by
  refine Mt_of (by decide +kernel) (Nat.le_of_ble_eq_true rfl) (fun J O => ?_)
  show J _ 0 0 0 [some (.ref (adr 0 2)), some (.int (nI s)), some (.int day), none] []
  obtain ⟨R0, hR0⟩ : ∃ R0, R0 = onD V rn day (hd s + 1) (hd s) := ⟨_, rfl⟩
  rw [← hR0] at O
  have nul : none = R0 → J (CW E adr V VL m ns nr hd rn) 0 0 6 [some (.ref (adr 0 2)), some (.int (nI s)), some (.int day), some (.null)] [] := by
    intro hZ
    refine x_aload_n (pc := 6) O dX2_onDay_6 rfl rfl ?_
    refine x_ifnullN (pc := 7) O 26 dX2_onDay_7 (by decide) ?_
    refine x_aload_n (pc := 26) O dX2_onDay_26 rfl rfl ?_
    exact x_ret (v := some .null) (pc := 27) O dX2_onDay_27 rfl trivial ⟨Nat.le_refl _, Nat.le_refl _, none, rfl, fun h hh => ⟨hZ, hh⟩⟩
  have loop : ∀ f, ∀ k, k < f → k < nr → ∀ Z, Z = onD V rn day f k → (∀ c, c = Z → c = R0) → J (CW E adr V VL m ns nr hd rn) 0 0 6 [some (.ref (adr 0 2)), some (.int (nI s)), some (.int day), some (.ref (adr 3 k))] [] := by
    intro f
    induction f with
    | zero => intro k hk; omega
    | succ f ih =>
      intro k hk hkn Z hZ hR
      refine x_aload_n (pc := 6) O dX2_onDay_6 rfl rfl ?_
      refine x_ifnull (pc := 7) O dX2_onDay_7 ?_
      refine x_aload_n (pc := 10) O dX2_onDay_10 rfl rfl ?_
      refine c_get (t := 3) (n := k) (pc := 11) O dX2_onDay_11 fdX2_52 (okC3 (by omega)) rfl rfl ?_
      refine x_iload_n (pc := 14) O dX2_onDay_14 rfl ?_
      refine x_icmp_le (pc := 15) O 26 dX2_onDay_15 (by decide) (fun c15 => ?_) (fun c15 => ?_)
      · refine x_aload_n (pc := 26) O dX2_onDay_26 rfl rfl ?_
        exact x_ret (v := some (.ref (adr 3 k))) (pc := 27) O dX2_onDay_27 rfl trivial ⟨Nat.le_refl _, Nat.le_refl _, some k, rfl, fun h hh => ⟨hR _ (by rw [hZ]; show some k = if _ then _ else _; rw [if_pos c15]), hh⟩⟩
      · refine x_aload_n (pc := 18) O dX2_onDay_18 rfl rfl ?_
        refine c_get (t := 3) (n := k) (pc := 19) O dX2_onDay_19 fdX2_48 (okC3 hkn) rfl rfl ?_
        rcases hr : rn k with _ | k2
        · show J _ _ _ _ _ (.null :: _)
          refine x_astore_n (pc := 22) O dX2_onDay_22 (by decide) rfl rfl ?_
          refine x_goto (pc := 23) O 6 dX2_onDay_23 (by decide) ?_
          exact nul (hR none (by rw [hZ]; show none = if _ then _ else _; rw [if_neg c15, hr]))
        · show J _ _ _ _ _ (.ref (adr 3 k2) :: _)
          have hlt := hrn k k2 hr
          refine x_astore_n (pc := 22) O dX2_onDay_22 (by decide) rfl rfl ?_
          refine x_goto (pc := 23) O 6 dX2_onDay_23 (by decide) ?_
          refine ih k2 (by omega) (by omega) Z ?_ hR
          rw [hZ]
          show (if _ then _ else _) = _
          rw [if_neg c15, hr]
  refine x_aload_n (pc := 0) O dX2_onDay_0 rfl rfl ?_
  refine x_iload_n (pc := 1) O dX2_onDay_1 rfl ?_
  refine x_callV (pc := 2) (rest := []) (ci := 2) O (c_X2_find l E _ _ _ _ _ _ _ _ s hs) dX2_onDay_2 cbX2_31 im_yX2_find se_yX2_find rfl (c_recv (t := 0) (n := 2) rfl rfl) rfl rfl (Nat.le_of_ble_eq_true rfl) ⟨Nat.le_of_ble_eq_true rfl, Nat.le_of_ble_eq_true rfl⟩ ⟨Nat.le_of_ble_eq_true rfl, Nat.le_of_ble_eq_true rfl⟩ (fun _ => ?_)
  dsimp only [Option.toList, List.append, List.nil_append, List.cons_append, Nat.add_zero, Nat.reduceAdd]
  refine x_astore_n (pc := 5) O dX2_onDay_5 (by decide) rfl rfl ?_
  exact loop (hd s + 1) (hd s) (by omega) (hhd s hs) _ rfl (fun c h => by rw [h, hR0])
set_option maxRecDepth 100000 in
set_option maxHeartbeats 4000000 in
theorem c_X2_stepsAhead (l : Launch) (E : En) (adr : Nat → Nat → Nat) (V : Nat → Nat → Nat → Int32) (VL : Nat → Nat → Nat → Int64) (m ns nr : Nat) (hd : Nat → Nat) (rn : Nat → Option Nat) (k T : Nat) (hrn : ∀ k k2, rn k = some k2 → k2 < k) (hk : k < nr) (hT : T < 2 ^ 31) : Mt l E yX2_stepsAhead cX2_stepsAhead 4 (some (.object "ManorRolls$Right")) (rmX 0 0 0 0) [.ref (adr 3 k), .int (nI T)] (CW E adr V VL m ns nr hd rn) (fun c : Option Nat => some (va_rf (c.map (adr 3)))) (fun c h => c = stA rn T k ∧ CW E adr V VL m ns nr hd rn h) := by
  refine Mt_of (by decide +kernel) (Nat.le_of_ble_eq_true rfl) (fun J O => ?_)
  show J _ 0 0 0 [some (.ref (adr 3 k)), some (.int (nI T)), none, none] []
  obtain ⟨R0, hR0⟩ : ∃ R0, R0 = stA rn T k := ⟨_, rfl⟩
  rw [← hR0] at O
  have nul : ∀ i, none = R0 → J (CW E adr V VL m ns nr hd rn) 0 0 4 [some (.ref (adr 3 k)), some (.int (nI T)), some (.null), some (.int (nI (i)))] [] := by
    intro i hZ
    refine x_iload_n (pc := 4) O dX2_stepsAhead_4 rfl ?_
    refine x_iload_n (pc := 5) O dX2_stepsAhead_5 rfl ?_
    refine x_icmp_ge (pc := 6) O 24 dX2_stepsAhead_6 (by decide) (fun c6 => ?_) (fun c6 => ?_)
    · refine x_aload_n (pc := 24) O dX2_stepsAhead_24 rfl rfl ?_
      exact x_ret (v := some .null) (pc := 25) O dX2_stepsAhead_25 rfl trivial ⟨Nat.le_refl _, Nat.le_refl _, none, rfl, fun h hh => ⟨hZ, hh⟩⟩
    · refine x_aload_n (pc := 9) O dX2_stepsAhead_9 rfl rfl ?_
      refine x_ifnullN (pc := 10) O 24 dX2_stepsAhead_10 (by decide) ?_
      refine x_aload_n (pc := 24) O dX2_stepsAhead_24 rfl rfl ?_
      exact x_ret (v := some .null) (pc := 25) O dX2_stepsAhead_25 rfl trivial ⟨Nat.le_refl _, Nat.le_refl _, none, rfl, fun h hh => ⟨hZ, hh⟩⟩
  have loop : ∀ f, ∀ k0, k0 < f → k0 < nr → ∀ i, i ≤ T → stA rn (T - i) k0 = R0 → J (CW E adr V VL m ns nr hd rn) 0 0 4 [some (.ref (adr 3 k)), some (.int (nI T)), some (.ref (adr 3 k0)), some (.int (nI (i)))] [] := by
    intro f
    induction f with
    | zero => intro k0 hk0; omega
    | succ f ih =>
      intro k0 hk0 hkn i hi hZ
      refine x_iload_n (pc := 4) O dX2_stepsAhead_4 rfl ?_
      refine x_iload_n (pc := 5) O dX2_stepsAhead_5 rfl ?_
      refine x_icmp_ge (pc := 6) O 24 dX2_stepsAhead_6 (by decide) (fun c6 => ?_) (fun c6 => ?_)
      · refine x_aload_n (pc := 24) O dX2_stepsAhead_24 rfl rfl ?_
        have hiT : T - i = 0 := by
          rw [nI_leI hT (by omega)] at c6
          omega
        rw [hiT] at hZ
        exact x_ret (v := some (.ref (adr 3 k0))) (pc := 25) O dX2_stepsAhead_25 rfl trivial ⟨Nat.le_refl _, Nat.le_refl _, some k0, rfl, fun h hh => ⟨hZ, hh⟩⟩
      · refine x_aload_n (pc := 9) O dX2_stepsAhead_9 rfl rfl ?_
        refine x_ifnull (pc := 10) O dX2_stepsAhead_10 ?_
        refine x_aload_n (pc := 13) O dX2_stepsAhead_13 rfl rfl ?_
        have hiT : T - i = (T - (i + 1)) + 1 := by
          rw [nI_leI hT (by omega)] at c6
          omega
        rw [hiT] at hZ
        refine c_get (t := 3) (n := k0) (pc := 14) O dX2_stepsAhead_14 fdX2_48 (okC3 hkn) rfl rfl ?_
        rcases hr : rn k0 with _ | k2
        · show J _ _ _ _ _ (.null :: _)
          refine x_astore_n (pc := 17) O dX2_stepsAhead_17 (by decide) rfl rfl ?_
          refine x_iinc (v := nI (i + 1)) (pc := 18) O dX2_stepsAhead_18 rfl (nI_succ i).symm rfl ?_
          refine x_goto (pc := 21) O 4 dX2_stepsAhead_21 (by decide) ?_
          refine nul (i + 1) ?_
          rw [← hZ]
          show none = match rn k0 with
            | none => none
            | some k2 => stA rn (T - (i + 1)) k2
          rw [hr]
        · show J _ _ _ _ _ (.ref (adr 3 k2) :: _)
          have hlt := hrn k0 k2 hr
          refine x_astore_n (pc := 17) O dX2_stepsAhead_17 (by decide) rfl rfl ?_
          refine x_iinc (v := nI (i + 1)) (pc := 18) O dX2_stepsAhead_18 rfl (nI_succ i).symm rfl ?_
          refine x_goto (pc := 21) O 4 dX2_stepsAhead_21 (by decide) ?_
          refine ih k2 (by omega) (by omega) (i + 1) (by omega) ?_
          rw [← hZ]
          show _ = match rn k0 with
            | none => none
            | some k2 => stA rn (T - (i + 1)) k2
          rw [hr]
  refine x_aload_n (pc := 0) O dX2_stepsAhead_0 rfl rfl ?_
  refine x_astore_n (pc := 1) O dX2_stepsAhead_1 (by decide) rfl rfl ?_
  refine x_iconst (v := nI 0) (pc := 2) O dX2_stepsAhead_2 (by decide) ?_
  refine x_istore_n (pc := 3) O dX2_stepsAhead_3 (by decide) rfl ?_
  exact loop (k + 1) k (by omega) hk 0 (Nat.zero_le _) hR0.symm
set_option maxRecDepth 100000 in
set_option maxHeartbeats 4000000 in
theorem c_X2_stepsAhead_no (l : Launch) (E : En) (P : HP) (x : Int32)  : Mt l E yX2_stepsAhead cX2_stepsAhead 4 (some (.object "ManorRolls$Right")) (rmX 0 0 0 0) [.null, .int x] (P) (fun _ : Unit => some .null) (fun _ => P) := by
  refine Mt_of (by decide +kernel) (Nat.le_of_ble_eq_true rfl) (fun J O => ?_)
  show J _ 0 0 0 [some (.null), some (.int x), none, none] []
  refine x_aload_n (pc := 0) O dX2_stepsAhead_0 rfl rfl ?_
  refine x_astore_n (pc := 1) O dX2_stepsAhead_1 (by decide) rfl rfl ?_
  refine x_iconst (v := 0) (pc := 2) O dX2_stepsAhead_2 (by decide) ?_
  refine x_istore_n (pc := 3) O dX2_stepsAhead_3 (by decide) rfl ?_
  refine x_iload_n (pc := 4) O dX2_stepsAhead_4 rfl ?_
  refine x_iload_n (pc := 5) O dX2_stepsAhead_5 rfl ?_
  refine x_icmp_ge (pc := 6) O 24 dX2_stepsAhead_6 (by decide) (fun c6 => ?_) (fun c6 => ?_)
  · refine x_aload_n (pc := 24) O dX2_stepsAhead_24 rfl rfl ?_
    exact x_ret (v := some (.null)) (pc := 25) O dX2_stepsAhead_25 rfl trivial ⟨Nat.le_refl _, Nat.le_refl _, (), rfl, fun h hh => hh⟩
  · refine x_aload_n (pc := 9) O dX2_stepsAhead_9 rfl rfl ?_
    refine x_ifnullN (pc := 10) O 24 dX2_stepsAhead_10 (by decide) ?_
    refine x_aload_n (pc := 24) O dX2_stepsAhead_24 rfl rfl ?_
    exact x_ret (v := some (.null)) (pc := 25) O dX2_stepsAhead_25 rfl trivial ⟨Nat.le_refl _, Nat.le_refl _, (), rfl, fun h hh => hh⟩
