/-! ===== THE LAW 5: its entry ===== -/
def fsX7 : List Value := [.int 0, .null, .int 0, .null, .null, .null, .null, .int 0, .int 0]
theorem fsX7_ok : ∀ j, j < 9 → defaultValue (tyX7 j) = vp_V fsX7 j := by decide +kernel
theorem fsX8_ok (d : Nat → Nat) : ∀ j, j < 44 → defaultValue (tyX8 j) = vp_V (ifs 0 d) j := by
  have e : ifs 0 d = ifs 0 (fun _ => 0) := rfl
  rw [e]
  decide +kernel
theorem law_body {l : Launch} {E : En} {b L : Nat} {xs : Nat → Int32} {J : Jt} (O : Okl l E b L xs J) (hL : L ≤ 3072) : J (fun _ => True) 0 0 0 [some (.ref b), none, none, none] [] := by
  refine x_new (P' := fun _ => True) (ci := 7) (N := 9) (fs := fsX7) (pc := 0) O.1 tyX7 dL_law_0 rfl inlX7 tyX7_ok clL_7 in_RX7 ini_RX7 fsX7_ok (Nat.le_of_ble_eq_true rfl) (Nat.le_of_ble_eq_true rfl) (fun q => ?_)
  refine x_imp O.1 (P' := Cs [(q, .inr (7, fsX7))]) (fun h hh => ?_) ?_
  · obtain ⟨h0, -, -, rfl⟩ := hh
    exact ⟨fun p hp => by rw [List.mem_singleton.mp hp]; exact hset_same _ _ _, List.nodup_cons.mpr ⟨List.not_mem_nil, List.nodup_nil⟩⟩
  refine x_dup (pc := 3) O.1 dL_law_3 rfl ?_
  refine x_callI (pc := 4) (rest := [.ref q]) (As := []) O.1 (c_X7_init l E q) rfl dL_law_4 cbL_9 im_yX7_init rfl rfl (Nat.le_of_ble_eq_true rfl) ⟨Nat.le_of_ble_eq_true rfl, Nat.le_of_ble_eq_true rfl⟩ ⟨Nat.le_of_ble_eq_true rfl, Nat.le_of_ble_eq_true rfl⟩ (fun adr => x_pure O.1 (fun hq => ?_))
  refine x_astore_n (pc := 7) (j := 1) O.1 dL_law_7 (by decide) rfl rfl ?_
  refine x_new (P' := fun _ => True) (ci := 8) (N := 44) (fs := ifs 0 (fun _ => 0)) (pc := 8) O.1 tyX8 dL_law_8 rfl inlX8 tyX8_ok clL_10 in_RX8 ini_RX8 (fsX8_ok _) (Nat.le_of_ble_eq_true rfl) (Nat.le_of_ble_eq_true rfl) (fun o => ?_)
  refine x_imp O.1 (P' := Star (CV E adr V0c VL0c 0 0 ch0c) (PIb E o 0 (fun _ => 0))) (fun h hh => ?_) ?_
  · obtain ⟨h0, g1, g2, rfl⟩ := hh
    refine ⟨h0, fun a => if a = o then some (.inr (8, ifs 0 (fun _ => 0))) else none, g1, ⟨if_pos rfl, fun k hk => absurd hk (Nat.not_lt_zero _), fun _ _ hk => absurd hk (Nat.not_lt_zero _)⟩, fun a => ?_, ?_⟩
    · by_cases c : a = o
      · exact Or.inl (by rw [c]; exact g2)
      · exact Or.inr (if_neg c)
    · funext a
      unfold hset hor
      by_cases c : a = o
      · rw [c, g2]
      · rw [if_neg c]
        cases h0 a <;> simp [c]
  refine x_dup (pc := 11) O.1 dL_law_11 rfl ?_
  refine x_callI (pc := 12) (rest := [.ref o]) (As := []) O.1 (Mt_frameR _ (c_X8_init l E o (fun _ => 0))) rfl dL_law_12 cbL_12 im_yX8_init rfl rfl (Nat.le_of_ble_eq_true rfl) ⟨Nat.le_of_ble_eq_true rfl, Nat.le_of_ble_eq_true rfl⟩ ⟨Nat.le_of_ble_eq_true rfl, Nat.le_of_ble_eq_true rfl⟩ (fun x => ?_)
  refine x_imp O.1 (P' := fun h => ini 120 x.2 ∧ Star (CV E adr V0c VL0c 0 0 ch0c) (RV E o x.1 x.2.1 x.2.2.1 x.2.2.2) h) (fun h hh => ?_) (x_pure O.1 (fun hi => ?_))
  · obtain ⟨f, g, g1, ⟨g2, g3⟩, g4, g5⟩ := hh
    exact ⟨g2, f, g, g1, g3, g4, g5⟩
  refine x_astore_n (pc := 15) (j := 2) O.1 dL_law_15 (by decide) rfl rfl ?_
  refine x_iconst (pc := 16) (v := 0) O.1 dL_law_16 (by decide) ?_
  refine x_istore_n (pc := 17) (j := 3) O.1 dL_law_17 (by decide) rfl ?_
  exact law_loop O hL q o L 0 (by omega) (Nat.zero_le _) adr V0c VL0c 0 0 ch0c x.1 x.2.1 x.2.2.1 x.2.2.2 0 120 _ _ hq (Rel0 hi) (Nat.le_refl _) (by omega) (Nat.le_of_ble_eq_true rfl) (Nat.le_of_ble_eq_true rfl)
