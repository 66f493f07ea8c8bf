/-! ===== CLS 5: custom, person, suit ===== -/
theorem hfsX0 : ∀ j, j < 7 → defaultValue (tyX0 j) = vp_V [.int 0, .int 0, .int 0, .int 0, .int 0, .int 0, .int 0] j := by
  intro j hj
  rcases (show j = 0 ∨ j = 1 ∨ j = 2 ∨ j = 3 ∨ j = 4 ∨ j = 5 ∨ j = 6 by omega) with rfl | rfl | rfl | rfl | rfl | rfl | rfl <;> rfl
theorem hfsX4 : ∀ j, j < 14 → defaultValue (tyX4 j) = vp_V [.int 0, .int 0, .int 0, .int 0, .int 0, .int 0, .int 0, .int 0, .int 0, .int 0, .int 0, .int 0, .long 0, .long 0] j := by
  intro j hj
  rcases (show j = 0 ∨ j = 1 ∨ j = 2 ∨ j = 3 ∨ j = 4 ∨ j = 5 ∨ j = 6 ∨ j = 7 ∨ j = 8 ∨ j = 9 ∨ j = 10 ∨ j = 11 ∨ j = 12 ∨ j = 13 by omega) with rfl | rfl | rfl | rfl | rfl | rfl | rfl | rfl | rfl | rfl | rfl | rfl | rfl | rfl <;> rfl
theorem hfsX6 : ∀ j, j < 7 → defaultValue (tyX6 j) = vp_V [.int 0, .int 0, .int 0, .int 0, .int 0, .int 0, .int 0] j := by
  intro j hj
  rcases (show j = 0 ∨ j = 1 ∨ j = 2 ∨ j = 3 ∨ j = 4 ∨ j = 5 ∨ j = 6 by omega) with rfl | rfl | rfl | rfl | rfl | rfl | rfl <;> rfl
theorem hfsX5 : ∀ j, j < 4 → defaultValue (tyX5 j) = vp_V [.int 0, .int 0, .int 0, .null] j := by
  intro j hj
  rcases (show j = 0 ∨ j = 1 ∨ j = 2 ∨ j = 3 by omega) with rfl | rfl | rfl | rfl <;> rfl
theorem cv_cust {l : Launch} {E : En} {cc : ByteArray} {own nm : String} {nL : Nat} {R : Room} {ret : Option FieldType} {Fn : Ft} {J : Jt} (O : Ok l E cc own nm nL R ret Fn J) {pc index q : Nat} {v : Nat → Int32} {C : String} {adr : Nat → Nat → Nat} {V : Nat → Nat → Nat → Int32} {VL : Nat → Nat → Nat → Int64} {m ns : Nat} {ch : Nat → List Rt} {ce sl : Nat} {lv : LV} {st : List Value} (dd : decode cc pc = .ok (.putfield index, 3)) (hl : FP own index 7 1 (.object C) false) (kk : J (CV E (up0 adr 0 0 q) (up0 V 0 0 v) VL m ns ch) ce sl (pc + 3) lv st) : J (Nq (CV E adr V VL m ns ch) q (.inr (0, fs0 v))) ce sl pc lv (.ref q :: .ref (adr 0 7) :: st) :=
  x_put O dd hl rfl rfl (fun h H => CV.cust H) kk
theorem cv_addP {l : Launch} {E : En} {cc : ByteArray} {own nm : String} {nL : Nat} {R : Room} {ret : Option FieldType} {Fn : Ft} {J : Jt} (O : Ok l E cc own nm nL R ret Fn J) {pc q : Nat} {v : Nat → Int32} {x : Nat → Int64} {adr : Nat → Nat → Nat} {V : Nat → Nat → Nat → Int32} {VL : Nat → Nat → Nat → Int64} {m ns : Nat} {ch : Nat → List Rt} {ce sl : Nat} {lv : LV} {st : List Value} (dd : decode cc pc = .ok (.aastore, 1)) (hm : m < 60) (kk : J (CV E (up0 adr 1 m q) (up0 V 1 m v) (up0 VL 1 m x) (m + 1) ns ch) ce sl (pc + 1) lv st) : J (Nq (CV E adr V VL m ns ch) q (.inr (4, fs4 v x))) ce sl pc lv (.ref q :: .int (nI m) :: .ref (adr 0 10) :: st) := by
  refine x_aast (t0 := 2) (ci := 4) (r := (RX4, TX4, 14)) O dd rfl rfl (fun h H => ⟨60, _, _, H.drop.pers, H.at, ?_, ?_⟩) kk
  · intro h9
    rw [nI_clamp (by omega)] at h9
    rcases h9 with h9 | h9
    · exact nI_pos (by omega) h9
    · omega
  · rw [nI_clamp (by omega)]; exact CV.addP H
theorem cv_addS {l : Launch} {E : En} {cc : ByteArray} {own nm : String} {nL : Nat} {R : Room} {ret : Option FieldType} {Fn : Ft} {J : Jt} (O : Ok l E cc own nm nL R ret Fn J) {pc q : Nat} {v : Nat → Int32} {adr : Nat → Nat → Nat} {V : Nat → Nat → Nat → Int32} {VL : Nat → Nat → Nat → Int64} {m ns : Nat} {ch : Nat → List Rt} {ce sl : Nat} {lv : LV} {st : List Value} (dd : decode cc pc = .ok (.aastore, 1)) (hm : ns < 40) (kk : J (CV E (up0 adr 2 ns q) (up0 V 2 ns v) VL m (ns + 1) ch) ce sl (pc + 1) lv st) : J (Nq (CV E adr V VL m ns ch) q (.inr (6, fs0 v))) ce sl pc lv (.ref q :: .int (nI ns) :: .ref (adr 0 12) :: st) := by
  refine x_aast (t0 := 4) (ci := 6) (r := (RX6, TX6, 7)) O dd rfl rfl (fun h H => ⟨40, _, _, H.drop.suits, H.at, ?_, ?_⟩) kk
  · intro h9
    rw [nI_clamp (by omega)] at h9
    rcases h9 with h9 | h9
    · exact nI_pos (by omega) h9
    · omega
  · rw [nI_clamp (by omega)]; exact CV.addS H
abbrev cuBad (what dues : Int32) : Prop := what < 0 ∨ ¬ rem what 10 = 0 ∨ 2 < what / 100000 ∨ 12 < rem (what / 1000) 100 ∨ 3 < rem (what / 100) 10 ∨ 3 < rem (what / 10) 10 ∨ ¬ (0 ≤ dues ∧ dues ≤ 999999)
set_option maxRecDepth 100000 in
set_option maxHeartbeats 4000000 in
theorem c_X0_canBe (l : Launch) (E : En) (adr : Nat → Nat → Nat) (V : Nat → Nat → Nat → Int32) (VL : Nat → Nat → Nat → Int64) (m ns : Nat) (ch : Nat → List Rt) (what dues : Int32)  : Mt l E yX0_canBe cX0_canBe 3 (some .boolean) (rmX 2 46 1 7) [.int what, .int dues] (CV E adr V VL m ns ch) (fun _ : Unit => some (.int (b2i (¬ cuBad what dues)))) (fun _ => CV E adr V VL m ns ch) := by
  refine Mt_of (by decide +kernel) (Nat.le_of_ble_eq_true rfl) (fun J O => ?_)
  show J _ 0 0 0 [some (.int what), some (.int dues), none] []
  refine x_iload_n (pc := 0) O dX0_canBe_0 rfl ?_
  refine x_if_lt (pc := 1) O 21 dX0_canBe_1 (by decide) (fun c1 => ?_) (fun c1 => ?_)
  · refine x_iconst (v := 0) (pc := 21) O dX0_canBe_21 (by decide) ?_
    exact x_ret (v := some (.int 0)) (pc := 22) O dX0_canBe_22 rfl rfl ⟨Nat.zero_le _, Nat.zero_le _, (), congrArg (fun z => some (Value.int z)) (b2i_f (fun z => z (Or.inl c1))).symm, fun h hh => hh⟩
  · refine x_iload_n (pc := 4) O dX0_canBe_4 rfl ?_
    refine x_bipush (v := 10) (pc := 5) O dX0_canBe_5 (by decide) ?_
    refine x_irem (pc := 7) O dX0_canBe_7 (by decide) ?_
    refine x_if_ne (pc := 8) O 21 dX0_canBe_8 (by decide) (fun c8 => ?_) (fun c8 => ?_)
    · refine x_iconst (v := 0) (pc := 21) O dX0_canBe_21 (by decide) ?_
      exact x_ret (v := some (.int 0)) (pc := 22) O dX0_canBe_22 rfl rfl ⟨Nat.zero_le _, Nat.zero_le _, (), congrArg (fun z => some (Value.int z)) (b2i_f (fun z => z (Or.inr (Or.inl c8)))).symm, fun h hh => hh⟩
    · refine x_iload_n (pc := 11) O dX0_canBe_11 rfl ?_
      refine x_if_lt (pc := 12) O 21 dX0_canBe_12 (by decide) (fun c12 => ?_) (fun c12 => ?_)
      · refine x_iconst (v := 0) (pc := 21) O dX0_canBe_21 (by decide) ?_
        exact x_ret (v := some (.int 0)) (pc := 22) O dX0_canBe_22 rfl rfl ⟨Nat.zero_le _, Nat.zero_le _, (), congrArg (fun z => some (Value.int z)) (b2i_f (fun z => z (Or.inr (Or.inr (Or.inr (Or.inr (Or.inr (Or.inr (fun z => absurd c12 (Int32.not_lt.mpr z.1)))))))))).symm, fun h hh => hh⟩
      · refine x_iload_n (pc := 15) O dX0_canBe_15 rfl ?_
        refine x_ldc (pc := 16) O dX0_canBe_16 cnX0_34 ?_
        refine x_icmp_le (pc := 18) O 23 dX0_canBe_18 (by decide) (fun c18 => ?_) (fun c18 => ?_)
        · refine x_new (P' := CV E adr V VL m ns ch) (ci := 0) (N := 7) (fs := [.int 0, .int 0, .int 0, .int 0, .int 0, .int 0, .int 0]) (pc := 23) O tyX0 dX0_canBe_23 rfl inlX0 tyX0_ok clX0_11 in_RX0 ini_RX0 hfsX0 (Nat.le_of_ble_eq_true rfl) (Nat.le_of_ble_eq_true rfl) (fun q => ?_)
          show J (Nq (CV E adr V VL m ns ch) q (.inr (0, [.int 0, .int 0, .int 0, .int 0, .int 0, .int 0, .int 0]))) _ _ _ _ _
          refine x_dup (pc := 26) O dX0_canBe_26 rfl ?_
          refine x_iload_n (pc := 27) O dX0_canBe_27 rfl ?_
          refine x_iload_n (pc := 28) O dX0_canBe_28 rfl ?_
          refine x_callI (pc := 29) (rest := [.ref q]) O (c_X0_init l E _ q what dues) rfl dX0_canBe_29 cbX0_35 im_yX0_init rfl rfl (Nat.le_of_ble_eq_true rfl) ⟨Nat.le_of_ble_eq_true rfl, Nat.le_of_ble_eq_true rfl⟩ ⟨Nat.le_of_ble_eq_true rfl, Nat.le_of_ble_eq_true rfl⟩ (fun _ => ?_)
          dsimp only [Option.toList, List.append, List.nil_append, List.cons_append, Nat.add_zero, Nat.reduceAdd]
          refine x_astore_n (pc := 32) O dX0_canBe_32 (by decide) rfl rfl ?_
          refine x_aload_n (pc := 33) O dX0_canBe_33 rfl rfl ?_
          refine nq_get (pc := 34) O dX0_canBe_34 fdX0_10 rfl ?_
          refine x_iconst (v := 2) (pc := 37) O dX0_canBe_37 (by decide) ?_
          refine x_icmp_gt (pc := 38) O 70 dX0_canBe_38 (by decide) (fun c38 => ?_) (fun c38 => ?_)
          · refine x_iconst (v := 0) (pc := 70) O dX0_canBe_70 (by decide) ?_
            exact x_ret (v := some (.int 0)) (pc := 71) O dX0_canBe_71 rfl rfl ⟨Nat.le_refl _, Nat.le_refl _, (), congrArg (fun z => some (Value.int z)) (b2i_f (fun z => z (Or.inr (Or.inr (Or.inl c38))))).symm, fun h hh => Nq.drop hh⟩
          · refine x_aload_n (pc := 41) O dX0_canBe_41 rfl rfl ?_
            refine nq_get (pc := 42) O dX0_canBe_42 fdX0_16 rfl ?_
            refine x_bipush (v := 12) (pc := 45) O dX0_canBe_45 (by decide) ?_
            refine x_icmp_gt (pc := 47) O 70 dX0_canBe_47 (by decide) (fun c47 => ?_) (fun c47 => ?_)
            · refine x_iconst (v := 0) (pc := 70) O dX0_canBe_70 (by decide) ?_
              exact x_ret (v := some (.int 0)) (pc := 71) O dX0_canBe_71 rfl rfl ⟨Nat.le_refl _, Nat.le_refl _, (), congrArg (fun z => some (Value.int z)) (b2i_f (fun z => z (Or.inr (Or.inr (Or.inr (Or.inl c47)))))).symm, fun h hh => Nq.drop hh⟩
            · refine x_aload_n (pc := 50) O dX0_canBe_50 rfl rfl ?_
              refine nq_get (pc := 51) O dX0_canBe_51 fdX0_19 rfl ?_
              refine x_iconst (v := 3) (pc := 54) O dX0_canBe_54 (by decide) ?_
              refine x_icmp_gt (pc := 55) O 70 dX0_canBe_55 (by decide) (fun c55 => ?_) (fun c55 => ?_)
              · refine x_iconst (v := 0) (pc := 70) O dX0_canBe_70 (by decide) ?_
                exact x_ret (v := some (.int 0)) (pc := 71) O dX0_canBe_71 rfl rfl ⟨Nat.le_refl _, Nat.le_refl _, (), congrArg (fun z => some (Value.int z)) (b2i_f (fun z => z (Or.inr (Or.inr (Or.inr (Or.inr (Or.inl c55))))))).symm, fun h hh => Nq.drop hh⟩
              · refine x_aload_n (pc := 58) O dX0_canBe_58 rfl rfl ?_
                refine nq_get (pc := 59) O dX0_canBe_59 fdX0_22 rfl ?_
                refine x_iconst (v := 3) (pc := 62) O dX0_canBe_62 (by decide) ?_
                refine x_icmp_gt (pc := 63) O 70 dX0_canBe_63 (by decide) (fun c63 => ?_) (fun c63 => ?_)
                · refine x_iconst (v := 0) (pc := 70) O dX0_canBe_70 (by decide) ?_
                  exact x_ret (v := some (.int 0)) (pc := 71) O dX0_canBe_71 rfl rfl ⟨Nat.le_refl _, Nat.le_refl _, (), congrArg (fun z => some (Value.int z)) (b2i_f (fun z => z (Or.inr (Or.inr (Or.inr (Or.inr (Or.inr (Or.inl c63)))))))).symm, fun h hh => Nq.drop hh⟩
                · refine x_iconst (v := 1) (pc := 66) O dX0_canBe_66 (by decide) ?_
                  refine x_goto (pc := 67) O 71 dX0_canBe_67 (by decide) ?_
                  exact x_ret (v := some (.int 1)) (pc := 71) O dX0_canBe_71 rfl rfl ⟨Nat.le_refl _, Nat.le_refl _, (), congrArg (fun z => some (Value.int z)) (b2i_t (p := ¬ cuBad what dues) (fun z => z.elim c1 (fun z => z.elim (fun z => z c8) (fun z => z.elim c38 (fun z => z.elim c47 (fun z => z.elim c55 (fun z => z.elim c63 (fun z => z ⟨Int32.not_lt.mp c12, c18⟩)))))))).symm, fun h hh => Nq.drop hh⟩
        · refine x_iconst (v := 0) (pc := 21) O dX0_canBe_21 (by decide) ?_
          exact x_ret (v := some (.int 0)) (pc := 22) O dX0_canBe_22 rfl rfl ⟨Nat.zero_le _, Nat.zero_le _, (), congrArg (fun z => some (Value.int z)) (b2i_f (fun z => z (Or.inr (Or.inr (Or.inr (Or.inr (Or.inr (Or.inr (fun z => c18 z.2))))))))).symm, fun h hh => hh⟩
set_option maxRecDepth 100000 in
set_option maxHeartbeats 4000000 in
theorem c_X7_custom (l : Launch) (E : En) (adr : Nat → Nat → Nat) (V : Nat → Nat → Nat → Int32) (VL : Nat → Nat → Nat → Int64) (m ns : Nat) (ch : Nat → List Rt) (what dues : Int32)  : Mt l E yX7_custom cX7_custom 3 (some .int) (rmX 3 68 2 14) [.ref (adr 0 7), .int what, .int dues] (CV E adr V VL m ns ch) (fun _ : Nat => some (.int (if cuBad what dues then -1 else V 0 7 2 + 1))) (fun q => if cuBad what dues then CV E adr V VL m ns ch else CV E (up0 adr 0 0 q) (up3 (up0 V 0 0 (cuV what dues)) 0 7 2 (V 0 7 2 + 1)) VL m ns ch) := by
  refine Mt_of (by decide +kernel) (Nat.le_of_ble_eq_true rfl) (fun J O => ?_)
  show J _ 0 0 0 [some (.ref (adr 0 7)), some (.int what), some (.int dues)] []
  refine x_iload_n (pc := 0) O dX7_custom_0 rfl ?_
  refine x_iload_n (pc := 1) O dX7_custom_1 rfl ?_
  refine x_callS (pc := 2) (rest := _) O (c_X0_canBe l E _ _ _ _ _ _ what dues) dX7_custom_2 cbX7_60 sm_yX0_canBe rfl rfl (Nat.le_of_ble_eq_true rfl) ⟨Nat.le_of_ble_eq_true rfl, Nat.le_of_ble_eq_true rfl⟩ ⟨Nat.le_of_ble_eq_true rfl, Nat.le_of_ble_eq_true rfl⟩ (fun _ => ?_)
  dsimp only [Option.toList, List.append, List.nil_append, List.cons_append, Nat.add_zero, Nat.reduceAdd]
  refine x_if_ne (pc := 5) O 10 dX7_custom_5 (by decide) (fun c5 => ?_) (fun c5 => ?_)
  · refine x_aload_n (pc := 10) O dX7_custom_10 rfl rfl ?_
    refine x_new (P' := CV E adr V VL m ns ch) (ci := 0) (N := 7) (fs := [.int 0, .int 0, .int 0, .int 0, .int 0, .int 0, .int 0]) (pc := 11) O tyX0 dX7_custom_11 rfl inlX0 tyX0_ok clX7_13 in_RX0 ini_RX0 hfsX0 (Nat.le_of_ble_eq_true rfl) (Nat.le_of_ble_eq_true rfl) (fun q => ?_)
    show J (Nq (CV E adr V VL m ns ch) q (.inr (0, [.int 0, .int 0, .int 0, .int 0, .int 0, .int 0, .int 0]))) _ _ _ _ _
    refine x_dup (pc := 14) O dX7_custom_14 rfl ?_
    refine x_iload_n (pc := 15) O dX7_custom_15 rfl ?_
    refine x_iload_n (pc := 16) O dX7_custom_16 rfl ?_
    refine x_callI (pc := 17) (rest := [.ref q, .ref (adr 0 7)]) O (c_X0_init l E _ q what dues) rfl dX7_custom_17 cbX7_15 im_yX0_init rfl rfl (Nat.le_of_ble_eq_true rfl) ⟨Nat.le_of_ble_eq_true rfl, Nat.le_of_ble_eq_true rfl⟩ ⟨Nat.le_of_ble_eq_true rfl, Nat.le_of_ble_eq_true rfl⟩ (fun _ => ?_)
    dsimp only [Option.toList, List.append, List.nil_append, List.cons_append, Nat.add_zero, Nat.reduceAdd]
    refine cv_cust (pc := 20) O dX7_custom_20 fpX7_18 ?_
    refine x_aload_n (pc := 23) O dX7_custom_23 rfl rfl ?_
    refine x_dup (pc := 24) O dX7_custom_24 rfl ?_
    show J _ _ _ _ _ (.ref (up0 adr 0 0 q 0 7) :: _)
    refine cv_get (t := 0) (n := 7) (pc := 25) O dX7_custom_25 fdX7_22 rfl rfl rfl ?_
    refine x_iconst (v := 1) (pc := 28) O dX7_custom_28 (by decide) ?_
    refine x_iadd (pc := 29) O dX7_custom_29 ?_
    show J _ _ _ _ _ (_ :: .ref (up0 adr 0 0 q 0 7) :: _)
    refine cv_put (t := 0) (n := 7) (pc := 30) O dX7_custom_30 fpX7_22 rfl rfl rfl rfl (Nat.le_of_ble_eq_true rfl) rfl ?_
    refine x_aload_n (pc := 33) O dX7_custom_33 rfl rfl ?_
    show J _ _ _ _ _ (.ref (up0 adr 0 0 q 0 7) :: _)
    refine cv_get (t := 0) (n := 7) (pc := 34) O dX7_custom_34 fdX7_22 rfl rfl rfl ?_
    have hcb := b2i_n0 c5
    exact x_ret (v := some (.int _)) (pc := 37) O dX7_custom_37 rfl rfl ⟨Nat.le_of_ble_eq_true rfl, Nat.le_of_ble_eq_true rfl, q, congrArg (fun z => some (Value.int z)) (if_neg hcb).symm, fun h hh => by show (if _ then _ else _ : HP) h; rw [if_neg hcb]; exact hh⟩
  · refine x_iconst (v := (-1)) (pc := 8) O dX7_custom_8 (by decide) ?_
    have hcb := b2i_z c5
    have hcb2 := Classical.not_not.mp hcb
    exact x_ret (v := some (.int (-1))) (pc := 9) O dX7_custom_9 rfl rfl ⟨Nat.le_of_ble_eq_true rfl, Nat.le_of_ble_eq_true rfl, 0, congrArg (fun z => some (Value.int z)) (if_pos hcb2).symm, fun h hh => by show (if _ then _ else _ : HP) h; rw [if_pos hcb2]; exact hh⟩
def adK (VL : Nat → Nat → Nat → Int64) (p c : Nat) (s : Int32) : Nat → Nat → Nat → Int64 := if s = 0 then up3 VL 1 p 12 (VL 1 p 12 ||| ((1 : Int64) <<< ((nI c).toInt64 &&& 63))) else up3 VL 1 p 13 (VL 1 p 13 ||| ((1 : Int64) <<< ((nI c).toInt64 &&& 63)))
def adC (VL : Nat → Nat → Nat → Int64) (m : Nat) (x : Int32) (c : Nat) (s : Int32) : Nat → Nat → Nat → Int64 := if 0 ≤ x ∧ x ≤ nI m - 1 then adK VL x.toNatClampNeg c s else VL
set_option maxRecDepth 100000 in
set_option maxHeartbeats 4000000 in
theorem c_X3_addChildTo (l : Launch) (E : En) (adr : Nat → Nat → Nat) (V : Nat → Nat → Nat → Int32) (VL : Nat → Nat → Nat → Int64) (m ns : Nat) (ch : Nat → List Rt) (x : Int32) (c : Nat) (s : Int32) (hc : V 0 3 1 = nI m) (h60 : m ≤ 60) : Mt l E yX3_addChildTo cX3_addChildTo 5 none (rmX 1 22 0 0) [.ref (adr 0 3), .int x, .int (nI c), .int s] (CV E adr V VL m ns ch) (fun _ : Unit => none) (fun _ => CV E adr V (adC VL m x c s) m ns ch) := by
  refine Mt_of (by decide +kernel) (Nat.le_of_ble_eq_true rfl) (fun J O => ?_)
  show J _ 0 0 0 [some (.ref (adr 0 3)), some (.int x), some (.int (nI c)), some (.int s), none] []
  refine x_aload_n (pc := 0) O dX3_addChildTo_0 rfl rfl ?_
  refine x_iload_n (pc := 1) O dX3_addChildTo_1 rfl ?_
  rcases noP_or m x with ⟨j, hj, rfl⟩ | hno
  · refine x_callV (pc := 2) (rest := []) (ci := 3) O (c_X3_find l E _ _ _ _ _ _ j hc h60 hj) dX3_addChildTo_2 cbX3_21 im_yX3_find se_yX3_find rfl (cv_recv (t := 0) (n := 3) rfl rfl) rfl rfl (Nat.le_of_ble_eq_true rfl) ⟨Nat.le_of_ble_eq_true rfl, Nat.le_of_ble_eq_true rfl⟩ ⟨Nat.le_of_ble_eq_true rfl, Nat.le_of_ble_eq_true rfl⟩ (fun _ => ?_)
    dsimp only [Option.toList, List.append, List.nil_append, List.cons_append, Nat.add_zero, Nat.reduceAdd]
    refine x_astore (pc := 5) O dX3_addChildTo_5 (by decide) rfl rfl ?_
    refine x_aload (pc := 7) O dX3_addChildTo_7 rfl rfl ?_
    refine x_ifnull (pc := 9) O dX3_addChildTo_9 ?_
    refine x_aload (pc := 12) O dX3_addChildTo_12 rfl rfl ?_
    refine x_iload_n (pc := 14) O dX3_addChildTo_14 rfl ?_
    refine x_iload_n (pc := 15) O dX3_addChildTo_15 rfl ?_
    refine x_callV (pc := 16) (rest := []) (ci := 4) O (c_X4_addChild l E _ _ _ _ _ _ j c s hj) dX3_addChildTo_16 cbX3_42 im_yX4_addChild se_yX4_addChild rfl (cv_recv (okC1 hj) rfl) rfl rfl (Nat.le_of_ble_eq_true rfl) ⟨Nat.le_of_ble_eq_true rfl, Nat.le_of_ble_eq_true rfl⟩ ⟨Nat.le_of_ble_eq_true rfl, Nat.le_of_ble_eq_true rfl⟩ (fun _ => ?_)
    dsimp only [Option.toList, List.append, List.nil_append, List.cons_append, Nat.add_zero, Nat.reduceAdd]
    exact x_ret (v := none) (pc := 19) O dX3_addChildTo_19 rfl trivial ⟨Nat.le_refl _, Nat.le_refl _, (), rfl, fun h hh => by unfold adC; rw [if_pos (nat_in rfl (by omega) hj), nI_clamp (by omega)]; exact hh⟩
  · refine x_callV (pc := 2) (rest := []) (ci := 3) O (c_X3_find_no l E _ _ _ _ _ _ _ hc h60 hno) dX3_addChildTo_2 cbX3_21 im_yX3_find se_yX3_find rfl (cv_recv (t := 0) (n := 3) rfl rfl) rfl rfl (Nat.le_of_ble_eq_true rfl) ⟨Nat.le_of_ble_eq_true rfl, Nat.le_of_ble_eq_true rfl⟩ ⟨Nat.le_of_ble_eq_true rfl, Nat.le_of_ble_eq_true rfl⟩ (fun _ => ?_)
    dsimp only [Option.toList, List.append, List.nil_append, List.cons_append, Nat.add_zero, Nat.reduceAdd]
    refine x_astore (pc := 5) O dX3_addChildTo_5 (by decide) rfl rfl ?_
    refine x_aload (pc := 7) O dX3_addChildTo_7 rfl rfl ?_
    refine x_ifnullN (pc := 9) O 19 dX3_addChildTo_9 (by decide) ?_
    exact x_ret (v := none) (pc := 19) O dX3_addChildTo_19 rfl trivial ⟨Nat.le_refl _, Nat.le_refl _, (), rfl, fun h hh => by unfold adC; rw [if_neg (inP_no (by omega) hno)]; exact hh⟩
set_option maxRecDepth 100000 in
set_option maxHeartbeats 4000000 in
theorem c_X3_add (l : Launch) (E : En) (adr : Nat → Nat → Nat) (V : Nat → Nat → Nat → Int32) (VL : Nat → Nat → Nat → Int64) (m ns : Nat) (ch : Nat → List Rt) (q : Nat) (v : Nat → Int32) (x : Nat → Int64) (hc : V 0 3 1 = nI m) (hm : m < 60) : Mt l E yX3_add cX3_add 3 (some .int) (rmX 2 46 0 0) [.ref (adr 0 3), .ref q] (Nq (CV E adr V VL m ns ch) q (.inr (4, fs4 v x))) (fun _ : Unit => some (.int (nI m))) (fun _ => CV E (up0 adr 1 m q) (up3 (up0 V 1 m v) 0 3 1 (nI m + 1)) (adC (adC (up0 VL 1 m x) (m + 1) (v 1) m (v 0)) (m + 1) (v 2) m (v 0)) (m + 1) ns ch) := by
  refine Mt_of (by decide +kernel) (Nat.le_of_ble_eq_true rfl) (fun J O => ?_)
  show J _ 0 0 0 [some (.ref (adr 0 3)), some (.ref q), none] []
  refine x_aload_n (pc := 0) O dX3_add_0 rfl rfl ?_
  refine cvP_get (t := 0) (n := 3) (pc := 1) O (fun _ h9 => Nq.drop h9) dX3_add_1 fdX3_17 rfl rfl rfl ?_
  rw [hc]
  refine x_istore_n (pc := 4) O dX3_add_4 (by decide) rfl ?_
  refine x_iload_n (pc := 5) O dX3_add_5 rfl ?_
  refine x_if_lt (pc := 6) O 18 dX3_add_6 (by decide) (fun c6 => absurd c6 (nI_pos (by omega))) (fun c6 => ?_)
  refine x_iload_n (pc := 9) O dX3_add_9 rfl ?_
  refine x_aload_n (pc := 10) O dX3_add_10 rfl rfl ?_
  refine cvP_get (t := 0) (n := 3) (pc := 11) O (fun _ h9 => Nq.drop h9) dX3_add_11 fdX3_11 rfl rfl rfl ?_
  refine cv_plen (pc := 14) O (fun _ h9 => Nq.drop h9) dX3_add_14 ?_
  refine x_icmp_lt (pc := 15) O 20 dX3_add_15 (by decide) (fun c15 => ?_) (fun c15 => absurd ((nI_ltI (by omega) (by omega)).mpr hm) c15)
  refine x_aload_n (pc := 20) O dX3_add_20 rfl rfl ?_
  refine cvP_get (t := 0) (n := 3) (pc := 21) O (fun _ h9 => Nq.drop h9) dX3_add_21 fdX3_11 rfl rfl rfl ?_
  refine x_iload_n (pc := 24) O dX3_add_24 rfl ?_
  refine x_aload_n (pc := 25) O dX3_add_25 rfl rfl ?_
  refine cv_addP (pc := 26) O dX3_add_26 hm ?_
  refine x_aload_n (pc := 27) O dX3_add_27 rfl rfl ?_
  refine x_dup (pc := 28) O dX3_add_28 rfl ?_
  show J _ _ _ _ _ (.ref ((up0 adr 1 m q) 0 3) :: _)
  refine cv_get (t := 0) (n := 3) (pc := 29) O dX3_add_29 fdX3_17 rfl rfl rfl ?_
  show J _ _ _ _ _ (.int (V 0 3 1) :: _)
  rw [hc]
  refine x_iconst (v := 1) (pc := 32) O dX3_add_32 (by decide) ?_
  refine x_iadd (pc := 33) O dX3_add_33 ?_
  show J _ _ _ _ _ (_ :: .ref ((up0 adr 1 m q) 0 3) :: _)
  refine cv_put (t := 0) (n := 3) (pc := 34) O dX3_add_34 fpX3_17 rfl rfl rfl rfl (Nat.le_of_ble_eq_true rfl) rfl ?_
  have hc2 : (up3 (up0 V 1 m v) 0 3 1 (nI m + 1)) 0 3 1 = nI (m + 1) := by
    rw [up3_eq, va_up_self]; exact (nI_succ m).symm
  have h60 : m + 1 ≤ 60 := hm
  have e4 : ∀ k, (up3 (up0 V 1 m v) 0 3 1 (nI m + 1)) 1 m k = v k := fun k => by rw [up3_ne _ _ _ (fun z => absurd z.1 (by decide)), up0_eq]
  have eq : (up0 adr 1 m q) 1 m = q := up0_eq _ _ _ _
  refine x_aload_n (pc := 37) O dX3_add_37 rfl rfl ?_
  refine x_aload_n (pc := 38) O dX3_add_38 rfl rfl ?_
  show J _ _ _ _ _ (.ref q :: _)
  rw [show (Value.ref q) = .ref ((up0 adr 1 m q) 1 m) from by rw [eq]]
  refine cv_get (t := 1) (n := m) (pc := 39) O dX3_add_39 fdX3_32 (okC1 (Nat.lt_succ_self m)) rfl rfl ?_
  show J _ _ _ _ _ (.int ((up3 (up0 V 1 m v) 0 3 1 (nI m + 1)) 1 m 1) :: _)
  rw [e4]
  refine x_iload_n (pc := 42) O dX3_add_42 rfl ?_
  refine x_aload_n (pc := 43) O dX3_add_43 rfl rfl ?_
  refine cv_get (t := 1) (n := m) (pc := 44) O dX3_add_44 fdX3_29 (okC1 (Nat.lt_succ_self m)) rfl rfl ?_
  show J _ _ _ _ _ (.int ((up3 (up0 V 1 m v) 0 3 1 (nI m + 1)) 1 m 0) :: _)
  rw [e4]
  refine x_callV (pc := 47) (rest := []) (ci := 3) O (c_X3_addChildTo l E (up0 adr 1 m q) _ _ _ _ _ (v 1) m (v 0) hc2 h60) dX3_add_47 cbX3_35 im_yX3_addChildTo se_yX3_addChildTo rfl (cv_recv (t := 0) (n := 3) rfl rfl) rfl rfl (Nat.le_of_ble_eq_true rfl) ⟨Nat.le_of_ble_eq_true rfl, Nat.le_of_ble_eq_true rfl⟩ ⟨Nat.le_of_ble_eq_true rfl, Nat.le_of_ble_eq_true rfl⟩ (fun _ => ?_)
  dsimp only [Option.toList, List.append, List.nil_append, List.cons_append, Nat.add_zero, Nat.reduceAdd]
  refine x_aload_n (pc := 50) O dX3_add_50 rfl rfl ?_
  refine x_aload_n (pc := 51) O dX3_add_51 rfl rfl ?_
  refine cv_get (t := 1) (n := m) (pc := 52) O dX3_add_52 fdX3_39 (okC1 (Nat.lt_succ_self m)) rfl rfl ?_
  show J _ _ _ _ _ (.int ((up3 (up0 V 1 m v) 0 3 1 (nI m + 1)) 1 m 2) :: _)
  rw [e4]
  refine x_iload_n (pc := 55) O dX3_add_55 rfl ?_
  refine x_aload_n (pc := 56) O dX3_add_56 rfl rfl ?_
  refine cv_get (t := 1) (n := m) (pc := 57) O dX3_add_57 fdX3_29 (okC1 (Nat.lt_succ_self m)) rfl rfl ?_
  show J _ _ _ _ _ (.int ((up3 (up0 V 1 m v) 0 3 1 (nI m + 1)) 1 m 0) :: _)
  rw [e4]
  refine x_callV (pc := 60) (rest := []) (ci := 3) O (c_X3_addChildTo l E (up0 adr 1 m q) _ _ _ _ _ (v 2) m (v 0) hc2 h60) dX3_add_60 cbX3_35 im_yX3_addChildTo se_yX3_addChildTo rfl (cv_recv (t := 0) (n := 3) rfl rfl) rfl rfl (Nat.le_of_ble_eq_true rfl) ⟨Nat.le_of_ble_eq_true rfl, Nat.le_of_ble_eq_true rfl⟩ ⟨Nat.le_of_ble_eq_true rfl, Nat.le_of_ble_eq_true rfl⟩ (fun _ => ?_)
  dsimp only [Option.toList, List.append, List.nil_append, List.cons_append, Nat.add_zero, Nat.reduceAdd]
  refine x_iload_n (pc := 63) O dX3_add_63 rfl ?_
  exact x_ret (v := some (.int _)) (pc := 64) O dX3_add_64 rfl (rfl) ⟨Nat.le_refl _, Nat.le_refl _, (), rfl, fun h hh => hh⟩
