/-! ===== REF 19: the reference is made ===== -/
def ifs (b : Nat) (d : Nat → Nat) : List Value := [.int 0, .int 0, .int 0, .int 0, .int 0, .int 0, .int 0, .int 0, .int 0, (if 9 < b then .ref (d 9) else .null), (if 10 < b then .ref (d 10) else .null), (if 11 < b then .ref (d 11) else .null), (if 12 < b then .ref (d 12) else .null), (if 13 < b then .ref (d 13) else .null), (if 14 < b then .ref (d 14) else .null), (if 15 < b then .ref (d 15) else .null), (if 16 < b then .ref (d 16) else .null), (if 17 < b then .ref (d 17) else .null), (if 18 < b then .ref (d 18) else .null), (if 19 < b then .ref (d 19) else .null), (if 20 < b then .ref (d 20) else .null), (if 21 < b then .ref (d 21) else .null), .int 0, .int 0, (if 24 < b then .ref (d 24) else .null), (if 25 < b then .ref (d 25) else .null), (if 26 < b then .ref (d 26) else .null), (if 27 < b then .ref (d 27) else .null), .int 0, (if 29 < b then .ref (d 29) else .null), (if 30 < b then .ref (d 30) else .null), (if 31 < b then .ref (d 31) else .null), (if 32 < b then .ref (d 32) else .null), (if 33 < b then .ref (d 33) else .null), (if 34 < b then .ref (d 34) else .null), (if 35 < b then .ref (d 35) else .null), (if 36 < b then .ref (d 36) else .null), (if 37 < b then .ref (d 37) else .null), .int 0, (if 39 < b then .ref (d 39) else .null), .int 0, .int 0, .int 0, (if 43 < b then .ref (d 43) else .null)]
def PIb (E : En) (o b : Nat) (d : Nat → Nat) : HP := fun h => h o = some (.inr (8, ifs b d)) ∧ (∀ k, k < b → isA k = true → h (d k) = some (.inl (E.2 (rty k), rlen 256 k, .inl (fun _ => 0)))) ∧ ∀ j k, j < b → k < b → isA j = true → isA k = true → d j = d k → j = k
theorem PIb.step {E : En} {o b k q N : Nat} {d : Nat → Nat} {h : HF} (hk : isA k = true) (hb : ∀ j, j < k → isA j = true → j < b) (hfs : (ifs b d).set k (.ref q) = ifs (k + 1) (va_up d k q)) (hN : N = rlen 256 k) (H : ∃ h0, PIb E o b d h0 ∧ h0 q = none ∧ h = hset h0 q (.inl (E.2 (rty k), N, .inl (fun _ => 0)))) : ∃ fs, h o = some (.inr (8, fs)) ∧ k < fs.length ∧ PIb E o (k + 1) (va_up d k q) (hset h o (.inr (8, fs.set k (.ref q)))) := by
  obtain ⟨h0, ⟨g1, g2, g3⟩, g4, rfl⟩ := H
  have hqo : o ≠ q := fun e => by rw [← e, g1] at g4; cases g4
  have hqk : ∀ j, j < b → isA j = true → d j ≠ q := fun j hj hA e => by have := g2 j hj hA; rw [e, g4] at this; cases this
  have hok : ∀ j, j < b → isA j = true → d j ≠ o := fun j hj hA e => by have := g2 j hj hA; rw [e, g1] at this; cases this
  have hlt : ∀ j, j < k + 1 → j ≠ k → isA j = true → j < b := fun j h1 h2 h3 => hb j (by omega) h3
  refine ⟨ifs b d, by rw [hset_ne _ _ hqo]; exact g1, by simp only [ifs, List.length_cons, List.length_nil]; exact isA_lt hk, by rw [hset_same, hfs], fun j hj hA => ?_, fun x y hx hy hax hay e => ?_⟩
  · by_cases e : j = k
    · subst e
      rw [va_up_self, hset_ne _ _ (Ne.symm hqo), hset_same, hN]
    · rw [va_up_ne _ _ e, hset_ne _ _ (hok j (hlt j hj e hA) hA), hset_ne _ _ (hqk j (hlt j hj e hA) hA)]
      exact g2 j (hlt j hj e hA) hA
  · by_cases ex : x = k
    · subst ex
      by_cases ey : y = x
      · exact ey.symm
      · rw [va_up_self, va_up_ne _ _ ey] at e
        exact absurd e.symm (hqk y (hlt y hy ey hay) hay)
    · by_cases ey : y = k
      · subst ey
        rw [va_up_self, va_up_ne _ _ ex] at e
        exact absurd e (hqk x (hlt x hx ex hax) hax)
      · rw [va_up_ne _ _ ex, va_up_ne _ _ ey] at e
        exact g3 x y (hlt x hx ex hax) (hlt y hy ey hay) hax hay e
theorem PIb.rw {E : En} {o : Nat} {d : Nat → Nat} {h : HF} (H : PIb E o 44 d h) : RW E o d 256 (fun _ => 0) (fun _ _ => 0) h := ⟨H.1, fun k hk => H.2.1 k (isA_lt hk) hk, fun j k hj hk => H.2.2 j k (isA_lt hj) (isA_lt hk) hj hk⟩
theorem RC0 (d : Nat → Nat) : RC d d (fun _ => 0) (fun _ _ => 0) (fun _ _ => 0) (fun _ => []) 0 := ⟨fun _ _ => ⟨rfl, rfl⟩, rfl, by omega, fun k hk => absurd hk (by omega), fun _ _ => rfl⟩
/-- how the reference stands with its first rights of s strips -/
def ini (s : Nat) (x : (Nat → Int32) × Ar × (Nat → List Rt)) : Prop := (∀ k, k ≠ 28 → x.1 k = 0) ∧ x.1 28 = nI s ∧ (∀ k, k ≠ 29 → k ≠ 30 → x.2.1 k = fun _ => 0) ∧ (∀ t, t < s → x.2.1 29 t = -1 ∧ x.2.1 30 t = -1 ∧ x.2.2 t = [(-1, 0, 0)]) ∧ ∀ t, s ≤ t → x.2.2 t = []
set_option maxRecDepth 100000 in
set_option maxHeartbeats 4000000 in
theorem c_X8_init (l : Launch) (E : En) (o : Nat) (d0 : Nat → Nat)  : Mt l E yX8_init cX8_init 2 none (rmX 2 45 28 6056) [.ref o] (PIb E o 0 d0) (fun _ : (Nat → Nat) × (Nat → Int32) × Ar × (Nat → List Rt) => none) (fun x h => ini 120 x.2 ∧ RV E o x.1 x.2.1 x.2.2.1 x.2.2.2 h) := by
  refine Mt_of (by decide +kernel) (Nat.le_of_ble_eq_true rfl) (fun J O => ?_)
  show J _ 0 0 0 [some (.ref o), none] []
  refine x_aload_n (pc := 0) O dX8_init_0 rfl rfl ?_
  refine x_obj (pc := 1) O dX8_init_1 oi_X8_3 (Nat.le_of_ble_eq_true rfl) (Nat.le_of_ble_eq_true rfl) ?_
  refine x_aload_n (pc := 4) O dX8_init_4 rfl rfl ?_
  refine x_bipush (v := nI 60) (pc := 5) O dX8_init_5 (by decide) ?_
  refine x_newi (N := 60) (pc := 7) O dX8_init_7 (by decide) (by decide) (by decide) (Nat.le_of_ble_eq_true rfl) (Nat.le_of_ble_eq_true rfl) (fun q9 => ?_)
  refine x_putF (pc := 9) (P' := PIb E o 10 (va_up d0 9 q9)) O rfl dX8_init_9 fpX8_9 rfl rfl (fun h H => PIb.step (b := 0) (N := 60) rfl (by decide) rfl rfl H) ?_
  refine x_aload_n (pc := 12) O dX8_init_12 rfl rfl ?_
  refine x_bipush (v := nI 60) (pc := 13) O dX8_init_13 (by decide) ?_
  refine x_newi (N := 60) (pc := 15) O dX8_init_15 (by decide) (by decide) (by decide) (Nat.le_of_ble_eq_true rfl) (Nat.le_of_ble_eq_true rfl) (fun q10 => ?_)
  refine x_putF (pc := 17) (P' := PIb E o 11 (va_up (va_up d0 9 q9) 10 q10)) O rfl dX8_init_17 fpX8_13 rfl rfl (fun h H => PIb.step (b := 10) (N := 60) rfl (by decide) rfl rfl H) ?_
  refine x_aload_n (pc := 20) O dX8_init_20 rfl rfl ?_
  refine x_bipush (v := nI 60) (pc := 21) O dX8_init_21 (by decide) ?_
  refine x_newi (N := 60) (pc := 23) O dX8_init_23 (by decide) (by decide) (by decide) (Nat.le_of_ble_eq_true rfl) (Nat.le_of_ble_eq_true rfl) (fun q11 => ?_)
  refine x_putF (pc := 25) (P' := PIb E o 12 (va_up (va_up (va_up d0 9 q9) 10 q10) 11 q11)) O rfl dX8_init_25 fpX8_16 rfl rfl (fun h H => PIb.step (b := 11) (N := 60) rfl (by decide) rfl rfl H) ?_
  refine x_aload_n (pc := 28) O dX8_init_28 rfl rfl ?_
  refine x_bipush (v := nI 60) (pc := 29) O dX8_init_29 (by decide) ?_
  refine x_newi (N := 60) (pc := 31) O dX8_init_31 (by decide) (by decide) (by decide) (Nat.le_of_ble_eq_true rfl) (Nat.le_of_ble_eq_true rfl) (fun q12 => ?_)
  refine x_putF (pc := 33) (P' := PIb E o 13 (va_up (va_up (va_up (va_up d0 9 q9) 10 q10) 11 q11) 12 q12)) O rfl dX8_init_33 fpX8_19 rfl rfl (fun h H => PIb.step (b := 12) (N := 60) rfl (by decide) rfl rfl H) ?_
  refine x_aload_n (pc := 36) O dX8_init_36 rfl rfl ?_
  refine x_bipush (v := nI 60) (pc := 37) O dX8_init_37 (by decide) ?_
  refine x_newi (N := 60) (pc := 39) O dX8_init_39 (by decide) (by decide) (by decide) (Nat.le_of_ble_eq_true rfl) (Nat.le_of_ble_eq_true rfl) (fun q13 => ?_)
  refine x_putF (pc := 41) (P' := PIb E o 14 (va_up (va_up (va_up (va_up (va_up d0 9 q9) 10 q10) 11 q11) 12 q12) 13 q13)) O rfl dX8_init_41 fpX8_22 rfl rfl (fun h H => PIb.step (b := 13) (N := 60) rfl (by decide) rfl rfl H) ?_
  refine x_aload_n (pc := 44) O dX8_init_44 rfl rfl ?_
  refine x_bipush (v := nI 60) (pc := 45) O dX8_init_45 (by decide) ?_
  refine x_newi (N := 60) (pc := 47) O dX8_init_47 (by decide) (by decide) (by decide) (Nat.le_of_ble_eq_true rfl) (Nat.le_of_ble_eq_true rfl) (fun q14 => ?_)
  refine x_putF (pc := 49) (P' := PIb E o 15 (va_up (va_up (va_up (va_up (va_up (va_up d0 9 q9) 10 q10) 11 q11) 12 q12) 13 q13) 14 q14)) O rfl dX8_init_49 fpX8_25 rfl rfl (fun h H => PIb.step (b := 14) (N := 60) rfl (by decide) rfl rfl H) ?_
  refine x_aload_n (pc := 52) O dX8_init_52 rfl rfl ?_
  refine x_bipush (v := nI 60) (pc := 53) O dX8_init_53 (by decide) ?_
  refine x_newi (N := 60) (pc := 55) O dX8_init_55 (by decide) (by decide) (by decide) (Nat.le_of_ble_eq_true rfl) (Nat.le_of_ble_eq_true rfl) (fun q15 => ?_)
  refine x_putF (pc := 57) (P' := PIb E o 16 (va_up (va_up (va_up (va_up (va_up (va_up (va_up d0 9 q9) 10 q10) 11 q11) 12 q12) 13 q13) 14 q14) 15 q15)) O rfl dX8_init_57 fpX8_28 rfl rfl (fun h H => PIb.step (b := 15) (N := 60) rfl (by decide) rfl rfl H) ?_
  refine x_aload_n (pc := 60) O dX8_init_60 rfl rfl ?_
  refine x_bipush (v := nI 60) (pc := 61) O dX8_init_61 (by decide) ?_
  refine x_newi (N := 60) (pc := 63) O dX8_init_63 (by decide) (by decide) (by decide) (Nat.le_of_ble_eq_true rfl) (Nat.le_of_ble_eq_true rfl) (fun q16 => ?_)
  refine x_putF (pc := 65) (P' := PIb E o 17 (va_up (va_up (va_up (va_up (va_up (va_up (va_up (va_up d0 9 q9) 10 q10) 11 q11) 12 q12) 13 q13) 14 q14) 15 q15) 16 q16)) O rfl dX8_init_65 fpX8_31 rfl rfl (fun h H => PIb.step (b := 16) (N := 60) rfl (by decide) rfl rfl H) ?_
  refine x_aload_n (pc := 68) O dX8_init_68 rfl rfl ?_
  refine x_bipush (v := nI 60) (pc := 69) O dX8_init_69 (by decide) ?_
  refine x_newi (N := 60) (pc := 71) O dX8_init_71 (by decide) (by decide) (by decide) (Nat.le_of_ble_eq_true rfl) (Nat.le_of_ble_eq_true rfl) (fun q17 => ?_)
  refine x_putF (pc := 73) (P' := PIb E o 18 (va_up (va_up (va_up (va_up (va_up (va_up (va_up (va_up (va_up d0 9 q9) 10 q10) 11 q11) 12 q12) 13 q13) 14 q14) 15 q15) 16 q16) 17 q17)) O rfl dX8_init_73 fpX8_34 rfl rfl (fun h H => PIb.step (b := 17) (N := 60) rfl (by decide) rfl rfl H) ?_
  refine x_aload_n (pc := 76) O dX8_init_76 rfl rfl ?_
  refine x_bipush (v := nI 60) (pc := 77) O dX8_init_77 (by decide) ?_
  refine x_newi (N := 60) (pc := 79) O dX8_init_79 (by decide) (by decide) (by decide) (Nat.le_of_ble_eq_true rfl) (Nat.le_of_ble_eq_true rfl) (fun q18 => ?_)
  refine x_putF (pc := 81) (P' := PIb E o 19 (va_up (va_up (va_up (va_up (va_up (va_up (va_up (va_up (va_up (va_up d0 9 q9) 10 q10) 11 q11) 12 q12) 13 q13) 14 q14) 15 q15) 16 q16) 17 q17) 18 q18)) O rfl dX8_init_81 fpX8_37 rfl rfl (fun h H => PIb.step (b := 18) (N := 60) rfl (by decide) rfl rfl H) ?_
  refine x_aload_n (pc := 84) O dX8_init_84 rfl rfl ?_
  refine x_bipush (v := nI 60) (pc := 85) O dX8_init_85 (by decide) ?_
  refine x_newi (N := 60) (pc := 87) O dX8_init_87 (by decide) (by decide) (by decide) (Nat.le_of_ble_eq_true rfl) (Nat.le_of_ble_eq_true rfl) (fun q19 => ?_)
  refine x_putF (pc := 89) (P' := PIb E o 20 (va_up (va_up (va_up (va_up (va_up (va_up (va_up (va_up (va_up (va_up (va_up d0 9 q9) 10 q10) 11 q11) 12 q12) 13 q13) 14 q14) 15 q15) 16 q16) 17 q17) 18 q18) 19 q19)) O rfl dX8_init_89 fpX8_40 rfl rfl (fun h H => PIb.step (b := 19) (N := 60) rfl (by decide) rfl rfl H) ?_
  refine x_aload_n (pc := 92) O dX8_init_92 rfl rfl ?_
  refine x_bipush (v := nI 60) (pc := 93) O dX8_init_93 (by decide) ?_
  refine x_newz (N := 60) (pc := 95) O dX8_init_95 (by decide) (by decide) (by decide) (Nat.le_of_ble_eq_true rfl) (Nat.le_of_ble_eq_true rfl) (fun q20 => ?_)
  refine x_putF (pc := 97) (P' := PIb E o 21 (va_up (va_up (va_up (va_up (va_up (va_up (va_up (va_up (va_up (va_up (va_up (va_up d0 9 q9) 10 q10) 11 q11) 12 q12) 13 q13) 14 q14) 15 q15) 16 q16) 17 q17) 18 q18) 19 q19) 20 q20)) O rfl dX8_init_97 fpX8_43 rfl rfl (fun h H => PIb.step (b := 20) (N := 60) rfl (by decide) rfl rfl H) ?_
  refine x_aload_n (pc := 100) O dX8_init_100 rfl rfl ?_
  refine x_bipush (v := nI 60) (pc := 101) O dX8_init_101 (by decide) ?_
  refine x_newz (N := 60) (pc := 103) O dX8_init_103 (by decide) (by decide) (by decide) (Nat.le_of_ble_eq_true rfl) (Nat.le_of_ble_eq_true rfl) (fun q21 => ?_)
  refine x_putF (pc := 105) (P' := PIb E o 22 (va_up (va_up (va_up (va_up (va_up (va_up (va_up (va_up (va_up (va_up (va_up (va_up (va_up d0 9 q9) 10 q10) 11 q11) 12 q12) 13 q13) 14 q14) 15 q15) 16 q16) 17 q17) 18 q18) 19 q19) 20 q20) 21 q21)) O rfl dX8_init_105 fpX8_47 rfl rfl (fun h H => PIb.step (b := 21) (N := 60) rfl (by decide) rfl rfl H) ?_
  refine x_aload_n (pc := 108) O dX8_init_108 rfl rfl ?_
  refine x_sipush (v := nI 256) (pc := 109) O dX8_init_109 (by decide) ?_
  refine x_newi (N := 256) (pc := 112) O dX8_init_112 (by decide) (by decide) (by decide) (Nat.le_of_ble_eq_true rfl) (Nat.le_of_ble_eq_true rfl) (fun q24 => ?_)
  refine x_put (pc := 114) (P' := PIb E o 25 (va_up (va_up (va_up (va_up (va_up (va_up (va_up (va_up (va_up (va_up (va_up (va_up (va_up (va_up d0 9 q9) 10 q10) 11 q11) 12 q12) 13 q13) 14 q14) 15 q15) 16 q16) 17 q17) 18 q18) 19 q19) 20 q20) 21 q21) 24 q24)) O dX8_init_114 fpX8_50 rfl rfl (fun h H => PIb.step (b := 22) (N := 256) rfl (by decide) rfl rfl H) ?_
  refine x_aload_n (pc := 117) O dX8_init_117 rfl rfl ?_
  refine x_sipush (v := nI 256) (pc := 118) O dX8_init_118 (by decide) ?_
  refine x_newi (N := 256) (pc := 121) O dX8_init_121 (by decide) (by decide) (by decide) (Nat.le_of_ble_eq_true rfl) (Nat.le_of_ble_eq_true rfl) (fun q25 => ?_)
  refine x_put (pc := 123) (P' := PIb E o 26 (va_up (va_up (va_up (va_up (va_up (va_up (va_up (va_up (va_up (va_up (va_up (va_up (va_up (va_up (va_up d0 9 q9) 10 q10) 11 q11) 12 q12) 13 q13) 14 q14) 15 q15) 16 q16) 17 q17) 18 q18) 19 q19) 20 q20) 21 q21) 24 q24) 25 q25)) O dX8_init_123 fpX8_53 rfl rfl (fun h H => PIb.step (b := 25) (N := 256) rfl (by decide) rfl rfl H) ?_
  refine x_aload_n (pc := 126) O dX8_init_126 rfl rfl ?_
  refine x_sipush (v := nI 256) (pc := 127) O dX8_init_127 (by decide) ?_
  refine x_newi (N := 256) (pc := 130) O dX8_init_130 (by decide) (by decide) (by decide) (Nat.le_of_ble_eq_true rfl) (Nat.le_of_ble_eq_true rfl) (fun q26 => ?_)
  refine x_put (pc := 132) (P' := PIb E o 27 (va_up (va_up (va_up (va_up (va_up (va_up (va_up (va_up (va_up (va_up (va_up (va_up (va_up (va_up (va_up (va_up d0 9 q9) 10 q10) 11 q11) 12 q12) 13 q13) 14 q14) 15 q15) 16 q16) 17 q17) 18 q18) 19 q19) 20 q20) 21 q21) 24 q24) 25 q25) 26 q26)) O dX8_init_132 fpX8_56 rfl rfl (fun h H => PIb.step (b := 26) (N := 256) rfl (by decide) rfl rfl H) ?_
  refine x_aload_n (pc := 135) O dX8_init_135 rfl rfl ?_
  refine x_sipush (v := nI 256) (pc := 136) O dX8_init_136 (by decide) ?_
  refine x_newi (N := 256) (pc := 139) O dX8_init_139 (by decide) (by decide) (by decide) (Nat.le_of_ble_eq_true rfl) (Nat.le_of_ble_eq_true rfl) (fun q27 => ?_)
  refine x_put (pc := 141) (P' := PIb E o 28 (va_up (va_up (va_up (va_up (va_up (va_up (va_up (va_up (va_up (va_up (va_up (va_up (va_up (va_up (va_up (va_up (va_up d0 9 q9) 10 q10) 11 q11) 12 q12) 13 q13) 14 q14) 15 q15) 16 q16) 17 q17) 18 q18) 19 q19) 20 q20) 21 q21) 24 q24) 25 q25) 26 q26) 27 q27)) O dX8_init_141 fpX8_59 rfl rfl (fun h H => PIb.step (b := 27) (N := 256) rfl (by decide) rfl rfl H) ?_
  refine x_aload_n (pc := 144) O dX8_init_144 rfl rfl ?_
  refine x_bipush (v := nI 120) (pc := 145) O dX8_init_145 (by decide) ?_
  refine x_newi (N := 120) (pc := 147) O dX8_init_147 (by decide) (by decide) (by decide) (Nat.le_of_ble_eq_true rfl) (Nat.le_of_ble_eq_true rfl) (fun q29 => ?_)
  refine x_putF (pc := 149) (P' := PIb E o 30 (va_up (va_up (va_up (va_up (va_up (va_up (va_up (va_up (va_up (va_up (va_up (va_up (va_up (va_up (va_up (va_up (va_up (va_up d0 9 q9) 10 q10) 11 q11) 12 q12) 13 q13) 14 q14) 15 q15) 16 q16) 17 q17) 18 q18) 19 q19) 20 q20) 21 q21) 24 q24) 25 q25) 26 q26) 27 q27) 29 q29)) O rfl dX8_init_149 fpX8_62 rfl rfl (fun h H => PIb.step (b := 28) (N := 120) rfl (by decide) rfl rfl H) ?_
  refine x_aload_n (pc := 152) O dX8_init_152 rfl rfl ?_
  refine x_bipush (v := nI 120) (pc := 153) O dX8_init_153 (by decide) ?_
  refine x_newi (N := 120) (pc := 155) O dX8_init_155 (by decide) (by decide) (by decide) (Nat.le_of_ble_eq_true rfl) (Nat.le_of_ble_eq_true rfl) (fun q30 => ?_)
  refine x_putF (pc := 157) (P' := PIb E o 31 (va_up (va_up (va_up (va_up (va_up (va_up (va_up (va_up (va_up (va_up (va_up (va_up (va_up (va_up (va_up (va_up (va_up (va_up (va_up d0 9 q9) 10 q10) 11 q11) 12 q12) 13 q13) 14 q14) 15 q15) 16 q16) 17 q17) 18 q18) 19 q19) 20 q20) 21 q21) 24 q24) 25 q25) 26 q26) 27 q27) 29 q29) 30 q30)) O rfl dX8_init_157 fpX8_65 rfl rfl (fun h H => PIb.step (b := 30) (N := 120) rfl (by decide) rfl rfl H) ?_
  refine x_aload_n (pc := 160) O dX8_init_160 rfl rfl ?_
  refine x_bipush (v := nI 40) (pc := 161) O dX8_init_161 (by decide) ?_
  refine x_newi (N := 40) (pc := 163) O dX8_init_163 (by decide) (by decide) (by decide) (Nat.le_of_ble_eq_true rfl) (Nat.le_of_ble_eq_true rfl) (fun q31 => ?_)
  refine x_putF (pc := 165) (P' := PIb E o 32 (va_up (va_up (va_up (va_up (va_up (va_up (va_up (va_up (va_up (va_up (va_up (va_up (va_up (va_up (va_up (va_up (va_up (va_up (va_up (va_up d0 9 q9) 10 q10) 11 q11) 12 q12) 13 q13) 14 q14) 15 q15) 16 q16) 17 q17) 18 q18) 19 q19) 20 q20) 21 q21) 24 q24) 25 q25) 26 q26) 27 q27) 29 q29) 30 q30) 31 q31)) O rfl dX8_init_165 fpX8_68 rfl rfl (fun h H => PIb.step (b := 31) (N := 40) rfl (by decide) rfl rfl H) ?_
  refine x_aload_n (pc := 168) O dX8_init_168 rfl rfl ?_
  refine x_bipush (v := nI 40) (pc := 169) O dX8_init_169 (by decide) ?_
  refine x_newi (N := 40) (pc := 171) O dX8_init_171 (by decide) (by decide) (by decide) (Nat.le_of_ble_eq_true rfl) (Nat.le_of_ble_eq_true rfl) (fun q32 => ?_)
  refine x_putF (pc := 173) (P' := PIb E o 33 (va_up (va_up (va_up (va_up (va_up (va_up (va_up (va_up (va_up (va_up (va_up (va_up (va_up (va_up (va_up (va_up (va_up (va_up (va_up (va_up (va_up d0 9 q9) 10 q10) 11 q11) 12 q12) 13 q13) 14 q14) 15 q15) 16 q16) 17 q17) 18 q18) 19 q19) 20 q20) 21 q21) 24 q24) 25 q25) 26 q26) 27 q27) 29 q29) 30 q30) 31 q31) 32 q32)) O rfl dX8_init_173 fpX8_71 rfl rfl (fun h H => PIb.step (b := 32) (N := 40) rfl (by decide) rfl rfl H) ?_
  refine x_aload_n (pc := 176) O dX8_init_176 rfl rfl ?_
  refine x_bipush (v := nI 40) (pc := 177) O dX8_init_177 (by decide) ?_
  refine x_newi (N := 40) (pc := 179) O dX8_init_179 (by decide) (by decide) (by decide) (Nat.le_of_ble_eq_true rfl) (Nat.le_of_ble_eq_true rfl) (fun q33 => ?_)
  refine x_putF (pc := 181) (P' := PIb E o 34 (va_up (va_up (va_up (va_up (va_up (va_up (va_up (va_up (va_up (va_up (va_up (va_up (va_up (va_up (va_up (va_up (va_up (va_up (va_up (va_up (va_up (va_up d0 9 q9) 10 q10) 11 q11) 12 q12) 13 q13) 14 q14) 15 q15) 16 q16) 17 q17) 18 q18) 19 q19) 20 q20) 21 q21) 24 q24) 25 q25) 26 q26) 27 q27) 29 q29) 30 q30) 31 q31) 32 q32) 33 q33)) O rfl dX8_init_181 fpX8_74 rfl rfl (fun h H => PIb.step (b := 33) (N := 40) rfl (by decide) rfl rfl H) ?_
  refine x_aload_n (pc := 184) O dX8_init_184 rfl rfl ?_
  refine x_bipush (v := nI 40) (pc := 185) O dX8_init_185 (by decide) ?_
  refine x_newi (N := 40) (pc := 187) O dX8_init_187 (by decide) (by decide) (by decide) (Nat.le_of_ble_eq_true rfl) (Nat.le_of_ble_eq_true rfl) (fun q34 => ?_)
  refine x_putF (pc := 189) (P' := PIb E o 35 (va_up (va_up (va_up (va_up (va_up (va_up (va_up (va_up (va_up (va_up (va_up (va_up (va_up (va_up (va_up (va_up (va_up (va_up (va_up (va_up (va_up (va_up (va_up d0 9 q9) 10 q10) 11 q11) 12 q12) 13 q13) 14 q14) 15 q15) 16 q16) 17 q17) 18 q18) 19 q19) 20 q20) 21 q21) 24 q24) 25 q25) 26 q26) 27 q27) 29 q29) 30 q30) 31 q31) 32 q32) 33 q33) 34 q34)) O rfl dX8_init_189 fpX8_77 rfl rfl (fun h H => PIb.step (b := 34) (N := 40) rfl (by decide) rfl rfl H) ?_
  refine x_aload_n (pc := 192) O dX8_init_192 rfl rfl ?_
  refine x_bipush (v := nI 40) (pc := 193) O dX8_init_193 (by decide) ?_
  refine x_newi (N := 40) (pc := 195) O dX8_init_195 (by decide) (by decide) (by decide) (Nat.le_of_ble_eq_true rfl) (Nat.le_of_ble_eq_true rfl) (fun q35 => ?_)
  refine x_putF (pc := 197) (P' := PIb E o 36 (va_up (va_up (va_up (va_up (va_up (va_up (va_up (va_up (va_up (va_up (va_up (va_up (va_up (va_up (va_up (va_up (va_up (va_up (va_up (va_up (va_up (va_up (va_up (va_up d0 9 q9) 10 q10) 11 q11) 12 q12) 13 q13) 14 q14) 15 q15) 16 q16) 17 q17) 18 q18) 19 q19) 20 q20) 21 q21) 24 q24) 25 q25) 26 q26) 27 q27) 29 q29) 30 q30) 31 q31) 32 q32) 33 q33) 34 q34) 35 q35)) O rfl dX8_init_197 fpX8_80 rfl rfl (fun h H => PIb.step (b := 35) (N := 40) rfl (by decide) rfl rfl H) ?_
  refine x_aload_n (pc := 200) O dX8_init_200 rfl rfl ?_
  refine x_bipush (v := nI 40) (pc := 201) O dX8_init_201 (by decide) ?_
  refine x_newi (N := 40) (pc := 203) O dX8_init_203 (by decide) (by decide) (by decide) (Nat.le_of_ble_eq_true rfl) (Nat.le_of_ble_eq_true rfl) (fun q36 => ?_)
  refine x_putF (pc := 205) (P' := PIb E o 37 (va_up (va_up (va_up (va_up (va_up (va_up (va_up (va_up (va_up (va_up (va_up (va_up (va_up (va_up (va_up (va_up (va_up (va_up (va_up (va_up (va_up (va_up (va_up (va_up (va_up d0 9 q9) 10 q10) 11 q11) 12 q12) 13 q13) 14 q14) 15 q15) 16 q16) 17 q17) 18 q18) 19 q19) 20 q20) 21 q21) 24 q24) 25 q25) 26 q26) 27 q27) 29 q29) 30 q30) 31 q31) 32 q32) 33 q33) 34 q34) 35 q35) 36 q36)) O rfl dX8_init_205 fpX8_83 rfl rfl (fun h H => PIb.step (b := 36) (N := 40) rfl (by decide) rfl rfl H) ?_
  refine x_aload_n (pc := 208) O dX8_init_208 rfl rfl ?_
  refine x_bipush (v := nI 40) (pc := 209) O dX8_init_209 (by decide) ?_
  refine x_newi (N := 40) (pc := 211) O dX8_init_211 (by decide) (by decide) (by decide) (Nat.le_of_ble_eq_true rfl) (Nat.le_of_ble_eq_true rfl) (fun q37 => ?_)
  refine x_putF (pc := 213) (P' := PIb E o 38 (va_up (va_up (va_up (va_up (va_up (va_up (va_up (va_up (va_up (va_up (va_up (va_up (va_up (va_up (va_up (va_up (va_up (va_up (va_up (va_up (va_up (va_up (va_up (va_up (va_up (va_up d0 9 q9) 10 q10) 11 q11) 12 q12) 13 q13) 14 q14) 15 q15) 16 q16) 17 q17) 18 q18) 19 q19) 20 q20) 21 q21) 24 q24) 25 q25) 26 q26) 27 q27) 29 q29) 30 q30) 31 q31) 32 q32) 33 q33) 34 q34) 35 q35) 36 q36) 37 q37)) O rfl dX8_init_213 fpX8_86 rfl rfl (fun h H => PIb.step (b := 37) (N := 40) rfl (by decide) rfl rfl H) ?_
  refine x_aload_n (pc := 216) O dX8_init_216 rfl rfl ?_
  refine x_sipush (v := nI 3720) (pc := 217) O dX8_init_217 (by decide) ?_
  refine x_newi (N := 3720) (pc := 220) O dX8_init_220 (by decide) (by decide) (by decide) (Nat.le_of_ble_eq_true rfl) (Nat.le_of_ble_eq_true rfl) (fun q39 => ?_)
  refine x_putF (pc := 222) (P' := PIb E o 40 (va_up (va_up (va_up (va_up (va_up (va_up (va_up (va_up (va_up (va_up (va_up (va_up (va_up (va_up (va_up (va_up (va_up (va_up (va_up (va_up (va_up (va_up (va_up (va_up (va_up (va_up (va_up d0 9 q9) 10 q10) 11 q11) 12 q12) 13 q13) 14 q14) 15 q15) 16 q16) 17 q17) 18 q18) 19 q19) 20 q20) 21 q21) 24 q24) 25 q25) 26 q26) 27 q27) 29 q29) 30 q30) 31 q31) 32 q32) 33 q33) 34 q34) 35 q35) 36 q36) 37 q37) 39 q39)) O rfl dX8_init_222 fpX8_89 rfl rfl (fun h H => PIb.step (b := 38) (N := 3720) rfl (by decide) rfl rfl H) ?_
  refine x_aload_n (pc := 225) O dX8_init_225 rfl rfl ?_
  refine x_bipush (v := nI 12) (pc := 226) O dX8_init_226 (by decide) ?_
  refine x_newi (N := 12) (pc := 228) O dX8_init_228 (by decide) (by decide) (by decide) (Nat.le_of_ble_eq_true rfl) (Nat.le_of_ble_eq_true rfl) (fun q43 => ?_)
  refine x_putF (pc := 230) (P' := PIb E o 44 (va_up (va_up (va_up (va_up (va_up (va_up (va_up (va_up (va_up (va_up (va_up (va_up (va_up (va_up (va_up (va_up (va_up (va_up (va_up (va_up (va_up (va_up (va_up (va_up (va_up (va_up (va_up (va_up d0 9 q9) 10 q10) 11 q11) 12 q12) 13 q13) 14 q14) 15 q15) 16 q16) 17 q17) 18 q18) 19 q19) 20 q20) 21 q21) 24 q24) 25 q25) 26 q26) 27 q27) 29 q29) 30 q30) 31 q31) 32 q32) 33 q33) 34 q34) 35 q35) 36 q36) 37 q37) 39 q39) 43 q43)) O rfl dX8_init_230 fpX8_92 rfl rfl (fun h H => PIb.step (b := 40) (N := 12) rfl (by decide) rfl rfl H) ?_
  obtain ⟨D, hD⟩ : ∃ D, D = (va_up (va_up (va_up (va_up (va_up (va_up (va_up (va_up (va_up (va_up (va_up (va_up (va_up (va_up (va_up (va_up (va_up (va_up (va_up (va_up (va_up (va_up (va_up (va_up (va_up (va_up (va_up (va_up d0 9 q9) 10 q10) 11 q11) 12 q12) 13 q13) 14 q14) 15 q15) 16 q16) 17 q17) 18 q18) 19 q19) 20 q20) 21 q21) 24 q24) 25 q25) 26 q26) 27 q27) 29 q29) 30 q30) 31 q31) 32 q32) 33 q33) 34 q34) 35 q35) 36 q36) 37 q37) 39 q39) 43 q43) := ⟨_, rfl⟩
  refine x_imp O (P' := RV E o D (fun _ => 0) (fun _ _ => 0) (fun _ => [])) (fun h H => ?_) ?_
  · have H2 : PIb E o 44 D h := by rw [hD]; exact H
    exact ⟨(D, fun _ _ => 0, 0), RC0 D, H2.rw⟩
  have loop : ∀ s, s ≤ 120 → ∀ x, ini s x → J (RV E o D x.1 x.2.1 x.2.2) 28 6056 235 [some (.ref o), some (.int (nI s))] [] := by
    refine up_ind (Φ := fun s => ∀ x, ini s x → J (RV E o D x.1 x.2.1 x.2.2) 28 6056 235 [some (.ref o), some (.int (nI s))] []) 120 (fun s hs ih x hx => ?_)
    refine x_iload_n (pc := 235) O dX8_init_235 rfl ?_
    refine x_bipush (v := nI 120) (pc := 236) O dX8_init_236 (by decide) ?_
    refine x_icmp_ge (pc := 238) O 261 dX8_init_238 (by decide) (fun c238 => ?_) (fun c238 => ?_)
    · have hs2 : s = 120 := by
        rw [nI_leI (by omega) (by omega)] at c238
        omega
      subst hs2
      exact x_ret (v := none) (pc := 261) O dX8_init_261 rfl trivial ⟨Nat.le_refl _, Nat.le_refl _, (D, x), rfl, fun h hh => ⟨hx, hh⟩⟩
    · have hs3 : s < 120 := by
        rw [nI_leI (by omega) (by omega)] at c238
        omega
      refine x_aload_n (pc := 241) O dX8_init_241 rfl rfl ?_
      refine v_get (pc := 242) O dX8_init_242 fdX8_65 rfl rfl ?_
      refine x_iload_n (pc := 245) O dX8_init_245 rfl ?_
      refine x_iconst (v := (-1)) (pc := 246) O dX8_init_246 (by decide) ?_
      refine v_ast (k := 30) (pc := 247) O dX8_init_247 rfl rfl rfl rfl (by show _ < 120; omega) ?_
      refine x_aload_n (pc := 248) O dX8_init_248 rfl rfl ?_
      refine x_iload_n (pc := 249) O dX8_init_249 rfl ?_
      refine x_iconst (v := (-1)) (pc := 250) O dX8_init_250 (by decide) ?_
      refine x_iconst (v := 0) (pc := 251) O dX8_init_251 (by decide) ?_
      have hcap : cap (s + 1) = 256 ∧ cap s = 256 := by unfold cap; constructor <;> rw [if_pos (by omega)]
      have hM := c_X8_comes l E o D x.1 (up2 x.2.1 30 s (-1)) x.2.2 s (-1) 0 (r := s) hs3 hx.2.1 (by omega)
      rw [hcap.1, hcap.2] at hM
      refine x_callV (pc := 252) (rest := []) (ci := 8) O hM dX8_init_252 cbX8_95 im_yX8_comes se_yX8_comes rfl v_recv rfl rfl (Nat.le_of_ble_eq_true rfl) ⟨Nat.le_of_ble_eq_true rfl, Nat.le_of_ble_eq_true rfl⟩ ⟨Nat.le_of_ble_eq_true rfl, Nat.le_of_ble_eq_true rfl⟩ (fun _ => ?_)
      refine x_widen O (ce' := 28) (sl' := 6056) (Nat.le_of_ble_eq_true rfl) (Nat.le_of_ble_eq_true rfl) ?_
      dsimp only [Option.toList, List.append, List.nil_append, List.cons_append, Nat.add_zero, Nat.reduceAdd]
      refine x_iinc (v := nI (s + 1)) (pc := 255) O dX8_init_255 rfl (nI_succ s).symm rfl ?_
      refine x_goto (pc := 258) O 235 dX8_init_258 (by decide) ?_
      refine ih (by omega) (_, _, _) ?_
      obtain ⟨g1, g2, g3, g4, g5⟩ := hx
      refine ⟨fun k hk => by show upd x.1 28 (x.1 28 + 1) k = 0; rw [upd_ne _ _ hk]; exact g1 k hk, by show upd x.1 28 (x.1 28 + 1) 28 = _; rw [upd_eq, g2, ← nI_succ], fun k k1 k2 => by show up2 (up2 (up2 x.2.1 30 s (-1)) 29 s (-1)) 30 s (-1) k = _; rw [up2_ne _ _ _ k2, up2_ne _ _ _ k1, up2_ne _ _ _ k2]; exact g3 k k1 k2, fun t ht => ?_, fun t ht => ?_⟩
      · show up2 (up2 (up2 x.2.1 30 s (-1)) 29 s (-1)) 30 s (-1) 29 t = -1 ∧ up2 (up2 (up2 x.2.1 30 s (-1)) 29 s (-1)) 30 s (-1) 30 t = -1 ∧ va_up x.2.2 s ((-1, 0, x.1 8) :: x.2.2 s) t = _
        rw [up2_ne _ _ _ (by decide), up2_eq, up2_ne _ _ _ (by decide), up2_eq, up2_ne _ _ _ (by decide), up2_eq]
        by_cases e : t = s
        · subst e
          rw [upd_eq, upd_eq, va_up_self, g5 t (Nat.le_refl _), g1 8 (by decide)]
          exact ⟨rfl, rfl, rfl⟩
        · rw [upd_ne _ _ e, upd_ne _ _ e, upd_ne _ _ e, va_up_ne _ _ e]
          exact g4 t (by omega)
      · show va_up x.2.2 s ((-1, 0, x.1 8) :: x.2.2 s) t = []
        rw [va_up_ne _ _ (by omega)]
        exact g5 t (by omega)
  refine x_iconst (v := nI 0) (pc := 233) O dX8_init_233 (by decide) ?_
  refine x_istore_n (pc := 234) O dX8_init_234 (by decide) rfl ?_
  exact loop 0 (Nat.zero_le _) (fun _ => 0, fun _ _ => 0, fun _ => []) ⟨fun _ _ => rfl, rfl, fun _ _ _ => rfl, fun t ht => absurd ht (by omega), fun _ _ => rfl⟩
