/-! ===== REF 4: weeks ===== -/
def wstep (w0 : Int32) (a : Nat → Nat → Int32) (p : Nat) : Nat → Nat → Int32 :=
  let x := w0 * hcnt a (nI p) 0 120
  let a1 := if a 19 p ≤ 0 then up2 a 15 p (a 15 p + x) else up2 a 18 p (a 18 p + x)
  if a 20 p = 0 then a1 else if a 19 p ≤ 0 then a1 else up2 a1 19 p (a 19 p - 1)
def wrow (w0 : Int32) (a : Nat → Nat → Int32) : Nat → Nat → Nat → Int32
  | 0 => a
  | p + 1 => wstep w0 (wrow w0 a p) p
def wksA (w0 : Int32) (a : Nat → Nat → Int32) (m : Nat) : Nat → Nat → Nat → Int32
  | 0 => a
  | k + 1 => wrow w0 (wksA w0 a m k) m
def wksI (i : Nat → Int32) : Nat → Nat → Int32
  | 0 => i
  | k + 1 => upd (wksI i k) 8 (wksI i k 8 + 7)
theorem wksI_keep (i : Nat → Int32) {q : Nat} (hq : q ≠ 8) : ∀ k, wksI i k q = i q
  | 0 => rfl
  | k + 1 => by
    show upd _ 8 _ q = _
    rw [upd_ne _ _ hq]
    exact wksI_keep i hq k
set_option maxRecDepth 100000 in
set_option maxHeartbeats 4000000 in
theorem c_X8_weeks (l : Launch) (E : En) (o : Nat) (d : Nat → Nat) (i : Nat → Int32) (a : Nat → Nat → Int32) (ch : Nat → List Rt) (n : Int32) {m : Nat} (hm : i 22 = nI m) (h60 : m ≤ 60) : Mt l E yX8_weeks cX8_weeks 5 (some .int) (rmX 1 24 0 0) [.ref o, .int n] (RV E o d i a ch) (fun _ : Unit => some (.int (if (0 ≤ n ∧ n ≤ 60) ∧ i 8 + 7 * n ≤ 40000 then wksI i n.toNatClampNeg 8 else -1))) (fun _ => RV E o d (if (0 ≤ n ∧ n ≤ 60) ∧ i 8 + 7 * n ≤ 40000 then wksI i n.toNatClampNeg else i) (if (0 ≤ n ∧ n ≤ 60) ∧ i 8 + 7 * n ≤ 40000 then wksA (i 5) a m n.toNatClampNeg else a) ch) := by
  refine Mt_of (by decide +kernel) (Nat.le_of_ble_eq_true rfl) (fun J O => ?_)
  show J _ 0 0 0 [some (.ref o), some (.int n), none, none, none] []
  refine x_iload_n (pc := 0) O dX8_weeks_0 rfl ?_
  refine x_iconst (v := 0) (pc := 1) O dX8_weeks_1 (by decide) ?_
  refine x_bipush (v := 60) (pc := 2) O dX8_weeks_2 (by decide) ?_
  refine x_callS (pc := 4) (rest := _) O (c_X8_in l E _ _ _ _) dX8_weeks_4 cbX8_103 sm_yX8_in rfl rfl (Nat.le_of_ble_eq_true rfl) ⟨Nat.le_of_ble_eq_true rfl, Nat.le_of_ble_eq_true rfl⟩ ⟨Nat.le_of_ble_eq_true rfl, Nat.le_of_ble_eq_true rfl⟩ (fun _ => ?_)
  dsimp only [Option.toList, List.append, List.nil_append, List.cons_append, Nat.add_zero, Nat.reduceAdd]
  refine x_if_eq (pc := 7) O 24 dX8_weeks_7 (by decide) (fun c7 => ?_) (fun c7 => ?_)
  · refine x_iconst (v := (-1)) (pc := 24) O dX8_weeks_24 (by decide) ?_
    have hc9 : ¬ ((0 ≤ n ∧ n ≤ 60) ∧ i 8 + 7 * n ≤ 40000) := fun z => b2i_z c7 z.1
    refine x_ret (v := some (.int _)) (pc := 25) O dX8_weeks_25 rfl rfl ⟨Nat.le_refl _, Nat.le_refl _, (), congrArg (fun z => some (Value.int z)) (if_neg hc9).symm, fun h hh => ?_⟩
    (try simp only [if_neg hc9]); exact hh
  · refine x_aload_n (pc := 10) O dX8_weeks_10 rfl rfl ?_
    refine v_get (pc := 11) O dX8_weeks_11 fdX8_118 rfl rfl ?_
    refine x_bipush (v := 7) (pc := 14) O dX8_weeks_14 (by decide) ?_
    refine x_iload_n (pc := 16) O dX8_weeks_16 rfl ?_
    refine x_imul (pc := 17) O dX8_weeks_17 ?_
    refine x_iadd (pc := 18) O dX8_weeks_18 ?_
    refine x_ldc (pc := 19) O dX8_weeks_19 cnX8_201 ?_
    refine x_icmp_le (pc := 21) O 26 dX8_weeks_21 (by decide) (fun c21 => ?_) (fun c21 => ?_)
    · refine x_iconst (v := nI 0) (pc := 26) O dX8_weeks_26 (by decide) ?_
      refine x_istore_n (pc := 27) O dX8_weeks_27 (by decide) rfl ?_
      have hWK : (0 ≤ n ∧ n ≤ 60) ∧ i 8 + 7 * n ≤ 40000 := ⟨b2i_n0 c7, c21⟩
      have hK0 : n = nI n.toNatClampNeg ∧ n.toNatClampNeg < 61 := by
        refine in_nat (x := nI 61) rfl (by decide) ⟨hWK.1.1, ?_⟩
        rw [show nI 61 - 1 = 60 from by decide]
        exact hWK.1.2
      have hK := hK0.1
      have hK61 := hK0.2
      have loop : ∀ k, k ≤ n.toNatClampNeg → ∀ I A, I = wksI i k → A = wksA (i 5) a m k → J (RV E o d I A ch) 0 0 28 [some (.ref o), some (.int n), some (.int (nI k)), none, none] [] := by
        refine up_ind (Φ := fun k => ∀ I A, I = wksI i k → A = wksA (i 5) a m k → J (RV E o d I A ch) 0 0 28 [some (.ref o), some (.int n), some (.int (nI k)), none, none] []) n.toNatClampNeg (fun k hk ih I A hI hA => ?_)
        have hI22 : I 22 = nI m := by rw [hI, wksI_keep i (by decide)]; exact hm
        have hI5 : I 5 = i 5 := by rw [hI, wksI_keep i (by decide)]
        refine x_iload_n (pc := 28) O dX8_weeks_28 rfl ?_
        refine x_iload_n (pc := 29) O dX8_weeks_29 rfl ?_
        refine x_icmp_ge (pc := 30) O 141 dX8_weeks_30 (by decide) (fun c30 => ?_) (fun c30 => ?_)
        · refine x_aload_n (pc := 141) O dX8_weeks_141 rfl rfl ?_
          refine v_get (pc := 142) O dX8_weeks_142 fdX8_118 rfl rfl ?_
          have hk2 : k = n.toNatClampNeg := by
            rw [hK, nI_leI (by omega) (by omega)] at c30
            omega
          subst hk2
          have hc9 : (0 ≤ n ∧ n ≤ 60) ∧ i 8 + 7 * n ≤ 40000 := hWK
          refine x_ret (v := some (.int _)) (pc := 145) O dX8_weeks_145 rfl rfl ⟨Nat.le_refl _, Nat.le_refl _, (), congrArg (fun z => some (Value.int z)) (by rw [if_pos hc9, hI]), fun h hh => ?_⟩
          simp only [if_pos hc9]; rw [← hI, ← hA]; exact hh
        · have hk3 : k < n.toNatClampNeg := by
            rw [hK, nI_leI (by omega) (by omega)] at c30
            omega
          refine x_iconst (v := nI 0) (pc := 33) O dX8_weeks_33 (by decide) ?_
          refine x_istore_n (pc := 34) O dX8_weeks_34 (by decide) rfl ?_
          have loop2 : ∀ q, q ≤ m → ∀ B, B = wrow (i 5) A q → J (RV E o d I B ch) 0 0 35 [some (.ref o), some (.int n), some (.int (nI k)), some (.int (nI q)), none] [] := by
            refine up_ind (Φ := fun q => ∀ B, B = wrow (i 5) A q → J (RV E o d I B ch) 0 0 35 [some (.ref o), some (.int n), some (.int (nI k)), some (.int (nI q)), none] []) m (fun q hq ih2 B hB => ?_)
            refine x_iload_n (pc := 35) O dX8_weeks_35 rfl ?_
            refine x_aload_n (pc := 36) O dX8_weeks_36 rfl rfl ?_
            refine v_get (pc := 37) O dX8_weeks_37 fdX8_99 rfl rfl ?_
            refine x_icmp_ge (pc := 40) O 124 dX8_weeks_40 (by decide) (fun c40 => ?_) (fun c40 => ?_)
            · refine x_aload_n (pc := 124) O dX8_weeks_124 rfl rfl ?_
              refine x_dup (pc := 125) O dX8_weeks_125 rfl ?_
              refine v_get (pc := 126) O dX8_weeks_126 fdX8_118 rfl rfl ?_
              refine x_bipush (v := 7) (pc := 129) O dX8_weeks_129 (by decide) ?_
              refine x_iadd (pc := 131) O dX8_weeks_131 ?_
              refine v_put (pc := 132) O dX8_weeks_132 fpX8_118 rfl rfl ?_
              refine x_iinc (v := nI (k + 1)) (pc := 135) O dX8_weeks_135 rfl (nI_succ k).symm rfl ?_
              refine x_goto (pc := 138) O 28 dX8_weeks_138 (by decide) ?_
              refine x_lv O [some (.ref o), some (.int n), some (.int (nI (k + 1))), none, none] ⟨rfl, rfl, rfl, trivial⟩ ?_
              have hq2 : q = m := by
                rw [hI22, nI_leI (by omega) (by omega)] at c40
                omega
              subst hq2
              refine ih (by omega) _ _ ?_ ?_
              · rw [hI]; rfl
              · rw [hB, hA]; rfl
            · have hq3 : q < m := by
                rw [hI22, nI_leI (by omega) (by omega)] at c40
                omega
              refine x_aload_n (pc := 43) O dX8_weeks_43 rfl rfl ?_
              refine v_get (pc := 44) O dX8_weeks_44 fdX8_136 rfl rfl ?_
              rw [hI5]
              refine x_aload_n (pc := 47) O dX8_weeks_47 rfl rfl ?_
              refine x_iload_n (pc := 48) O dX8_weeks_48 rfl ?_
              refine x_iconst (v := 0) (pc := 49) O dX8_weeks_49 (by decide) ?_
              refine x_callV (pc := 50) (rest := _) (ci := 8) O (c_X8_held l E _ _ _ _ _ _ _) dX8_weeks_50 cbX8_202 im_yX8_held se_yX8_held rfl v_recv rfl rfl (Nat.le_of_ble_eq_true rfl) ⟨Nat.le_of_ble_eq_true rfl, Nat.le_of_ble_eq_true rfl⟩ ⟨Nat.le_of_ble_eq_true rfl, Nat.le_of_ble_eq_true rfl⟩ (fun _ => ?_)
              dsimp only [Option.toList, List.append, List.nil_append, List.cons_append, Nat.add_zero, Nat.reduceAdd]
              refine x_imul (pc := 53) O dX8_weeks_53 ?_
              refine x_istore (pc := 54) O dX8_weeks_54 (by decide) rfl ?_
              refine x_aload_n (pc := 56) O dX8_weeks_56 rfl rfl ?_
              refine v_get (pc := 57) O dX8_weeks_57 fdX8_40 rfl rfl ?_
              refine x_iload_n (pc := 60) O dX8_weeks_60 rfl ?_
              refine v_ald (k := 19) (pc := 61) O dX8_weeks_61 rfl rfl rfl rfl (by show _ < 60; omega) ?_
              refine x_if_le (pc := 62) O 79 dX8_weeks_62 (by decide) (fun c62 => ?_) (fun c62 => ?_)
              · refine x_aload_n (pc := 79) O dX8_weeks_79 rfl rfl ?_
                refine v_get (pc := 80) O dX8_weeks_80 fdX8_28 rfl rfl ?_
                refine x_iload_n (pc := 83) O dX8_weeks_83 rfl ?_
                refine x_dup2 (pc := 84) O dX8_weeks_84 rfl rfl ?_
                refine v_ald (k := 15) (pc := 85) O dX8_weeks_85 rfl rfl rfl rfl (by show _ < 60; omega) ?_
                refine x_iload (pc := 86) O dX8_weeks_86 rfl ?_
                refine x_iadd (pc := 88) O dX8_weeks_88 ?_
                refine v_ast (k := 15) (pc := 89) O dX8_weeks_89 rfl rfl rfl rfl (by show _ < 60; omega) ?_
                refine x_aload_n (pc := 90) O dX8_weeks_90 rfl rfl ?_
                refine v_get (pc := 91) O dX8_weeks_91 fdX8_43 rfl rfl ?_
                refine x_iload_n (pc := 94) O dX8_weeks_94 rfl ?_
                refine v_zldv (k := 20) (v := B 20 q) (pc := 95) O dX8_weeks_95 rfl rfl (by omega) (by simp [up2, upd]) ?_
                refine x_if_eq (pc := 96) O 118 dX8_weeks_96 (by decide) (fun c96 => ?_) (fun c96 => ?_)
                · refine x_iinc (v := nI (q + 1)) (pc := 118) O dX8_weeks_118 rfl (nI_succ q).symm rfl ?_
                  refine x_goto (pc := 121) O 35 dX8_weeks_121 (by decide) ?_
                  refine x_lv O [some (.ref o), some (.int n), some (.int (nI k)), some (.int (nI (q + 1))), none] ⟨rfl, rfl, rfl, rfl, trivial⟩ ?_
                  refine ih2 (by omega) _ ?_
                  show _ = wstep (i 5) (wrow (i 5) A q) q
                  rw [← hB]
                  unfold wstep
                  simp only [if_pos c62, if_pos c96]
                · refine x_aload_n (pc := 99) O dX8_weeks_99 rfl rfl ?_
                  refine v_get (pc := 100) O dX8_weeks_100 fdX8_40 rfl rfl ?_
                  refine x_iload_n (pc := 103) O dX8_weeks_103 rfl ?_
                  refine v_aldv (k := 19) (v := B 19 q) (pc := 104) O dX8_weeks_104 rfl rfl rfl rfl (by show _ < 60; omega) (by simp [up2, upd]) ?_
                  refine x_if_le (pc := 105) O 118 dX8_weeks_105 (by decide) (fun c105 => ?_) (fun c105 => ?_)
                  · refine x_iinc (v := nI (q + 1)) (pc := 118) O dX8_weeks_118 rfl (nI_succ q).symm rfl ?_
                    refine x_goto (pc := 121) O 35 dX8_weeks_121 (by decide) ?_
                    refine x_lv O [some (.ref o), some (.int n), some (.int (nI k)), some (.int (nI (q + 1))), none] ⟨rfl, rfl, rfl, rfl, trivial⟩ ?_
                    refine ih2 (by omega) _ ?_
                    show _ = wstep (i 5) (wrow (i 5) A q) q
                    rw [← hB]
                    unfold wstep
                    simp only [if_pos c62, if_neg c96, if_pos c105]
                  · refine x_aload_n (pc := 108) O dX8_weeks_108 rfl rfl ?_
                    refine v_get (pc := 109) O dX8_weeks_109 fdX8_40 rfl rfl ?_
                    refine x_iload_n (pc := 112) O dX8_weeks_112 rfl ?_
                    refine x_dup2 (pc := 113) O dX8_weeks_113 rfl rfl ?_
                    refine v_aldv (k := 19) (v := B 19 q) (pc := 114) O dX8_weeks_114 rfl rfl rfl rfl (by show _ < 60; omega) (by simp [up2, upd]) ?_
                    refine x_iconst (v := 1) (pc := 115) O dX8_weeks_115 (by decide) ?_
                    refine x_isub (pc := 116) O dX8_weeks_116 ?_
                    refine v_ast (k := 19) (pc := 117) O dX8_weeks_117 rfl rfl rfl rfl (by show _ < 60; omega) ?_
                    refine x_iinc (v := nI (q + 1)) (pc := 118) O dX8_weeks_118 rfl (nI_succ q).symm rfl ?_
                    refine x_goto (pc := 121) O 35 dX8_weeks_121 (by decide) ?_
                    exact absurd c62 c105
              · refine x_aload_n (pc := 65) O dX8_weeks_65 rfl rfl ?_
                refine v_get (pc := 66) O dX8_weeks_66 fdX8_37 rfl rfl ?_
                refine x_iload_n (pc := 69) O dX8_weeks_69 rfl ?_
                refine x_dup2 (pc := 70) O dX8_weeks_70 rfl rfl ?_
                refine v_ald (k := 18) (pc := 71) O dX8_weeks_71 rfl rfl rfl rfl (by show _ < 60; omega) ?_
                refine x_iload (pc := 72) O dX8_weeks_72 rfl ?_
                refine x_iadd (pc := 74) O dX8_weeks_74 ?_
                refine v_ast (k := 18) (pc := 75) O dX8_weeks_75 rfl rfl rfl rfl (by show _ < 60; omega) ?_
                refine x_goto (pc := 76) O 90 dX8_weeks_76 (by decide) ?_
                refine x_aload_n (pc := 90) O dX8_weeks_90 rfl rfl ?_
                refine v_get (pc := 91) O dX8_weeks_91 fdX8_43 rfl rfl ?_
                refine x_iload_n (pc := 94) O dX8_weeks_94 rfl ?_
                refine v_zldv (k := 20) (v := B 20 q) (pc := 95) O dX8_weeks_95 rfl rfl (by omega) (by simp [up2, upd]) ?_
                refine x_if_eq (pc := 96) O 118 dX8_weeks_96 (by decide) (fun c96 => ?_) (fun c96 => ?_)
                · refine x_iinc (v := nI (q + 1)) (pc := 118) O dX8_weeks_118 rfl (nI_succ q).symm rfl ?_
                  refine x_goto (pc := 121) O 35 dX8_weeks_121 (by decide) ?_
                  refine x_lv O [some (.ref o), some (.int n), some (.int (nI k)), some (.int (nI (q + 1))), none] ⟨rfl, rfl, rfl, rfl, trivial⟩ ?_
                  refine ih2 (by omega) _ ?_
                  show _ = wstep (i 5) (wrow (i 5) A q) q
                  rw [← hB]
                  unfold wstep
                  simp only [if_neg c62, if_pos c96]
                · refine x_aload_n (pc := 99) O dX8_weeks_99 rfl rfl ?_
                  refine v_get (pc := 100) O dX8_weeks_100 fdX8_40 rfl rfl ?_
                  refine x_iload_n (pc := 103) O dX8_weeks_103 rfl ?_
                  refine v_aldv (k := 19) (v := B 19 q) (pc := 104) O dX8_weeks_104 rfl rfl rfl rfl (by show _ < 60; omega) (by simp [up2, upd]) ?_
                  refine x_if_le (pc := 105) O 118 dX8_weeks_105 (by decide) (fun c105 => ?_) (fun c105 => ?_)
                  · refine x_iinc (v := nI (q + 1)) (pc := 118) O dX8_weeks_118 rfl (nI_succ q).symm rfl ?_
                    refine x_goto (pc := 121) O 35 dX8_weeks_121 (by decide) ?_
                    exact absurd c105 c62
                  · refine x_aload_n (pc := 108) O dX8_weeks_108 rfl rfl ?_
                    refine v_get (pc := 109) O dX8_weeks_109 fdX8_40 rfl rfl ?_
                    refine x_iload_n (pc := 112) O dX8_weeks_112 rfl ?_
                    refine x_dup2 (pc := 113) O dX8_weeks_113 rfl rfl ?_
                    refine v_aldv (k := 19) (v := B 19 q) (pc := 114) O dX8_weeks_114 rfl rfl rfl rfl (by show _ < 60; omega) (by simp [up2, upd]) ?_
                    refine x_iconst (v := 1) (pc := 115) O dX8_weeks_115 (by decide) ?_
                    refine x_isub (pc := 116) O dX8_weeks_116 ?_
                    refine v_ast (k := 19) (pc := 117) O dX8_weeks_117 rfl rfl rfl rfl (by show _ < 60; omega) ?_
                    refine x_iinc (v := nI (q + 1)) (pc := 118) O dX8_weeks_118 rfl (nI_succ q).symm rfl ?_
                    refine x_goto (pc := 121) O 35 dX8_weeks_121 (by decide) ?_
                    refine x_lv O [some (.ref o), some (.int n), some (.int (nI k)), some (.int (nI (q + 1))), none] ⟨rfl, rfl, rfl, rfl, trivial⟩ ?_
                    refine ih2 (by omega) _ ?_
                    show _ = wstep (i 5) (wrow (i 5) A q) q
                    rw [← hB]
                    unfold wstep
                    simp only [if_neg c62, if_neg c96, if_neg c105]
          exact loop2 0 (by omega) A rfl
      exact loop 0 (by omega) i a rfl rfl
    · refine x_iconst (v := (-1)) (pc := 24) O dX8_weeks_24 (by decide) ?_
      have hc9 : ¬ ((0 ≤ n ∧ n ≤ 60) ∧ i 8 + 7 * n ≤ 40000) := fun z => c21 z.2
      refine x_ret (v := some (.int _)) (pc := 25) O dX8_weeks_25 rfl rfl ⟨Nat.le_refl _, Nat.le_refl _, (), congrArg (fun z => some (Value.int z)) (if_neg hc9).symm, fun h hh => ?_⟩
      (try simp only [if_neg hc9]); exact hh
