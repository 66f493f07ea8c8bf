/-! ===== REF 3: told, count, courts, weeks ===== -/
theorem tb_split (x : Int32) (n : Nat) (hn : n < 2147483648) : (x.toInt < 0 ∨ (n : Int) < x.toInt) ∨ ∃ k : Nat, k ≤ n ∧ x = nI k := by
  by_cases h : x < 0
  · left; left
    rw [Int32.lt_iff_toInt_lt] at h
    simpa using h
  · obtain ⟨j, hj, rfl⟩ := nI_of h
    by_cases h2 : j ≤ n
    · exact Or.inr ⟨j, h2, rfl⟩
    · left; right
      rw [nI_toInt hj]
      omega
theorem tb_ne {x : Int32} {n k : Nat} (h : x.toInt < 0 ∨ (n : Int) < x.toInt) (hk : k ≤ n) (hk2 : k < 2 ^ 31) : ¬ x = nI k := by
  rintro rfl
  rw [nI_toInt hk2] at h
  omega
def toldV (a : Nat → Nat → Int32) (j : Nat) (p x : Int32) : Int32 := if x = nI 0 then a 9 j else if x = nI 1 then a 10 j else if x = nI 2 then a 11 j else if x = nI 3 then (if a 20 j = 0 then 0 else 1) else if x = nI 4 then a 12 j else if x = nI 5 then a 13 j else if x = nI 6 then hcnt a p 0 120 else if x = nI 7 then hcnt a p 1 120 else if x = nI 8 then a 14 j else if x = nI 9 then a 15 j else if x = nI 10 then a 16 j else if x = nI 11 then a 17 j else if x = nI 12 then a 18 j else if x = nI 13 then a 19 j else -2
def osum (a : Nat → Nat → Int32) : Nat → Int32
  | 0 => 0
  | k + 1 => osum a k + a 14 k
def countV (i : Nat → Int32) (a : Nat → Nat → Int32) (m : Nat) (x : Int32) : Int32 := if x = nI 0 then i 8 else if x = nI 1 then i 22 else if x = nI 2 then i 7 else if x = nI 3 then i 38 else if x = nI 4 then hcnt a (-1) 0 120 else if x = nI 5 then osum a m else if x = nI 6 then i 23 else if x = nI 7 then i 28 else -1
set_option maxRecDepth 100000 in
set_option maxHeartbeats 4000000 in
theorem c_X8_told (l : Launch) (E : En) (o : Nat) (d : Nat → Nat) (i : Nat → Int32) (a : Nat → Nat → Int32) (ch : Nat → List Rt) (p x : Int32) {m : Nat} (hm : i 22 = nI m) (h60 : m ≤ 60) : Mt l E yX8_told cX8_told 3 (some .int) (rmX 2 43 0 0) [.ref o, .int p, .int x] (RV E o d i a ch) (fun _ : Unit => some (.int (if isP i p then toldV a p.toNatClampNeg p x else -2))) (fun _ => RV E o d i a ch) := by
  refine Mt_of (by decide +kernel) (Nat.le_of_ble_eq_true rfl) (fun J O => ?_)
  show J _ 0 0 0 [some (.ref o), some (.int p), some (.int x)] []
  refine x_aload_n (pc := 0) O dX8_told_0 rfl rfl ?_
  refine x_iload_n (pc := 1) O dX8_told_1 rfl ?_
  refine x_callV (pc := 2) (rest := _) (ci := 8) O (c_X8_isPerson l E _ _ _ _ _ _) dX8_told_2 cbX8_107 im_yX8_isPerson se_yX8_isPerson rfl v_recv rfl rfl (Nat.le_of_ble_eq_true rfl) ⟨Nat.le_of_ble_eq_true rfl, Nat.le_of_ble_eq_true rfl⟩ ⟨Nat.le_of_ble_eq_true rfl, Nat.le_of_ble_eq_true rfl⟩ (fun _ => ?_)
  dsimp only [Option.toList, List.append, List.nil_append, List.cons_append, Nat.add_zero, Nat.reduceAdd]
  refine x_if_ne (pc := 5) O 11 dX8_told_5 (by decide) (fun c5 => ?_) (fun c5 => ?_)
  · have hp := in_nat hm (by omega) (b2i_n0 c5)
    refine x_iload_n (pc := 11) O dX8_told_11 rfl ?_
    rcases tb_split x 13 (by decide) with hx12 | ⟨k12, hk12, rfl⟩
    · refine x_tout (pc := 12) O 190 dX8_told_12 hx12 (by decide) ?_
      refine x_bipush (v := (-2)) (pc := 190) O dX8_told_190 (by decide) ?_
      exact x_ret (v := some (.int _)) (pc := 192) O dX8_told_192 rfl (rfl) ⟨Nat.le_refl _, Nat.le_refl _, (), congrArg (fun z => some (Value.int z)) (by rw [if_pos (b2i_n0 c5)]; unfold toldV; rw [if_neg (tb_ne hx12 (k := 0) (by decide) (by decide)), if_neg (tb_ne hx12 (k := 1) (by decide) (by decide)), if_neg (tb_ne hx12 (k := 2) (by decide) (by decide)), if_neg (tb_ne hx12 (k := 3) (by decide) (by decide)), if_neg (tb_ne hx12 (k := 4) (by decide) (by decide)), if_neg (tb_ne hx12 (k := 5) (by decide) (by decide)), if_neg (tb_ne hx12 (k := 6) (by decide) (by decide)), if_neg (tb_ne hx12 (k := 7) (by decide) (by decide)), if_neg (tb_ne hx12 (k := 8) (by decide) (by decide)), if_neg (tb_ne hx12 (k := 9) (by decide) (by decide)), if_neg (tb_ne hx12 (k := 10) (by decide) (by decide)), if_neg (tb_ne hx12 (k := 11) (by decide) (by decide)), if_neg (tb_ne hx12 (k := 12) (by decide) (by decide)), if_neg (tb_ne hx12 (k := 13) (by decide) (by decide))]), fun h hh => hh⟩
    · rcases (show k12 = 0 ∨ k12 = 1 ∨ k12 = 2 ∨ k12 = 3 ∨ k12 = 4 ∨ k12 = 5 ∨ k12 = 6 ∨ k12 = 7 ∨ k12 = 8 ∨ k12 = 9 ∨ k12 = 10 ∨ k12 = 11 ∨ k12 = 12 ∨ k12 = 13 by omega) with rfl | rfl | rfl | rfl | rfl | rfl | rfl | rfl | rfl | rfl | rfl | rfl | rfl | rfl
      · refine x_tin (off := 72) (pc := 12) O 84 dX8_told_12 (by decide) (by decide) (by decide) (by decide) ?_
        refine x_aload_n (pc := 84) O dX8_told_84 rfl rfl ?_
        refine v_get (pc := 85) O dX8_told_85 fdX8_9 rfl rfl ?_
        refine x_iload_n (pc := 88) O dX8_told_88 rfl ?_
        refine v_ald (k := 9) (pc := 89) O dX8_told_89 rfl rfl rfl hp.1 (by show _ < 60; omega) ?_
        exact x_ret (v := some (.int _)) (pc := 90) O dX8_told_90 rfl (rfl) ⟨Nat.le_refl _, Nat.le_refl _, (), congrArg (fun z => some (Value.int z)) (by rw [if_pos (b2i_n0 c5)]; rfl), fun h hh => hh⟩
      · refine x_tin (off := 79) (pc := 12) O 91 dX8_told_12 (by decide) (by decide) (by decide) (by decide) ?_
        refine x_aload_n (pc := 91) O dX8_told_91 rfl rfl ?_
        refine v_get (pc := 92) O dX8_told_92 fdX8_13 rfl rfl ?_
        refine x_iload_n (pc := 95) O dX8_told_95 rfl ?_
        refine v_ald (k := 10) (pc := 96) O dX8_told_96 rfl rfl rfl hp.1 (by show _ < 60; omega) ?_
        exact x_ret (v := some (.int _)) (pc := 97) O dX8_told_97 rfl (rfl) ⟨Nat.le_refl _, Nat.le_refl _, (), congrArg (fun z => some (Value.int z)) (by rw [if_pos (b2i_n0 c5)]; rfl), fun h hh => hh⟩
      · refine x_tin (off := 86) (pc := 12) O 98 dX8_told_12 (by decide) (by decide) (by decide) (by decide) ?_
        refine x_aload_n (pc := 98) O dX8_told_98 rfl rfl ?_
        refine v_get (pc := 99) O dX8_told_99 fdX8_16 rfl rfl ?_
        refine x_iload_n (pc := 102) O dX8_told_102 rfl ?_
        refine v_ald (k := 11) (pc := 103) O dX8_told_103 rfl rfl rfl hp.1 (by show _ < 60; omega) ?_
        exact x_ret (v := some (.int _)) (pc := 104) O dX8_told_104 rfl (rfl) ⟨Nat.le_refl _, Nat.le_refl _, (), congrArg (fun z => some (Value.int z)) (by rw [if_pos (b2i_n0 c5)]; rfl), fun h hh => hh⟩
      · refine x_tin (off := 93) (pc := 12) O 105 dX8_told_12 (by decide) (by decide) (by decide) (by decide) ?_
        refine x_aload_n (pc := 105) O dX8_told_105 rfl rfl ?_
        refine v_get (pc := 106) O dX8_told_106 fdX8_43 rfl rfl ?_
        refine x_iload_n (pc := 109) O dX8_told_109 rfl ?_
        refine v_zld (k := 20) (pc := 110) O dX8_told_110 rfl hp.1 (by omega) ?_
        refine x_if_eq (pc := 111) O 118 dX8_told_111 (by decide) (fun c111 => ?_) (fun c111 => ?_)
        · refine x_iconst (v := 0) (pc := 118) O dX8_told_118 (by decide) ?_
          exact x_ret (v := some (.int _)) (pc := 119) O dX8_told_119 rfl (rfl) ⟨Nat.le_refl _, Nat.le_refl _, (), congrArg (fun z => some (Value.int z)) (by rw [if_pos (b2i_n0 c5)]; show _ = if a 20 p.toNatClampNeg = 0 then (0 : Int32) else 1; rw [if_pos c111]), fun h hh => hh⟩
        · refine x_iconst (v := 1) (pc := 114) O dX8_told_114 (by decide) ?_
          refine x_goto (pc := 115) O 119 dX8_told_115 (by decide) ?_
          exact x_ret (v := some (.int _)) (pc := 119) O dX8_told_119 rfl (rfl) ⟨Nat.le_refl _, Nat.le_refl _, (), congrArg (fun z => some (Value.int z)) (by rw [if_pos (b2i_n0 c5)]; show _ = if a 20 p.toNatClampNeg = 0 then (0 : Int32) else 1; rw [if_neg c111]), fun h hh => hh⟩
      · refine x_tin (off := 108) (pc := 12) O 120 dX8_told_12 (by decide) (by decide) (by decide) (by decide) ?_
        refine x_aload_n (pc := 120) O dX8_told_120 rfl rfl ?_
        refine v_get (pc := 121) O dX8_told_121 fdX8_19 rfl rfl ?_
        refine x_iload_n (pc := 124) O dX8_told_124 rfl ?_
        refine v_ald (k := 12) (pc := 125) O dX8_told_125 rfl rfl rfl hp.1 (by show _ < 60; omega) ?_
        exact x_ret (v := some (.int _)) (pc := 126) O dX8_told_126 rfl (rfl) ⟨Nat.le_refl _, Nat.le_refl _, (), congrArg (fun z => some (Value.int z)) (by rw [if_pos (b2i_n0 c5)]; rfl), fun h hh => hh⟩
      · refine x_tin (off := 115) (pc := 12) O 127 dX8_told_12 (by decide) (by decide) (by decide) (by decide) ?_
        refine x_aload_n (pc := 127) O dX8_told_127 rfl rfl ?_
        refine v_get (pc := 128) O dX8_told_128 fdX8_22 rfl rfl ?_
        refine x_iload_n (pc := 131) O dX8_told_131 rfl ?_
        refine v_ald (k := 13) (pc := 132) O dX8_told_132 rfl rfl rfl hp.1 (by show _ < 60; omega) ?_
        exact x_ret (v := some (.int _)) (pc := 133) O dX8_told_133 rfl (rfl) ⟨Nat.le_refl _, Nat.le_refl _, (), congrArg (fun z => some (Value.int z)) (by rw [if_pos (b2i_n0 c5)]; rfl), fun h hh => hh⟩
      · refine x_tin (off := 122) (pc := 12) O 134 dX8_told_12 (by decide) (by decide) (by decide) (by decide) ?_
        refine x_aload_n (pc := 134) O dX8_told_134 rfl rfl ?_
        refine x_iload_n (pc := 135) O dX8_told_135 rfl ?_
        refine x_iconst (v := 0) (pc := 136) O dX8_told_136 (by decide) ?_
        refine x_callV (pc := 137) (rest := _) (ci := 8) O (c_X8_held l E _ _ _ _ _ _ _) dX8_told_137 cbX8_202 im_yX8_held se_yX8_held rfl v_recv rfl rfl (Nat.le_of_ble_eq_true rfl) ⟨Nat.le_of_ble_eq_true rfl, Nat.le_of_ble_eq_true rfl⟩ ⟨Nat.le_of_ble_eq_true rfl, Nat.le_of_ble_eq_true rfl⟩ (fun _ => ?_)
        dsimp only [Option.toList, List.append, List.nil_append, List.cons_append, Nat.add_zero, Nat.reduceAdd]
        exact x_ret (v := some (.int _)) (pc := 140) O dX8_told_140 rfl (rfl) ⟨Nat.le_refl _, Nat.le_refl _, (), congrArg (fun z => some (Value.int z)) (by rw [if_pos (b2i_n0 c5)]; rfl), fun h hh => hh⟩
      · refine x_tin (off := 129) (pc := 12) O 141 dX8_told_12 (by decide) (by decide) (by decide) (by decide) ?_
        refine x_aload_n (pc := 141) O dX8_told_141 rfl rfl ?_
        refine x_iload_n (pc := 142) O dX8_told_142 rfl ?_
        refine x_iconst (v := 1) (pc := 143) O dX8_told_143 (by decide) ?_
        refine x_callV (pc := 144) (rest := _) (ci := 8) O (c_X8_held l E _ _ _ _ _ _ _) dX8_told_144 cbX8_202 im_yX8_held se_yX8_held rfl v_recv rfl rfl (Nat.le_of_ble_eq_true rfl) ⟨Nat.le_of_ble_eq_true rfl, Nat.le_of_ble_eq_true rfl⟩ ⟨Nat.le_of_ble_eq_true rfl, Nat.le_of_ble_eq_true rfl⟩ (fun _ => ?_)
        dsimp only [Option.toList, List.append, List.nil_append, List.cons_append, Nat.add_zero, Nat.reduceAdd]
        exact x_ret (v := some (.int _)) (pc := 147) O dX8_told_147 rfl (rfl) ⟨Nat.le_refl _, Nat.le_refl _, (), congrArg (fun z => some (Value.int z)) (by rw [if_pos (b2i_n0 c5)]; rfl), fun h hh => hh⟩
      · refine x_tin (off := 136) (pc := 12) O 148 dX8_told_12 (by decide) (by decide) (by decide) (by decide) ?_
        refine x_aload_n (pc := 148) O dX8_told_148 rfl rfl ?_
        refine v_get (pc := 149) O dX8_told_149 fdX8_25 rfl rfl ?_
        refine x_iload_n (pc := 152) O dX8_told_152 rfl ?_
        refine v_ald (k := 14) (pc := 153) O dX8_told_153 rfl rfl rfl hp.1 (by show _ < 60; omega) ?_
        exact x_ret (v := some (.int _)) (pc := 154) O dX8_told_154 rfl (rfl) ⟨Nat.le_refl _, Nat.le_refl _, (), congrArg (fun z => some (Value.int z)) (by rw [if_pos (b2i_n0 c5)]; rfl), fun h hh => hh⟩
      · refine x_tin (off := 143) (pc := 12) O 155 dX8_told_12 (by decide) (by decide) (by decide) (by decide) ?_
        refine x_aload_n (pc := 155) O dX8_told_155 rfl rfl ?_
        refine v_get (pc := 156) O dX8_told_156 fdX8_28 rfl rfl ?_
        refine x_iload_n (pc := 159) O dX8_told_159 rfl ?_
        refine v_ald (k := 15) (pc := 160) O dX8_told_160 rfl rfl rfl hp.1 (by show _ < 60; omega) ?_
        exact x_ret (v := some (.int _)) (pc := 161) O dX8_told_161 rfl (rfl) ⟨Nat.le_refl _, Nat.le_refl _, (), congrArg (fun z => some (Value.int z)) (by rw [if_pos (b2i_n0 c5)]; rfl), fun h hh => hh⟩
      · refine x_tin (off := 150) (pc := 12) O 162 dX8_told_12 (by decide) (by decide) (by decide) (by decide) ?_
        refine x_aload_n (pc := 162) O dX8_told_162 rfl rfl ?_
        refine v_get (pc := 163) O dX8_told_163 fdX8_31 rfl rfl ?_
        refine x_iload_n (pc := 166) O dX8_told_166 rfl ?_
        refine v_ald (k := 16) (pc := 167) O dX8_told_167 rfl rfl rfl hp.1 (by show _ < 60; omega) ?_
        exact x_ret (v := some (.int _)) (pc := 168) O dX8_told_168 rfl (rfl) ⟨Nat.le_refl _, Nat.le_refl _, (), congrArg (fun z => some (Value.int z)) (by rw [if_pos (b2i_n0 c5)]; rfl), fun h hh => hh⟩
      · refine x_tin (off := 157) (pc := 12) O 169 dX8_told_12 (by decide) (by decide) (by decide) (by decide) ?_
        refine x_aload_n (pc := 169) O dX8_told_169 rfl rfl ?_
        refine v_get (pc := 170) O dX8_told_170 fdX8_34 rfl rfl ?_
        refine x_iload_n (pc := 173) O dX8_told_173 rfl ?_
        refine v_ald (k := 17) (pc := 174) O dX8_told_174 rfl rfl rfl hp.1 (by show _ < 60; omega) ?_
        exact x_ret (v := some (.int _)) (pc := 175) O dX8_told_175 rfl (rfl) ⟨Nat.le_refl _, Nat.le_refl _, (), congrArg (fun z => some (Value.int z)) (by rw [if_pos (b2i_n0 c5)]; rfl), fun h hh => hh⟩
      · refine x_tin (off := 164) (pc := 12) O 176 dX8_told_12 (by decide) (by decide) (by decide) (by decide) ?_
        refine x_aload_n (pc := 176) O dX8_told_176 rfl rfl ?_
        refine v_get (pc := 177) O dX8_told_177 fdX8_37 rfl rfl ?_
        refine x_iload_n (pc := 180) O dX8_told_180 rfl ?_
        refine v_ald (k := 18) (pc := 181) O dX8_told_181 rfl rfl rfl hp.1 (by show _ < 60; omega) ?_
        exact x_ret (v := some (.int _)) (pc := 182) O dX8_told_182 rfl (rfl) ⟨Nat.le_refl _, Nat.le_refl _, (), congrArg (fun z => some (Value.int z)) (by rw [if_pos (b2i_n0 c5)]; rfl), fun h hh => hh⟩
      · refine x_tin (off := 171) (pc := 12) O 183 dX8_told_12 (by decide) (by decide) (by decide) (by decide) ?_
        refine x_aload_n (pc := 183) O dX8_told_183 rfl rfl ?_
        refine v_get (pc := 184) O dX8_told_184 fdX8_40 rfl rfl ?_
        refine x_iload_n (pc := 187) O dX8_told_187 rfl ?_
        refine v_ald (k := 19) (pc := 188) O dX8_told_188 rfl rfl rfl hp.1 (by show _ < 60; omega) ?_
        exact x_ret (v := some (.int _)) (pc := 189) O dX8_told_189 rfl (rfl) ⟨Nat.le_refl _, Nat.le_refl _, (), congrArg (fun z => some (Value.int z)) (by rw [if_pos (b2i_n0 c5)]; rfl), fun h hh => hh⟩
  · refine x_bipush (v := (-2)) (pc := 8) O dX8_told_8 (by decide) ?_
    exact x_ret (v := some (.int _)) (pc := 10) O dX8_told_10 rfl (rfl) ⟨Nat.le_refl _, Nat.le_refl _, (), congrArg (fun z => some (Value.int z)) ((if_neg (b2i_z c5)).symm), fun h hh => hh⟩
set_option maxRecDepth 100000 in
set_option maxHeartbeats 4000000 in
theorem c_X8_count (l : Launch) (E : En) (o : Nat) (d : Nat → Nat) (i : Nat → Int32) (a : Nat → Nat → Int32) (ch : Nat → List Rt) (x : Int32) {m : Nat} (hm : i 22 = nI m) (h60 : m ≤ 60) : Mt l E yX8_count cX8_count 4 (some .int) (rmX 1 24 0 0) [.ref o, .int x] (RV E o d i a ch) (fun _ : Unit => some (.int (countV i a m x))) (fun _ => RV E o d i a ch) := by
  refine Mt_of (by decide +kernel) (Nat.le_of_ble_eq_true rfl) (fun J O => ?_)
  show J _ 0 0 0 [some (.ref o), some (.int x), none, none] []
  refine x_iload_n (pc := 0) O dX8_count_0 rfl ?_
  rcases tb_split x 7 (by decide) with hx1 | ⟨k1, hk1, rfl⟩
  · refine x_tout (pc := 1) O 114 dX8_count_1 hx1 (by decide) ?_
    refine x_iconst (v := (-1)) (pc := 114) O dX8_count_114 (by decide) ?_
    exact x_ret (v := some (.int _)) (pc := 115) O dX8_count_115 rfl (rfl) ⟨Nat.le_refl _, Nat.le_refl _, (), congrArg (fun z => some (Value.int z)) (by unfold countV; rw [if_neg (tb_ne hx1 (k := 0) (by decide) (by decide)), if_neg (tb_ne hx1 (k := 1) (by decide) (by decide)), if_neg (tb_ne hx1 (k := 2) (by decide) (by decide)), if_neg (tb_ne hx1 (k := 3) (by decide) (by decide)), if_neg (tb_ne hx1 (k := 4) (by decide) (by decide)), if_neg (tb_ne hx1 (k := 5) (by decide) (by decide)), if_neg (tb_ne hx1 (k := 6) (by decide) (by decide)), if_neg (tb_ne hx1 (k := 7) (by decide) (by decide))]), fun h hh => hh⟩
  · rcases (show k1 = 0 ∨ k1 = 1 ∨ k1 = 2 ∨ k1 = 3 ∨ k1 = 4 ∨ k1 = 5 ∨ k1 = 6 ∨ k1 = 7 by omega) with rfl | rfl | rfl | rfl | rfl | rfl | rfl | rfl
    · refine x_tin (off := 47) (pc := 1) O 48 dX8_count_1 (by decide) (by decide) (by decide) (by decide) ?_
      refine x_aload_n (pc := 48) O dX8_count_48 rfl rfl ?_
      refine v_get (pc := 49) O dX8_count_49 fdX8_118 rfl rfl ?_
      exact x_ret (v := some (.int _)) (pc := 52) O dX8_count_52 rfl (rfl) ⟨Nat.le_refl _, Nat.le_refl _, (), rfl, fun h hh => hh⟩
    · refine x_tin (off := 52) (pc := 1) O 53 dX8_count_1 (by decide) (by decide) (by decide) (by decide) ?_
      refine x_aload_n (pc := 53) O dX8_count_53 rfl rfl ?_
      refine v_get (pc := 54) O dX8_count_54 fdX8_99 rfl rfl ?_
      exact x_ret (v := some (.int _)) (pc := 57) O dX8_count_57 rfl (rfl) ⟨Nat.le_refl _, Nat.le_refl _, (), rfl, fun h hh => hh⟩
    · refine x_tin (off := 57) (pc := 1) O 58 dX8_count_1 (by decide) (by decide) (by decide) (by decide) ?_
      refine x_aload_n (pc := 58) O dX8_count_58 rfl rfl ?_
      refine v_get (pc := 59) O dX8_count_59 fdX8_151 rfl rfl ?_
      exact x_ret (v := some (.int _)) (pc := 62) O dX8_count_62 rfl (rfl) ⟨Nat.le_refl _, Nat.le_refl _, (), rfl, fun h hh => hh⟩
    · refine x_tin (off := 62) (pc := 1) O 63 dX8_count_1 (by decide) (by decide) (by decide) (by decide) ?_
      refine x_aload_n (pc := 63) O dX8_count_63 rfl rfl ?_
      refine v_get (pc := 64) O dX8_count_64 fdX8_209 rfl rfl ?_
      exact x_ret (v := some (.int _)) (pc := 67) O dX8_count_67 rfl (rfl) ⟨Nat.le_refl _, Nat.le_refl _, (), rfl, fun h hh => hh⟩
    · refine x_tin (off := 67) (pc := 1) O 68 dX8_count_1 (by decide) (by decide) (by decide) (by decide) ?_
      refine x_aload_n (pc := 68) O dX8_count_68 rfl rfl ?_
      refine x_iconst (v := (-1)) (pc := 69) O dX8_count_69 (by decide) ?_
      refine x_iconst (v := 0) (pc := 70) O dX8_count_70 (by decide) ?_
      refine x_callV (pc := 71) (rest := _) (ci := 8) O (c_X8_held l E _ _ _ _ _ _ _) dX8_count_71 cbX8_202 im_yX8_held se_yX8_held rfl v_recv rfl rfl (Nat.le_of_ble_eq_true rfl) ⟨Nat.le_of_ble_eq_true rfl, Nat.le_of_ble_eq_true rfl⟩ ⟨Nat.le_of_ble_eq_true rfl, Nat.le_of_ble_eq_true rfl⟩ (fun _ => ?_)
      dsimp only [Option.toList, List.append, List.nil_append, List.cons_append, Nat.add_zero, Nat.reduceAdd]
      exact x_ret (v := some (.int _)) (pc := 74) O dX8_count_74 rfl (rfl) ⟨Nat.le_refl _, Nat.le_refl _, (), rfl, fun h hh => hh⟩
    · refine x_tin (off := 74) (pc := 1) O 75 dX8_count_1 (by decide) (by decide) (by decide) (by decide) ?_
      refine x_iconst (v := 0) (pc := 75) O dX8_count_75 (by decide) ?_
      refine x_istore_n (pc := 76) O dX8_count_76 (by decide) rfl ?_
      refine x_iconst (v := nI 0) (pc := 77) O dX8_count_77 (by decide) ?_
      refine x_istore_n (pc := 78) O dX8_count_78 (by decide) rfl ?_
      have loop : ∀ k, k ≤ m → J (RV E o d i a ch) 0 0 79 [some (.ref o), some (.int (nI 5)), some (.int (osum a k)), some (.int (nI k))] [] := by
        refine up_ind m (fun k hk ih => ?_)
        refine x_iload_n (pc := 79) O dX8_count_79 rfl ?_
        refine x_aload_n (pc := 80) O dX8_count_80 rfl rfl ?_
        refine v_get (pc := 81) O dX8_count_81 fdX8_99 rfl rfl ?_
        refine x_icmp_ge (pc := 84) O 102 dX8_count_84 (by decide) (fun c84 => ?_) (fun c84 => ?_)
        · refine x_iload_n (pc := 102) O dX8_count_102 rfl ?_
          have hk2 : k = m := by
            rw [hm, nI_leI (by omega) (by omega)] at c84
            omega
          subst hk2
          exact x_ret (v := some (.int _)) (pc := 103) O dX8_count_103 rfl (rfl) ⟨Nat.le_refl _, Nat.le_refl _, (), rfl, fun h hh => hh⟩
        · have hk3 : k < m := by
            rw [hm, nI_leI (by omega) (by omega)] at c84
            omega
          refine x_iload_n (pc := 87) O dX8_count_87 rfl ?_
          refine x_aload_n (pc := 88) O dX8_count_88 rfl rfl ?_
          refine v_get (pc := 89) O dX8_count_89 fdX8_25 rfl rfl ?_
          refine x_iload_n (pc := 92) O dX8_count_92 rfl ?_
          refine v_ald (k := 14) (pc := 93) O dX8_count_93 rfl rfl rfl rfl (by show _ < 60; omega) ?_
          refine x_iadd (pc := 94) O dX8_count_94 ?_
          refine x_istore_n (pc := 95) O dX8_count_95 (by decide) rfl ?_
          refine x_iinc (v := nI (k + 1)) (pc := 96) O dX8_count_96 rfl (nI_succ k).symm rfl ?_
          refine x_goto (pc := 99) O 79 dX8_count_99 (by decide) ?_
          exact ih (by omega)
      exact loop 0 (by omega)
    · refine x_tin (off := 103) (pc := 1) O 104 dX8_count_1 (by decide) (by decide) (by decide) (by decide) ?_
      refine x_aload_n (pc := 104) O dX8_count_104 rfl rfl ?_
      refine v_get (pc := 105) O dX8_count_105 fdX8_206 rfl rfl ?_
      exact x_ret (v := some (.int _)) (pc := 108) O dX8_count_108 rfl (rfl) ⟨Nat.le_refl _, Nat.le_refl _, (), rfl, fun h hh => hh⟩
    · refine x_tin (off := 108) (pc := 1) O 109 dX8_count_1 (by decide) (by decide) (by decide) (by decide) ?_
      refine x_aload_n (pc := 109) O dX8_count_109 rfl rfl ?_
      refine v_get (pc := 110) O dX8_count_110 fdX8_111 rfl rfl ?_
      exact x_ret (v := some (.int _)) (pc := 113) O dX8_count_113 rfl (rfl) ⟨Nat.le_refl _, Nat.le_refl _, (), rfl, fun h hh => hh⟩
def fallsA (a : Nat → Nat → Int32) (k b1 b2 : Nat) : Nat → Nat → Int32 :=
  let p := if a 20 b2 = 0 then b1 else b2
  let a2 := up2 (up2 a 14 p (a 14 p + 3)) 37 k (a 37 k + 1)
  if 2 ≤ a 37 k + 1 then up2 (up2 a2 35 k 2) 14 b1 ((up2 a2 35 k 2) 14 b1 + 6) else a2
set_option maxRecDepth 100000 in
set_option maxHeartbeats 4000000 in
theorem c_X8_falls (l : Launch) (E : En) (o : Nat) (d : Nat → Nat) (i : Nat → Int32) (a : Nat → Nat → Int32) (ch : Nat → List Rt) (k : Nat) {b1 b2 : Nat} (h32 : a 32 k = nI b1) (h33 : a 33 k = nI b2) (hb1 : b1 < 60) (hb2 : b2 < 60) (hk : k < 40) : Mt l E yX8_falls cX8_falls 3 none (rmX 0 0 0 0) [.ref o, .int (nI k)] (RV E o d i a ch) (fun _ : Unit => none) (fun _ => RV E o d i (fallsA a k b1 b2) ch) := by
  refine Mt_of (by decide +kernel) (Nat.le_of_ble_eq_true rfl) (fun J O => ?_)
  show J _ 0 0 0 [some (.ref o), some (.int (nI k)), none] []
  refine x_aload_n (pc := 0) O dX8_falls_0 rfl rfl ?_
  refine v_get (pc := 1) O dX8_falls_1 fdX8_43 rfl rfl ?_
  refine x_aload_n (pc := 4) O dX8_falls_4 rfl rfl ?_
  refine v_get (pc := 5) O dX8_falls_5 fdX8_74 rfl rfl ?_
  refine x_iload_n (pc := 8) O dX8_falls_8 rfl ?_
  refine v_ald (k := 33) (pc := 9) O dX8_falls_9 rfl rfl rfl rfl (by show _ < 40; omega) ?_
  refine v_zld (k := 20) (pc := 10) O dX8_falls_10 rfl h33 (by omega) ?_
  refine x_if_eq (pc := 11) O 23 dX8_falls_11 (by decide) (fun c11 => ?_) (fun c11 => ?_)
  · refine x_aload_n (pc := 23) O dX8_falls_23 rfl rfl ?_
    refine v_get (pc := 24) O dX8_falls_24 fdX8_71 rfl rfl ?_
    refine x_iload_n (pc := 27) O dX8_falls_27 rfl ?_
    refine v_ald (k := 32) (pc := 28) O dX8_falls_28 rfl rfl rfl rfl (by show _ < 40; omega) ?_
    refine x_istore_n (pc := 29) O dX8_falls_29 (by decide) rfl ?_
    refine x_aload_n (pc := 30) O dX8_falls_30 rfl rfl ?_
    refine v_get (pc := 31) O dX8_falls_31 fdX8_25 rfl rfl ?_
    refine x_iload_n (pc := 34) O dX8_falls_34 rfl ?_
    refine x_dup2 (pc := 35) O dX8_falls_35 rfl rfl ?_
    refine v_ald (k := 14) (pc := 36) O dX8_falls_36 rfl rfl rfl h32 (by show _ < 60; omega) ?_
    refine x_iconst (v := 3) (pc := 37) O dX8_falls_37 (by decide) ?_
    refine x_iadd (pc := 38) O dX8_falls_38 ?_
    refine v_ast (k := 14) (pc := 39) O dX8_falls_39 rfl rfl rfl h32 (by show _ < 60; omega) ?_
    refine x_aload_n (pc := 40) O dX8_falls_40 rfl rfl ?_
    refine v_get (pc := 41) O dX8_falls_41 fdX8_86 rfl rfl ?_
    refine x_iload_n (pc := 44) O dX8_falls_44 rfl ?_
    refine x_dup2 (pc := 45) O dX8_falls_45 rfl rfl ?_
    refine v_aldv (k := 37) (v := a 37 k) (pc := 46) O dX8_falls_46 rfl rfl rfl rfl (by show _ < 40; omega) (by simp [up2, upd]) ?_
    refine x_iconst (v := 1) (pc := 47) O dX8_falls_47 (by decide) ?_
    refine x_iadd (pc := 48) O dX8_falls_48 ?_
    refine v_ast (k := 37) (pc := 49) O dX8_falls_49 rfl rfl rfl rfl (by show _ < 40; omega) ?_
    refine x_aload_n (pc := 50) O dX8_falls_50 rfl rfl ?_
    refine v_get (pc := 51) O dX8_falls_51 fdX8_86 rfl rfl ?_
    refine x_iload_n (pc := 54) O dX8_falls_54 rfl ?_
    refine v_aldv (k := 37) (v := a 37 k + 1) (pc := 55) O dX8_falls_55 rfl rfl rfl rfl (by show _ < 40; omega) (by simp [up2, upd]) ?_
    refine x_iconst (v := 2) (pc := 56) O dX8_falls_56 (by decide) ?_
    refine x_icmp_ge (pc := 57) O 61 dX8_falls_57 (by decide) (fun c57 => ?_) (fun c57 => ?_)
    · refine x_aload_n (pc := 61) O dX8_falls_61 rfl rfl ?_
      refine v_get (pc := 62) O dX8_falls_62 fdX8_80 rfl rfl ?_
      refine x_iload_n (pc := 65) O dX8_falls_65 rfl ?_
      refine x_iconst (v := 2) (pc := 66) O dX8_falls_66 (by decide) ?_
      refine v_ast (k := 35) (pc := 67) O dX8_falls_67 rfl rfl rfl rfl (by show _ < 40; omega) ?_
      refine x_aload_n (pc := 68) O dX8_falls_68 rfl rfl ?_
      refine v_get (pc := 69) O dX8_falls_69 fdX8_25 rfl rfl ?_
      refine x_aload_n (pc := 72) O dX8_falls_72 rfl rfl ?_
      refine v_get (pc := 73) O dX8_falls_73 fdX8_71 rfl rfl ?_
      refine x_iload_n (pc := 76) O dX8_falls_76 rfl ?_
      refine v_aldv (k := 32) (v := a 32 k) (pc := 77) O dX8_falls_77 rfl rfl rfl rfl (by show _ < 40; omega) (by simp [up2, upd]) ?_
      refine x_dup2 (pc := 78) O dX8_falls_78 rfl rfl ?_
      refine v_ald (k := 14) (pc := 79) O dX8_falls_79 rfl rfl rfl h32 (by show _ < 60; omega) ?_
      refine x_bipush (v := 6) (pc := 80) O dX8_falls_80 (by decide) ?_
      refine x_iadd (pc := 82) O dX8_falls_82 ?_
      refine v_ast (k := 14) (pc := 83) O dX8_falls_83 rfl rfl rfl h32 (by show _ < 60; omega) ?_
      exact x_ret (v := none) (pc := 84) O dX8_falls_84 rfl trivial ⟨Nat.le_refl _, Nat.le_refl _, (), rfl, fun h hh => by unfold fallsA; simp only [if_pos c11, if_pos c57]; exact hh⟩
    · exact x_ret (v := none) (pc := 60) O dX8_falls_60 rfl trivial ⟨Nat.le_refl _, Nat.le_refl _, (), rfl, fun h hh => by unfold fallsA; simp only [if_pos c11, if_neg c57]; exact hh⟩
  · refine x_aload_n (pc := 14) O dX8_falls_14 rfl rfl ?_
    refine v_get (pc := 15) O dX8_falls_15 fdX8_74 rfl rfl ?_
    refine x_iload_n (pc := 18) O dX8_falls_18 rfl ?_
    refine v_ald (k := 33) (pc := 19) O dX8_falls_19 rfl rfl rfl rfl (by show _ < 40; omega) ?_
    refine x_goto (pc := 20) O 29 dX8_falls_20 (by decide) ?_
    refine x_istore_n (pc := 29) O dX8_falls_29 (by decide) rfl ?_
    refine x_aload_n (pc := 30) O dX8_falls_30 rfl rfl ?_
    refine v_get (pc := 31) O dX8_falls_31 fdX8_25 rfl rfl ?_
    refine x_iload_n (pc := 34) O dX8_falls_34 rfl ?_
    refine x_dup2 (pc := 35) O dX8_falls_35 rfl rfl ?_
    refine v_ald (k := 14) (pc := 36) O dX8_falls_36 rfl rfl rfl h33 (by show _ < 60; omega) ?_
    refine x_iconst (v := 3) (pc := 37) O dX8_falls_37 (by decide) ?_
    refine x_iadd (pc := 38) O dX8_falls_38 ?_
    refine v_ast (k := 14) (pc := 39) O dX8_falls_39 rfl rfl rfl h33 (by show _ < 60; omega) ?_
    refine x_aload_n (pc := 40) O dX8_falls_40 rfl rfl ?_
    refine v_get (pc := 41) O dX8_falls_41 fdX8_86 rfl rfl ?_
    refine x_iload_n (pc := 44) O dX8_falls_44 rfl ?_
    refine x_dup2 (pc := 45) O dX8_falls_45 rfl rfl ?_
    refine v_aldv (k := 37) (v := a 37 k) (pc := 46) O dX8_falls_46 rfl rfl rfl rfl (by show _ < 40; omega) (by simp [up2, upd]) ?_
    refine x_iconst (v := 1) (pc := 47) O dX8_falls_47 (by decide) ?_
    refine x_iadd (pc := 48) O dX8_falls_48 ?_
    refine v_ast (k := 37) (pc := 49) O dX8_falls_49 rfl rfl rfl rfl (by show _ < 40; omega) ?_
    refine x_aload_n (pc := 50) O dX8_falls_50 rfl rfl ?_
    refine v_get (pc := 51) O dX8_falls_51 fdX8_86 rfl rfl ?_
    refine x_iload_n (pc := 54) O dX8_falls_54 rfl ?_
    refine v_aldv (k := 37) (v := a 37 k + 1) (pc := 55) O dX8_falls_55 rfl rfl rfl rfl (by show _ < 40; omega) (by simp [up2, upd]) ?_
    refine x_iconst (v := 2) (pc := 56) O dX8_falls_56 (by decide) ?_
    refine x_icmp_ge (pc := 57) O 61 dX8_falls_57 (by decide) (fun c57 => ?_) (fun c57 => ?_)
    · refine x_aload_n (pc := 61) O dX8_falls_61 rfl rfl ?_
      refine v_get (pc := 62) O dX8_falls_62 fdX8_80 rfl rfl ?_
      refine x_iload_n (pc := 65) O dX8_falls_65 rfl ?_
      refine x_iconst (v := 2) (pc := 66) O dX8_falls_66 (by decide) ?_
      refine v_ast (k := 35) (pc := 67) O dX8_falls_67 rfl rfl rfl rfl (by show _ < 40; omega) ?_
      refine x_aload_n (pc := 68) O dX8_falls_68 rfl rfl ?_
      refine v_get (pc := 69) O dX8_falls_69 fdX8_25 rfl rfl ?_
      refine x_aload_n (pc := 72) O dX8_falls_72 rfl rfl ?_
      refine v_get (pc := 73) O dX8_falls_73 fdX8_71 rfl rfl ?_
      refine x_iload_n (pc := 76) O dX8_falls_76 rfl ?_
      refine v_aldv (k := 32) (v := a 32 k) (pc := 77) O dX8_falls_77 rfl rfl rfl rfl (by show _ < 40; omega) (by simp [up2, upd]) ?_
      refine x_dup2 (pc := 78) O dX8_falls_78 rfl rfl ?_
      refine v_ald (k := 14) (pc := 79) O dX8_falls_79 rfl rfl rfl h32 (by show _ < 60; omega) ?_
      refine x_bipush (v := 6) (pc := 80) O dX8_falls_80 (by decide) ?_
      refine x_iadd (pc := 82) O dX8_falls_82 ?_
      refine v_ast (k := 14) (pc := 83) O dX8_falls_83 rfl rfl rfl h32 (by show _ < 60; omega) ?_
      exact x_ret (v := none) (pc := 84) O dX8_falls_84 rfl trivial ⟨Nat.le_refl _, Nat.le_refl _, (), rfl, fun h hh => by unfold fallsA; simp only [if_neg c11, if_pos c57]; exact hh⟩
    · exact x_ret (v := none) (pc := 60) O dX8_falls_60 rfl trivial ⟨Nat.le_refl _, Nat.le_refl _, (), rfl, fun h hh => by unfold fallsA; simp only [if_neg c11, if_neg c57]; exact hh⟩
def crtStep (i : Nat → Int32) (a : Nat → Nat → Int32) (k b0 b1 b2 : Nat) : Nat → Nat → Int32 :=
  let a1 := up2 a 34 k 0
  if a 20 b1 = 0 then up2 a1 35 k 1
  else if a 34 k ≤ 1 then (if a 34 k = 1 ∧ a 36 k < i 6 then up2 a1 36 k (a 36 k + 1) else fallsA a1 k b1 b2)
  else (let t := if a 34 k = 2 then b1 else b0
    up2 (up2 a1 35 k (a 34 k)) 14 t (a 14 t + 6))
def crtOne (i : Nat → Int32) (a : Nat → Nat → Int32) (k : Nat) : Nat → Nat → Int32 := if a 35 k = 0 then crtStep i a k (a 31 k).toNatClampNeg (a 32 k).toNatClampNeg (a 33 k).toNatClampNeg else a
def crt (i : Nat → Int32) (a : Nat → Nat → Int32) : Nat → (Nat → Nat → Int32) × Int32
  | 0 => (a, 0)
  | k + 1 => (crtOne i (crt i a k).1 k, (crt i a k).2 + (if (crt i a k).1 35 k = 0 ∧ ¬ crtOne i (crt i a k).1 k 35 k = 0 then 1 else 0))
theorem fallsA_keep (a : Nat → Nat → Int32) (k b1 b2 : Nat) {q : Nat} (h1 : q ≠ 14) (h2 : q ≠ 37) (h3 : q ≠ 35) : fallsA a k b1 b2 q = a q := by
  unfold fallsA
  try dsimp only
  split <;> simp [up2, h1, h2, h3]
theorem crtOne_keep (i : Nat → Int32) (a : Nat → Nat → Int32) (k : Nat) {q : Nat} (h1 : q ≠ 14) (h2 : q ≠ 37) (h3 : q ≠ 35) (h4 : q ≠ 34) (h5 : q ≠ 36) : crtOne i a k q = a q := by
  unfold crtOne crtStep
  try dsimp only
  (repeat' split) <;> first | rfl | (rw [fallsA_keep _ _ _ _ h1 h2 h3]; simp [up2, h4]) | simp [up2, h1, h2, h3, h4, h5]
theorem crt_keep (i : Nat → Int32) (a : Nat → Nat → Int32) {q : Nat} (h1 : q ≠ 14) (h2 : q ≠ 37) (h3 : q ≠ 35) (h4 : q ≠ 34) (h5 : q ≠ 36) : ∀ k, (crt i a k).1 q = a q
  | 0 => rfl
  | k + 1 => by
    show crtOne i (crt i a k).1 k q = a q
    rw [crtOne_keep i _ k h1 h2 h3 h4 h5]
    exact crt_keep i a h1 h2 h3 h4 h5 k
set_option maxRecDepth 100000 in
set_option maxHeartbeats 4000000 in
theorem c_X8_court (l : Launch) (E : En) (o : Nat) (d : Nat → Nat) (i : Nat → Int32) (a : Nat → Nat → Int32) (ch : Nat → List Rt) {ns : Nat} (hs : i 38 = nI ns) (h40 : ns ≤ 40) (hsu : ∀ k, k < ns → ∃ b0 b1 b2, b0 < 60 ∧ b1 < 60 ∧ b2 < 60 ∧ a 31 k = nI b0 ∧ a 32 k = nI b1 ∧ a 33 k = nI b2) : Mt l E yX8_court cX8_court 4 (some .int) (rmX 1 22 0 0) [.ref o] (RV E o d i a ch) (fun _ : Unit => some (.int (crt i a ns).2)) (fun _ => RV E o d i (crt i a ns).1 ch) := by
  refine Mt_of (by decide +kernel) (Nat.le_of_ble_eq_true rfl) (fun J O => ?_)
  show J _ 0 0 0 [some (.ref o), none, none, none] []
  have loop : ∀ k, k ≤ ns → ∀ (A : Nat → Nat → Int32) (n : Int32), A = (crt i a k).1 → n = (crt i a k).2 → J (RV E o d i A ch) 0 0 4 [some (.ref o), some (.int n), some (.int (nI k)), none] [] := by
    refine up_ind (Φ := fun k => ∀ (A : Nat → Nat → Int32) (n : Int32), A = (crt i a k).1 → n = (crt i a k).2 → J (RV E o d i A ch) 0 0 4 [some (.ref o), some (.int n), some (.int (nI k)), none] []) ns (fun k hk ih A n hA hn => ?_)
    refine x_iload_n (pc := 4) O dX8_court_4 rfl ?_
    refine x_aload_n (pc := 5) O dX8_court_5 rfl rfl ?_
    refine v_get (pc := 6) O dX8_court_6 fdX8_209 rfl rfl ?_
    refine x_icmp_ge (pc := 9) O 166 dX8_court_9 (by decide) (fun c9 => ?_) (fun c9 => ?_)
    · refine x_iload_n (pc := 166) O dX8_court_166 rfl ?_
      have hk2 : k = ns := by
        rw [hs, nI_leI (by omega) (by omega)] at c9
        omega
      subst hk2
      exact x_ret (v := some (.int _)) (pc := 167) O dX8_court_167 rfl (rfl) ⟨Nat.le_refl _, Nat.le_refl _, (), congrArg (fun z => some (Value.int z)) (hn), fun h hh => by rw [← hA]; exact hh⟩
    · have hk3 : k < ns := by
        rw [hs, nI_leI (by omega) (by omega)] at c9
        omega
      obtain ⟨b0, b1, b2, g0, g1, g2, e0, e1, e2⟩ := hsu k hk3
      have h31 : A 31 k = nI b0 := by rw [hA, crt_keep i a (by decide) (by decide) (by decide) (by decide) (by decide)]; exact e0
      have h32 : A 32 k = nI b1 := by rw [hA, crt_keep i a (by decide) (by decide) (by decide) (by decide) (by decide)]; exact e1
      have h33 : A 33 k = nI b2 := by rw [hA, crt_keep i a (by decide) (by decide) (by decide) (by decide) (by decide)]; exact e2
      have k31 : (A 31 k).toNatClampNeg = b0 := by rw [h31, nI_clamp (by omega)]
      have k32 : (A 32 k).toNatClampNeg = b1 := by rw [h32, nI_clamp (by omega)]
      have k33 : (A 33 k).toNatClampNeg = b2 := by rw [h33, nI_clamp (by omega)]
      refine x_aload_n (pc := 12) O dX8_court_12 rfl rfl ?_
      refine v_get (pc := 13) O dX8_court_13 fdX8_80 rfl rfl ?_
      refine x_iload_n (pc := 16) O dX8_court_16 rfl ?_
      refine v_ald (k := 35) (pc := 17) O dX8_court_17 rfl rfl rfl rfl (by show _ < 40; omega) ?_
      refine x_if_eq (pc := 18) O 24 dX8_court_18 (by decide) (fun c18 => ?_) (fun c18 => ?_)
      · have tail : ∀ B, B = crtOne i A k → ∀ x3, A 34 k = x3 → J (RV E o d i B ch) 0 0 143 [some (.ref o), some (.int n), some (.int (nI k)), some (.int x3)] [] := by
          intro B hone x3 hx3
          refine x_iload_n (pc := 143) O dX8_court_143 rfl ?_
          refine x_aload_n (pc := 144) O dX8_court_144 rfl rfl ?_
          refine v_get (pc := 145) O dX8_court_145 fdX8_80 rfl rfl ?_
          refine x_iload_n (pc := 148) O dX8_court_148 rfl ?_
          refine v_ald (k := 35) (pc := 149) O dX8_court_149 rfl rfl rfl rfl (by show _ < 40; omega) ?_
          refine x_if_eq (pc := 150) O 157 dX8_court_150 (by decide) (fun c150 => ?_) (fun c150 => ?_)
          · refine x_iconst (v := 0) (pc := 157) O dX8_court_157 (by decide) ?_
            refine x_iadd (pc := 158) O dX8_court_158 ?_
            refine x_istore_n (pc := 159) O dX8_court_159 (by decide) rfl ?_
            refine x_iinc (v := nI (k + 1)) (pc := 160) O dX8_court_160 rfl (nI_succ k).symm rfl ?_
            refine x_goto (pc := 163) O 4 dX8_court_163 (by decide) ?_
            refine x_lv O [some (.ref o), some (.int (n + 0)), some (.int (nI (k + 1))), none] ⟨rfl, rfl, rfl, trivial⟩ ?_
            refine ih (by omega) _ _ ?_ ?_
            · show _ = crtOne i (crt i a k).1 k
              rw [← hA, ← hone]
            · show _ = (crt i a k).2 + _
              rw [← hA, ← hn, ← hone]
              rw [if_neg (fun z => z.2 c150)]
          · refine x_iconst (v := 1) (pc := 153) O dX8_court_153 (by decide) ?_
            refine x_goto (pc := 154) O 158 dX8_court_154 (by decide) ?_
            refine x_iadd (pc := 158) O dX8_court_158 ?_
            refine x_istore_n (pc := 159) O dX8_court_159 (by decide) rfl ?_
            refine x_iinc (v := nI (k + 1)) (pc := 160) O dX8_court_160 rfl (nI_succ k).symm rfl ?_
            refine x_goto (pc := 163) O 4 dX8_court_163 (by decide) ?_
            refine x_lv O [some (.ref o), some (.int (n + 1)), some (.int (nI (k + 1))), none] ⟨rfl, rfl, rfl, trivial⟩ ?_
            refine ih (by omega) _ _ ?_ ?_
            · show _ = crtOne i (crt i a k).1 k
              rw [← hA, ← hone]
            · show _ = (crt i a k).2 + _
              rw [← hA, ← hn, ← hone]
              rw [if_pos ⟨c18, c150⟩]
        refine x_aload_n (pc := 24) O dX8_court_24 rfl rfl ?_
        refine v_get (pc := 25) O dX8_court_25 fdX8_77 rfl rfl ?_
        refine x_iload_n (pc := 28) O dX8_court_28 rfl ?_
        refine v_ald (k := 34) (pc := 29) O dX8_court_29 rfl rfl rfl rfl (by show _ < 40; omega) ?_
        refine x_istore_n (pc := 30) O dX8_court_30 (by decide) rfl ?_
        refine x_aload_n (pc := 31) O dX8_court_31 rfl rfl ?_
        refine v_get (pc := 32) O dX8_court_32 fdX8_77 rfl rfl ?_
        refine x_iload_n (pc := 35) O dX8_court_35 rfl ?_
        refine x_iconst (v := 0) (pc := 36) O dX8_court_36 (by decide) ?_
        refine v_ast (k := 34) (pc := 37) O dX8_court_37 rfl rfl rfl rfl (by show _ < 40; omega) ?_
        refine x_aload_n (pc := 38) O dX8_court_38 rfl rfl ?_
        refine v_get (pc := 39) O dX8_court_39 fdX8_43 rfl rfl ?_
        refine x_aload_n (pc := 42) O dX8_court_42 rfl rfl ?_
        refine v_get (pc := 43) O dX8_court_43 fdX8_71 rfl rfl ?_
        refine x_iload_n (pc := 46) O dX8_court_46 rfl ?_
        refine v_aldv (k := 32) (v := A 32 k) (pc := 47) O dX8_court_47 rfl rfl rfl rfl (by show _ < 40; omega) (by simp [up2, upd]) ?_
        refine v_zldv (k := 20) (v := A 20 b1) (pc := 48) O dX8_court_48 rfl h32 (by omega) (by simp [up2, upd]) ?_
        refine x_if_ne (pc := 49) O 62 dX8_court_49 (by decide) (fun c49 => ?_) (fun c49 => ?_)
        · refine x_iload_n (pc := 62) O dX8_court_62 rfl ?_
          refine x_iconst (v := 1) (pc := 63) O dX8_court_63 (by decide) ?_
          refine x_icmp_le (pc := 64) O 107 dX8_court_64 (by decide) (fun c64 => ?_) (fun c64 => ?_)
          · refine x_iload_n (pc := 107) O dX8_court_107 rfl ?_
            refine x_iconst (v := 1) (pc := 108) O dX8_court_108 (by decide) ?_
            refine x_icmp_ne (pc := 109) O 138 dX8_court_109 (by decide) (fun c109 => ?_) (fun c109 => ?_)
            · refine x_aload_n (pc := 138) O dX8_court_138 rfl rfl ?_
              refine x_iload_n (pc := 139) O dX8_court_139 rfl ?_
              refine x_callV (pc := 140) (rest := _) (ci := 8) O (c_X8_falls l E _ _ _ _ _ k (b1 := b1) (b2 := b2) (by simp only [up2]; exact h32) (by simp only [up2]; exact h33) g1 g2 (by omega)) dX8_court_140 cbX8_212 im_yX8_falls se_yX8_falls rfl v_recv rfl rfl (Nat.le_of_ble_eq_true rfl) ⟨Nat.le_of_ble_eq_true rfl, Nat.le_of_ble_eq_true rfl⟩ ⟨Nat.le_of_ble_eq_true rfl, Nat.le_of_ble_eq_true rfl⟩ (fun _ => ?_)
              dsimp only [Option.toList, List.append, List.nil_append, List.cons_append, Nat.add_zero, Nat.reduceAdd]
              refine tail _ ?_ _ (show A 34 k = A 34 k from rfl)
              unfold crtOne crtStep; rw [k31, k32, k33, if_pos c18]; dsimp only; rw [if_neg c49]; rw [if_pos c64]; rw [if_neg (fun z => c109 z.1)]
            · refine x_aload_n (pc := 112) O dX8_court_112 rfl rfl ?_
              refine v_get (pc := 113) O dX8_court_113 fdX8_83 rfl rfl ?_
              refine x_iload_n (pc := 116) O dX8_court_116 rfl ?_
              refine v_aldv (k := 36) (v := A 36 k) (pc := 117) O dX8_court_117 rfl rfl rfl rfl (by show _ < 40; omega) (by simp [up2, upd]) ?_
              refine x_aload_n (pc := 118) O dX8_court_118 rfl rfl ?_
              refine v_get (pc := 119) O dX8_court_119 fdX8_139 rfl rfl ?_
              refine x_icmp_ge (pc := 122) O 138 dX8_court_122 (by decide) (fun c122 => ?_) (fun c122 => ?_)
              · refine x_aload_n (pc := 138) O dX8_court_138 rfl rfl ?_
                refine x_iload_n (pc := 139) O dX8_court_139 rfl ?_
                refine x_callV (pc := 140) (rest := _) (ci := 8) O (c_X8_falls l E _ _ _ _ _ k (b1 := b1) (b2 := b2) (by simp only [up2]; exact h32) (by simp only [up2]; exact h33) g1 g2 (by omega)) dX8_court_140 cbX8_212 im_yX8_falls se_yX8_falls rfl v_recv rfl rfl (Nat.le_of_ble_eq_true rfl) ⟨Nat.le_of_ble_eq_true rfl, Nat.le_of_ble_eq_true rfl⟩ ⟨Nat.le_of_ble_eq_true rfl, Nat.le_of_ble_eq_true rfl⟩ (fun _ => ?_)
                dsimp only [Option.toList, List.append, List.nil_append, List.cons_append, Nat.add_zero, Nat.reduceAdd]
                refine tail _ ?_ _ (show A 34 k = A 34 k from rfl)
                unfold crtOne crtStep; rw [k31, k32, k33, if_pos c18]; dsimp only; rw [if_neg c49]; rw [if_pos c64]; rw [if_neg (fun z => (Int32.not_lt.mpr c122) z.2)]
              · refine x_aload_n (pc := 125) O dX8_court_125 rfl rfl ?_
                refine v_get (pc := 126) O dX8_court_126 fdX8_83 rfl rfl ?_
                refine x_iload_n (pc := 129) O dX8_court_129 rfl ?_
                refine x_dup2 (pc := 130) O dX8_court_130 rfl rfl ?_
                refine v_aldv (k := 36) (v := A 36 k) (pc := 131) O dX8_court_131 rfl rfl rfl rfl (by show _ < 40; omega) (by simp [up2, upd]) ?_
                refine x_iconst (v := 1) (pc := 132) O dX8_court_132 (by decide) ?_
                refine x_iadd (pc := 133) O dX8_court_133 ?_
                refine v_ast (k := 36) (pc := 134) O dX8_court_134 rfl rfl rfl rfl (by show _ < 40; omega) ?_
                refine x_goto (pc := 135) O 143 dX8_court_135 (by decide) ?_
                refine tail _ ?_ _ (show A 34 k = A 34 k from rfl)
                unfold crtOne crtStep; rw [k31, k32, k33, if_pos c18]; dsimp only; rw [if_neg c49]; rw [if_pos c64]; rw [if_pos ⟨c109, Int32.not_le.mp c122⟩]
          · refine x_aload_n (pc := 67) O dX8_court_67 rfl rfl ?_
            refine v_get (pc := 68) O dX8_court_68 fdX8_80 rfl rfl ?_
            refine x_iload_n (pc := 71) O dX8_court_71 rfl ?_
            refine x_iload_n (pc := 72) O dX8_court_72 rfl ?_
            refine v_ast (k := 35) (pc := 73) O dX8_court_73 rfl rfl rfl rfl (by show _ < 40; omega) ?_
            refine x_aload_n (pc := 74) O dX8_court_74 rfl rfl ?_
            refine v_get (pc := 75) O dX8_court_75 fdX8_25 rfl rfl ?_
            refine x_iload_n (pc := 78) O dX8_court_78 rfl ?_
            refine x_iconst (v := 2) (pc := 79) O dX8_court_79 (by decide) ?_
            refine x_icmp_ne (pc := 80) O 92 dX8_court_80 (by decide) (fun c80 => ?_) (fun c80 => ?_)
            · refine x_aload_n (pc := 92) O dX8_court_92 rfl rfl ?_
              refine v_get (pc := 93) O dX8_court_93 fdX8_68 rfl rfl ?_
              refine x_iload_n (pc := 96) O dX8_court_96 rfl ?_
              refine v_aldv (k := 31) (v := A 31 k) (pc := 97) O dX8_court_97 rfl rfl rfl rfl (by show _ < 40; omega) (by simp [up2, upd]) ?_
              refine x_dup2 (pc := 98) O dX8_court_98 rfl rfl ?_
              refine v_aldv (k := 14) (v := A 14 b0) (pc := 99) O dX8_court_99 rfl rfl rfl h31 (by show _ < 60; omega) (by simp [up2, upd]) ?_
              refine x_bipush (v := 6) (pc := 100) O dX8_court_100 (by decide) ?_
              refine x_iadd (pc := 102) O dX8_court_102 ?_
              refine v_ast (k := 14) (pc := 103) O dX8_court_103 rfl rfl rfl h31 (by show _ < 60; omega) ?_
              refine x_goto (pc := 104) O 143 dX8_court_104 (by decide) ?_
              refine tail _ ?_ _ (show A 34 k = A 34 k from rfl)
              unfold crtOne crtStep; rw [k31, k32, k33, if_pos c18]; dsimp only; rw [if_neg c49]; rw [if_neg c64]; simp only [if_neg c80]
            · refine x_aload_n (pc := 83) O dX8_court_83 rfl rfl ?_
              refine v_get (pc := 84) O dX8_court_84 fdX8_71 rfl rfl ?_
              refine x_iload_n (pc := 87) O dX8_court_87 rfl ?_
              refine v_aldv (k := 32) (v := A 32 k) (pc := 88) O dX8_court_88 rfl rfl rfl rfl (by show _ < 40; omega) (by simp [up2, upd]) ?_
              refine x_goto (pc := 89) O 98 dX8_court_89 (by decide) ?_
              refine x_dup2 (pc := 98) O dX8_court_98 rfl rfl ?_
              refine v_aldv (k := 14) (v := A 14 b1) (pc := 99) O dX8_court_99 rfl rfl rfl h32 (by show _ < 60; omega) (by simp [up2, upd]) ?_
              refine x_bipush (v := 6) (pc := 100) O dX8_court_100 (by decide) ?_
              refine x_iadd (pc := 102) O dX8_court_102 ?_
              refine v_ast (k := 14) (pc := 103) O dX8_court_103 rfl rfl rfl h32 (by show _ < 60; omega) ?_
              refine x_goto (pc := 104) O 143 dX8_court_104 (by decide) ?_
              refine tail _ ?_ _ (show A 34 k = A 34 k from rfl)
              unfold crtOne crtStep; rw [k31, k32, k33, if_pos c18]; dsimp only; rw [if_neg c49]; rw [if_neg c64]; simp only [if_pos c80]
        · refine x_aload_n (pc := 52) O dX8_court_52 rfl rfl ?_
          refine v_get (pc := 53) O dX8_court_53 fdX8_80 rfl rfl ?_
          refine x_iload_n (pc := 56) O dX8_court_56 rfl ?_
          refine x_iconst (v := 1) (pc := 57) O dX8_court_57 (by decide) ?_
          refine v_ast (k := 35) (pc := 58) O dX8_court_58 rfl rfl rfl rfl (by show _ < 40; omega) ?_
          refine x_goto (pc := 59) O 143 dX8_court_59 (by decide) ?_
          refine tail _ ?_ _ (show A 34 k = A 34 k from rfl)
          unfold crtOne crtStep; rw [k31, k32, k33, if_pos c18]; dsimp only; rw [if_pos c49]
      · refine x_goto (pc := 21) O 160 dX8_court_21 (by decide) ?_
        refine x_iinc (v := nI (k + 1)) (pc := 160) O dX8_court_160 rfl (nI_succ k).symm rfl ?_
        refine x_goto (pc := 163) O 4 dX8_court_163 (by decide) ?_
        refine x_lv O [some (.ref o), some (.int n), some (.int (nI (k + 1))), none] ⟨rfl, rfl, rfl, trivial⟩ ?_
        refine ih (by omega) _ _ ?_ ?_
        · show A = crtOne i (crt i a k).1 k
          rw [← hA]; unfold crtOne; rw [if_neg c18]
        · show n = (crt i a k).2 + _
          rw [← hA, ← hn, if_neg (fun z => c18 z.1)]; simp
  refine x_iconst (v := 0) (pc := 0) O dX8_court_0 (by decide) ?_
  refine x_istore_n (pc := 1) O dX8_court_1 (by decide) rfl ?_
  refine x_iconst (v := nI 0) (pc := 2) O dX8_court_2 (by decide) ?_
  refine x_istore_n (pc := 3) O dX8_court_3 (by decide) rfl ?_
  exact loop 0 (by omega) _ _ rfl rfl
