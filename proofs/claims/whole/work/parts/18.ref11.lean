/-! ===== REF 11: rightOf, holder, right ===== -/
def flt (day : Int32) (c : List Rt) : List Rt := c.filter (fun e => decide (e.2.2 ≤ day))
def roQ (A : Ar) (s r t : Nat) (day x : Int32) : Prop := (x = -1 ∧ (flt day (chainR A s r))[t]? = none) ∨ ∃ k, k < r ∧ x = nI k ∧ (flt day (chainR A s r))[t]? = some (A 25 k, A 26 k, A 27 k)
theorem flt_s1 {A : Ar} {s j : Nat} {day : Int32} (h : A 24 j = nI s) (h2 : A 27 j ≤ day) : flt day (chainR A s (j + 1)) = (A 25 j, A 26 j, A 27 j) :: flt day (chainR A s j) := by
  simp only [chainR, h, if_true, flt]
  rw [List.filter_cons_of_pos (by simpa using h2)]
theorem flt_s2 {A : Ar} {s j : Nat} {day : Int32} (h : ¬ A 24 j = nI s ∨ ¬ A 27 j ≤ day) : flt day (chainR A s (j + 1)) = flt day (chainR A s j) := by
  simp only [chainR]
  split
  · rename_i h1
    rcases h with h | h
    · exact absurd h1 h
    · simp only [flt]
      rw [List.filter_cons_of_neg (by simpa using h)]
  · rfl
set_option maxRecDepth 100000 in
set_option maxHeartbeats 4000000 in
theorem c_X8_rightOf (l : Launch) (E : En) (o r : Nat) (D : Nat → Nat) (i : Nat → Int32) (A : Ar) (s t : Nat) (day : Int32) (hr : i 28 = nI r) (hr2 : r ≤ 61560) (ht : t < 2 ^ 31) : Mt l E yX8_rightOf cX8_rightOf 6 (some .int) (rmX 0 0 0 0) [.ref o, .int (nI s), .int day, .int (nI t)] (RW E o D (cap r) i A) (fun x : Int32 => some (.int x)) (fun x h => roQ A s r t day x ∧ RW E o D (cap r) i A h) := by
  refine Mt_of (by decide +kernel) (Nat.le_of_ble_eq_true rfl) (fun J O => ?_)
  show J _ 0 0 0 [some (.ref o), some (.int (nI s)), some (.int day), some (.int (nI t)), none, none] []
  have hcap := cap_ge (r := r) (by omega)
  have loop : ∀ j, (fun j => j ≤ r → ∀ t', t' < 2 ^ 31 → (flt day (chainR A s r))[t]? = (flt day (chainR A s j))[t']? → J (RW E o D (cap r) i A) 0 0 11 [some (.ref o), some (.int (nI s)), some (.int day), some (.int (nI t)), some (.int (nI t')), some (.int (nI j - 1))] []) j := by
    refine dn_ind ?_ (fun j ih hj t' ht' he => ?_)
    · intro hj t' ht' he
      refine x_iload (pc := 11) O dX8_rightOf_11 rfl ?_
      refine x_if_lt (pc := 13) O 58 dX8_rightOf_13 (by decide) (fun c13 => ?_) (fun c13 => ?_)
      · refine x_iconst (v := (-1)) (pc := 58) O dX8_rightOf_58 (by decide) ?_
        exact x_ret (v := some (.int _)) (pc := 59) O dX8_rightOf_59 rfl rfl ⟨Nat.le_refl _, Nat.le_refl _, -1, rfl, fun h hh => ⟨Or.inl ⟨rfl, by rw [he]; rfl⟩, hh⟩⟩
      · exact absurd (by decide) c13
    · rw [show nI (j + 1) - 1 = nI j from nI_pred j]
      refine x_iload (pc := 11) O dX8_rightOf_11 rfl ?_
      refine x_if_lt (pc := 13) O 58 dX8_rightOf_13 (by decide) (fun c13 => ?_) (fun c13 => ?_)
      · exact absurd c13 (nI_pos (by omega))
      · refine x_aload_n (pc := 16) O dX8_rightOf_16 rfl rfl ?_
        refine r_get (pc := 17) O dX8_rightOf_17 fdX8_50 rfl ?_
        refine x_iload (pc := 20) O dX8_rightOf_20 rfl ?_
        refine r_ald (k := 24) (pc := 22) O dX8_rightOf_22 rfl rfl rfl (by show _ < cap r; omega) (by omega) ?_
        refine x_iload_n (pc := 23) O dX8_rightOf_23 rfl ?_
        refine x_icmp_ne (pc := 24) O 52 dX8_rightOf_24 (by decide) (fun c24 => ?_) (fun c24 => ?_)
        · refine x_iinc (v := nI j - 1) (pc := 52) O dX8_rightOf_52 rfl (Int32.sub_eq_add_neg (nI j) 1).symm rfl ?_
          refine x_goto (pc := 55) O 11 dX8_rightOf_55 (by decide) ?_
          exact ih (by omega) t' ht' (by rw [he, flt_s2 (Or.inl c24)])
        · refine x_aload_n (pc := 27) O dX8_rightOf_27 rfl rfl ?_
          refine r_get (pc := 28) O dX8_rightOf_28 fdX8_59 rfl ?_
          refine x_iload (pc := 31) O dX8_rightOf_31 rfl ?_
          refine r_ald (k := 27) (pc := 33) O dX8_rightOf_33 rfl rfl rfl (by show _ < cap r; omega) (by omega) ?_
          refine x_iload_n (pc := 34) O dX8_rightOf_34 rfl ?_
          refine x_icmp_le (pc := 35) O 41 dX8_rightOf_35 (by decide) (fun c35 => ?_) (fun c35 => ?_)
          · refine x_iload (pc := 41) O dX8_rightOf_41 rfl ?_
            refine x_if_ne (pc := 43) O 49 dX8_rightOf_43 (by decide) (fun c43 => ?_) (fun c43 => ?_)
            · refine x_iinc (pc := 49) O dX8_rightOf_49 rfl rfl rfl ?_
              refine x_iinc (v := nI j - 1) (pc := 52) O dX8_rightOf_52 rfl (Int32.sub_eq_add_neg (nI j) 1).symm rfl ?_
              refine x_goto (pc := 55) O 11 dX8_rightOf_55 (by decide) ?_
              obtain ⟨t2, rfl⟩ : ∃ t2, t' = t2 + 1 := ⟨t' - 1, by
                have : t' ≠ 0 := fun e => c43 (by rw [e]; rfl)
                omega⟩
              rw [show nI (t2 + 1) + Int32.ofInt (-1) = nI t2 from by rw [nI_succ]; show nI t2 + 1 + (-1) = nI t2; rw [Int32.add_assoc]; simp]
              exact ih (by omega) t2 (by omega) (by rw [he, flt_s1 c24 c35]; rfl)
            · refine x_iload (pc := 46) O dX8_rightOf_46 rfl ?_
              have ht0 : t' = 0 := by
                rw [show (0 : Int32) = nI 0 from rfl, nI_eq ht' (by decide)] at c43
                exact c43
              exact x_ret (v := some (.int _)) (pc := 48) O dX8_rightOf_48 rfl rfl ⟨Nat.le_refl _, Nat.le_refl _, nI j, rfl, fun h hh => ⟨Or.inr ⟨j, by omega, rfl, by rw [he, flt_s1 c24 c35, ht0]; rfl⟩, hh⟩⟩
          · refine x_goto (pc := 38) O 52 dX8_rightOf_38 (by decide) ?_
            refine x_iinc (v := nI j - 1) (pc := 52) O dX8_rightOf_52 rfl (Int32.sub_eq_add_neg (nI j) 1).symm rfl ?_
            refine x_goto (pc := 55) O 11 dX8_rightOf_55 (by decide) ?_
            exact ih (by omega) t' ht' (by rw [he, flt_s2 (Or.inr c35)])
  refine x_iload_n (pc := 0) O dX8_rightOf_0 rfl ?_
  refine x_istore (pc := 1) O dX8_rightOf_1 (by decide) rfl ?_
  refine x_aload_n (pc := 3) O dX8_rightOf_3 rfl rfl ?_
  refine r_get (pc := 4) O dX8_rightOf_4 fdX8_111 rfl ?_
  refine x_iconst (v := 1) (pc := 7) O dX8_rightOf_7 (by decide) ?_
  refine x_isub (pc := 8) O dX8_rightOf_8 ?_
  rw [hr]
  refine x_istore (pc := 9) O dX8_rightOf_9 (by decide) rfl ?_
  exact loop r (Nat.le_refl r) t ht rfl
def hldV (c : List Rt) (day : Int32) : Int32 := match (flt day c)[0]? with
  | none => -2
  | some e => e.1
def rgtV (c : List Rt) (day : Int32) (k : Nat) (x : Int32) : Int32 := match (flt day c)[k]? with
  | none => -2
  | some e => if x = 0 then e.1 else if x = 1 then e.2.1 else if x = 2 then e.2.2 else -2
theorem st12 {g s : Int32} (hg : 0 ≤ g ∧ g ≤ 9) (hs : 0 ≤ s ∧ s ≤ 11) : g = nI g.toNatClampNeg ∧ s = nI s.toNatClampNeg ∧ g.toNatClampNeg < 10 ∧ s.toNatClampNeg < 12 ∧ 12 * g + s = nI (12 * g.toNatClampNeg + s.toNatClampNeg) := by
  have h1 := in_nat (m := 10) (x := nI 10) (p := g) rfl (by decide) ⟨hg.1, by rw [show nI 10 - 1 = 9 from by decide]; exact hg.2⟩
  have h2 := in_nat (m := 12) (x := nI 12) (p := s) rfl (by decide) ⟨hs.1, by rw [show nI 12 - 1 = 11 from by decide]; exact hs.2⟩
  refine ⟨h1.1, h2.1, h1.2, h2.2, ?_⟩
  rw [← nI_add, ← pk_mul, ← h1.1, ← h2.1]
  rfl
set_option maxRecDepth 100000 in
set_option maxHeartbeats 4000000 in
theorem c_X8_holder (l : Launch) (E : En) (o : Nat) (d : Nat → Nat) (i : Nat → Int32) (a : Nat → Nat → Int32) (ch : Nat → List Rt) (g s q : Int32) (hch : ∀ t, t < 120 → ∀ q : Int32, 0 ≤ q → ¬ (flt q (ch t))[0]? = none) : Mt l E yX8_holder cX8_holder 4 (some .int) (rmX 2 45 0 0) [.ref o, .int g, .int s, .int q] (RV E o d i a ch) (fun _ : Unit => some (.int (if (0 ≤ g ∧ g ≤ 9) ∧ (0 ≤ s ∧ s ≤ 11) ∧ 0 ≤ q ∧ q ≤ i 8 then hldV (ch (12 * g.toNatClampNeg + s.toNatClampNeg)) q else -2))) (fun _ => RV E o d i a ch) := by
  refine Mt_of (by decide +kernel) (Nat.le_of_ble_eq_true rfl) (fun J O => ?_)
  show J _ 0 0 0 [some (.ref o), some (.int g), some (.int s), some (.int q)] []
  refine x_aload_n (pc := 0) O dX8_holder_0 rfl rfl ?_
  refine x_iload_n (pc := 1) O dX8_holder_1 rfl ?_
  refine x_iload_n (pc := 2) O dX8_holder_2 rfl ?_
  refine x_iload_n (pc := 3) O dX8_holder_3 rfl ?_
  refine x_callV (pc := 4) (rest := _) (ci := 8) O (c_X8_isStrip l E _ _ _ _ _ _ _ _) dX8_holder_4 cbX8_121 im_yX8_isStrip se_yX8_isStrip rfl v_recv rfl rfl (Nat.le_of_ble_eq_true rfl) ⟨Nat.le_of_ble_eq_true rfl, Nat.le_of_ble_eq_true rfl⟩ ⟨Nat.le_of_ble_eq_true rfl, Nat.le_of_ble_eq_true rfl⟩ (fun _ => ?_)
  dsimp only [Option.toList, List.append, List.nil_append, List.cons_append, Nat.add_zero, Nat.reduceAdd]
  refine x_if_eq (pc := 7) O 30 dX8_holder_7 (by decide) (fun c7 => ?_) (fun c7 => ?_)
  · refine x_bipush (v := (-2)) (pc := 30) O dX8_holder_30 (by decide) ?_
    have hc9 : ¬ ((0 ≤ g ∧ g ≤ 9) ∧ (0 ≤ s ∧ s ≤ 11) ∧ 0 ≤ q ∧ q ≤ i 8) := b2i_z c7
    refine x_ret (v := some (.int _)) (pc := 32) O dX8_holder_32 rfl rfl ⟨Nat.le_refl _, Nat.le_refl _, (), congrArg (fun z => some (Value.int z)) (if_neg hc9).symm, fun h hh => ?_⟩
    (try simp only [if_neg hc9]); exact hh
  · have hST := b2i_n0 c7
    have h12 := st12 hST.1 hST.2.1
    have hlt : (12 * g.toNatClampNeg + s.toNatClampNeg) < 120 := by omega
    have hne : ¬ (flt q (ch (12 * g.toNatClampNeg + s.toNatClampNeg)))[0]? = none := hch _ hlt q hST.2.2.1
    refine v_open O (fun D A r hq => ?_)
    refine x_aload_n (pc := 10) O dX8_holder_10 rfl rfl ?_
    refine r_get (pc := 11) O dX8_holder_11 fdX8_53 rfl ?_
    refine x_aload_n (pc := 14) O dX8_holder_14 rfl rfl ?_
    refine x_bipush (v := 12) (pc := 15) O dX8_holder_15 (by decide) ?_
    refine x_iload_n (pc := 17) O dX8_holder_17 rfl ?_
    refine x_imul (pc := 18) O dX8_holder_18 ?_
    refine x_iload_n (pc := 19) O dX8_holder_19 rfl ?_
    refine x_iadd (pc := 20) O dX8_holder_20 ?_
    rw [h12.2.2.2.2]
    refine x_iload_n (pc := 21) O dX8_holder_21 rfl ?_
    refine x_iconst (v := nI 0) (pc := 22) O dX8_holder_22 (by decide) ?_
    refine x_callV (pc := 23) (rest := [.ref (D 25)]) (ci := 8) O (c_X8_rightOf l E o r D i A (12 * g.toNatClampNeg + s.toNatClampNeg) 0 q hq.2.1 hq.2.2.1 (by decide)) dX8_holder_23 cbX8_124 im_yX8_rightOf se_yX8_rightOf rfl (fun h H => ⟨_, H.1⟩) rfl rfl (Nat.le_of_ble_eq_true rfl) ⟨Nat.le_of_ble_eq_true rfl, Nat.le_of_ble_eq_true rfl⟩ ⟨Nat.le_of_ble_eq_true rfl, Nat.le_of_ble_eq_true rfl⟩ (fun y => x_pure O (fun hy => ?_))
    dsimp only [Option.toList, List.append, List.nil_append, List.cons_append, Nat.add_zero, Nat.reduceAdd]
    rcases hy with ⟨h1, h2⟩ | ⟨k, h1, h2, h3⟩
    · exfalso
      exact hne (by rw [← hq.2.2.2.2 _ hlt]; exact h2)
    have hcap := cap_ge (r := r) (by have := hq.2.2.1; omega)
    refine r_ald (k := 25) (j := k) (pc := 26) O dX8_holder_26 rfl rfl h2 (by show _ < cap r; omega) (by have := hq.2.2.1; omega) ?_
    refine x_goto (pc := 27) O 32 dX8_holder_27 (by decide) ?_
    refine x_ret (v := some (.int _)) (pc := 32) O dX8_holder_32 rfl rfl ⟨Nat.le_refl _, Nat.le_refl _, (), congrArg (fun z => some (Value.int z)) ?_, fun h hh => ⟨(D, A, r), hq, hh⟩⟩
    rw [if_pos hST]
    unfold hldV
    rw [← hq.2.2.2.2 _ hlt, h3]
set_option maxRecDepth 100000 in
set_option maxHeartbeats 4000000 in
theorem c_X8_right (l : Launch) (E : En) (o : Nat) (d : Nat → Nat) (i : Nat → Int32) (a : Nat → Nat → Int32) (ch : Nat → List Rt) (g s q k x : Int32)  : Mt l E yX8_right cX8_right 7 (some .int) (rmX 2 45 0 0) [.ref o, .int g, .int s, .int q, .int k, .int x] (RV E o d i a ch) (fun _ : Unit => some (.int (if ((0 ≤ g ∧ g ≤ 9) ∧ (0 ≤ s ∧ s ≤ 11) ∧ 0 ≤ q ∧ q ≤ i 8) ∧ 0 ≤ k then rgtV (ch (12 * g.toNatClampNeg + s.toNatClampNeg)) q k.toNatClampNeg x else -2))) (fun _ => RV E o d i a ch) := by
  refine Mt_of (by decide +kernel) (Nat.le_of_ble_eq_true rfl) (fun J O => ?_)
  show J _ 0 0 0 [some (.ref o), some (.int g), some (.int s), some (.int q), some (.int k), some (.int x), none] []
  refine x_aload_n (pc := 0) O dX8_right_0 rfl rfl ?_
  refine x_iload_n (pc := 1) O dX8_right_1 rfl ?_
  refine x_iload_n (pc := 2) O dX8_right_2 rfl ?_
  refine x_iload_n (pc := 3) O dX8_right_3 rfl ?_
  refine x_callV (pc := 4) (rest := _) (ci := 8) O (c_X8_isStrip l E _ _ _ _ _ _ _ _) dX8_right_4 cbX8_121 im_yX8_isStrip se_yX8_isStrip rfl v_recv rfl rfl (Nat.le_of_ble_eq_true rfl) ⟨Nat.le_of_ble_eq_true rfl, Nat.le_of_ble_eq_true rfl⟩ ⟨Nat.le_of_ble_eq_true rfl, Nat.le_of_ble_eq_true rfl⟩ (fun _ => ?_)
  dsimp only [Option.toList, List.append, List.nil_append, List.cons_append, Nat.add_zero, Nat.reduceAdd]
  refine x_if_eq (pc := 7) O 15 dX8_right_7 (by decide) (fun c7 => ?_) (fun c7 => ?_)
  · refine x_bipush (v := (-2)) (pc := 15) O dX8_right_15 (by decide) ?_
    have hc9 : ¬ (((0 ≤ g ∧ g ≤ 9) ∧ (0 ≤ s ∧ s ≤ 11) ∧ 0 ≤ q ∧ q ≤ i 8) ∧ 0 ≤ k) := fun z => b2i_z c7 z.1
    refine x_ret (v := some (.int _)) (pc := 17) O dX8_right_17 rfl rfl ⟨Nat.le_refl _, Nat.le_refl _, (), congrArg (fun z => some (Value.int z)) (if_neg hc9).symm, fun h hh => ?_⟩
    (try simp only [if_neg hc9]); exact hh
  · refine x_iload (pc := 10) O dX8_right_10 rfl ?_
    refine x_if_ge (pc := 12) O 18 dX8_right_12 (by decide) (fun c12 => ?_) (fun c12 => ?_)
    · have hST := b2i_n0 c7
      have hCO : ((0 ≤ g ∧ g ≤ 9) ∧ (0 ≤ s ∧ s ≤ 11) ∧ 0 ≤ q ∧ q ≤ i 8) ∧ 0 ≤ k := ⟨hST, c12⟩
      have h12 := st12 hST.1 hST.2.1
      have hlt : (12 * g.toNatClampNeg + s.toNatClampNeg) < 120 := by omega
      obtain ⟨hkn, hk31⟩ : k = nI k.toNatClampNeg ∧ k.toNatClampNeg < 2 ^ 31 := by
        obtain ⟨z, hz, rfl⟩ := nI_of (x := k) (Int32.not_lt.mpr c12)
        rw [nI_clamp hz]
        exact ⟨rfl, hz⟩
      refine v_open O (fun D A r hq => ?_)
      refine x_aload_n (pc := 18) O dX8_right_18 rfl rfl ?_
      refine x_bipush (v := 12) (pc := 19) O dX8_right_19 (by decide) ?_
      refine x_iload_n (pc := 21) O dX8_right_21 rfl ?_
      refine x_imul (pc := 22) O dX8_right_22 ?_
      refine x_iload_n (pc := 23) O dX8_right_23 rfl ?_
      refine x_iadd (pc := 24) O dX8_right_24 ?_
      rw [h12.2.2.2.2]
      refine x_iload_n (pc := 25) O dX8_right_25 rfl ?_
      refine x_iload (pc := 26) O dX8_right_26 rfl ?_
      rw [hkn]
      refine x_callV (pc := 28) (rest := []) (ci := 8) O (c_X8_rightOf l E o r D i A (12 * g.toNatClampNeg + s.toNatClampNeg) k.toNatClampNeg q hq.2.1 hq.2.2.1 hk31) dX8_right_28 cbX8_124 im_yX8_rightOf se_yX8_rightOf rfl (fun h H => ⟨_, H.1⟩) rfl rfl (Nat.le_of_ble_eq_true rfl) ⟨Nat.le_of_ble_eq_true rfl, Nat.le_of_ble_eq_true rfl⟩ ⟨Nat.le_of_ble_eq_true rfl, Nat.le_of_ble_eq_true rfl⟩ (fun y => x_pure O (fun hy => ?_))
      dsimp only [Option.toList, List.append, List.nil_append, List.cons_append, Nat.add_zero, Nat.reduceAdd]
      refine x_istore (pc := 31) O dX8_right_31 (by decide) rfl ?_
      refine x_iload (pc := 33) O dX8_right_33 rfl ?_
      refine x_iconst (v := (-1)) (pc := 35) O dX8_right_35 (by decide) ?_
      refine x_icmp_ne (pc := 36) O 42 dX8_right_36 (by decide) (fun c36 => ?_) (fun c36 => ?_)
      · obtain ⟨j, h1, h2, h3⟩ : ∃ j, j < r ∧ y = nI j ∧ (flt q (chainR A (12 * g.toNatClampNeg + s.toNatClampNeg) r))[k.toNatClampNeg]? = some (A 25 j, A 26 j, A 27 j) := hy.resolve_left (fun z => c36 z.1)
        have hcap := cap_ge (r := r) (by have := hq.2.2.1; omega)
        refine x_iload (pc := 42) O dX8_right_42 rfl ?_
        refine x_if_ne (pc := 44) O 57 dX8_right_44 (by decide) (fun c44 => ?_) (fun c44 => ?_)
        · refine x_iload (pc := 57) O dX8_right_57 rfl ?_
          refine x_iconst (v := 1) (pc := 59) O dX8_right_59 (by decide) ?_
          refine x_icmp_ne (pc := 60) O 73 dX8_right_60 (by decide) (fun c60 => ?_) (fun c60 => ?_)
          · refine x_iload (pc := 73) O dX8_right_73 rfl ?_
            refine x_iconst (v := 2) (pc := 75) O dX8_right_75 (by decide) ?_
            refine x_icmp_ne (pc := 76) O 89 dX8_right_76 (by decide) (fun c76 => ?_) (fun c76 => ?_)
            · refine x_bipush (v := (-2)) (pc := 89) O dX8_right_89 (by decide) ?_
              refine x_ret (v := some (.int _)) (pc := 91) O dX8_right_91 rfl rfl ⟨Nat.le_refl _, Nat.le_refl _, (), congrArg (fun z => some (Value.int z)) ?_, fun h hh => ⟨(D, A, r), hq, hh⟩⟩
              rw [if_pos hCO]
              unfold rgtV
              rw [← hq.2.2.2.2 _ hlt, h3]
              show _ = if x = 0 then _ else if x = 1 then _ else if x = 2 then _ else _
              rw [if_neg c44, if_neg c60, if_neg c76]
            · refine x_aload_n (pc := 79) O dX8_right_79 rfl rfl ?_
              refine r_get (pc := 80) O dX8_right_80 fdX8_59 rfl ?_
              refine x_iload (pc := 83) O dX8_right_83 rfl ?_
              refine r_ald (k := 27) (j := j) (pc := 85) O dX8_right_85 rfl rfl h2 (by show _ < cap r; omega) (by have := hq.2.2.1; omega) ?_
              refine x_goto (pc := 86) O 91 dX8_right_86 (by decide) ?_
              refine x_ret (v := some (.int _)) (pc := 91) O dX8_right_91 rfl rfl ⟨Nat.le_refl _, Nat.le_refl _, (), congrArg (fun z => some (Value.int z)) ?_, fun h hh => ⟨(D, A, r), hq, hh⟩⟩
              rw [if_pos hCO]
              unfold rgtV
              rw [← hq.2.2.2.2 _ hlt, h3]
              show _ = if x = 0 then _ else if x = 1 then _ else if x = 2 then _ else _
              rw [if_neg c44, if_neg c60, if_pos c76]
          · refine x_aload_n (pc := 63) O dX8_right_63 rfl rfl ?_
            refine r_get (pc := 64) O dX8_right_64 fdX8_56 rfl ?_
            refine x_iload (pc := 67) O dX8_right_67 rfl ?_
            refine r_ald (k := 26) (j := j) (pc := 69) O dX8_right_69 rfl rfl h2 (by show _ < cap r; omega) (by have := hq.2.2.1; omega) ?_
            refine x_goto (pc := 70) O 91 dX8_right_70 (by decide) ?_
            refine x_ret (v := some (.int _)) (pc := 91) O dX8_right_91 rfl rfl ⟨Nat.le_refl _, Nat.le_refl _, (), congrArg (fun z => some (Value.int z)) ?_, fun h hh => ⟨(D, A, r), hq, hh⟩⟩
            rw [if_pos hCO]
            unfold rgtV
            rw [← hq.2.2.2.2 _ hlt, h3]
            show _ = if x = 0 then _ else if x = 1 then _ else if x = 2 then _ else _
            rw [if_neg c44, if_pos c60]
        · refine x_aload_n (pc := 47) O dX8_right_47 rfl rfl ?_
          refine r_get (pc := 48) O dX8_right_48 fdX8_53 rfl ?_
          refine x_iload (pc := 51) O dX8_right_51 rfl ?_
          refine r_ald (k := 25) (j := j) (pc := 53) O dX8_right_53 rfl rfl h2 (by show _ < cap r; omega) (by have := hq.2.2.1; omega) ?_
          refine x_goto (pc := 54) O 91 dX8_right_54 (by decide) ?_
          refine x_ret (v := some (.int _)) (pc := 91) O dX8_right_91 rfl rfl ⟨Nat.le_refl _, Nat.le_refl _, (), congrArg (fun z => some (Value.int z)) ?_, fun h hh => ⟨(D, A, r), hq, hh⟩⟩
          rw [if_pos hCO]
          unfold rgtV
          rw [← hq.2.2.2.2 _ hlt, h3]
          show _ = if x = 0 then _ else if x = 1 then _ else if x = 2 then _ else _
          rw [if_pos c44]
      · refine x_bipush (v := (-2)) (pc := 39) O dX8_right_39 (by decide) ?_
        rcases hy with ⟨h1, h2⟩ | ⟨j, h1, h2, h3⟩
        · refine x_ret (v := some (.int _)) (pc := 41) O dX8_right_41 rfl rfl ⟨Nat.le_refl _, Nat.le_refl _, (), congrArg (fun z => some (Value.int z)) ?_, fun h hh => ⟨(D, A, r), hq, hh⟩⟩
          rw [if_pos hCO]
          unfold rgtV
          rw [← hq.2.2.2.2 _ hlt, h2]
        · exact absurd (h2.symm.trans c36) (nI_nm1 (by have := hq.2.2.1; omega))
    · refine x_bipush (v := (-2)) (pc := 15) O dX8_right_15 (by decide) ?_
      have hc9 : ¬ (((0 ≤ g ∧ g ≤ 9) ∧ (0 ≤ s ∧ s ≤ 11) ∧ 0 ≤ q ∧ q ≤ i 8) ∧ 0 ≤ k) := fun z => c12 z.2
      refine x_ret (v := some (.int _)) (pc := 17) O dX8_right_17 rfl rfl ⟨Nat.le_refl _, Nat.le_refl _, (), congrArg (fun z => some (Value.int z)) (if_neg hc9).symm, fun h hh => ?_⟩
      (try simp only [if_neg hc9]); exact hh
