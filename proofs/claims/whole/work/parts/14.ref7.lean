/-! ===== REF 7: first, listed, heir ===== -/
theorem fstG_len {a : Ar} {ln : Nat → Bool} {m : Nat} {ord : Int32} {p : Nat} (hm : m ≤ 60) : (fstG a ln m ord p).length ≤ 60 := by
  unfold fstG
  dsimp only
  (repeat' split) <;> first | exact grp_len hm | simp
theorem nI_gt0 {n : Nat} (h : n < 2 ^ 31) : 0 < nI n ↔ ¬ n = 0 := by
  rw [show (0 : Int32) = nI 0 from rfl, nI_ltI (by omega) h]
  omega
set_option maxRecDepth 100000 in
set_option maxHeartbeats 4000000 in
theorem c_X8_first (l : Launch) (E : En) (o : Nat) (d : Nat → Nat) (i : Nat → Int32) (a : Nat → Nat → Int32) (ch : Nat → List Rt) (p : Nat) {m : Nat} (hm : i 22 = nI m) (h60 : m ≤ 60) (hu : i 40 = nI 0) (hp : p < 60) (hfa : ¬ a 10 p = -1 → ∃ f, f < 60 ∧ a 10 p = nI f) : Mt l E yX8_first cX8_first 3 (some .int) (rmX 2 49 0 0) [.ref o, .int (nI p)] (RV E o d i a ch) (fun _ : Unit => some (.int (nI (fstG a (lnB a) m (i 0) p).length))) (fun _ => RV E o d (upd i 40 (nI (0 + (fstG a (lnB a) m (i 0) p).length))) (rowput a 0 (fstG a (lnB a) m (i 0) p)) ch) := by
  refine Mt_of (by decide +kernel) (Nat.le_of_ble_eq_true rfl) (fun J O => ?_)
  show J _ 0 0 0 [some (.ref o), some (.int (nI p)), none] []
  have hgl := grp_len (a := a) (ln := lnB a) (ord := i 0) (of := p) (but := -1) h60
  refine x_aload_n (pc := 0) O dX8_first_0 rfl rfl ?_
  refine x_iload_n (pc := 1) O dX8_first_1 rfl ?_
  refine x_iconst (v := (-1)) (pc := 2) O dX8_first_2 (by decide) ?_
  refine x_callV (pc := 3) (rest := _) (ci := 8) O (c_X8_group l E _ _ _ _ _ p (-1) hm h60 (u := 0) hu (by omega)) dX8_first_3 cbX8_161 im_yX8_group se_yX8_group rfl v_recv rfl rfl (Nat.le_of_ble_eq_true rfl) ⟨Nat.le_of_ble_eq_true rfl, Nat.le_of_ble_eq_true rfl⟩ ⟨Nat.le_of_ble_eq_true rfl, Nat.le_of_ble_eq_true rfl⟩ (fun _ => ?_)
  dsimp only [Option.toList, List.append, List.nil_append, List.cons_append, Nat.add_zero, Nat.reduceAdd]
  refine x_istore_n (pc := 6) O dX8_first_6 (by decide) rfl ?_
  refine x_iload_n (pc := 7) O dX8_first_7 rfl ?_
  refine x_if_gt (pc := 8) O 21 dX8_first_8 (by decide) (fun c8 => ?_) (fun c8 => ?_)
  · have hne : ¬ grp a (lnB a) m (i 0) p (-1) = [] := fun z => by
      rw [z] at c8
      exact absurd c8 (by decide)
    refine x_iload_n (pc := 21) O dX8_first_21 rfl ?_
    refine x_goto (pc := 22) O 36 dX8_first_22 (by decide) ?_
    exact x_ret (v := some (.int _)) (pc := 36) O dX8_first_36 rfl (rfl) ⟨Nat.le_refl _, Nat.le_refl _, (), congrArg (fun z => some (Value.int z)) (by unfold fstG; rw [if_neg hne]), fun h hh => by unfold fstG; rw [if_neg hne]; exact hh⟩
  · have h0 : grp a (lnB a) m (i 0) p (-1) = [] := by
      rw [nI_gt0 (by omega)] at c8
      exact List.length_eq_zero_iff.mp (by omega)
    rw [show upd i 40 (nI (0 + (grp a (lnB a) m (i 0) p (-1)).length)) = i from by rw [h0]; exact upd_id hu, show rowput a 0 (grp a (lnB a) m (i 0) p (-1)) = a from by rw [h0]; exact rowput_nil a 0]
    refine x_aload_n (pc := 11) O dX8_first_11 rfl rfl ?_
    refine v_get (pc := 12) O dX8_first_12 fdX8_13 rfl rfl ?_
    refine x_iload_n (pc := 15) O dX8_first_15 rfl ?_
    refine v_ald (k := 10) (pc := 16) O dX8_first_16 rfl rfl rfl rfl (by show _ < 60; omega) ?_
    refine x_iconst (v := (-1)) (pc := 17) O dX8_first_17 (by decide) ?_
    refine x_icmp_ne (pc := 18) O 25 dX8_first_18 (by decide) (fun c18 => ?_) (fun c18 => ?_)
    · obtain ⟨f, hf9, hf⟩ := hfa c18
      refine x_aload_n (pc := 25) O dX8_first_25 rfl rfl ?_
      refine x_aload_n (pc := 26) O dX8_first_26 rfl rfl ?_
      refine v_get (pc := 27) O dX8_first_27 fdX8_13 rfl rfl ?_
      refine x_iload_n (pc := 30) O dX8_first_30 rfl ?_
      refine v_ald (k := 10) (pc := 31) O dX8_first_31 rfl rfl rfl rfl (by show _ < 60; omega) ?_
      rw [hf]
      refine x_iload_n (pc := 32) O dX8_first_32 rfl ?_
      refine x_callV (pc := 33) (rest := _) (ci := 8) O (c_X8_group l E _ _ _ _ _ f _ hm h60 (u := 0) hu (by omega)) dX8_first_33 cbX8_161 im_yX8_group se_yX8_group rfl v_recv rfl rfl (Nat.le_of_ble_eq_true rfl) ⟨Nat.le_of_ble_eq_true rfl, Nat.le_of_ble_eq_true rfl⟩ ⟨Nat.le_of_ble_eq_true rfl, Nat.le_of_ble_eq_true rfl⟩ (fun _ => ?_)
      dsimp only [Option.toList, List.append, List.nil_append, List.cons_append, Nat.add_zero, Nat.reduceAdd]
      exact x_ret (v := some (.int _)) (pc := 36) O dX8_first_36 rfl (rfl) ⟨Nat.le_refl _, Nat.le_refl _, (), congrArg (fun z => some (Value.int z)) (by unfold fstG; rw [if_pos h0, if_neg c18, hf, nI_clamp (by omega)]), fun h hh => by unfold fstG; rw [if_pos h0, if_neg c18, hf, nI_clamp (by omega)]; exact hh⟩
    · refine x_iload_n (pc := 21) O dX8_first_21 rfl ?_
      refine x_goto (pc := 22) O 36 dX8_first_22 (by decide) ?_
      exact x_ret (v := some (.int _)) (pc := 36) O dX8_first_36 rfl (rfl) ⟨Nat.le_refl _, Nat.le_refl _, (), congrArg (fun z => some (Value.int z)) (by unfold fstG; rw [if_pos h0, if_pos c18, h0]), fun h hh => by unfold fstG; rw [if_pos h0, if_pos c18, show nI (0 + ([] : List Nat).length) = nI 0 from rfl, upd_id hu, rowput_nil]; exact hh⟩
