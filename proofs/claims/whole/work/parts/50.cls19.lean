/-! ===== CLS 19: ManorRolls.<init> ===== -/
theorem cd_yX3_init : Cond.code yX3_init cX3_init 1 none ∈ wsL_law := (lr_2 _ (List.mem_of_getElem? (i := 23) rfl))
theorem cuV0 : ∀ k, cuV 0 0 k = 0 := by
  intro k
  unfold cuV
  (repeat' split) <;> decide
theorem fs00 : fs0 (cuV 0 0) = [.int 0, .int 0, .int 0, .int 0, .int 0, .int 0, .int 0] := by simp only [fs0, cuV0]
def V0c : Nat → Nat → Nat → Int32 := fun t n k => if t = 0 ∧ n = 2 ∧ k = 1 then 120 else 0
def VL0c : Nat → Nat → Nat → Int64 := fun _ _ _ => 0
def ch0c : Nat → List Rt := fun _ => [(-1, 0, 0)]
theorem nd_inj {f : Nat × Nat → Nat} : ∀ (l : List (Nat × Nat)), (l.map f).Nodup → ∀ x ∈ l, ∀ y ∈ l, f x = f y → x = y
  | [], _, x, hx, _, _, _ => by simp at hx
  | a :: l, h, x, hx, y, hy, e => by
    rw [List.map_cons, List.nodup_cons] at h
    rcases List.mem_cons.mp hx with hx | hx
    · rcases List.mem_cons.mp hy with hy | hy
      · rw [hx, hy]
      · exact absurd (List.mem_map.mpr ⟨y, hy, by rw [← e, hx]⟩) h.1
    · rcases List.mem_cons.mp hy with hy | hy
      · exact absurd (List.mem_map.mpr ⟨x, hx, by rw [e, hy]⟩) h.1
      · exact nd_inj l h.2 x hx y hy e
def adI (qs qt ql q1 r0 qp qn q2 qa q3 q0 o : Nat) : Nat → Nat → Nat := (fun t n => if t = 3 then r0 else if n = 0 then q0 else if n = 1 then q1 else if n = 2 then q2 else if n = 3 then q3 else if n = 7 then o else if n = 10 then qa else if n = 11 then qn else if n = 12 then qs else if n = 13 then qp else if n = 14 then ql else qt)
def cl0 (E : En) (qs qt ql q1 r0 qp qn q2 qa q3 q0 o : Nat) : va_W := [(qs, .inl (E.2 4, 40, .inr (.inr (.inr (.inr (fun _ => none)))))), (qt, .inl (E.2 0, 12, .inl (fun _ => 0))), (ql, .inl (E.2 0, 40, .inl (fun _ => 0))), (q1, .inr (1, [.ref ql, .int 0, .ref qt, .ref q3, .int 0, .long 0, .long 0])), (r0, .inr (5, [.int (-1), .int 0, .int 0, .null])), (qp, .inl (E.2 0, 12, .inl (fun _ => 0))), (qn, .inl (E.2 3, 120, .inr (.inr (.inr (.inr (fun s => if s < 120 then some r0 else none)))))), (q2, .inr (2, [.ref qn, .int 120, .ref qp, .int 0])), (qa, .inl (E.2 2, 60, .inr (.inr (.inr (.inr (fun _ => none)))))), (q3, .inr (3, [.ref qa, .int 0])), (q0, .inr (0, [.int 0, .int 0, .int 0, .int 0, .int 0, .int 0, .int 0])), (o, .inr (7, [.int 0, .ref q0, .int 0, .ref q3, .ref q2, .ref q1, .ref qs, .int 0, .int 0]))]
theorem cl0_cv {E : En} {qs qt ql q1 r0 qp qn q2 qa q3 q0 o : Nat} {h : HF} (H : Cs (cl0 E qs qt ql q1 r0 qp qn q2 qa q3 q0 o) h) : CV E (adI qs qt ql q1 r0 qp qn q2 qa q3 q0 o) V0c VL0c 0 0 ch0c h := by
  refine ⟨(fun _ => r0, fun _ => rgV (-1) 0 0, 1, fun _ => 0, fun _ => none), ⟨fun _ _ => Nat.zero_lt_one, fun k k2 e => (by cases e), fun s hs => rfl⟩, fun t n hk => ?_, fun t n t' n' hk hk' e => ?_⟩
  · rcases okC_in hk with ⟨rfl, ho⟩ | ⟨rfl, ho⟩ | ⟨rfl, ho⟩ | ⟨rfl, ho⟩
    · rcases okS_t n ho with rfl | rfl | rfl | rfl | rfl | rfl | rfl | rfl | rfl | rfl | rfl
      · exact H.in (k := 10) rfl
      · exact H.in (k := 3) rfl
      · exact H.in (k := 7) rfl
      · exact H.in (k := 9) rfl
      · exact H.in (k := 11) rfl
      · show h qa = some (Sum.inl (E.2 2, 60, Sum.inr (Sum.inr (Sum.inr (Sum.inr (fun p => if p < 0 then some (mrg (adI qs qt ql q1 r0 qp qn q2 qa q3 q0 o) (fun _ => r0) 1 p) else none))))))
        rw [show (fun p => if p < 0 then some (mrg (adI qs qt ql q1 r0 qp qn q2 qa q3 q0 o) (fun _ => r0) 1 p) else none) = (fun _ => none) from funext (fun p => if_neg (by omega))]
        exact H.in (k := 8) rfl
      · exact H.in (k := 6) rfl
      · show h qs = some (Sum.inl (E.2 4, 40, Sum.inr (Sum.inr (Sum.inr (Sum.inr (fun p => if p < 0 then some (mrg (adI qs qt ql q1 r0 qp qn q2 qa q3 q0 o) (fun _ => r0) 2 p) else none))))))
        rw [show (fun p => if p < 0 then some (mrg (adI qs qt ql q1 r0 qp qn q2 qa q3 q0 o) (fun _ => r0) 2 p) else none) = (fun _ => none) from funext (fun p => if_neg (by omega))]
        exact H.in (k := 0) rfl
      · exact H.in (k := 5) rfl
      · exact H.in (k := 2) rfl
      · exact H.in (k := 1) rfl
    · exact absurd ho (Nat.not_lt_zero _)
    · exact absurd ho (Nat.not_lt_zero _)
    · have : n = 0 := Nat.lt_one_iff.mp ho
      subst this
      exact H.in (k := 4) rfl
  · have hm : ∀ t n, okC 0 0 1 t n = true → (t, n) ∈ [(0, 12), (0, 15), (0, 14), (0, 1), (3, 0), (0, 13), (0, 11), (0, 2), (0, 10), (0, 3), (0, 0), (0, 7)] := fun t n hk => by
      rcases okC_in hk with ⟨rfl, ho⟩ | ⟨rfl, ho⟩ | ⟨rfl, ho⟩ | ⟨rfl, ho⟩
      · rcases okS_t n ho with rfl | rfl | rfl | rfl | rfl | rfl | rfl | rfl | rfl | rfl | rfl <;> decide
      · exact absurd ho (Nat.not_lt_zero _)
      · exact absurd ho (Nat.not_lt_zero _)
      · have : n = 0 := Nat.lt_one_iff.mp ho
        subst this
        decide
    have hnd := H.2
    have := nd_inj (f := fun p => mrg (adI qs qt ql q1 r0 qp qn q2 qa q3 q0 o) (fun _ => r0) p.1 p.2) [(0, 12), (0, 15), (0, 14), (0, 1), (3, 0), (0, 13), (0, 11), (0, 2), (0, 10), (0, 3), (0, 0), (0, 7)] hnd (t, n) (hm t n hk) (t', n') (hm t' n' hk') e
    exact ⟨congrArg Prod.fst this, congrArg Prod.snd this⟩
theorem hfsX3 : ∀ j, j < 2 → defaultValue (tyX3 j) = vp_V [.null, .int 0] j := by
  intro j hj
  rcases (show j = 0 ∨ j = 1 by omega) with rfl | rfl <;> rfl
theorem hfsX2 : ∀ j, j < 4 → defaultValue (tyX2 j) = vp_V [.null, .int 0, .null, .int 0] j := by
  intro j hj
  rcases (show j = 0 ∨ j = 1 ∨ j = 2 ∨ j = 3 by omega) with rfl | rfl | rfl | rfl <;> rfl
theorem hfsX1 : ∀ j, j < 7 → defaultValue (tyX1 j) = vp_V [.null, .int 0, .null, .null, .int 0, .long 0, .long 0] j := by
  intro j hj
  rcases (show j = 0 ∨ j = 1 ∨ j = 2 ∨ j = 3 ∨ j = 4 ∨ j = 5 ∨ j = 6 by omega) with rfl | rfl | rfl | rfl | rfl | rfl | rfl <;> rfl
set_option maxRecDepth 100000 in
set_option maxHeartbeats 1000000 in
theorem c_X7_init (l : Launch) (E : En) (o : Nat) : Mt l E yX7_init cX7_init 1 none (rmX 3 70 11 308) [.ref o] (Cs [(o, .inr (7, [.int 0, .null, .int 0, .null, .null, .null, .null, .int 0, .int 0]))]) (fun _ : Nat → Nat → Nat => none) (fun adr h => adr 0 7 = o ∧ CV E adr V0c VL0c 0 0 ch0c h) := by
  refine Mt_of (by decide +kernel) (Nat.le_of_ble_eq_true rfl) (fun J O => ?_)
  show J _ 0 0 0 [some (.ref o)] []
  refine x_aload_n (pc := 0) O dX7_init_0 rfl rfl ?_
  refine x_obj (pc := 1) O dX7_init_1 oi_X7_3 (Nat.le_of_ble_eq_true rfl) (Nat.le_of_ble_eq_true rfl) ?_
  refine x_aload_n (pc := 4) O dX7_init_4 rfl rfl ?_
  refine x_iconst (v := 0) (pc := 5) O dX7_init_5 (by decide) ?_
  refine cs_put (pc := 6) O 0 dX7_init_6 fpX7_9 rfl rfl rfl (Nat.le_of_ble_eq_true rfl) ?_
  dsimp only [List.set]
  refine x_aload_n (pc := 9) O dX7_init_9 rfl rfl ?_
  refine x_new (P' := Cs ([(o, .inr (7, [.int 0, .null, .int 0, .null, .null, .null, .null, .int 0, .int 0]))])) (ci := 0) (N := 7) (fs := [.int 0, .int 0, .int 0, .int 0, .int 0, .int 0, .int 0]) (pc := 10) O tyX0 dX7_init_10 rfl inlX0 tyX0_ok clX7_13 in_RX0 ini_RX0 hfsX0 (Nat.le_of_ble_eq_true rfl) (Nat.le_of_ble_eq_true rfl) (fun q0 => ?_)
  show J (Nq (Cs _) q0 (.inr (0, [.int 0, .int 0, .int 0, .int 0, .int 0, .int 0, .int 0]))) _ _ _ _ _
  refine x_dup (pc := 13) O dX7_init_13 rfl ?_
  refine x_iconst (v := 0) (pc := 14) O dX7_init_14 (by decide) ?_
  refine x_iconst (v := 0) (pc := 15) O dX7_init_15 (by decide) ?_
  refine x_callI (pc := 16) (rest := [.ref q0, .ref o]) O (c_X0_init l E _ q0 0 0) rfl dX7_init_16 cbX7_15 im_yX0_init rfl rfl (Nat.le_of_ble_eq_true rfl) ⟨Nat.le_of_ble_eq_true rfl, Nat.le_of_ble_eq_true rfl⟩ ⟨Nat.le_of_ble_eq_true rfl, Nat.le_of_ble_eq_true rfl⟩ (fun _ => ?_)
  dsimp only [Option.toList, List.append, List.nil_append, List.cons_append, Nat.add_zero, Nat.reduceAdd]
  rw [fs00]
  refine cs_new O ?_
  refine cs_put (pc := 19) O 1 dX7_init_19 fpX7_18 rfl rfl rfl (Nat.le_of_ble_eq_true rfl) ?_
  dsimp only [List.set]
  refine x_aload_n (pc := 22) O dX7_init_22 rfl rfl ?_
  refine x_iconst (v := 0) (pc := 23) O dX7_init_23 (by decide) ?_
  refine cs_put (pc := 24) O 1 dX7_init_24 fpX7_22 rfl rfl rfl (Nat.le_of_ble_eq_true rfl) ?_
  dsimp only [List.set]
  refine x_aload_n (pc := 27) O dX7_init_27 rfl rfl ?_
  refine x_new (P' := Cs ([(q0, .inr (0, [.int 0, .int 0, .int 0, .int 0, .int 0, .int 0, .int 0])), (o, .inr (7, [.int 0, .ref q0, .int 0, .null, .null, .null, .null, .int 0, .int 0]))])) (ci := 3) (N := 2) (fs := [.null, .int 0]) (pc := 28) O tyX3 dX7_init_28 rfl inlX3 tyX3_ok clX7_25 in_RX3 ini_RX3 hfsX3 (Nat.le_of_ble_eq_true rfl) (Nat.le_of_ble_eq_true rfl) (fun q3 => ?_)
  refine cs_new O ?_
  refine x_dup (pc := 31) O dX7_init_31 rfl ?_
  refine x_callP (own := RX7) (pc := 32) (rest := [.ref q3, .ref o]) O (c_X3_init l E q3 _) dX7_init_32 cd_yX3_init im_yX3_init rfl (Nat.le_of_ble_eq_true rfl) ⟨Nat.le_of_ble_eq_true rfl, Nat.le_of_ble_eq_true rfl⟩ ⟨Nat.le_of_ble_eq_true rfl, Nat.le_of_ble_eq_true rfl⟩ (fun qa => ?_)
  dsimp only [Option.toList, List.append, List.nil_append, List.cons_append, Nat.add_zero, Nat.reduceAdd]
  refine cs_putF (pc := 35) O 3 rfl dX7_init_35 fpX7_28 rfl rfl rfl (Nat.le_of_ble_eq_true rfl) ?_
  dsimp only [List.set]
  refine x_aload_n (pc := 38) O dX7_init_38 rfl rfl ?_
  refine x_new (P' := Cs ([(qa, Sum.inl (E.2 2, 60, Sum.inr (Sum.inr (Sum.inr (Sum.inr (fun _ => none)))))), (q3, .inr (3, [.ref qa, .int 0])), (q0, .inr (0, [.int 0, .int 0, .int 0, .int 0, .int 0, .int 0, .int 0])), (o, .inr (7, [.int 0, .ref q0, .int 0, .ref q3, .null, .null, .null, .int 0, .int 0]))])) (ci := 2) (N := 4) (fs := [.null, .int 0, .null, .int 0]) (pc := 39) O tyX2 dX7_init_39 rfl inlX2 tyX2_ok clX7_32 in_RX2 ini_RX2 hfsX2 (Nat.le_of_ble_eq_true rfl) (Nat.le_of_ble_eq_true rfl) (fun q2 => ?_)
  refine cs_new O ?_
  refine x_dup (pc := 42) O dX7_init_42 rfl ?_
  refine x_callI (pc := 43) (rest := [.ref q2, .ref o]) O (c_X2_init l E q2 _) rfl dX7_init_43 cbX7_34 im_yX2_init rfl rfl (Nat.le_of_ble_eq_true rfl) ⟨Nat.le_of_ble_eq_true rfl, Nat.le_of_ble_eq_true rfl⟩ ⟨Nat.le_of_ble_eq_true rfl, Nat.le_of_ble_eq_true rfl⟩ (fun x => ?_)
  dsimp only [Option.toList, List.append, List.nil_append, List.cons_append, Nat.add_zero, Nat.reduceAdd]
  obtain ⟨qn, qp, r0⟩ := x
  dsimp only
  refine cs_putF (pc := 46) O 7 rfl dX7_init_46 fpX7_35 rfl rfl rfl (Nat.le_of_ble_eq_true rfl) ?_
  dsimp only [List.set]
  refine x_aload_n (pc := 49) O dX7_init_49 rfl rfl ?_
  refine x_new (P' := Cs ([(r0, .inr (5, [.int (-1), .int 0, .int 0, .null])), (qp, Sum.inl (E.2 0, 12, Sum.inl (fun _ => 0))), (qn, Sum.inl (E.2 3, 120, Sum.inr (Sum.inr (Sum.inr (Sum.inr (fun s => if s < 120 then some r0 else none)))))), (q2, .inr (2, [.ref qn, .int 120, .ref qp, .int 0])), (qa, Sum.inl (E.2 2, 60, Sum.inr (Sum.inr (Sum.inr (Sum.inr (fun _ => none)))))), (q3, .inr (3, [.ref qa, .int 0])), (q0, .inr (0, [.int 0, .int 0, .int 0, .int 0, .int 0, .int 0, .int 0])), (o, .inr (7, [.int 0, .ref q0, .int 0, .ref q3, .ref q2, .null, .null, .int 0, .int 0]))])) (ci := 1) (N := 7) (fs := [.null, .int 0, .null, .null, .int 0, .long 0, .long 0]) (pc := 50) O tyX1 dX7_init_50 rfl inlX1 tyX1_ok clX7_39 in_RX1 ini_RX1 hfsX1 (Nat.le_of_ble_eq_true rfl) (Nat.le_of_ble_eq_true rfl) (fun q1 => ?_)
  refine cs_new O ?_
  refine x_dup (pc := 53) O dX7_init_53 rfl ?_
  refine x_aload_n (pc := 54) O dX7_init_54 rfl rfl ?_
  refine cs_get (pc := 55) O 8 dX7_init_55 fdX7_28 rfl rfl ?_
  refine x_callI (pc := 58) (rest := [.ref q1, .ref o]) O (c_X1_init l E q1 q3 _) rfl dX7_init_58 cbX7_41 im_yX1_init rfl rfl (Nat.le_of_ble_eq_true rfl) ⟨Nat.le_of_ble_eq_true rfl, Nat.le_of_ble_eq_true rfl⟩ ⟨Nat.le_of_ble_eq_true rfl, Nat.le_of_ble_eq_true rfl⟩ (fun x => ?_)
  dsimp only [Option.toList, List.append, List.nil_append, List.cons_append, Nat.add_zero, Nat.reduceAdd]
  obtain ⟨ql, qt⟩ := x
  dsimp only
  refine cs_putF (pc := 61) O 10 rfl dX7_init_61 fpX7_44 rfl rfl rfl (Nat.le_of_ble_eq_true rfl) ?_
  dsimp only [List.set]
  refine x_aload_n (pc := 64) O dX7_init_64 rfl rfl ?_
  refine x_bipush (v := 40) (pc := 65) O dX7_init_65 (by decide) ?_
  refine x_newq (N := 40) (t0 := 4) (C := "ManorRolls$Suit") (pc := 67) O dX7_init_67 rfl (fun U hU => hU.2.2.2.1) clX7_48 (by decide) (by decide) (by decide) (Nat.le_of_ble_eq_true rfl) (Nat.le_of_ble_eq_true rfl) (fun qs => ?_)
  refine cs_new O ?_
  refine cs_putF (pc := 70) O 11 rfl dX7_init_70 fpX7_50 rfl rfl rfl (Nat.le_of_ble_eq_true rfl) ?_
  dsimp only [List.set]
  refine x_aload_n (pc := 73) O dX7_init_73 rfl rfl ?_
  refine x_iconst (v := 0) (pc := 74) O dX7_init_74 (by decide) ?_
  refine cs_put (pc := 75) O 11 dX7_init_75 fpX7_54 rfl rfl rfl (Nat.le_of_ble_eq_true rfl) ?_
  dsimp only [List.set]
  refine x_aload_n (pc := 78) O dX7_init_78 rfl rfl ?_
  refine x_iconst (v := 0) (pc := 79) O dX7_init_79 (by decide) ?_
  refine cs_put (pc := 80) O 11 dX7_init_80 fpX7_57 rfl rfl rfl (Nat.le_of_ble_eq_true rfl) ?_
  dsimp only [List.set]
  exact x_ret (v := none) (pc := 83) O dX7_init_83 rfl trivial ⟨Nat.le_of_ble_eq_true rfl, Nat.le_of_ble_eq_true rfl, adI qs qt ql q1 r0 qp qn q2 qa q3 q0 o, rfl, fun h hh => ⟨rfl, cl0_cv hh⟩⟩
