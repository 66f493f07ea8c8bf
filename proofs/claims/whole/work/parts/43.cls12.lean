/-! ===== CLS 12: person, suit, court, weeks ===== -/
set_option maxRecDepth 100000 in
set_option maxHeartbeats 4000000 in
theorem c_X7_person (l : Launch) (E : En) (adr : Nat → Nat → Nat) (V : Nat → Nat → Nat → Int32) (VL : Nat → Nat → Nat → Int64) (m ns : Nat) (ch : Nat → List Rt) (sx f g : Int32) (hc : V 0 3 1 = nI m) (h60 : m ≤ 60) : Mt l E yX7_person cX7_person 4 (some .int) (rmX 3 68 1 14) [.ref (adr 0 7), .int sx, .int f, .int g] (CV E adr V VL m ns ch) (fun _ : Nat => some (.int (if (sx = 0 ∨ sx = 1) ∧ (f = -1 ∨ isPc m f ∧ V 1 f.toNatClampNeg 0 = 0) ∧ (g = -1 ∨ isPc m g ∧ V 1 g.toNatClampNeg 0 = 1) ∧ m < 60 then nI m else -1))) (fun q h => (if (sx = 0 ∨ sx = 1) ∧ (f = -1 ∨ isPc m f ∧ V 1 f.toNatClampNeg 0 = 0) ∧ (g = -1 ∨ isPc m g ∧ V 1 g.toNatClampNeg 0 = 1) ∧ m < 60 then CV E (up0 adr 1 m q) (up3 (up0 V 1 m (npV sx f g (V 0 7 0))) 0 3 1 (nI m + 1)) (adC (adC (up0 VL 1 m (fun _ => 0)) (m + 1) f m sx) (m + 1) g m sx) (m + 1) ns ch else CV E adr V VL m ns ch) h) := by
  refine Mt_of (by decide +kernel) (Nat.le_of_ble_eq_true rfl) (fun J O => ?_)
  show J _ 0 0 0 [some (.ref (adr 0 7)), some (.int sx), some (.int f), some (.int g)] []
  refine x_iload_n (pc := 0) O dX7_person_0 rfl ?_
  refine x_if_eq (pc := 1) O 9 dX7_person_1 (by decide) (fun c1 => ?_) (fun c1 => ?_)
  · refine x_aload_n (pc := 9) O dX7_person_9 rfl rfl ?_
    refine cv_get (t := 0) (n := 7) (pc := 10) O dX7_person_10 fdX7_28 rfl rfl rfl ?_
    refine cv_get (t := 0) (n := 3) (pc := 13) O dX7_person_13 fdX7_64 rfl rfl rfl ?_
    refine x_bipush (v := 60) (pc := 16) O dX7_person_16 (by decide) ?_
    refine x_icmp_lt (pc := 18) O 23 dX7_person_18 (by decide) (fun c18 => ?_) (fun c18 => ?_)
    · have hm : m < 60 := by
        rw [hc] at c18
        exact (nI_ltI (by omega) (by decide)).mp c18
      refine x_aload_n (pc := 23) O dX7_person_23 rfl rfl ?_
      refine cv_get (t := 0) (n := 7) (pc := 24) O dX7_person_24 fdX7_28 rfl rfl rfl ?_
      refine x_iload_n (pc := 27) O dX7_person_27 rfl ?_
      refine x_iconst (v := 0) (pc := 28) O dX7_person_28 (by decide) ?_
      refine x_callV (pc := 29) (rest := []) (ci := 3) O (c_X3_mayBeParent l E _ _ _ _ _ _ f 0 hc h60) dX7_person_29 cbX7_67 im_yX3_mayBeParent se_yX3_mayBeParent rfl (cv_recv (t := 0) (n := 3) rfl rfl) rfl rfl (Nat.le_of_ble_eq_true rfl) ⟨Nat.le_of_ble_eq_true rfl, Nat.le_of_ble_eq_true rfl⟩ ⟨Nat.le_of_ble_eq_true rfl, Nat.le_of_ble_eq_true rfl⟩ (fun _ => ?_)
      dsimp only [Option.toList, List.append, List.nil_append, List.cons_append, Nat.add_zero, Nat.reduceAdd]
      refine x_if_eq (pc := 32) O 47 dX7_person_32 (by decide) (fun c32 => ?_) (fun c32 => ?_)
      · refine x_iconst (v := (-1)) (pc := 47) O dX7_person_47 (by decide) ?_
        have hc9 : ¬ ((sx = 0 ∨ sx = 1) ∧ (f = -1 ∨ isPc m f ∧ V 1 f.toNatClampNeg 0 = 0) ∧ (g = -1 ∨ isPc m g ∧ V 1 g.toNatClampNeg 0 = 1) ∧ m < 60) := fun z => b2i_z c32 z.2.1
        exact x_ret (v := some (.int _)) (pc := 48) O dX7_person_48 rfl rfl ⟨Nat.le_of_ble_eq_true rfl, Nat.le_of_ble_eq_true rfl, 0, congrArg (fun z => some (Value.int z)) (if_neg hc9).symm, fun h hh => by show (if _ then _ else _ : HP) h; rw [if_neg hc9]; exact hh⟩
      · refine x_aload_n (pc := 35) O dX7_person_35 rfl rfl ?_
        refine cv_get (t := 0) (n := 7) (pc := 36) O dX7_person_36 fdX7_28 rfl rfl rfl ?_
        refine x_iload_n (pc := 39) O dX7_person_39 rfl ?_
        refine x_iconst (v := 1) (pc := 40) O dX7_person_40 (by decide) ?_
        refine x_callV (pc := 41) (rest := []) (ci := 3) O (c_X3_mayBeParent l E _ _ _ _ _ _ g 1 hc h60) dX7_person_41 cbX7_67 im_yX3_mayBeParent se_yX3_mayBeParent rfl (cv_recv (t := 0) (n := 3) rfl rfl) rfl rfl (Nat.le_of_ble_eq_true rfl) ⟨Nat.le_of_ble_eq_true rfl, Nat.le_of_ble_eq_true rfl⟩ ⟨Nat.le_of_ble_eq_true rfl, Nat.le_of_ble_eq_true rfl⟩ (fun _ => ?_)
        dsimp only [Option.toList, List.append, List.nil_append, List.cons_append, Nat.add_zero, Nat.reduceAdd]
        refine x_if_ne (pc := 44) O 49 dX7_person_44 (by decide) (fun c44 => ?_) (fun c44 => ?_)
        · refine x_aload_n (pc := 49) O dX7_person_49 rfl rfl ?_
          refine cv_get (t := 0) (n := 7) (pc := 50) O dX7_person_50 fdX7_28 rfl rfl rfl ?_
          refine x_new (P' := CV E adr V VL m ns ch) (ci := 4) (N := 14) (fs := [.int 0, .int 0, .int 0, .int 0, .int 0, .int 0, .int 0, .int 0, .int 0, .int 0, .int 0, .int 0, .long 0, .long 0]) (pc := 53) O tyX4 dX7_person_53 rfl inlX4 tyX4_ok clX7_70 in_RX4 ini_RX4 hfsX4 (Nat.le_of_ble_eq_true rfl) (Nat.le_of_ble_eq_true rfl) (fun q => ?_)
          show J (Nq (CV E adr V VL m ns ch) q (.inr (4, [.int 0, .int 0, .int 0, .int 0, .int 0, .int 0, .int 0, .int 0, .int 0, .int 0, .int 0, .int 0, .long 0, .long 0]))) _ _ _ _ _
          refine x_dup (pc := 56) O dX7_person_56 rfl ?_
          refine x_iload_n (pc := 57) O dX7_person_57 rfl ?_
          refine x_iload_n (pc := 58) O dX7_person_58 rfl ?_
          refine x_iload_n (pc := 59) O dX7_person_59 rfl ?_
          refine x_aload_n (pc := 60) O dX7_person_60 rfl rfl ?_
          refine cvP_get (t := 0) (n := 7) (pc := 61) O (fun _ h9 => Nq.drop h9) dX7_person_61 fdX7_9 rfl rfl rfl ?_
          refine x_callI (pc := 64) (rest := [.ref q, .ref (adr 0 3)]) O (c_X4_init l E _ q sx f g (V 0 7 0)) rfl dX7_person_64 cbX7_72 im_yX4_init rfl rfl (Nat.le_of_ble_eq_true rfl) ⟨Nat.le_of_ble_eq_true rfl, Nat.le_of_ble_eq_true rfl⟩ ⟨Nat.le_of_ble_eq_true rfl, Nat.le_of_ble_eq_true rfl⟩ (fun _ => ?_)
          dsimp only [Option.toList, List.append, List.nil_append, List.cons_append, Nat.add_zero, Nat.reduceAdd]
          refine x_callV (pc := 67) (rest := []) (ci := 3) O (c_X3_add l E _ _ _ _ _ _ q (npV sx f g (V 0 7 0)) (fun _ => 0) hc hm) dX7_person_67 cbX7_75 im_yX3_add se_yX3_add rfl (cvP_recv (t := 0) (n := 3) (fun _ h9 => Nq.drop h9) rfl rfl) rfl rfl (Nat.le_of_ble_eq_true rfl) ⟨Nat.le_of_ble_eq_true rfl, Nat.le_of_ble_eq_true rfl⟩ ⟨Nat.le_of_ble_eq_true rfl, Nat.le_of_ble_eq_true rfl⟩ (fun _ => ?_)
          dsimp only [Option.toList, List.append, List.nil_append, List.cons_append, Nat.add_zero, Nat.reduceAdd]
          have hc9 : (sx = 0 ∨ sx = 1) ∧ (f = -1 ∨ isPc m f ∧ V 1 f.toNatClampNeg 0 = 0) ∧ (g = -1 ∨ isPc m g ∧ V 1 g.toNatClampNeg 0 = 1) ∧ m < 60 := ⟨Or.inl c1, b2i_n0 c32, b2i_n0 c44, hm⟩
          exact x_ret (v := some (.int _)) (pc := 70) O dX7_person_70 rfl rfl ⟨Nat.le_of_ble_eq_true rfl, Nat.le_of_ble_eq_true rfl, q, congrArg (fun z => some (Value.int z)) (if_pos hc9).symm, fun h hh => by show (if _ then _ else _ : HP) h; rw [if_pos hc9]; exact hh⟩
        · refine x_iconst (v := (-1)) (pc := 47) O dX7_person_47 (by decide) ?_
          have hc9 : ¬ ((sx = 0 ∨ sx = 1) ∧ (f = -1 ∨ isPc m f ∧ V 1 f.toNatClampNeg 0 = 0) ∧ (g = -1 ∨ isPc m g ∧ V 1 g.toNatClampNeg 0 = 1) ∧ m < 60) := fun z => b2i_z c44 z.2.2.1
          exact x_ret (v := some (.int _)) (pc := 48) O dX7_person_48 rfl rfl ⟨Nat.le_of_ble_eq_true rfl, Nat.le_of_ble_eq_true rfl, 0, congrArg (fun z => some (Value.int z)) (if_neg hc9).symm, fun h hh => by show (if _ then _ else _ : HP) h; rw [if_neg hc9]; exact hh⟩
    · refine x_iconst (v := (-1)) (pc := 21) O dX7_person_21 (by decide) ?_
      have hc9 : ¬ ((sx = 0 ∨ sx = 1) ∧ (f = -1 ∨ isPc m f ∧ V 1 f.toNatClampNeg 0 = 0) ∧ (g = -1 ∨ isPc m g ∧ V 1 g.toNatClampNeg 0 = 1) ∧ m < 60) := fun z => c18 (by rw [hc]; exact (nI_ltI (by omega) (by decide)).mpr z.2.2.2)
      exact x_ret (v := some (.int _)) (pc := 22) O dX7_person_22 rfl rfl ⟨Nat.le_of_ble_eq_true rfl, Nat.le_of_ble_eq_true rfl, 0, congrArg (fun z => some (Value.int z)) (if_neg hc9).symm, fun h hh => by show (if _ then _ else _ : HP) h; rw [if_neg hc9]; exact hh⟩
  · refine x_iload_n (pc := 4) O dX7_person_4 rfl ?_
    refine x_iconst (v := 1) (pc := 5) O dX7_person_5 (by decide) ?_
    refine x_icmp_ne (pc := 6) O 21 dX7_person_6 (by decide) (fun c6 => ?_) (fun c6 => ?_)
    · refine x_iconst (v := (-1)) (pc := 21) O dX7_person_21 (by decide) ?_
      have hc9 : ¬ ((sx = 0 ∨ sx = 1) ∧ (f = -1 ∨ isPc m f ∧ V 1 f.toNatClampNeg 0 = 0) ∧ (g = -1 ∨ isPc m g ∧ V 1 g.toNatClampNeg 0 = 1) ∧ m < 60) := fun z => z.1.elim c1 c6
      exact x_ret (v := some (.int _)) (pc := 22) O dX7_person_22 rfl rfl ⟨Nat.le_of_ble_eq_true rfl, Nat.le_of_ble_eq_true rfl, 0, congrArg (fun z => some (Value.int z)) (if_neg hc9).symm, fun h hh => by show (if _ then _ else _ : HP) h; rw [if_neg hc9]; exact hh⟩
    · refine x_aload_n (pc := 9) O dX7_person_9 rfl rfl ?_
      refine cv_get (t := 0) (n := 7) (pc := 10) O dX7_person_10 fdX7_28 rfl rfl rfl ?_
      refine cv_get (t := 0) (n := 3) (pc := 13) O dX7_person_13 fdX7_64 rfl rfl rfl ?_
      refine x_bipush (v := 60) (pc := 16) O dX7_person_16 (by decide) ?_
      refine x_icmp_lt (pc := 18) O 23 dX7_person_18 (by decide) (fun c18 => ?_) (fun c18 => ?_)
      · have hm : m < 60 := by
          rw [hc] at c18
          exact (nI_ltI (by omega) (by decide)).mp c18
        refine x_aload_n (pc := 23) O dX7_person_23 rfl rfl ?_
        refine cv_get (t := 0) (n := 7) (pc := 24) O dX7_person_24 fdX7_28 rfl rfl rfl ?_
        refine x_iload_n (pc := 27) O dX7_person_27 rfl ?_
        refine x_iconst (v := 0) (pc := 28) O dX7_person_28 (by decide) ?_
        refine x_callV (pc := 29) (rest := []) (ci := 3) O (c_X3_mayBeParent l E _ _ _ _ _ _ f 0 hc h60) dX7_person_29 cbX7_67 im_yX3_mayBeParent se_yX3_mayBeParent rfl (cv_recv (t := 0) (n := 3) rfl rfl) rfl rfl (Nat.le_of_ble_eq_true rfl) ⟨Nat.le_of_ble_eq_true rfl, Nat.le_of_ble_eq_true rfl⟩ ⟨Nat.le_of_ble_eq_true rfl, Nat.le_of_ble_eq_true rfl⟩ (fun _ => ?_)
        dsimp only [Option.toList, List.append, List.nil_append, List.cons_append, Nat.add_zero, Nat.reduceAdd]
        refine x_if_eq (pc := 32) O 47 dX7_person_32 (by decide) (fun c32 => ?_) (fun c32 => ?_)
        · refine x_iconst (v := (-1)) (pc := 47) O dX7_person_47 (by decide) ?_
          have hc9 : ¬ ((sx = 0 ∨ sx = 1) ∧ (f = -1 ∨ isPc m f ∧ V 1 f.toNatClampNeg 0 = 0) ∧ (g = -1 ∨ isPc m g ∧ V 1 g.toNatClampNeg 0 = 1) ∧ m < 60) := fun z => b2i_z c32 z.2.1
          exact x_ret (v := some (.int _)) (pc := 48) O dX7_person_48 rfl rfl ⟨Nat.le_of_ble_eq_true rfl, Nat.le_of_ble_eq_true rfl, 0, congrArg (fun z => some (Value.int z)) (if_neg hc9).symm, fun h hh => by show (if _ then _ else _ : HP) h; rw [if_neg hc9]; exact hh⟩
        · refine x_aload_n (pc := 35) O dX7_person_35 rfl rfl ?_
          refine cv_get (t := 0) (n := 7) (pc := 36) O dX7_person_36 fdX7_28 rfl rfl rfl ?_
          refine x_iload_n (pc := 39) O dX7_person_39 rfl ?_
          refine x_iconst (v := 1) (pc := 40) O dX7_person_40 (by decide) ?_
          refine x_callV (pc := 41) (rest := []) (ci := 3) O (c_X3_mayBeParent l E _ _ _ _ _ _ g 1 hc h60) dX7_person_41 cbX7_67 im_yX3_mayBeParent se_yX3_mayBeParent rfl (cv_recv (t := 0) (n := 3) rfl rfl) rfl rfl (Nat.le_of_ble_eq_true rfl) ⟨Nat.le_of_ble_eq_true rfl, Nat.le_of_ble_eq_true rfl⟩ ⟨Nat.le_of_ble_eq_true rfl, Nat.le_of_ble_eq_true rfl⟩ (fun _ => ?_)
          dsimp only [Option.toList, List.append, List.nil_append, List.cons_append, Nat.add_zero, Nat.reduceAdd]
          refine x_if_ne (pc := 44) O 49 dX7_person_44 (by decide) (fun c44 => ?_) (fun c44 => ?_)
          · refine x_aload_n (pc := 49) O dX7_person_49 rfl rfl ?_
            refine cv_get (t := 0) (n := 7) (pc := 50) O dX7_person_50 fdX7_28 rfl rfl rfl ?_
            refine x_new (P' := CV E adr V VL m ns ch) (ci := 4) (N := 14) (fs := [.int 0, .int 0, .int 0, .int 0, .int 0, .int 0, .int 0, .int 0, .int 0, .int 0, .int 0, .int 0, .long 0, .long 0]) (pc := 53) O tyX4 dX7_person_53 rfl inlX4 tyX4_ok clX7_70 in_RX4 ini_RX4 hfsX4 (Nat.le_of_ble_eq_true rfl) (Nat.le_of_ble_eq_true rfl) (fun q => ?_)
            show J (Nq (CV E adr V VL m ns ch) q (.inr (4, [.int 0, .int 0, .int 0, .int 0, .int 0, .int 0, .int 0, .int 0, .int 0, .int 0, .int 0, .int 0, .long 0, .long 0]))) _ _ _ _ _
            refine x_dup (pc := 56) O dX7_person_56 rfl ?_
            refine x_iload_n (pc := 57) O dX7_person_57 rfl ?_
            refine x_iload_n (pc := 58) O dX7_person_58 rfl ?_
            refine x_iload_n (pc := 59) O dX7_person_59 rfl ?_
            refine x_aload_n (pc := 60) O dX7_person_60 rfl rfl ?_
            refine cvP_get (t := 0) (n := 7) (pc := 61) O (fun _ h9 => Nq.drop h9) dX7_person_61 fdX7_9 rfl rfl rfl ?_
            refine x_callI (pc := 64) (rest := [.ref q, .ref (adr 0 3)]) O (c_X4_init l E _ q sx f g (V 0 7 0)) rfl dX7_person_64 cbX7_72 im_yX4_init rfl rfl (Nat.le_of_ble_eq_true rfl) ⟨Nat.le_of_ble_eq_true rfl, Nat.le_of_ble_eq_true rfl⟩ ⟨Nat.le_of_ble_eq_true rfl, Nat.le_of_ble_eq_true rfl⟩ (fun _ => ?_)
            dsimp only [Option.toList, List.append, List.nil_append, List.cons_append, Nat.add_zero, Nat.reduceAdd]
            refine x_callV (pc := 67) (rest := []) (ci := 3) O (c_X3_add l E _ _ _ _ _ _ q (npV sx f g (V 0 7 0)) (fun _ => 0) hc hm) dX7_person_67 cbX7_75 im_yX3_add se_yX3_add rfl (cvP_recv (t := 0) (n := 3) (fun _ h9 => Nq.drop h9) rfl rfl) rfl rfl (Nat.le_of_ble_eq_true rfl) ⟨Nat.le_of_ble_eq_true rfl, Nat.le_of_ble_eq_true rfl⟩ ⟨Nat.le_of_ble_eq_true rfl, Nat.le_of_ble_eq_true rfl⟩ (fun _ => ?_)
            dsimp only [Option.toList, List.append, List.nil_append, List.cons_append, Nat.add_zero, Nat.reduceAdd]
            have hc9 : (sx = 0 ∨ sx = 1) ∧ (f = -1 ∨ isPc m f ∧ V 1 f.toNatClampNeg 0 = 0) ∧ (g = -1 ∨ isPc m g ∧ V 1 g.toNatClampNeg 0 = 1) ∧ m < 60 := ⟨Or.inr c6, b2i_n0 c32, b2i_n0 c44, hm⟩
            exact x_ret (v := some (.int _)) (pc := 70) O dX7_person_70 rfl rfl ⟨Nat.le_of_ble_eq_true rfl, Nat.le_of_ble_eq_true rfl, q, congrArg (fun z => some (Value.int z)) (if_pos hc9).symm, fun h hh => by show (if _ then _ else _ : HP) h; rw [if_pos hc9]; exact hh⟩
          · refine x_iconst (v := (-1)) (pc := 47) O dX7_person_47 (by decide) ?_
            have hc9 : ¬ ((sx = 0 ∨ sx = 1) ∧ (f = -1 ∨ isPc m f ∧ V 1 f.toNatClampNeg 0 = 0) ∧ (g = -1 ∨ isPc m g ∧ V 1 g.toNatClampNeg 0 = 1) ∧ m < 60) := fun z => b2i_z c44 z.2.2.1
            exact x_ret (v := some (.int _)) (pc := 48) O dX7_person_48 rfl rfl ⟨Nat.le_of_ble_eq_true rfl, Nat.le_of_ble_eq_true rfl, 0, congrArg (fun z => some (Value.int z)) (if_neg hc9).symm, fun h hh => by show (if _ then _ else _ : HP) h; rw [if_neg hc9]; exact hh⟩
      · refine x_iconst (v := (-1)) (pc := 21) O dX7_person_21 (by decide) ?_
        have hc9 : ¬ ((sx = 0 ∨ sx = 1) ∧ (f = -1 ∨ isPc m f ∧ V 1 f.toNatClampNeg 0 = 0) ∧ (g = -1 ∨ isPc m g ∧ V 1 g.toNatClampNeg 0 = 1) ∧ m < 60) := fun z => c18 (by rw [hc]; exact (nI_ltI (by omega) (by decide)).mpr z.2.2.2)
        exact x_ret (v := some (.int _)) (pc := 22) O dX7_person_22 rfl rfl ⟨Nat.le_of_ble_eq_true rfl, Nat.le_of_ble_eq_true rfl, 0, congrArg (fun z => some (Value.int z)) (if_neg hc9).symm, fun h hh => by show (if _ then _ else _ : HP) h; rw [if_neg hc9]; exact hh⟩
set_option maxRecDepth 100000 in
set_option maxHeartbeats 4000000 in
theorem c_X7_suit (l : Launch) (E : En) (adr : Nat → Nat → Nat) (V : Nat → Nat → Nat → Int32) (VL : Nat → Nat → Nat → Int64) (m ns : Nat) (ch : Nat → List Rt) (p q u : Int32) (hc : V 0 3 1 = nI m) (h60 : m ≤ 60) (hs : V 0 7 7 = nI ns) (h40 : ns ≤ 40) : Mt l E yX7_suit cX7_suit 5 (some .int) (rmX 2 47 1 7) [.ref (adr 0 7), .int p, .int q, .int u] (CV E adr V VL m ns ch) (fun _ : Nat => some (.int (if lvC V m p ∧ lvC V m q ∧ lvC V m u ∧ ¬ p = q ∧ ¬ q = u ∧ ¬ p = u ∧ ns < 40 then nI ns else -1))) (fun b h => (if lvC V m p ∧ lvC V m q ∧ lvC V m u ∧ ¬ p = q ∧ ¬ q = u ∧ ¬ p = u ∧ ns < 40 then CV E (up0 adr 2 ns b) (up3 (up0 V 2 ns (nsV p q u)) 0 7 7 (nI ns + 1)) VL m (ns + 1) ch else CV E adr V VL m ns ch) h) := by
  refine Mt_of (by decide +kernel) (Nat.le_of_ble_eq_true rfl) (fun J O => ?_)
  show J _ 0 0 0 [some (.ref (adr 0 7)), some (.int p), some (.int q), some (.int u), none] []
  refine x_aload_n (pc := 0) O dX7_suit_0 rfl rfl ?_
  refine cv_get (t := 0) (n := 7) (pc := 1) O dX7_suit_1 fdX7_28 rfl rfl rfl ?_
  refine x_iload_n (pc := 4) O dX7_suit_4 rfl ?_
  rcases noA_or m V p with ⟨j1, hj1, rfl, ha1⟩ | hn1
  · refine x_callV (pc := 5) (rest := []) (ci := 3) O (c_X3_findAlive l E _ _ _ _ _ _ j1 hc h60 hj1 ha1) dX7_suit_5 cbX7_79 im_yX3_findAlive se_yX3_findAlive rfl (cv_recv (t := 0) (n := 3) rfl rfl) rfl rfl (Nat.le_of_ble_eq_true rfl) ⟨Nat.le_of_ble_eq_true rfl, Nat.le_of_ble_eq_true rfl⟩ ⟨Nat.le_of_ble_eq_true rfl, Nat.le_of_ble_eq_true rfl⟩ (fun _ => ?_)
    dsimp only [Option.toList, List.append, List.nil_append, List.cons_append, Nat.add_zero, Nat.reduceAdd]
    refine x_ifnull (pc := 8) O dX7_suit_8 ?_
    refine x_aload_n (pc := 11) O dX7_suit_11 rfl rfl ?_
    refine cv_get (t := 0) (n := 7) (pc := 12) O dX7_suit_12 fdX7_28 rfl rfl rfl ?_
    refine x_iload_n (pc := 15) O dX7_suit_15 rfl ?_
    rcases noA_or m V q with ⟨j2, hj2, rfl, ha2⟩ | hn2
    · refine x_callV (pc := 16) (rest := []) (ci := 3) O (c_X3_findAlive l E _ _ _ _ _ _ j2 hc h60 hj2 ha2) dX7_suit_16 cbX7_79 im_yX3_findAlive se_yX3_findAlive rfl (cv_recv (t := 0) (n := 3) rfl rfl) rfl rfl (Nat.le_of_ble_eq_true rfl) ⟨Nat.le_of_ble_eq_true rfl, Nat.le_of_ble_eq_true rfl⟩ ⟨Nat.le_of_ble_eq_true rfl, Nat.le_of_ble_eq_true rfl⟩ (fun _ => ?_)
      dsimp only [Option.toList, List.append, List.nil_append, List.cons_append, Nat.add_zero, Nat.reduceAdd]
      refine x_ifnull (pc := 19) O dX7_suit_19 ?_
      refine x_aload_n (pc := 22) O dX7_suit_22 rfl rfl ?_
      refine cv_get (t := 0) (n := 7) (pc := 23) O dX7_suit_23 fdX7_28 rfl rfl rfl ?_
      refine x_iload_n (pc := 26) O dX7_suit_26 rfl ?_
      rcases noA_or m V u with ⟨j3, hj3, rfl, ha3⟩ | hn3
      · refine x_callV (pc := 27) (rest := []) (ci := 3) O (c_X3_findAlive l E _ _ _ _ _ _ j3 hc h60 hj3 ha3) dX7_suit_27 cbX7_79 im_yX3_findAlive se_yX3_findAlive rfl (cv_recv (t := 0) (n := 3) rfl rfl) rfl rfl (Nat.le_of_ble_eq_true rfl) ⟨Nat.le_of_ble_eq_true rfl, Nat.le_of_ble_eq_true rfl⟩ ⟨Nat.le_of_ble_eq_true rfl, Nat.le_of_ble_eq_true rfl⟩ (fun _ => ?_)
        dsimp only [Option.toList, List.append, List.nil_append, List.cons_append, Nat.add_zero, Nat.reduceAdd]
        refine x_ifnonnull (pc := 30) O 35 dX7_suit_30 (by decide) ?_
        refine x_iload_n (pc := 35) O dX7_suit_35 rfl ?_
        refine x_iload_n (pc := 36) O dX7_suit_36 rfl ?_
        refine x_icmp_eq (pc := 37) O 59 dX7_suit_37 (by decide) (fun c37 => ?_) (fun c37 => ?_)
        · refine x_iconst (v := (-1)) (pc := 59) O dX7_suit_59 (by decide) ?_
          have hc9 : ¬ (lvC V m (nI j1) ∧ lvC V m (nI j2) ∧ lvC V m (nI j3) ∧ ¬ (nI j1) = (nI j2) ∧ ¬ (nI j2) = (nI j3) ∧ ¬ (nI j1) = (nI j3) ∧ ns < 40) := fun z => z.2.2.2.1 c37
          exact x_ret (v := some (.int _)) (pc := 60) O dX7_suit_60 rfl rfl ⟨Nat.le_of_ble_eq_true rfl, Nat.le_of_ble_eq_true rfl, 0, congrArg (fun z => some (Value.int z)) (if_neg hc9).symm, fun h hh => by show (if _ then _ else _ : HP) h; rw [if_neg hc9]; exact hh⟩
        · refine x_iload_n (pc := 40) O dX7_suit_40 rfl ?_
          refine x_iload_n (pc := 41) O dX7_suit_41 rfl ?_
          refine x_icmp_eq (pc := 42) O 59 dX7_suit_42 (by decide) (fun c42 => ?_) (fun c42 => ?_)
          · refine x_iconst (v := (-1)) (pc := 59) O dX7_suit_59 (by decide) ?_
            have hc9 : ¬ (lvC V m (nI j1) ∧ lvC V m (nI j2) ∧ lvC V m (nI j3) ∧ ¬ (nI j1) = (nI j2) ∧ ¬ (nI j2) = (nI j3) ∧ ¬ (nI j1) = (nI j3) ∧ ns < 40) := fun z => z.2.2.2.2.2.1 c42
            exact x_ret (v := some (.int _)) (pc := 60) O dX7_suit_60 rfl rfl ⟨Nat.le_of_ble_eq_true rfl, Nat.le_of_ble_eq_true rfl, 0, congrArg (fun z => some (Value.int z)) (if_neg hc9).symm, fun h hh => by show (if _ then _ else _ : HP) h; rw [if_neg hc9]; exact hh⟩
          · refine x_iload_n (pc := 45) O dX7_suit_45 rfl ?_
            refine x_iload_n (pc := 46) O dX7_suit_46 rfl ?_
            refine x_icmp_eq (pc := 47) O 59 dX7_suit_47 (by decide) (fun c47 => ?_) (fun c47 => ?_)
            · refine x_iconst (v := (-1)) (pc := 59) O dX7_suit_59 (by decide) ?_
              have hc9 : ¬ (lvC V m (nI j1) ∧ lvC V m (nI j2) ∧ lvC V m (nI j3) ∧ ¬ (nI j1) = (nI j2) ∧ ¬ (nI j2) = (nI j3) ∧ ¬ (nI j1) = (nI j3) ∧ ns < 40) := fun z => z.2.2.2.2.1 c47
              exact x_ret (v := some (.int _)) (pc := 60) O dX7_suit_60 rfl rfl ⟨Nat.le_of_ble_eq_true rfl, Nat.le_of_ble_eq_true rfl, 0, congrArg (fun z => some (Value.int z)) (if_neg hc9).symm, fun h hh => by show (if _ then _ else _ : HP) h; rw [if_neg hc9]; exact hh⟩
            · refine x_aload_n (pc := 50) O dX7_suit_50 rfl rfl ?_
              refine cv_get (t := 0) (n := 7) (pc := 51) O dX7_suit_51 fdX7_54 rfl rfl rfl ?_
              refine x_bipush (v := 40) (pc := 54) O dX7_suit_54 (by decide) ?_
              refine x_icmp_lt (pc := 56) O 61 dX7_suit_56 (by decide) (fun c56 => ?_) (fun c56 => ?_)
              · have hm : ns < 40 := by
                  rw [hs] at c56
                  exact (nI_ltI (by omega) (by decide)).mp c56
                refine x_aload_n (pc := 61) O dX7_suit_61 rfl rfl ?_
                refine cv_get (t := 0) (n := 7) (pc := 62) O dX7_suit_62 fdX7_54 rfl rfl rfl ?_
                rw [hs]
                refine x_istore (pc := 65) O dX7_suit_65 (by decide) rfl ?_
                refine x_aload_n (pc := 67) O dX7_suit_67 rfl rfl ?_
                refine cv_get (t := 0) (n := 7) (pc := 68) O dX7_suit_68 fdX7_50 rfl rfl rfl ?_
                refine x_iload (pc := 71) O dX7_suit_71 rfl ?_
                refine x_new (P' := CV E adr V VL m ns ch) (ci := 6) (N := 7) (fs := [.int 0, .int 0, .int 0, .int 0, .int 0, .int 0, .int 0]) (pc := 73) O tyX6 dX7_suit_73 rfl inlX6 tyX6_ok clX7_48 in_RX6 ini_RX6 hfsX6 (Nat.le_of_ble_eq_true rfl) (Nat.le_of_ble_eq_true rfl) (fun b => ?_)
                show J (Nq (CV E adr V VL m ns ch) b (.inr (6, [.int 0, .int 0, .int 0, .int 0, .int 0, .int 0, .int 0]))) _ _ _ _ _
                refine x_dup (pc := 76) O dX7_suit_76 rfl ?_
                refine x_iload_n (pc := 77) O dX7_suit_77 rfl ?_
                refine x_iload_n (pc := 78) O dX7_suit_78 rfl ?_
                refine x_iload_n (pc := 79) O dX7_suit_79 rfl ?_
                refine x_callI (pc := 80) (rest := [.ref b, .int (nI ns), .ref (adr 0 12)]) O (c_X6_init l E _ b (nI j1) (nI j2) (nI j3)) rfl dX7_suit_80 cbX7_151 im_yX6_init rfl rfl (Nat.le_of_ble_eq_true rfl) ⟨Nat.le_of_ble_eq_true rfl, Nat.le_of_ble_eq_true rfl⟩ ⟨Nat.le_of_ble_eq_true rfl, Nat.le_of_ble_eq_true rfl⟩ (fun _ => ?_)
                dsimp only [Option.toList, List.append, List.nil_append, List.cons_append, Nat.add_zero, Nat.reduceAdd]
                refine cv_addS (pc := 83) O dX7_suit_83 hm ?_
                refine x_aload_n (pc := 84) O dX7_suit_84 rfl rfl ?_
                refine x_dup (pc := 85) O dX7_suit_85 rfl ?_
                show J _ _ _ _ _ (.ref ((up0 adr 2 ns b) 0 7) :: _)
                refine cv_get (t := 0) (n := 7) (pc := 86) O dX7_suit_86 fdX7_54 rfl rfl rfl ?_
                show J _ _ _ _ _ (.int (V 0 7 7) :: _)
                rw [hs]
                refine x_iconst (v := 1) (pc := 89) O dX7_suit_89 (by decide) ?_
                refine x_iadd (pc := 90) O dX7_suit_90 ?_
                show J _ _ _ _ _ (_ :: .ref ((up0 adr 2 ns b) 0 7) :: _)
                refine cv_put (t := 0) (n := 7) (pc := 91) O dX7_suit_91 fpX7_54 rfl rfl rfl rfl (Nat.le_of_ble_eq_true rfl) rfl ?_
                refine x_iload (pc := 94) O dX7_suit_94 rfl ?_
                have hc9 : lvC V m (nI j1) ∧ lvC V m (nI j2) ∧ lvC V m (nI j3) ∧ ¬ (nI j1) = (nI j2) ∧ ¬ (nI j2) = (nI j3) ∧ ¬ (nI j1) = (nI j3) ∧ ns < 40 := ⟨lv_ok h60 hj1 ha1, lv_ok h60 hj2 ha2, lv_ok h60 hj3 ha3, c37, c47, c42, hm⟩
                exact x_ret (v := some (.int _)) (pc := 96) O dX7_suit_96 rfl rfl ⟨Nat.le_of_ble_eq_true rfl, Nat.le_of_ble_eq_true rfl, b, congrArg (fun z => some (Value.int z)) (if_pos hc9).symm, fun h hh => by show (if _ then _ else _ : HP) h; rw [if_pos hc9]; exact hh⟩
              · refine x_iconst (v := (-1)) (pc := 59) O dX7_suit_59 (by decide) ?_
                have hc9 : ¬ (lvC V m (nI j1) ∧ lvC V m (nI j2) ∧ lvC V m (nI j3) ∧ ¬ (nI j1) = (nI j2) ∧ ¬ (nI j2) = (nI j3) ∧ ¬ (nI j1) = (nI j3) ∧ ns < 40) := fun z => c56 (by rw [hs]; exact (nI_ltI (by omega) (by decide)).mpr z.2.2.2.2.2.2)
                exact x_ret (v := some (.int _)) (pc := 60) O dX7_suit_60 rfl rfl ⟨Nat.le_of_ble_eq_true rfl, Nat.le_of_ble_eq_true rfl, 0, congrArg (fun z => some (Value.int z)) (if_neg hc9).symm, fun h hh => by show (if _ then _ else _ : HP) h; rw [if_neg hc9]; exact hh⟩
      · refine x_callV (pc := 27) (rest := []) (ci := 3) O (c_X3_findAlive_no l E _ _ _ _ _ _ _ hc h60 hn3) dX7_suit_27 cbX7_79 im_yX3_findAlive se_yX3_findAlive rfl (cv_recv (t := 0) (n := 3) rfl rfl) rfl rfl (Nat.le_of_ble_eq_true rfl) ⟨Nat.le_of_ble_eq_true rfl, Nat.le_of_ble_eq_true rfl⟩ ⟨Nat.le_of_ble_eq_true rfl, Nat.le_of_ble_eq_true rfl⟩ (fun _ => ?_)
        dsimp only [Option.toList, List.append, List.nil_append, List.cons_append, Nat.add_zero, Nat.reduceAdd]
        refine x_ifnonnullN (pc := 30) O dX7_suit_30 ?_
        refine x_iconst (v := (-1)) (pc := 33) O dX7_suit_33 (by decide) ?_
        have hc9 : ¬ (lvC V m (nI j1) ∧ lvC V m (nI j2) ∧ lvC V m u ∧ ¬ (nI j1) = (nI j2) ∧ ¬ (nI j2) = u ∧ ¬ (nI j1) = u ∧ ns < 40) := fun z => lv_no h60 hn3 z.2.2.1
        exact x_ret (v := some (.int _)) (pc := 34) O dX7_suit_34 rfl rfl ⟨Nat.le_of_ble_eq_true rfl, Nat.le_of_ble_eq_true rfl, 0, congrArg (fun z => some (Value.int z)) (if_neg hc9).symm, fun h hh => by show (if _ then _ else _ : HP) h; rw [if_neg hc9]; exact hh⟩
    · refine x_callV (pc := 16) (rest := []) (ci := 3) O (c_X3_findAlive_no l E _ _ _ _ _ _ _ hc h60 hn2) dX7_suit_16 cbX7_79 im_yX3_findAlive se_yX3_findAlive rfl (cv_recv (t := 0) (n := 3) rfl rfl) rfl rfl (Nat.le_of_ble_eq_true rfl) ⟨Nat.le_of_ble_eq_true rfl, Nat.le_of_ble_eq_true rfl⟩ ⟨Nat.le_of_ble_eq_true rfl, Nat.le_of_ble_eq_true rfl⟩ (fun _ => ?_)
      dsimp only [Option.toList, List.append, List.nil_append, List.cons_append, Nat.add_zero, Nat.reduceAdd]
      refine x_ifnullN (pc := 19) O 33 dX7_suit_19 (by decide) ?_
      refine x_iconst (v := (-1)) (pc := 33) O dX7_suit_33 (by decide) ?_
      have hc9 : ¬ (lvC V m (nI j1) ∧ lvC V m q ∧ lvC V m u ∧ ¬ (nI j1) = q ∧ ¬ q = u ∧ ¬ (nI j1) = u ∧ ns < 40) := fun z => lv_no h60 hn2 z.2.1
      exact x_ret (v := some (.int _)) (pc := 34) O dX7_suit_34 rfl rfl ⟨Nat.le_of_ble_eq_true rfl, Nat.le_of_ble_eq_true rfl, 0, congrArg (fun z => some (Value.int z)) (if_neg hc9).symm, fun h hh => by show (if _ then _ else _ : HP) h; rw [if_neg hc9]; exact hh⟩
  · refine x_callV (pc := 5) (rest := []) (ci := 3) O (c_X3_findAlive_no l E _ _ _ _ _ _ _ hc h60 hn1) dX7_suit_5 cbX7_79 im_yX3_findAlive se_yX3_findAlive rfl (cv_recv (t := 0) (n := 3) rfl rfl) rfl rfl (Nat.le_of_ble_eq_true rfl) ⟨Nat.le_of_ble_eq_true rfl, Nat.le_of_ble_eq_true rfl⟩ ⟨Nat.le_of_ble_eq_true rfl, Nat.le_of_ble_eq_true rfl⟩ (fun _ => ?_)
    dsimp only [Option.toList, List.append, List.nil_append, List.cons_append, Nat.add_zero, Nat.reduceAdd]
    refine x_ifnullN (pc := 8) O 33 dX7_suit_8 (by decide) ?_
    refine x_iconst (v := (-1)) (pc := 33) O dX7_suit_33 (by decide) ?_
    have hc9 : ¬ (lvC V m p ∧ lvC V m q ∧ lvC V m u ∧ ¬ p = q ∧ ¬ q = u ∧ ¬ p = u ∧ ns < 40) := fun z => lv_no h60 hn1 z.1
    exact x_ret (v := some (.int _)) (pc := 34) O dX7_suit_34 rfl rfl ⟨Nat.le_of_ble_eq_true rfl, Nat.le_of_ble_eq_true rfl, 0, congrArg (fun z => some (Value.int z)) (if_neg hc9).symm, fun h hh => by show (if _ then _ else _ : HP) h; rw [if_neg hc9]; exact hh⟩
def dfV (V : Nat → Nat → Nat → Int32) (k b1 b2 : Nat) : Nat → Nat → Nat → Int32 :=
  let t := if V 1 b2 4 = 0 then b1 else b2
  let V2 := up3 (up3 V 1 t 6 (V 1 t 6 + 3)) 2 k 6 (V 2 k 6 + 1)
  if 2 ≤ V 2 k 6 + 1 then up3 (up3 V2 2 k 3 2) 1 b1 6 (up3 V2 2 k 3 2 1 b1 6 + 6) else V2
def heV (V : Nat → Nat → Nat → Int32) (k b0 b1 b2 : Nat) : Nat → Nat → Nat → Int32 :=
  if V 1 b1 4 = 0 then up3 V 2 k 3 1
  else if V 2 k 4 = 2 then up3 (up3 V 2 k 3 2) 1 b1 6 (V 1 b1 6 + 6)
  else if V 2 k 4 = 3 then up3 (up3 V 2 k 3 3) 1 b0 6 (V 1 b0 6 + 6)
  else if V 2 k 4 = 1 ∧ V 2 k 5 < V 0 0 3 then up3 V 2 k 5 (V 2 k 5 + 1)
  else dfV V k b1 b2
set_option maxRecDepth 100000 in
set_option maxHeartbeats 4000000 in
theorem c_X7_defaultIn (l : Launch) (E : En) (adr : Nat → Nat → Nat) (V : Nat → Nat → Nat → Int32) (VL : Nat → Nat → Nat → Int64) (m ns : Nat) (ch : Nat → List Rt) (k b1 b2 : Nat) (hc : V 0 3 1 = nI m) (h60 : m ≤ 60) (hk : k < ns) (hv2 : V 2 k 2 = nI b2) (hb1 : b1 < m) (hb2 : b2 < m) : Mt l E yX7_defaultIn cX7_defaultIn 5 none (rmX 2 43 0 0) [.ref (adr 0 7), .ref (adr 2 k), .ref (adr 1 b1)] (CV E adr V VL m ns ch) (fun _ : Unit => none) (fun _ => CV E adr (dfV V k b1 b2) VL m ns ch) := by
  refine Mt_of (by decide +kernel) (Nat.le_of_ble_eq_true rfl) (fun J O => ?_)
  show J _ 0 0 0 [some (.ref (adr 0 7)), some (.ref (adr 2 k)), some (.ref (adr 1 b1)), none, none] []
  refine x_aload_n (pc := 0) O dX7_defaultIn_0 rfl rfl ?_
  refine cv_get (t := 0) (n := 7) (pc := 1) O dX7_defaultIn_1 fdX7_28 rfl rfl rfl ?_
  refine x_aload_n (pc := 4) O dX7_defaultIn_4 rfl rfl ?_
  refine cv_get (t := 2) (n := k) (pc := 5) O dX7_defaultIn_5 fdX7_269 (okC2 hk) rfl rfl ?_
  rw [hv2]
  by_cases hal : V 1 b2 4 = 0
  · have hT : (if V 1 b2 4 = 0 then b1 else b2) = b1 := if_pos hal
    refine x_callV (pc := 8) (rest := []) (ci := 3) O (c_X3_findAlive_no l E _ _ _ _ _ _ _ hc h60 (fun ⟨j, hj, e, hn⟩ => hn (by rw [← (nI_eq (by omega) (by omega)).mp e]; exact hal))) dX7_defaultIn_8 cbX7_79 im_yX3_findAlive se_yX3_findAlive rfl (cv_recv (t := 0) (n := 3) rfl rfl) rfl rfl (Nat.le_of_ble_eq_true rfl) ⟨Nat.le_of_ble_eq_true rfl, Nat.le_of_ble_eq_true rfl⟩ ⟨Nat.le_of_ble_eq_true rfl, Nat.le_of_ble_eq_true rfl⟩ (fun _ => ?_)
    dsimp only [Option.toList, List.append, List.nil_append, List.cons_append, Nat.add_zero, Nat.reduceAdd]
    refine x_astore_n (pc := 11) O dX7_defaultIn_11 (by decide) rfl rfl ?_
    refine x_aload_n (pc := 12) O dX7_defaultIn_12 rfl rfl ?_
    refine x_ifnonnullN (pc := 13) O dX7_defaultIn_13 ?_
    refine x_aload_n (pc := 16) O dX7_defaultIn_16 rfl rfl ?_
    refine x_goto (pc := 17) O 21 dX7_defaultIn_17 (by decide) ?_
    refine x_astore (pc := 21) O dX7_defaultIn_21 (by decide) rfl rfl ?_
    refine x_aload (pc := 23) O dX7_defaultIn_23 rfl rfl ?_
    refine x_dup (pc := 25) O dX7_defaultIn_25 rfl ?_
    refine cv_get (t := 1) (n := b1) (pc := 26) O dX7_defaultIn_26 fdX7_123 (okC1 (by omega)) rfl rfl ?_
    refine x_iconst (v := 3) (pc := 29) O dX7_defaultIn_29 (by decide) ?_
    refine x_iadd (pc := 30) O dX7_defaultIn_30 ?_
    refine cv_put (t := 1) (n := b1) (pc := 31) O dX7_defaultIn_31 fpX7_123 rfl rfl (okC1 (by omega)) rfl (Nat.le_of_ble_eq_true rfl) rfl ?_
    refine x_aload_n (pc := 34) O dX7_defaultIn_34 rfl rfl ?_
    refine x_dup (pc := 35) O dX7_defaultIn_35 rfl ?_
    refine cv_get (t := 2) (n := k) (pc := 36) O dX7_defaultIn_36 fdX7_221 (okC2 (by omega)) rfl rfl ?_
    rw [up3_ne _ _ _ (fun z => absurd z.1 (by decide))]
    refine x_iconst (v := 1) (pc := 39) O dX7_defaultIn_39 (by decide) ?_
    refine x_iadd (pc := 40) O dX7_defaultIn_40 ?_
    refine cv_put (t := 2) (n := k) (pc := 41) O dX7_defaultIn_41 fpX7_221 rfl rfl (okC2 (by omega)) rfl (Nat.le_of_ble_eq_true rfl) rfl ?_
    refine x_aload_n (pc := 44) O dX7_defaultIn_44 rfl rfl ?_
    refine cv_get (t := 2) (n := k) (pc := 45) O dX7_defaultIn_45 fdX7_221 (okC2 (by omega)) rfl rfl ?_
    rw [up3_eq, va_up_self]
    refine x_iconst (v := 2) (pc := 48) O dX7_defaultIn_48 (by decide) ?_
    refine x_icmp_lt (pc := 49) O 68 dX7_defaultIn_49 (by decide) (fun c49 => ?_) (fun c49 => ?_)
    · exact x_ret (v := none) (pc := 68) O dX7_defaultIn_68 rfl trivial ⟨Nat.le_refl _, Nat.le_refl _, (), rfl, fun h hh => by unfold dfV; dsimp only; rw [hT, if_neg (fun z => absurd c49 (Int32.not_lt.mpr z))]; exact hh⟩
    · refine x_aload_n (pc := 52) O dX7_defaultIn_52 rfl rfl ?_
      refine x_iconst (v := 2) (pc := 53) O dX7_defaultIn_53 (by decide) ?_
      refine cv_put (t := 2) (n := k) (pc := 54) O dX7_defaultIn_54 fpX7_158 rfl rfl (okC2 (by omega)) rfl (Nat.le_of_ble_eq_true rfl) rfl ?_
      refine x_aload_n (pc := 57) O dX7_defaultIn_57 rfl rfl ?_
      refine x_dup (pc := 58) O dX7_defaultIn_58 rfl ?_
      refine cv_get (t := 1) (n := b1) (pc := 59) O dX7_defaultIn_59 fdX7_123 (okC1 (by omega)) rfl rfl ?_
      refine x_bipush (v := 6) (pc := 62) O dX7_defaultIn_62 (by decide) ?_
      refine x_iadd (pc := 64) O dX7_defaultIn_64 ?_
      refine cv_put (t := 1) (n := b1) (pc := 65) O dX7_defaultIn_65 fpX7_123 rfl rfl (okC1 (by omega)) rfl (Nat.le_of_ble_eq_true rfl) rfl ?_
      exact x_ret (v := none) (pc := 68) O dX7_defaultIn_68 rfl trivial ⟨Nat.le_refl _, Nat.le_refl _, (), rfl, fun h hh => by unfold dfV; dsimp only; rw [hT, if_pos (Int32.not_lt.mp c49)]; exact hh⟩
  · have hT : (if V 1 b2 4 = 0 then b1 else b2) = b2 := if_neg hal
    refine x_callV (pc := 8) (rest := []) (ci := 3) O (c_X3_findAlive l E _ _ _ _ _ _ b2 hc h60 hb2 hal) dX7_defaultIn_8 cbX7_79 im_yX3_findAlive se_yX3_findAlive rfl (cv_recv (t := 0) (n := 3) rfl rfl) rfl rfl (Nat.le_of_ble_eq_true rfl) ⟨Nat.le_of_ble_eq_true rfl, Nat.le_of_ble_eq_true rfl⟩ ⟨Nat.le_of_ble_eq_true rfl, Nat.le_of_ble_eq_true rfl⟩ (fun _ => ?_)
    dsimp only [Option.toList, List.append, List.nil_append, List.cons_append, Nat.add_zero, Nat.reduceAdd]
    refine x_astore_n (pc := 11) O dX7_defaultIn_11 (by decide) rfl rfl ?_
    refine x_aload_n (pc := 12) O dX7_defaultIn_12 rfl rfl ?_
    refine x_ifnonnull (pc := 13) O 20 dX7_defaultIn_13 (by decide) ?_
    refine x_aload_n (pc := 20) O dX7_defaultIn_20 rfl rfl ?_
    refine x_astore (pc := 21) O dX7_defaultIn_21 (by decide) rfl rfl ?_
    refine x_aload (pc := 23) O dX7_defaultIn_23 rfl rfl ?_
    refine x_dup (pc := 25) O dX7_defaultIn_25 rfl ?_
    refine cv_get (t := 1) (n := b2) (pc := 26) O dX7_defaultIn_26 fdX7_123 (okC1 (by omega)) rfl rfl ?_
    refine x_iconst (v := 3) (pc := 29) O dX7_defaultIn_29 (by decide) ?_
    refine x_iadd (pc := 30) O dX7_defaultIn_30 ?_
    refine cv_put (t := 1) (n := b2) (pc := 31) O dX7_defaultIn_31 fpX7_123 rfl rfl (okC1 (by omega)) rfl (Nat.le_of_ble_eq_true rfl) rfl ?_
    refine x_aload_n (pc := 34) O dX7_defaultIn_34 rfl rfl ?_
    refine x_dup (pc := 35) O dX7_defaultIn_35 rfl ?_
    refine cv_get (t := 2) (n := k) (pc := 36) O dX7_defaultIn_36 fdX7_221 (okC2 (by omega)) rfl rfl ?_
    rw [up3_ne _ _ _ (fun z => absurd z.1 (by decide))]
    refine x_iconst (v := 1) (pc := 39) O dX7_defaultIn_39 (by decide) ?_
    refine x_iadd (pc := 40) O dX7_defaultIn_40 ?_
    refine cv_put (t := 2) (n := k) (pc := 41) O dX7_defaultIn_41 fpX7_221 rfl rfl (okC2 (by omega)) rfl (Nat.le_of_ble_eq_true rfl) rfl ?_
    refine x_aload_n (pc := 44) O dX7_defaultIn_44 rfl rfl ?_
    refine cv_get (t := 2) (n := k) (pc := 45) O dX7_defaultIn_45 fdX7_221 (okC2 (by omega)) rfl rfl ?_
    rw [up3_eq, va_up_self]
    refine x_iconst (v := 2) (pc := 48) O dX7_defaultIn_48 (by decide) ?_
    refine x_icmp_lt (pc := 49) O 68 dX7_defaultIn_49 (by decide) (fun c49 => ?_) (fun c49 => ?_)
    · exact x_ret (v := none) (pc := 68) O dX7_defaultIn_68 rfl trivial ⟨Nat.le_refl _, Nat.le_refl _, (), rfl, fun h hh => by unfold dfV; dsimp only; rw [hT, if_neg (fun z => absurd c49 (Int32.not_lt.mpr z))]; exact hh⟩
    · refine x_aload_n (pc := 52) O dX7_defaultIn_52 rfl rfl ?_
      refine x_iconst (v := 2) (pc := 53) O dX7_defaultIn_53 (by decide) ?_
      refine cv_put (t := 2) (n := k) (pc := 54) O dX7_defaultIn_54 fpX7_158 rfl rfl (okC2 (by omega)) rfl (Nat.le_of_ble_eq_true rfl) rfl ?_
      refine x_aload_n (pc := 57) O dX7_defaultIn_57 rfl rfl ?_
      refine x_dup (pc := 58) O dX7_defaultIn_58 rfl ?_
      refine cv_get (t := 1) (n := b1) (pc := 59) O dX7_defaultIn_59 fdX7_123 (okC1 (by omega)) rfl rfl ?_
      refine x_bipush (v := 6) (pc := 62) O dX7_defaultIn_62 (by decide) ?_
      refine x_iadd (pc := 64) O dX7_defaultIn_64 ?_
      refine cv_put (t := 1) (n := b1) (pc := 65) O dX7_defaultIn_65 fpX7_123 rfl rfl (okC1 (by omega)) rfl (Nat.le_of_ble_eq_true rfl) rfl ?_
      exact x_ret (v := none) (pc := 68) O dX7_defaultIn_68 rfl trivial ⟨Nat.le_refl _, Nat.le_refl _, (), rfl, fun h hh => by unfold dfV; dsimp only; rw [hT, if_pos (Int32.not_lt.mp c49)]; exact hh⟩
set_option maxRecDepth 100000 in
set_option maxHeartbeats 4000000 in
theorem c_X7_hear (l : Launch) (E : En) (adr : Nat → Nat → Nat) (V : Nat → Nat → Nat → Int32) (VL : Nat → Nat → Nat → Int64) (m ns : Nat) (ch : Nat → List Rt) (k b0 b1 b2 : Nat) (hc : V 0 3 1 = nI m) (h60 : m ≤ 60) (hk : k < ns) (hv0 : V 2 k 0 = nI b0) (hv1 : V 2 k 1 = nI b1) (hv2 : V 2 k 2 = nI b2) (hb0 : b0 < m) (hb1 : b1 < m) (hb2 : b2 < m) : Mt l E yX7_hear cX7_hear 3 none (rmX 3 67 0 0) [.ref (adr 0 7), .ref (adr 2 k)] (CV E adr V VL m ns ch) (fun _ : Unit => none) (fun _ => CV E adr (heV V k b0 b1 b2) VL m ns ch) := by
  refine Mt_of (by decide +kernel) (Nat.le_of_ble_eq_true rfl) (fun J O => ?_)
  show J _ 0 0 0 [some (.ref (adr 0 7)), some (.ref (adr 2 k)), none] []
  refine x_aload_n (pc := 0) O dX7_hear_0 rfl rfl ?_
  refine cv_get (t := 0) (n := 7) (pc := 1) O dX7_hear_1 fdX7_28 rfl rfl rfl ?_
  refine x_aload_n (pc := 4) O dX7_hear_4 rfl rfl ?_
  refine cv_get (t := 2) (n := k) (pc := 5) O dX7_hear_5 fdX7_255 (okC2 hk) rfl rfl ?_
  rw [hv1]
  by_cases hal : V 1 b1 4 = 0
  · refine x_callV (pc := 8) (rest := []) (ci := 3) O (c_X3_findAlive_no l E _ _ _ _ _ _ _ hc h60 (fun ⟨j, hj, e, hn⟩ => hn (by rw [← (nI_eq (by omega) (by omega)).mp e]; exact hal))) dX7_hear_8 cbX7_79 im_yX3_findAlive se_yX3_findAlive rfl (cv_recv (t := 0) (n := 3) rfl rfl) rfl rfl (Nat.le_of_ble_eq_true rfl) ⟨Nat.le_of_ble_eq_true rfl, Nat.le_of_ble_eq_true rfl⟩ ⟨Nat.le_of_ble_eq_true rfl, Nat.le_of_ble_eq_true rfl⟩ (fun _ => ?_)
    dsimp only [Option.toList, List.append, List.nil_append, List.cons_append, Nat.add_zero, Nat.reduceAdd]
    refine x_astore_n (pc := 11) O dX7_hear_11 (by decide) rfl rfl ?_
    refine x_aload_n (pc := 12) O dX7_hear_12 rfl rfl ?_
    refine x_ifnonnullN (pc := 13) O dX7_hear_13 ?_
    refine x_aload_n (pc := 16) O dX7_hear_16 rfl rfl ?_
    refine x_iconst (v := 1) (pc := 17) O dX7_hear_17 (by decide) ?_
    refine cv_put (t := 2) (n := k) (pc := 18) O dX7_hear_18 fpX7_158 rfl rfl (okC2 (by omega)) rfl (Nat.le_of_ble_eq_true rfl) rfl ?_
    refine x_goto (pc := 21) O 121 dX7_hear_21 (by decide) ?_
    exact x_ret (v := none) (pc := 121) O dX7_hear_121 rfl trivial ⟨Nat.le_refl _, Nat.le_refl _, (), rfl, fun h hh => by unfold heV; rw [if_pos hal]; exact hh⟩
  · refine x_callV (pc := 8) (rest := []) (ci := 3) O (c_X3_findAlive l E _ _ _ _ _ _ b1 hc h60 hb1 hal) dX7_hear_8 cbX7_79 im_yX3_findAlive se_yX3_findAlive rfl (cv_recv (t := 0) (n := 3) rfl rfl) rfl rfl (Nat.le_of_ble_eq_true rfl) ⟨Nat.le_of_ble_eq_true rfl, Nat.le_of_ble_eq_true rfl⟩ ⟨Nat.le_of_ble_eq_true rfl, Nat.le_of_ble_eq_true rfl⟩ (fun _ => ?_)
    dsimp only [Option.toList, List.append, List.nil_append, List.cons_append, Nat.add_zero, Nat.reduceAdd]
    refine x_astore_n (pc := 11) O dX7_hear_11 (by decide) rfl rfl ?_
    refine x_aload_n (pc := 12) O dX7_hear_12 rfl rfl ?_
    refine x_ifnonnull (pc := 13) O 24 dX7_hear_13 (by decide) ?_
    refine x_aload_n (pc := 24) O dX7_hear_24 rfl rfl ?_
    refine cv_get (t := 2) (n := k) (pc := 25) O dX7_hear_25 fdX7_161 (okC2 (by omega)) rfl rfl ?_
    refine x_iconst (v := 2) (pc := 28) O dX7_hear_28 (by decide) ?_
    refine x_icmp_ne (pc := 29) O 51 dX7_hear_29 (by decide) (fun c29 => ?_) (fun c29 => ?_)
    · refine x_aload_n (pc := 51) O dX7_hear_51 rfl rfl ?_
      refine cv_get (t := 2) (n := k) (pc := 52) O dX7_hear_52 fdX7_161 (okC2 (by omega)) rfl rfl ?_
      refine x_iconst (v := 3) (pc := 55) O dX7_hear_55 (by decide) ?_
      refine x_icmp_ne (pc := 56) O 80 dX7_hear_56 (by decide) (fun c56 => ?_) (fun c56 => ?_)
      · refine x_aload_n (pc := 80) O dX7_hear_80 rfl rfl ?_
        refine cv_get (t := 2) (n := k) (pc := 81) O dX7_hear_81 fdX7_161 (okC2 (by omega)) rfl rfl ?_
        refine x_iconst (v := 1) (pc := 84) O dX7_hear_84 (by decide) ?_
        refine x_icmp_ne (pc := 85) O 115 dX7_hear_85 (by decide) (fun c85 => ?_) (fun c85 => ?_)
        · refine x_aload_n (pc := 115) O dX7_hear_115 rfl rfl ?_
          refine x_aload_n (pc := 116) O dX7_hear_116 rfl rfl ?_
          refine x_aload_n (pc := 117) O dX7_hear_117 rfl rfl ?_
          refine x_callV (pc := 118) (rest := []) (ci := 7) O (c_X7_defaultIn l E _ _ _ _ _ _ k b1 b2 hc h60 hk hv2 hb1 hb2) dX7_hear_118 cbX7_265 im_yX7_defaultIn se_yX7_defaultIn rfl (cv_recv (t := 0) (n := 7) rfl rfl) rfl rfl (Nat.le_of_ble_eq_true rfl) ⟨Nat.le_of_ble_eq_true rfl, Nat.le_of_ble_eq_true rfl⟩ ⟨Nat.le_of_ble_eq_true rfl, Nat.le_of_ble_eq_true rfl⟩ (fun _ => ?_)
          dsimp only [Option.toList, List.append, List.nil_append, List.cons_append, Nat.add_zero, Nat.reduceAdd]
          exact x_ret (v := none) (pc := 121) O dX7_hear_121 rfl trivial ⟨Nat.le_refl _, Nat.le_refl _, (), rfl, fun h hh => by unfold heV; rw [if_neg hal, if_neg c29, if_neg c56, if_neg (fun z => c85 z.1)]; exact hh⟩
        · refine x_aload_n (pc := 88) O dX7_hear_88 rfl rfl ?_
          refine cv_get (t := 2) (n := k) (pc := 89) O dX7_hear_89 fdX7_218 (okC2 (by omega)) rfl rfl ?_
          refine x_aload_n (pc := 92) O dX7_hear_92 rfl rfl ?_
          refine cv_get (t := 0) (n := 7) (pc := 93) O dX7_hear_93 fdX7_18 rfl rfl rfl ?_
          refine cv_get (t := 0) (n := 0) (pc := 96) O dX7_hear_96 fdX7_264 rfl rfl rfl ?_
          refine x_icmp_ge (pc := 99) O 115 dX7_hear_99 (by decide) (fun c99 => ?_) (fun c99 => ?_)
          · refine x_aload_n (pc := 115) O dX7_hear_115 rfl rfl ?_
            refine x_aload_n (pc := 116) O dX7_hear_116 rfl rfl ?_
            refine x_aload_n (pc := 117) O dX7_hear_117 rfl rfl ?_
            refine x_callV (pc := 118) (rest := []) (ci := 7) O (c_X7_defaultIn l E _ _ _ _ _ _ k b1 b2 hc h60 hk hv2 hb1 hb2) dX7_hear_118 cbX7_265 im_yX7_defaultIn se_yX7_defaultIn rfl (cv_recv (t := 0) (n := 7) rfl rfl) rfl rfl (Nat.le_of_ble_eq_true rfl) ⟨Nat.le_of_ble_eq_true rfl, Nat.le_of_ble_eq_true rfl⟩ ⟨Nat.le_of_ble_eq_true rfl, Nat.le_of_ble_eq_true rfl⟩ (fun _ => ?_)
            dsimp only [Option.toList, List.append, List.nil_append, List.cons_append, Nat.add_zero, Nat.reduceAdd]
            exact x_ret (v := none) (pc := 121) O dX7_hear_121 rfl trivial ⟨Nat.le_refl _, Nat.le_refl _, (), rfl, fun h hh => by unfold heV; rw [if_neg hal, if_neg c29, if_neg c56, if_neg (fun z => absurd c99 (Int32.not_le.mpr z.2))]; exact hh⟩
          · refine x_aload_n (pc := 102) O dX7_hear_102 rfl rfl ?_
            refine x_dup (pc := 103) O dX7_hear_103 rfl ?_
            refine cv_get (t := 2) (n := k) (pc := 104) O dX7_hear_104 fdX7_218 (okC2 (by omega)) rfl rfl ?_
            refine x_iconst (v := 1) (pc := 107) O dX7_hear_107 (by decide) ?_
            refine x_iadd (pc := 108) O dX7_hear_108 ?_
            refine cv_put (t := 2) (n := k) (pc := 109) O dX7_hear_109 fpX7_218 rfl rfl (okC2 (by omega)) rfl (Nat.le_of_ble_eq_true rfl) rfl ?_
            refine x_goto (pc := 112) O 121 dX7_hear_112 (by decide) ?_
            exact x_ret (v := none) (pc := 121) O dX7_hear_121 rfl trivial ⟨Nat.le_refl _, Nat.le_refl _, (), rfl, fun h hh => by unfold heV; rw [if_neg hal, if_neg c29, if_neg c56, if_pos ⟨c85, Int32.not_le.mp c99⟩]; exact hh⟩
      · refine x_aload_n (pc := 59) O dX7_hear_59 rfl rfl ?_
        refine x_iconst (v := 3) (pc := 60) O dX7_hear_60 (by decide) ?_
        refine cv_put (t := 2) (n := k) (pc := 61) O dX7_hear_61 fpX7_158 rfl rfl (okC2 (by omega)) rfl (Nat.le_of_ble_eq_true rfl) rfl ?_
        refine x_aload_n (pc := 64) O dX7_hear_64 rfl rfl ?_
        refine cv_get (t := 0) (n := 7) (pc := 65) O dX7_hear_65 fdX7_28 rfl rfl rfl ?_
        refine x_aload_n (pc := 68) O dX7_hear_68 rfl rfl ?_
        refine cv_get (t := 2) (n := k) (pc := 69) O dX7_hear_69 fdX7_258 (okC2 (by omega)) rfl rfl ?_
        rw [up3_eq, va_up_ne _ _ (by decide), hv0]
        refine x_bipush (v := 6) (pc := 72) O dX7_hear_72 (by decide) ?_
        refine x_callV (pc := 74) (rest := []) (ci := 3) O (c_X3_owe l E _ _ _ _ _ _ b0 6 (by rw [up3_ne _ _ _ (fun z => absurd z.1 (by decide))]; exact hc) h60 hb0) dX7_hear_74 cbX7_261 im_yX3_owe se_yX3_owe rfl (cv_recv (t := 0) (n := 3) rfl rfl) rfl rfl (Nat.le_of_ble_eq_true rfl) ⟨Nat.le_of_ble_eq_true rfl, Nat.le_of_ble_eq_true rfl⟩ ⟨Nat.le_of_ble_eq_true rfl, Nat.le_of_ble_eq_true rfl⟩ (fun _ => ?_)
        dsimp only [Option.toList, List.append, List.nil_append, List.cons_append, Nat.add_zero, Nat.reduceAdd]
        rw [up3_ne _ _ _ (fun z => absurd z.1 (by decide))]
        refine x_goto (pc := 77) O 121 dX7_hear_77 (by decide) ?_
        exact x_ret (v := none) (pc := 121) O dX7_hear_121 rfl trivial ⟨Nat.le_refl _, Nat.le_refl _, (), rfl, fun h hh => by unfold heV; rw [if_neg hal, if_neg c29, if_pos c56]; exact hh⟩
    · refine x_aload_n (pc := 32) O dX7_hear_32 rfl rfl ?_
      refine x_iconst (v := 2) (pc := 33) O dX7_hear_33 (by decide) ?_
      refine cv_put (t := 2) (n := k) (pc := 34) O dX7_hear_34 fpX7_158 rfl rfl (okC2 (by omega)) rfl (Nat.le_of_ble_eq_true rfl) rfl ?_
      refine x_aload_n (pc := 37) O dX7_hear_37 rfl rfl ?_
      refine x_dup (pc := 38) O dX7_hear_38 rfl ?_
      refine cv_get (t := 1) (n := b1) (pc := 39) O dX7_hear_39 fdX7_123 (okC1 (by omega)) rfl rfl ?_
      rw [up3_ne _ _ _ (fun z => absurd z.1 (by decide))]
      refine x_bipush (v := 6) (pc := 42) O dX7_hear_42 (by decide) ?_
      refine x_iadd (pc := 44) O dX7_hear_44 ?_
      refine cv_put (t := 1) (n := b1) (pc := 45) O dX7_hear_45 fpX7_123 rfl rfl (okC1 (by omega)) rfl (Nat.le_of_ble_eq_true rfl) rfl ?_
      refine x_goto (pc := 48) O 121 dX7_hear_48 (by decide) ?_
      exact x_ret (v := none) (pc := 121) O dX7_hear_121 rfl trivial ⟨Nat.le_refl _, Nat.le_refl _, (), rfl, fun h hh => by unfold heV; rw [if_neg hal, if_pos c29]; exact hh⟩
def ctOne (V : Nat → Nat → Nat → Int32) (k : Nat) : Nat → Nat → Nat → Int32 := if V 2 k 3 = 0 then up3 (heV V k (V 2 k 0).toNatClampNeg (V 2 k 1).toNatClampNeg (V 2 k 2).toNatClampNeg) 2 k 4 0 else V
def ctC (V : Nat → Nat → Nat → Int32) : Nat → (Nat → Nat → Nat → Int32) × Int32
  | 0 => (V, 0)
  | k + 1 => (ctOne (ctC V k).1 k, (ctC V k).2 + (if (ctC V k).1 2 k 3 = 0 ∧ ¬ ctOne (ctC V k).1 k 2 k 3 = 0 then 1 else 0))
theorem dfV_k (V : Nat → Nat → Nat → Int32) (k b1 b2 t n f : Nat) (h : ¬ (t = 1 ∧ f = 6)) (h2 : ¬ (t = 2 ∧ (f = 3 ∨ f = 6))) : dfV V k b1 b2 t n f = V t n f := by
  have e1 : ∀ (W : Nat → Nat → Nat → Int32) (j : Nat) (v : Int32), up3 W 1 j 6 v t n f = W t n f := fun W j v => by
    by_cases c : t = 1 ∧ n = j
    · obtain ⟨rfl, rfl⟩ := c; rw [up3_eq, va_up_ne _ _ (fun z => h ⟨rfl, z⟩)]
    · rw [up3_ne _ _ _ c]
  have e2 : ∀ (W : Nat → Nat → Nat → Int32) (g : Nat) (v : Int32), (g = 3 ∨ g = 6) → up3 W 2 k g v t n f = W t n f := fun W g v hg => by
    by_cases c : t = 2 ∧ n = k
    · obtain ⟨rfl, rfl⟩ := c; rw [up3_eq, va_up_ne _ _ (fun z => h2 ⟨rfl, by rw [z]; exact hg⟩)]
    · rw [up3_ne _ _ _ c]
  unfold dfV
  try dsimp only
  split
  · rw [e1, e2 _ _ _ (Or.inl rfl), e2 _ _ _ (Or.inr rfl), e1]
  · rw [e2 _ _ _ (Or.inr rfl), e1]
theorem heV_k (V : Nat → Nat → Nat → Int32) (k b0 b1 b2 t n f : Nat) (h : ¬ (t = 1 ∧ f = 6)) (h2 : ¬ (t = 2 ∧ (f = 3 ∨ f = 5 ∨ f = 6))) : heV V k b0 b1 b2 t n f = V t n f := by
  have e1 : ∀ (W : Nat → Nat → Nat → Int32) (j : Nat) (v : Int32), up3 W 1 j 6 v t n f = W t n f := fun W j v => by
    by_cases c : t = 1 ∧ n = j
    · obtain ⟨rfl, rfl⟩ := c; rw [up3_eq, va_up_ne _ _ (fun z => h ⟨rfl, z⟩)]
    · rw [up3_ne _ _ _ c]
  have e2 : ∀ (W : Nat → Nat → Nat → Int32) (g : Nat) (v : Int32), (g = 3 ∨ g = 5 ∨ g = 6) → up3 W 2 k g v t n f = W t n f := fun W g v hg => by
    by_cases c : t = 2 ∧ n = k
    · obtain ⟨rfl, rfl⟩ := c; rw [up3_eq, va_up_ne _ _ (fun z => h2 ⟨rfl, by rw [z]; exact hg⟩)]
    · rw [up3_ne _ _ _ c]
  unfold heV
  split
  · rw [e2 _ _ _ (Or.inl rfl)]
  · split
    · rw [e1, e2 _ _ _ (Or.inl rfl)]
    · split
      · rw [e1, e2 _ _ _ (Or.inl rfl)]
      · split
        · rw [e2 _ _ _ (Or.inr (Or.inl rfl))]
        · exact dfV_k _ _ _ _ _ _ _ h (fun z => h2 ⟨z.1, z.2.elim Or.inl (fun z => Or.inr (Or.inr z))⟩)
theorem ctOne_k (V : Nat → Nat → Nat → Int32) (k t n f : Nat) (h : ¬ (t = 1 ∧ f = 6)) (h2 : ¬ (t = 2 ∧ (f = 3 ∨ f = 4 ∨ f = 5 ∨ f = 6))) : ctOne V k t n f = V t n f := by
  unfold ctOne
  split
  · by_cases c : t = 2 ∧ n = k
    · obtain ⟨rfl, rfl⟩ := c
      rw [up3_eq, va_up_ne _ _ (fun z => h2 ⟨rfl, Or.inr (Or.inl z)⟩)]
      exact heV_k _ _ _ _ _ _ _ _ h (fun z => h2 ⟨rfl, z.2.elim Or.inl (fun z => Or.inr (Or.inr z))⟩)
    · rw [up3_ne _ _ _ c]
      exact heV_k _ _ _ _ _ _ _ _ h (fun z => h2 ⟨z.1, z.2.elim Or.inl (fun z => Or.inr (Or.inr z))⟩)
  · rfl
theorem ctC_k (V : Nat → Nat → Nat → Int32) (t n f : Nat) (h : ¬ (t = 1 ∧ f = 6)) (h2 : ¬ (t = 2 ∧ (f = 3 ∨ f = 4 ∨ f = 5 ∨ f = 6))) : ∀ k, (ctC V k).1 t n f = V t n f
  | 0 => rfl
  | k + 1 => by
    show ctOne (ctC V k).1 k t n f = _
    rw [ctOne_k _ _ _ _ _ h h2, ctC_k V t n f h h2 k]
set_option maxRecDepth 100000 in
set_option maxHeartbeats 4000000 in
theorem c_X7_court (l : Launch) (E : En) (adr : Nat → Nat → Nat) (V : Nat → Nat → Nat → Int32) (VL : Nat → Nat → Nat → Int64) (m ns : Nat) (ch : Nat → List Rt) (hc : V 0 3 1 = nI m) (h60 : m ≤ 60) (hs : V 0 7 7 = nI ns) (h40 : ns ≤ 40) (hsu : ∀ k, k < ns → ∃ b0 b1 b2, b0 < m ∧ b1 < m ∧ b2 < m ∧ V 2 k 0 = nI b0 ∧ V 2 k 1 = nI b1 ∧ V 2 k 2 = nI b2) : Mt l E yX7_court cX7_court 4 (some .int) (rmX 4 89 0 0) [.ref (adr 0 7)] (CV E adr V VL m ns ch) (fun _ : Unit => some (.int (ctC V ns).2)) (fun _ => CV E adr (ctC V ns).1 VL m ns ch) := by
  refine Mt_of (by decide +kernel) (Nat.le_of_ble_eq_true rfl) (fun J O => ?_)
  show J _ 0 0 0 [some (.ref (adr 0 7)), none, none, none] []
  have loop : ∀ k, k ≤ ns → J (CV E adr (ctC V k).1 VL m ns ch) 0 0 4 [some (.ref (adr 0 7)), some (.int (ctC V k).2), some (.int (nI k)), none] [] := by
    refine up_ind (Φ := fun k => J (CV E adr (ctC V k).1 VL m ns ch) 0 0 4 [some (.ref (adr 0 7)), some (.int (ctC V k).2), some (.int (nI k)), none] []) ns (fun k hk0 ih => ?_)
    have hsk : (ctC V k).1 0 7 7 = nI ns := by rw [ctC_k V 0 7 7 (by decide) (by decide)]; exact hs
    refine x_iload_n (pc := 4) O dX7_court_4 rfl ?_
    refine x_aload_n (pc := 5) O dX7_court_5 rfl rfl ?_
    refine cv_get (t := 0) (n := 7) (pc := 6) O dX7_court_6 fdX7_54 rfl rfl rfl ?_
    rw [hsk]
    refine x_icmp_ge (pc := 9) O 60 dX7_court_9 (by decide) (fun c9 => ?_) (fun c9 => ?_)
    · refine x_iload_n (pc := 60) O dX7_court_60 rfl ?_
      have hk : k = ns := by
        rw [nI_leI (by omega) (by omega)] at c9
        omega
      subst hk
      exact x_ret (v := some (.int _)) (pc := 61) O dX7_court_61 rfl (rfl) ⟨Nat.le_refl _, Nat.le_refl _, (), rfl, fun h hh => hh⟩
    · have hk : k < ns := by
        rw [nI_leI (by omega) (by omega)] at c9
        omega
      obtain ⟨b0, b1, b2, hb0, hb1, hb2, e0, e1, e2⟩ := hsu k hk
      have g0 : (ctC V k).1 2 k 0 = nI b0 := by rw [ctC_k V 2 k 0 (by decide) (by decide)]; exact e0
      have g1 : (ctC V k).1 2 k 1 = nI b1 := by rw [ctC_k V 2 k 1 (by decide) (by decide)]; exact e1
      have g2 : (ctC V k).1 2 k 2 = nI b2 := by rw [ctC_k V 2 k 2 (by decide) (by decide)]; exact e2
      have hck : (ctC V k).1 0 3 1 = nI m := by rw [ctC_k V 0 3 1 (by decide) (by decide)]; exact hc
      refine x_aload_n (pc := 12) O dX7_court_12 rfl rfl ?_
      refine x_iload_n (pc := 13) O dX7_court_13 rfl ?_
      refine x_callV (pc := 14) (rest := []) (ci := 7) O (c_X7_findSuit l E _ _ _ _ _ _ k hsk h40 hk) dX7_court_14 cbX7_154 im_yX7_findSuit se_yX7_findSuit rfl (cv_recv (t := 0) (n := 7) rfl rfl) rfl rfl (Nat.le_of_ble_eq_true rfl) ⟨Nat.le_of_ble_eq_true rfl, Nat.le_of_ble_eq_true rfl⟩ ⟨Nat.le_of_ble_eq_true rfl, Nat.le_of_ble_eq_true rfl⟩ (fun _ => ?_)
      dsimp only [Option.toList, List.append, List.nil_append, List.cons_append, Nat.add_zero, Nat.reduceAdd]
      refine x_astore_n (pc := 17) O dX7_court_17 (by decide) rfl rfl ?_
      refine x_aload_n (pc := 18) O dX7_court_18 rfl rfl ?_
      refine x_ifnull (pc := 19) O dX7_court_19 ?_
      refine x_aload_n (pc := 22) O dX7_court_22 rfl rfl ?_
      refine cv_get (t := 2) (n := k) (pc := 23) O dX7_court_23 fdX7_158 (okC2 (by omega)) rfl rfl ?_
      refine x_if_ne (pc := 26) O 54 dX7_court_26 (by decide) (fun c26 => ?_) (fun c26 => ?_)
      · refine x_iinc (v := nI (k + 1)) (pc := 54) O dX7_court_54 rfl (nI_succ k).symm rfl ?_
        refine x_goto (pc := 57) O 4 dX7_court_57 (by decide) ?_
        rw [show (ctC V k).2 = (ctC V (k + 1)).2 from by show _ = (ctC V k).2 + _; rw [if_neg (fun z => c26 z.1)]; exact (Int32.add_zero _).symm, show (ctC V k).1 = (ctC V (k + 1)).1 from by show _ = ctOne (ctC V k).1 k; unfold ctOne; rw [if_neg c26]]
        refine x_lv O [some (.ref (adr 0 7)), some (.int (ctC V (k + 1)).2), some (.int (nI (k + 1))), none] ⟨rfl, rfl, rfl, trivial⟩ ?_
        exact ih (by omega)
      · refine x_aload_n (pc := 29) O dX7_court_29 rfl rfl ?_
        refine x_aload_n (pc := 30) O dX7_court_30 rfl rfl ?_
        refine x_callV (pc := 31) (rest := []) (ci := 7) O (c_X7_hear l E _ _ _ _ _ _ k b0 b1 b2 hck h60 hk g0 g1 g2 hb0 hb1 hb2) dX7_court_31 cbX7_164 im_yX7_hear se_yX7_hear rfl (cv_recv (t := 0) (n := 7) rfl rfl) rfl rfl (Nat.le_of_ble_eq_true rfl) ⟨Nat.le_of_ble_eq_true rfl, Nat.le_of_ble_eq_true rfl⟩ ⟨Nat.le_of_ble_eq_true rfl, Nat.le_of_ble_eq_true rfl⟩ (fun _ => ?_)
        dsimp only [Option.toList, List.append, List.nil_append, List.cons_append, Nat.add_zero, Nat.reduceAdd]
        have hO : up3 (heV (ctC V k).1 k b0 b1 b2) 2 k 4 0 = ctOne (ctC V k).1 k := by
          unfold ctOne
          rw [if_pos c26, g0, g1, g2, nI_clamp (by omega), nI_clamp (by omega), nI_clamp (by omega)]
        refine x_aload_n (pc := 34) O dX7_court_34 rfl rfl ?_
        refine x_iconst (v := 0) (pc := 35) O dX7_court_35 (by decide) ?_
        refine cv_put (t := 2) (n := k) (pc := 36) O dX7_court_36 fpX7_161 rfl rfl (okC2 (by omega)) rfl (Nat.le_of_ble_eq_true rfl) rfl ?_
        refine x_iload_n (pc := 39) O dX7_court_39 rfl ?_
        refine x_aload_n (pc := 40) O dX7_court_40 rfl rfl ?_
        refine cv_get (t := 2) (n := k) (pc := 41) O dX7_court_41 fdX7_158 (okC2 (by omega)) rfl rfl ?_
        refine x_if_ne (pc := 44) O 51 dX7_court_44 (by decide) (fun c44 => ?_) (fun c44 => ?_)
        · refine x_iconst (v := 1) (pc := 51) O dX7_court_51 (by decide) ?_
          refine x_iadd (pc := 52) O dX7_court_52 ?_
          refine x_istore_n (pc := 53) O dX7_court_53 (by decide) rfl ?_
          refine x_iinc (v := nI (k + 1)) (pc := 54) O dX7_court_54 rfl (nI_succ k).symm rfl ?_
          refine x_goto (pc := 57) O 4 dX7_court_57 (by decide) ?_
          rw [hO, show (ctC V k).2 + 1 = (ctC V (k + 1)).2 from by show _ = (ctC V k).2 + _; rw [if_pos ⟨c26, by rw [← hO]; exact c44⟩]]
          refine x_lv O [some (.ref (adr 0 7)), some (.int (ctC V (k + 1)).2), some (.int (nI (k + 1))), none] ⟨rfl, rfl, rfl, trivial⟩ ?_
          exact ih (by omega)
        · refine x_iconst (v := 0) (pc := 47) O dX7_court_47 (by decide) ?_
          refine x_goto (pc := 48) O 52 dX7_court_48 (by decide) ?_
          refine x_iadd (pc := 52) O dX7_court_52 ?_
          refine x_istore_n (pc := 53) O dX7_court_53 (by decide) rfl ?_
          refine x_iinc (v := nI (k + 1)) (pc := 54) O dX7_court_54 rfl (nI_succ k).symm rfl ?_
          refine x_goto (pc := 57) O 4 dX7_court_57 (by decide) ?_
          rw [hO, show (ctC V k).2 + 0 = (ctC V (k + 1)).2 from by show _ = (ctC V k).2 + _; rw [if_neg (fun z => z.2 (by rw [← hO]; exact c44))]]
          refine x_lv O [some (.ref (adr 0 7)), some (.int (ctC V (k + 1)).2), some (.int (nI (k + 1))), none] ⟨rfl, rfl, rfl, trivial⟩ ?_
          exact ih (by omega)
  refine x_iconst (v := 0) (pc := 0) O dX7_court_0 (by decide) ?_
  refine x_istore_n (pc := 1) O dX7_court_1 (by decide) rfl ?_
  refine x_iconst (v := nI 0) (pc := 2) O dX7_court_2 (by decide) ?_
  refine x_istore_n (pc := 3) O dX7_court_3 (by decide) rfl ?_
  exact loop 0 (Nat.zero_le _)
def swV (V : Nat → Nat → Nat → Int32) (p : Nat) (n k : Int32) : Nat → Nat → Nat → Int32 :=
  let s := (if V 1 p 11 < n then V 1 p 11 else n)
  let V2 := up3 (up3 V 1 p 10 (V 1 p 10 + s * k)) 1 p 7 (V 1 p 7 + (n - s) * k)
  if V 1 p 4 = 0 then V2 else up3 V2 1 p 11 (V 1 p 11 - s)
def wkC (V : Nat → Nat → Nat → Int32) (ch : Nat → List Rt) (n : Int32) : Nat → Nat → Nat → Nat → Int32
  | 0 => V
  | p + 1 => swV (wkC V ch n p) p n (hcC ch (nI p) 120 * V 0 0 2)
theorem swV_k (V : Nat → Nat → Nat → Int32) (p : Nat) (n k : Int32) (t q f : Nat) (h : ¬ (t = 1 ∧ q = p)) : swV V p n k t q f = V t q f := by
  unfold swV
  try dsimp only
  split
  · rw [up3_ne _ _ _ h, up3_ne _ _ _ h]
  · rw [up3_ne _ _ _ h, up3_ne _ _ _ h, up3_ne _ _ _ h]
theorem wkC_0 (V : Nat → Nat → Nat → Int32) (ch : Nat → List Rt) (n : Int32) (q f : Nat) : ∀ p, wkC V ch n p 0 q f = V 0 q f
  | 0 => rfl
  | p + 1 => by
    show swV (wkC V ch n p) p n _ 0 q f = _
    rw [swV_k _ _ _ _ _ _ _ (fun z => absurd z.1 (by decide)), wkC_0 V ch n q f p]
set_option maxRecDepth 100000 in
set_option maxHeartbeats 4000000 in
theorem c_X7_weeks (l : Launch) (E : En) (adr : Nat → Nat → Nat) (V : Nat → Nat → Nat → Int32) (VL : Nat → Nat → Nat → Int64) (m ns : Nat) (ch : Nat → List Rt) (n : Int32) (hc : V 0 3 1 = nI m) (h60 : m ≤ 60) : Mt l E yX7_weeks cX7_weeks 4 (some .int) (rmX 2 47 0 0) [.ref (adr 0 7), .int n] (CV E adr V VL m ns ch) (fun _ : Unit => some (.int (if (0 ≤ n ∧ n ≤ 60) ∧ V 0 7 0 + n * 7 ≤ 40000 then V 0 7 0 + n * 7 else -1))) (fun _ => CV E adr (if (0 ≤ n ∧ n ≤ 60) ∧ V 0 7 0 + n * 7 ≤ 40000 then up3 (wkC V ch n m) 0 7 0 (V 0 7 0 + n * 7) else V) VL m ns ch) := by
  refine Mt_of (by decide +kernel) (Nat.le_of_ble_eq_true rfl) (fun J O => ?_)
  show J _ 0 0 0 [some (.ref (adr 0 7)), some (.int n), none, none] []
  refine x_iload_n (pc := 0) O dX7_weeks_0 rfl ?_
  refine x_if_lt (pc := 1) O 24 dX7_weeks_1 (by decide) (fun c1 => ?_) (fun c1 => ?_)
  · refine x_iconst (v := (-1)) (pc := 24) O dX7_weeks_24 (by decide) ?_
    have hc9 : ¬ ((0 ≤ n ∧ n ≤ 60) ∧ V 0 7 0 + n * 7 ≤ 40000) := fun z => absurd c1 (Int32.not_lt.mpr z.1.1)
    exact x_ret (v := some (.int _)) (pc := 25) O dX7_weeks_25 rfl rfl ⟨Nat.le_of_ble_eq_true rfl, Nat.le_of_ble_eq_true rfl, (), congrArg (fun z => some (Value.int z)) (if_neg hc9).symm, fun h hh => by rw [if_neg hc9]; exact hh⟩
  · refine x_iload_n (pc := 4) O dX7_weeks_4 rfl ?_
    refine x_bipush (v := 60) (pc := 5) O dX7_weeks_5 (by decide) ?_
    refine x_icmp_gt (pc := 7) O 24 dX7_weeks_7 (by decide) (fun c7 => ?_) (fun c7 => ?_)
    · refine x_iconst (v := (-1)) (pc := 24) O dX7_weeks_24 (by decide) ?_
      have hc9 : ¬ ((0 ≤ n ∧ n ≤ 60) ∧ V 0 7 0 + n * 7 ≤ 40000) := fun z => absurd c7 (Int32.not_lt.mpr z.1.2)
      exact x_ret (v := some (.int _)) (pc := 25) O dX7_weeks_25 rfl rfl ⟨Nat.le_of_ble_eq_true rfl, Nat.le_of_ble_eq_true rfl, (), congrArg (fun z => some (Value.int z)) (if_neg hc9).symm, fun h hh => by rw [if_neg hc9]; exact hh⟩
    · refine x_aload_n (pc := 10) O dX7_weeks_10 rfl rfl ?_
      refine cv_get (t := 0) (n := 7) (pc := 11) O dX7_weeks_11 fdX7_9 rfl rfl rfl ?_
      refine x_iload_n (pc := 14) O dX7_weeks_14 rfl ?_
      refine x_bipush (v := 7) (pc := 15) O dX7_weeks_15 (by decide) ?_
      refine x_imul (pc := 17) O dX7_weeks_17 ?_
      refine x_iadd (pc := 18) O dX7_weeks_18 ?_
      refine x_ldc (pc := 19) O dX7_weeks_19 cnX7_129 ?_
      refine x_icmp_le (pc := 21) O 26 dX7_weeks_21 (by decide) (fun c21 => ?_) (fun c21 => ?_)
      · refine x_iconst (v := nI 0) (pc := 26) O dX7_weeks_26 (by decide) ?_
        refine x_istore_n (pc := 27) O dX7_weeks_27 (by decide) rfl ?_
        have hgood : (0 ≤ n ∧ n ≤ 60) ∧ V 0 7 0 + n * 7 ≤ 40000 := ⟨⟨Int32.not_lt.mp c1, Int32.not_lt.mp c7⟩, c21⟩
        have loop : ∀ k, k ≤ m → J (CV E adr (wkC V ch n k) VL m ns ch) 0 0 28 [some (.ref (adr 0 7)), some (.int n), some (.int (nI k)), none] [] := by
          refine up_ind (Φ := fun k => J (CV E adr (wkC V ch n k) VL m ns ch) 0 0 28 [some (.ref (adr 0 7)), some (.int n), some (.int (nI k)), none] []) m (fun k hk0 ih => ?_)
          have hck : wkC V ch n k 0 3 1 = nI m := by rw [wkC_0]; exact hc
          refine x_iload_n (pc := 28) O dX7_weeks_28 rfl ?_
          refine x_aload_n (pc := 29) O dX7_weeks_29 rfl rfl ?_
          refine cv_get (t := 0) (n := 7) (pc := 30) O dX7_weeks_30 fdX7_28 rfl rfl rfl ?_
          refine cv_get (t := 0) (n := 3) (pc := 33) O dX7_weeks_33 fdX7_64 rfl rfl rfl ?_
          rw [hck]
          refine x_icmp_ge (pc := 36) O 79 dX7_weeks_36 (by decide) (fun c36 => ?_) (fun c36 => ?_)
          · refine x_aload_n (pc := 79) O dX7_weeks_79 rfl rfl ?_
            refine x_dup (pc := 80) O dX7_weeks_80 rfl ?_
            refine cv_get (t := 0) (n := 7) (pc := 81) O dX7_weeks_81 fdX7_9 rfl rfl rfl ?_
            rw [wkC_0]
            refine x_iload_n (pc := 84) O dX7_weeks_84 rfl ?_
            refine x_bipush (v := 7) (pc := 85) O dX7_weeks_85 (by decide) ?_
            refine x_imul (pc := 87) O dX7_weeks_87 ?_
            refine x_iadd (pc := 88) O dX7_weeks_88 ?_
            refine cv_put (t := 0) (n := 7) (pc := 89) O dX7_weeks_89 fpX7_9 rfl rfl rfl rfl (Nat.le_of_ble_eq_true rfl) rfl ?_
            refine x_aload_n (pc := 92) O dX7_weeks_92 rfl rfl ?_
            refine cv_get (t := 0) (n := 7) (pc := 93) O dX7_weeks_93 fdX7_9 rfl rfl rfl ?_
            rw [up3_eq, va_up_self]
            have hk : k = m := by
              rw [nI_leI (by omega) (by omega)] at c36
              omega
            subst hk
            have hc9 : (0 ≤ n ∧ n ≤ 60) ∧ V 0 7 0 + n * 7 ≤ 40000 := hgood
            exact x_ret (v := some (.int _)) (pc := 96) O dX7_weeks_96 rfl rfl ⟨Nat.le_of_ble_eq_true rfl, Nat.le_of_ble_eq_true rfl, (), congrArg (fun z => some (Value.int z)) (by rw [if_pos hc9]), fun h hh => by rw [if_pos hc9]; exact hh⟩
          · have hk : k < m := by
              rw [nI_leI (by omega) (by omega)] at c36
              omega
            refine x_aload_n (pc := 39) O dX7_weeks_39 rfl rfl ?_
            refine cv_get (t := 0) (n := 7) (pc := 40) O dX7_weeks_40 fdX7_28 rfl rfl rfl ?_
            refine x_iload_n (pc := 43) O dX7_weeks_43 rfl ?_
            refine x_callV (pc := 44) (rest := []) (ci := 3) O (c_X3_find l E _ _ _ _ _ _ k hck h60 hk) dX7_weeks_44 cbX7_105 im_yX3_find se_yX3_find rfl (cv_recv (t := 0) (n := 3) rfl rfl) rfl rfl (Nat.le_of_ble_eq_true rfl) ⟨Nat.le_of_ble_eq_true rfl, Nat.le_of_ble_eq_true rfl⟩ ⟨Nat.le_of_ble_eq_true rfl, Nat.le_of_ble_eq_true rfl⟩ (fun _ => ?_)
            dsimp only [Option.toList, List.append, List.nil_append, List.cons_append, Nat.add_zero, Nat.reduceAdd]
            refine x_astore_n (pc := 47) O dX7_weeks_47 (by decide) rfl rfl ?_
            refine x_aload_n (pc := 48) O dX7_weeks_48 rfl rfl ?_
            refine x_ifnull (pc := 49) O dX7_weeks_49 ?_
            refine x_aload_n (pc := 52) O dX7_weeks_52 rfl rfl ?_
            refine x_iload_n (pc := 53) O dX7_weeks_53 rfl ?_
            refine x_aload_n (pc := 54) O dX7_weeks_54 rfl rfl ?_
            refine cv_get (t := 0) (n := 7) (pc := 55) O dX7_weeks_55 fdX7_35 rfl rfl rfl ?_
            refine x_iload_n (pc := 58) O dX7_weeks_58 rfl ?_
            refine x_callV (pc := 59) (rest := [.int n, .ref (adr 1 k)]) (ci := 2) O (v_X2_heldBy l E _ _ _ _ _ _ _) dX7_weeks_59 cbX7_130 im_yX2_heldBy se_yX2_heldBy rfl (cv_recv (t := 0) (n := 2) rfl rfl) rfl rfl (Nat.le_of_ble_eq_true rfl) ⟨Nat.le_of_ble_eq_true rfl, Nat.le_of_ble_eq_true rfl⟩ ⟨Nat.le_of_ble_eq_true rfl, Nat.le_of_ble_eq_true rfl⟩ (fun _ => ?_)
            dsimp only [Option.toList, List.append, List.nil_append, List.cons_append, Nat.add_zero, Nat.reduceAdd]
            refine x_aload_n (pc := 62) O dX7_weeks_62 rfl rfl ?_
            refine cv_get (t := 0) (n := 7) (pc := 63) O dX7_weeks_63 fdX7_18 rfl rfl rfl ?_
            refine cv_get (t := 0) (n := 0) (pc := 66) O dX7_weeks_66 fdX7_133 rfl rfl rfl ?_
            rw [wkC_0]
            refine x_imul (pc := 69) O dX7_weeks_69 ?_
            refine x_callV (pc := 70) (rest := []) (ci := 4) O (c_X4_spendWeeks l E _ _ _ _ _ _ k n _ hk) dX7_weeks_70 cbX7_136 im_yX4_spendWeeks se_yX4_spendWeeks rfl (cv_recv (okC1 hk) rfl) rfl rfl (Nat.le_of_ble_eq_true rfl) ⟨Nat.le_of_ble_eq_true rfl, Nat.le_of_ble_eq_true rfl⟩ ⟨Nat.le_of_ble_eq_true rfl, Nat.le_of_ble_eq_true rfl⟩ (fun _ => ?_)
            dsimp only [Option.toList, List.append, List.nil_append, List.cons_append, Nat.add_zero, Nat.reduceAdd]
            refine x_iinc (v := nI (k + 1)) (pc := 73) O dX7_weeks_73 rfl (nI_succ k).symm rfl ?_
            refine x_goto (pc := 76) O 28 dX7_weeks_76 (by decide) ?_
            refine x_lv O [some (.ref (adr 0 7)), some (.int n), some (.int (nI (k + 1))), none] ⟨rfl, rfl, rfl, trivial⟩ ?_
            exact ih (by omega)
        exact loop 0 (Nat.zero_le _)
      · refine x_iconst (v := (-1)) (pc := 24) O dX7_weeks_24 (by decide) ?_
        have hc9 : ¬ ((0 ≤ n ∧ n ≤ 60) ∧ V 0 7 0 + n * 7 ≤ 40000) := fun z => c21 z.2
        exact x_ret (v := some (.int _)) (pc := 25) O dX7_weeks_25 rfl rfl ⟨Nat.le_of_ble_eq_true rfl, Nat.le_of_ble_eq_true rfl, (), congrArg (fun z => some (Value.int z)) (if_neg hc9).symm, fun h hh => by rw [if_neg hc9]; exact hh⟩
