/-! ===== CLS 7: lineBelow, firstLine, look, give ===== -/
theorem grp_d {a : Ar} {ln : Nat → Bool} {m j : Nat} {ord but : Int32} (h : kids a ln j but 0 m = []) : grp a ln m ord j but = kids a ln j but 1 m := by
  unfold grp; dsimp only; rw [if_pos h]
theorem grp_e {a : Ar} {ln : Nat → Bool} {m j k : Nat} {ord but : Int32} {r : List Nat} (ho : ord = 0) (h : kids a ln j but 0 m = k :: r) : grp a ln m ord j but = [k] := by
  unfold grp; dsimp only; rw [h, if_neg (by simp), ho, if_pos (by decide), if_pos rfl]; rfl
theorem grp_y {a : Ar} {ln : Nat → Bool} {m j k : Nat} {ord but : Int32} {r : List Nat} (ho : ord = 1) (h : kids a ln j but 0 m = r ++ [k]) : grp a ln m ord j but = [k] := by
  unfold grp; dsimp only; rw [h, if_neg (by simp), ho, if_pos (by decide), if_neg (by decide)]
  simp [List.getLastD_eq_getLast?]
theorem grp_a {a : Ar} {ln : Nat → Bool} {m j : Nat} {ord but : Int32} (ho : ord = 2) (h : ¬ kids a ln j but 0 m = []) : grp a ln m ord j but = kids a ln j but 0 m := by
  unfold grp; dsimp only; rw [if_neg h, ho, if_neg (by decide)]
theorem eld_is {s : Int64} {m : Nat} {B : Nat → Bool} (hs : ∀ c, bt6 s c = true ↔ c < m ∧ B c = true) (h0 : ¬ s = 0) : ∃ k r, (List.range m).filter B = k :: r ∧ LNs m (s &&& -s) [k] := by
  have hex : ∃ p, bt6 s p = true := Classical.byContradiction fun hn => h0 ((bt6_zero s).mpr (fun p => by
    cases hb : bt6 s p with
    | false => rfl
    | true => exact absurd ⟨p, hb⟩ hn))
  obtain ⟨k, hk, hl⟩ := pk_least (fun p => bt6 s p = true) hex
  have hkm := (hs k).mp hk
  have hl2 : ∀ j, j < k → bt6 s j = false := fun j hj => by
    cases hb : bt6 s j with
    | false => rfl
    | true => exact absurd hb (hl j hj)
  obtain ⟨r, hr⟩ := flt_head (B := B) (k := k) hkm.2 (fun j hj => by
    cases hb : B j with
    | false => rfl
    | true => exact absurd ((hs j).mpr ⟨by omega, hb⟩) (hl j hj)) m hkm.1
  exact ⟨k, r, hr, LNs_one hkm.1 (fun p => low6 hk hl2 p)⟩
theorem yng_is {s : Int64} {m : Nat} {B : Nat → Bool} (hs : ∀ c, bt6 s c = true ↔ c < m ∧ B c = true) (h0 : ¬ s = 0) : ∃ k r, k < m ∧ (List.range m).filter B = r ++ [k] ∧ bt6 s k = true ∧ ∀ j, k < j → bt6 s j = false := by
  have hex : ∃ p, bt6 s p = true := Classical.byContradiction fun hn => h0 ((bt6_zero s).mpr (fun p => by
    cases hb : bt6 s p with
    | false => rfl
    | true => exact absurd ⟨p, hb⟩ hn))
  obtain ⟨p, hp⟩ := hex
  obtain ⟨k, h1, h2, h3⟩ := top_bit B m ⟨p, (hs p).mp hp⟩
  obtain ⟨r, hr⟩ := flt_last h2 m h1 h3
  exact ⟨k, r, h1, hr, (hs k).mpr ⟨h1, h2⟩, fun j hj => by
    cases hb : bt6 s j with
    | false => rfl
    | true =>
      have := (hs j).mp hb
      rw [h3 j hj this.1] at this; exact absurd this.2 (by decide)⟩
set_option maxRecDepth 100000 in
set_option maxHeartbeats 4000000 in
theorem c_X1_lineBelow (l : Launch) (E : En) (adr : Nat → Nat → Nat) (V : Nat → Nat → Nat → Int32) (VL : Nat → Nat → Nat → Int64) (m ns : Nat) (ch : Nat → List Rt) (a : Ar) (al ln : Nat → Bool) (j : Nat) (but : Int32) (bx : Int64) (hc : V 0 3 1 = nI m) (h60 : m ≤ 60) (hka : KA V VL a m) (hlk : LKd VL al ln m) (hord : V 0 1 4 = 0 ∨ V 0 1 4 = 1 ∨ V 0 1 4 = 2) (hj : j < m) (hb : ∀ c, c < m → (bt6 bx c = true ↔ nI c = but)) : Mt l E yX1_lineBelow cX1_lineBelow 7 (some .long) (rmX 1 23 0 0) [.ref (adr 0 1), .int (nI j), .long bx] (CV E adr V VL m ns ch) (fun y : Int64 => some (.long y)) (fun y h => LNs m y (grp a ln m (V 0 1 4) j but) ∧ CV E adr V VL m ns ch h) := by
  refine Mt_of (by decide +kernel) (Nat.le_of_ble_eq_true rfl) (fun J O => ?_)
  show J _ 0 0 0 [some (.ref (adr 0 1)), some (.int (nI j)), some (.long bx), none, none, none, none] []
  have hs0 := kid_bits (ln := ln) (but := but) (bx := bx) (ls := VL 0 1 6) h60 (fun c => hka.2.1 j c hj) hlk.2 hb
  have hs1 := kid_bits (ln := ln) (but := but) (bx := bx) (ls := VL 0 1 6) h60 (fun c => hka.2.2 j c hj) hlk.2 hb
  refine x_aload_n (pc := 0) O dX1_lineBelow_0 rfl rfl ?_
  refine cv_get (t := 0) (n := 1) (pc := 1) O dX1_lineBelow_1 fdX1_18 rfl rfl rfl ?_
  refine x_iload_n (pc := 4) O dX1_lineBelow_4 rfl ?_
  refine x_callV (pc := 5) (rest := []) (ci := 3) O (c_X3_find l E _ _ _ _ _ _ j hc h60 hj) dX1_lineBelow_5 cbX1_63 im_yX3_find se_yX3_find rfl (cv_recv (t := 0) (n := 3) rfl rfl) rfl rfl (Nat.le_of_ble_eq_true rfl) ⟨Nat.le_of_ble_eq_true rfl, Nat.le_of_ble_eq_true rfl⟩ ⟨Nat.le_of_ble_eq_true rfl, Nat.le_of_ble_eq_true rfl⟩ (fun _ => ?_)
  dsimp only [Option.toList, List.append, List.nil_append, List.cons_append, Nat.add_zero, Nat.reduceAdd]
  refine x_astore (pc := 8) O dX1_lineBelow_8 (by decide) rfl rfl ?_
  refine x_aload (pc := 10) O dX1_lineBelow_10 rfl rfl ?_
  refine x_ifnonnull (pc := 12) O 17 dX1_lineBelow_12 (by decide) ?_
  refine x_aload (pc := 17) O dX1_lineBelow_17 rfl rfl ?_
  refine cv_get (t := 1) (n := j) (pc := 19) O dX1_lineBelow_19 fdX1_73 (okC1 (by omega)) rfl rfl ?_
  refine x_aload_n (pc := 22) O dX1_lineBelow_22 rfl rfl ?_
  refine cv_get (t := 0) (n := 1) (pc := 23) O dX1_lineBelow_23 fdX1_55 rfl rfl rfl ?_
  refine x_land (pc := 26) O dX1_lineBelow_26 ?_
  refine x_lload_n (pc := 27) O dX1_lineBelow_27 rfl ?_
  refine x_ldc2 (pc := 28) O dX1_lineBelow_28 cnX1_86 ?_
  refine x_lxor (pc := 31) O dX1_lineBelow_31 ?_
  refine x_land (pc := 32) O dX1_lineBelow_32 ?_
  refine x_lstore (pc := 33) O dX1_lineBelow_33 (by decide) rfl ?_
  refine x_lload (pc := 35) O dX1_lineBelow_35 rfl ?_
  refine x_lconst (v := 0) (pc := 37) O dX1_lineBelow_37 rfl ?_
  refine x_lcmp (pc := 38) O dX1_lineBelow_38 ?_
  refine x_if_ne (pc := 39) O 59 dX1_lineBelow_39 (by decide) (fun c39 => ?_) (fun c39 => ?_)
  · refine x_aload_n (pc := 59) O dX1_lineBelow_59 rfl rfl ?_
    refine cv_get (t := 0) (n := 1) (pc := 60) O dX1_lineBelow_60 fdX1_48 rfl rfl rfl ?_
    refine x_if_ne (pc := 63) O 73 dX1_lineBelow_63 (by decide) (fun c63 => ?_) (fun c63 => ?_)
    · refine x_aload_n (pc := 73) O dX1_lineBelow_73 rfl rfl ?_
      refine cv_get (t := 0) (n := 1) (pc := 74) O dX1_lineBelow_74 fdX1_48 rfl rfl rfl ?_
      refine x_iconst (v := 1) (pc := 77) O dX1_lineBelow_77 (by decide) ?_
      refine x_icmp_ne (pc := 78) O 89 dX1_lineBelow_78 (by decide) (fun c78 => ?_) (fun c78 => ?_)
      · refine x_lload (pc := 89) O dX1_lineBelow_89 rfl ?_
        have hk0 : ¬ kids a ln j but 0 m = [] := fun z => cmpn c39 ((LNs_0 (LNs_of hs0)).mpr z)
        have hg := grp_a (ord := V 0 1 4) ((hord.resolve_left c63).resolve_left c78) hk0
        exact x_ret (v := some (.long _)) (pc := 91) O dX1_lineBelow_91 rfl trivial ⟨Nat.le_refl _, Nat.le_refl _, _, rfl, fun h hh => ⟨by rw [hg]; exact LNs_of hs0, hh⟩⟩
      · obtain ⟨k, r, hk1, hk2, hk3, hk4⟩ := yng_is hs0 (cmpn c39)
        refine x_lload (pc := 81) O dX1_lineBelow_81 rfl ?_
        refine x_callS (pc := 83) (rest := []) O (c_X1_youngestOf l E _ _ k (by omega) hk3 (fun j h1 _ => hk4 j h1)) dX1_lineBelow_83 cbX1_88 sm_yX1_youngestOf rfl rfl (Nat.le_of_ble_eq_true rfl) ⟨Nat.le_of_ble_eq_true rfl, Nat.le_of_ble_eq_true rfl⟩ ⟨Nat.le_of_ble_eq_true rfl, Nat.le_of_ble_eq_true rfl⟩ (fun _ => ?_)
        dsimp only [Option.toList, List.append, List.nil_append, List.cons_append, Nat.add_zero, Nat.reduceAdd]
        refine x_goto (pc := 86) O 91 dX1_lineBelow_86 (by decide) ?_
        have hg := grp_y (ord := V 0 1 4) c78 hk2
        exact x_ret (v := some (.long _)) (pc := 91) O dX1_lineBelow_91 rfl trivial ⟨Nat.le_refl _, Nat.le_refl _, _, rfl, fun h hh => ⟨by rw [hg]; exact LNs_one hk1 (fun p => bt6_one (by omega) p), hh⟩⟩
    · refine x_lload (pc := 66) O dX1_lineBelow_66 rfl ?_
      refine x_lload (pc := 68) O dX1_lineBelow_68 rfl ?_
      refine x_lneg (pc := 70) O dX1_lineBelow_70 ?_
      refine x_land (pc := 71) O dX1_lineBelow_71 ?_
      obtain ⟨k, r, hk1, hk2⟩ := eld_is hs0 (cmpn c39)
      have hg := grp_e (ord := V 0 1 4) c63 hk1
      exact x_ret (v := some (.long _)) (pc := 72) O dX1_lineBelow_72 rfl trivial ⟨Nat.le_refl _, Nat.le_refl _, _, rfl, fun h hh => ⟨by rw [hg]; exact hk2, hh⟩⟩
  · refine x_aload (pc := 42) O dX1_lineBelow_42 rfl rfl ?_
    refine cv_get (t := 1) (n := j) (pc := 44) O dX1_lineBelow_44 fdX1_76 (okC1 (by omega)) rfl rfl ?_
    refine x_aload_n (pc := 47) O dX1_lineBelow_47 rfl rfl ?_
    refine cv_get (t := 0) (n := 1) (pc := 48) O dX1_lineBelow_48 fdX1_55 rfl rfl rfl ?_
    refine x_land (pc := 51) O dX1_lineBelow_51 ?_
    refine x_lload_n (pc := 52) O dX1_lineBelow_52 rfl ?_
    refine x_ldc2 (pc := 53) O dX1_lineBelow_53 cnX1_86 ?_
    refine x_lxor (pc := 56) O dX1_lineBelow_56 ?_
    refine x_land (pc := 57) O dX1_lineBelow_57 ?_
    have hk0 := (LNs_0 (LNs_of hs0)).mp (cmpz c39)
    have hg := grp_d (ord := V 0 1 4) hk0
    exact x_ret (v := some (.long _)) (pc := 58) O dX1_lineBelow_58 rfl trivial ⟨Nat.le_refl _, Nat.le_refl _, _, rfl, fun h hh => ⟨by rw [hg]; exact LNs_of hs1, hh⟩⟩
set_option maxRecDepth 100000 in
set_option maxHeartbeats 4000000 in
theorem c_X1_lineBelow_no (l : Launch) (E : En) (adr : Nat → Nat → Nat) (V : Nat → Nat → Nat → Int32) (VL : Nat → Nat → Nat → Int64) (m ns : Nat) (ch : Nat → List Rt) (x : Int32) (bx : Int64) (hc : V 0 3 1 = nI m) (h60 : m ≤ 60) (hno : noP m x) : Mt l E yX1_lineBelow cX1_lineBelow 7 (some .long) (rmX 1 23 0 0) [.ref (adr 0 1), .int x, .long bx] (CV E adr V VL m ns ch) (fun _ : Unit => some (.long 0)) (fun _ => CV E adr V VL m ns ch) := by
  refine Mt_of (by decide +kernel) (Nat.le_of_ble_eq_true rfl) (fun J O => ?_)
  show J _ 0 0 0 [some (.ref (adr 0 1)), some (.int x), some (.long bx), none, none, none, none] []
  refine x_aload_n (pc := 0) O dX1_lineBelow_0 rfl rfl ?_
  refine cv_get (t := 0) (n := 1) (pc := 1) O dX1_lineBelow_1 fdX1_18 rfl rfl rfl ?_
  refine x_iload_n (pc := 4) O dX1_lineBelow_4 rfl ?_
  refine x_callV (pc := 5) (rest := []) (ci := 3) O (c_X3_find_no l E _ _ _ _ _ _ _ hc h60 hno) dX1_lineBelow_5 cbX1_63 im_yX3_find se_yX3_find rfl (cv_recv (t := 0) (n := 3) rfl rfl) rfl rfl (Nat.le_of_ble_eq_true rfl) ⟨Nat.le_of_ble_eq_true rfl, Nat.le_of_ble_eq_true rfl⟩ ⟨Nat.le_of_ble_eq_true rfl, Nat.le_of_ble_eq_true rfl⟩ (fun _ => ?_)
  dsimp only [Option.toList, List.append, List.nil_append, List.cons_append, Nat.add_zero, Nat.reduceAdd]
  refine x_astore (pc := 8) O dX1_lineBelow_8 (by decide) rfl rfl ?_
  refine x_aload (pc := 10) O dX1_lineBelow_10 rfl rfl ?_
  refine x_ifnonnullN (pc := 12) O dX1_lineBelow_12 ?_
  refine x_lconst (v := 0) (pc := 15) O dX1_lineBelow_15 rfl ?_
  exact x_ret (v := some (.long _)) (pc := 16) O dX1_lineBelow_16 rfl trivial ⟨Nat.le_refl _, Nat.le_refl _, (), rfl, fun h hh => hh⟩
theorem hb_none {m : Nat} (h : m ≤ 60) : ∀ c, c < m → (bt6 0 c = true ↔ nI c = -1) := fun c hc => by
  rw [bt6_z]
  exact ⟨fun z => absurd z (by decide), fun z => absurd z (nI_nm1 (by omega))⟩
theorem hb_one {m j : Nat} (h : m ≤ 60) (hj : j < m) : ∀ c, c < m → (bt6 ((1 : Int64) <<< ((nI j).toInt64 &&& 63)) c = true ↔ nI c = nI j) := fun c hc => by
  rw [bt6_one (by omega), decide_eq_true_eq, nI_eq (by omega) (by omega)]
  exact eq_comm
theorem fstG_own {a : Ar} {ln : Nat → Bool} {m p : Nat} {ord : Int32} (h : ¬ grp a ln m ord p (-1) = []) : fstG a ln m ord p = grp a ln m ord p (-1) := by
  unfold fstG; dsimp only; rw [if_neg h]
theorem fstG_none {a : Ar} {ln : Nat → Bool} {m p : Nat} {ord : Int32} (h : grp a ln m ord p (-1) = []) (hf : a 10 p = -1) : fstG a ln m ord p = [] := by
  unfold fstG; dsimp only; rw [if_pos h, if_pos hf]
theorem fstG_fa {a : Ar} {ln : Nat → Bool} {m p f : Nat} {ord : Int32} (h : grp a ln m ord p (-1) = []) (hf : a 10 p = nI f) (h60 : f < 60) : fstG a ln m ord p = grp a ln m ord f (nI p) := by
  unfold fstG; dsimp only; rw [if_pos h, hf, if_neg (nI_nm1 (by omega)), nI_clamp (by omega)]
theorem noP_m1 {m : Nat} (h : m ≤ 60) : noP m (-1) := fun ⟨j, hj, z⟩ => nI_nm1 (c := j) (by omega) z.symm
set_option maxRecDepth 100000 in
set_option maxHeartbeats 4000000 in
theorem c_X1_firstLine (l : Launch) (E : En) (adr : Nat → Nat → Nat) (V : Nat → Nat → Nat → Int32) (VL : Nat → Nat → Nat → Int64) (m ns : Nat) (ch : Nat → List Rt) (a : Ar) (al ln : Nat → Bool) (j : Nat) (hc : V 0 3 1 = nI m) (h60 : m ≤ 60) (hka : KA V VL a m) (hlk : LKd VL al ln m) (hord : V 0 1 4 = 0 ∨ V 0 1 4 = 1 ∨ V 0 1 4 = 2) (hfa : ∀ p, p < m → a 10 p = -1 ∨ ∃ f, f < m ∧ a 10 p = nI f) (hj : j < m) : Mt l E yX1_firstLine cX1_firstLine 5 (some .long) (rmX 2 49 0 0) [.ref (adr 0 1), .int (nI j)] (CV E adr V VL m ns ch) (fun y : Int64 => some (.long y)) (fun y h => LNs m y (fstG a ln m (V 0 1 4) j) ∧ CV E adr V VL m ns ch h) := by
  refine Mt_of (by decide +kernel) (Nat.le_of_ble_eq_true rfl) (fun J O => ?_)
  show J _ 0 0 0 [some (.ref (adr 0 1)), some (.int (nI j)), none, none, none] []
  refine x_aload_n (pc := 0) O dX1_firstLine_0 rfl rfl ?_
  refine x_iload_n (pc := 1) O dX1_firstLine_1 rfl ?_
  refine x_lconst (v := 0) (pc := 2) O dX1_firstLine_2 rfl ?_
  refine x_callV (pc := 3) (rest := []) (ci := 1) O (c_X1_lineBelow l E _ _ _ _ _ _ a al ln j (-1) 0 hc h60 hka hlk hord hj (hb_none h60)) dX1_firstLine_3 cbX1_79 im_yX1_lineBelow se_yX1_lineBelow rfl (cv_recv (t := 0) (n := 1) rfl rfl) rfl rfl (Nat.le_of_ble_eq_true rfl) ⟨Nat.le_of_ble_eq_true rfl, Nat.le_of_ble_eq_true rfl⟩ ⟨Nat.le_of_ble_eq_true rfl, Nat.le_of_ble_eq_true rfl⟩ (fun y => x_pure O (fun hy => ?_))
  dsimp only [Option.toList, List.append, List.nil_append, List.cons_append, Nat.add_zero, Nat.reduceAdd]
  refine x_lstore_n (pc := 6) O dX1_firstLine_6 (by decide) rfl ?_
  refine x_aload_n (pc := 7) O dX1_firstLine_7 rfl rfl ?_
  refine cv_get (t := 0) (n := 1) (pc := 8) O dX1_firstLine_8 fdX1_18 rfl rfl rfl ?_
  refine x_iload_n (pc := 11) O dX1_firstLine_11 rfl ?_
  refine x_callV (pc := 12) (rest := []) (ci := 3) O (c_X3_find l E _ _ _ _ _ _ j hc h60 hj) dX1_firstLine_12 cbX1_63 im_yX3_find se_yX3_find rfl (cv_recv (t := 0) (n := 3) rfl rfl) rfl rfl (Nat.le_of_ble_eq_true rfl) ⟨Nat.le_of_ble_eq_true rfl, Nat.le_of_ble_eq_true rfl⟩ ⟨Nat.le_of_ble_eq_true rfl, Nat.le_of_ble_eq_true rfl⟩ (fun _ => ?_)
  dsimp only [Option.toList, List.append, List.nil_append, List.cons_append, Nat.add_zero, Nat.reduceAdd]
  refine x_astore (pc := 15) O dX1_firstLine_15 (by decide) rfl rfl ?_
  refine x_lload_n (pc := 17) O dX1_firstLine_17 rfl ?_
  refine x_lconst (v := 0) (pc := 18) O dX1_firstLine_18 rfl ?_
  refine x_lcmp (pc := 19) O dX1_firstLine_19 ?_
  refine x_if_ne (pc := 20) O 28 dX1_firstLine_20 (by decide) (fun c20 => ?_) (fun c20 => ?_)
  · refine x_lload_n (pc := 28) O dX1_firstLine_28 rfl ?_
    have hg := fstG_own (p := j) (fun z => cmpn c20 ((LNs_0 hy).mpr z))
    exact x_ret (v := some (.long _)) (pc := 29) O dX1_firstLine_29 rfl trivial ⟨Nat.le_refl _, Nat.le_refl _, _, rfl, fun h hh => ⟨by rw [hg]; exact hy, hh⟩⟩
  · refine x_aload (pc := 23) O dX1_firstLine_23 rfl rfl ?_
    refine x_ifnonnull (pc := 25) O 30 dX1_firstLine_25 (by decide) ?_
    refine x_aload_n (pc := 30) O dX1_firstLine_30 rfl rfl ?_
    refine x_aload (pc := 31) O dX1_firstLine_31 rfl rfl ?_
    refine cv_get (t := 1) (n := j) (pc := 33) O dX1_firstLine_33 fdX1_83 (okC1 (by omega)) rfl rfl ?_
    rw [← (hka.1 j hj).2.1]
    rcases hfa j hj with hf | ⟨f, hfm, hf⟩ <;> rw [hf]
    · skip
      refine x_lconst (v := 1) (pc := 36) O dX1_firstLine_36 rfl ?_
      refine x_iload_n (pc := 37) O dX1_firstLine_37 rfl ?_
      refine x_lshl (pc := 38) O dX1_firstLine_38 ?_
      refine x_callV (pc := 39) (rest := []) (ci := 1) O (c_X1_lineBelow_no l E _ _ _ _ _ _ _ _ hc h60 (noP_m1 h60)) dX1_firstLine_39 cbX1_79 im_yX1_lineBelow se_yX1_lineBelow rfl (cv_recv (t := 0) (n := 1) rfl rfl) rfl rfl (Nat.le_of_ble_eq_true rfl) ⟨Nat.le_of_ble_eq_true rfl, Nat.le_of_ble_eq_true rfl⟩ ⟨Nat.le_of_ble_eq_true rfl, Nat.le_of_ble_eq_true rfl⟩ (fun _ => ?_)
      dsimp only [Option.toList, List.append, List.nil_append, List.cons_append, Nat.add_zero, Nat.reduceAdd]
      have hg := fstG_none ((LNs_0 hy).mp (cmpz c20)) hf
      exact x_ret (v := some (.long _)) (pc := 42) O dX1_firstLine_42 rfl trivial ⟨Nat.le_refl _, Nat.le_refl _, _, rfl, fun h hh => ⟨by rw [hg]; exact LNs_z m, hh⟩⟩
    · skip
      refine x_lconst (v := 1) (pc := 36) O dX1_firstLine_36 rfl ?_
      refine x_iload_n (pc := 37) O dX1_firstLine_37 rfl ?_
      refine x_lshl (pc := 38) O dX1_firstLine_38 ?_
      refine x_callV (pc := 39) (rest := []) (ci := 1) O (c_X1_lineBelow l E _ _ _ _ _ _ a al ln f (nI j) _ hc h60 hka hlk hord hfm (hb_one h60 hj)) dX1_firstLine_39 cbX1_79 im_yX1_lineBelow se_yX1_lineBelow rfl (cv_recv (t := 0) (n := 1) rfl rfl) rfl rfl (Nat.le_of_ble_eq_true rfl) ⟨Nat.le_of_ble_eq_true rfl, Nat.le_of_ble_eq_true rfl⟩ ⟨Nat.le_of_ble_eq_true rfl, Nat.le_of_ble_eq_true rfl⟩ (fun y2 => x_pure O (fun hy2 => ?_))
      dsimp only [Option.toList, List.append, List.nil_append, List.cons_append, Nat.add_zero, Nat.reduceAdd]
      have hg := fstG_fa ((LNs_0 hy).mp (cmpz c20)) hf (by omega)
      exact x_ret (v := some (.long _)) (pc := 42) O dX1_firstLine_42 rfl trivial ⟨Nat.le_refl _, Nat.le_refl _, _, rfl, fun h hh => ⟨by rw [hg]; exact hy2, hh⟩⟩
def LKI (a : Ar) (al : Nat → Bool) (m : Nat) (VL : Nat → Nat → Nat → Int64) (k : Nat) (VL1 : Nat → Nat → Nat → Int64) : Prop := (∀ t n, ¬ (t = 0 ∧ n = 1) → VL1 t n = VL t n) ∧ (∀ c, bt6 (VL1 0 1 5) c = true ↔ k ≤ c ∧ c < m ∧ al c = true) ∧ ∀ c, bt6 (VL1 0 1 6) c = true ↔ k ≤ c ∧ c < m ∧ lasts a al m c = true
theorem bits_step {x w : Int64} {F : Nat → Bool} {k m : Nat} (hk : k < m) (hm : m ≤ 60) (h : ∀ c, bt6 x c = true ↔ k + 1 ≤ c ∧ c < m ∧ F c = true) (hw : (F k = true ∧ w = ((1 : Int64) <<< ((nI k).toInt64 &&& 63))) ∨ (¬ F k = true ∧ w = 0)) : ∀ c, bt6 (x ||| w) c = true ↔ k ≤ c ∧ c < m ∧ F c = true := by
  intro c
  rw [bt6_or, Bool.or_eq_true, h c]
  rcases hw with ⟨q1, rfl⟩ | ⟨q1, rfl⟩
  · rw [bt6_one (by omega), decide_eq_true_eq]
    constructor
    · rintro (⟨z1, z2, z3⟩ | rfl)
      · exact ⟨by omega, z2, z3⟩
      · exact ⟨Nat.le_refl _, hk, q1⟩
    · rintro ⟨z1, z2, z3⟩
      by_cases e : k = c
      · exact Or.inr e
      · exact Or.inl ⟨by omega, z2, z3⟩
  · rw [bt6_z]
    constructor
    · rintro (⟨z1, z2, z3⟩ | z)
      · exact ⟨by omega, z2, z3⟩
      · cases z
    · rintro ⟨z1, z2, z3⟩
      by_cases e : k = c
      · subst e; exact absurd z3 q1
      · exact Or.inl ⟨by omega, z2, z3⟩
theorem LKI_s {a : Ar} {al : Nat → Bool} {m k : Nat} {VL VL1 : Nat → Nat → Nat → Int64} (h : LKI a al m VL (k + 1) VL1) (hk : k < m) (hm : m ≤ 60) {w1 w2 : Int64} (h1 : (al k = true ∧ w1 = ((1 : Int64) <<< ((nI k).toInt64 &&& 63))) ∨ (¬ al k = true ∧ w1 = 0)) (h2 : (lasts a al m k = true ∧ w2 = ((1 : Int64) <<< ((nI k).toInt64 &&& 63))) ∨ (¬ lasts a al m k = true ∧ w2 = 0)) : LKI a al m VL k (up3 (up3 VL1 0 1 5 (VL1 0 1 5 ||| w1)) 0 1 6 (VL1 0 1 6 ||| w2)) := by
  obtain ⟨g1, g2, g3⟩ := h
  refine ⟨fun t n hn => by rw [up3_ne _ _ _ hn, up3_ne _ _ _ hn]; exact g1 t n hn, ?_, ?_⟩
  · rw [up3_eq, va_up_ne _ _ (by decide), up3_eq, va_up_self]
    exact bits_step hk hm g2 h1
  · rw [up3_eq, va_up_self]
    exact bits_step hk hm g3 h2
theorem kid_last {a : Ar} {al : Nat → Bool} {m k : Nat} {V : Nat → Nat → Nat → Int32} {VL VL1 : Nat → Nat → Nat → Int64} (hka : KA V VL a m) (hsx : ∀ c, c < m → a 9 c = 0 ∨ a 9 c = 1) (h : LKI a al m VL (k + 1) VL1) (hk : k < m) : ((VL 1 k 12 ||| VL 1 k 13) &&& VL1 0 1 6) = 0 ↔ ¬ ∃ c, k < c ∧ c < m ∧ lasts a al m c = true ∧ chd a c k := by
  rw [bt6_zero]
  constructor
  · rintro h0 ⟨c, q1, q2, q3, q4⟩
    have z := h0 c
    rw [bt6_and, (h.2.2 c).mpr ⟨q1, q2, q3⟩, Bool.and_true, bt6_or] at z
    rcases hsx c q2 with s | s
    · rw [(hka.2.1 k c hk).mpr ⟨q2, s, q4⟩] at z; cases z
    · rw [(hka.2.2 k c hk).mpr ⟨q2, s, q4⟩, Bool.or_true] at z; cases z
  · intro hn c
    cases hb : bt6 ((VL 1 k 12 ||| VL 1 k 13) &&& VL1 0 1 6) c with
    | false => rfl
    | true =>
      rw [bt6_and, Bool.and_eq_true, bt6_or, Bool.or_eq_true, h.2.2 c] at hb
      obtain ⟨q1, q2, q3, q4⟩ := hb
      exact absurd ⟨c, q2, q3, q4, q1.elim (fun z => ((hka.2.1 k c hk).mp z).2.2) (fun z => ((hka.2.2 k c hk).mp z).2.2)⟩ hn
set_option maxRecDepth 100000 in
set_option maxHeartbeats 4000000 in
theorem c_X1_look (l : Launch) (E : En) (adr : Nat → Nat → Nat) (V : Nat → Nat → Nat → Int32) (VL : Nat → Nat → Nat → Int64) (m ns : Nat) (ch : Nat → List Rt) (a : Ar) (j : Nat) (ord : Int32) (hc : V 0 3 1 = nI m) (h60 : m ≤ 60) (hka : KA V VL a m) (hsx : ∀ c, c < m → a 9 c = 0 ∨ a 9 c = 1) (hj : j < m) : Mt l E yX1_look cX1_look 6 none (rmX 1 21 0 0) [.ref (adr 0 1), .int (nI j), .int ord] (CV E adr V VL m ns ch) (fun _ : Nat → Nat → Nat → Int64 => none) (fun VL1 h => ((∀ t n, ¬ (t = 0 ∧ n = 1) → VL1 t n = VL t n) ∧ LKd VL1 (alx a j) (lasts a (alx a j) m) m) ∧ CV E adr (up3 V 0 1 4 ord) VL1 m ns ch h) := by
  refine Mt_of (by decide +kernel) (Nat.le_of_ble_eq_true rfl) (fun J O => ?_)
  show J _ 0 0 0 [some (.ref (adr 0 1)), some (.int (nI j)), some (.int ord), none, none, none] []
  have loop : ∀ k, k ≤ m → ∀ VL1, LKI a (alx a j) m VL k VL1 → J (CV E adr (up3 V 0 1 4 ord) VL1 m ns ch) 0 0 25 [some (.ref (adr 0 1)), some (.int (nI j)), some (.int ord), some (.int (nI k - 1)), none, none] [] := by
    refine dn_ind (Φ := fun k => k ≤ m → ∀ VL1, LKI a (alx a j) m VL k VL1 → J (CV E adr (up3 V 0 1 4 ord) VL1 m ns ch) 0 0 25 [some (.ref (adr 0 1)), some (.int (nI j)), some (.int ord), some (.int (nI k - 1)), none, none] []) ?_ (fun k ih hk VL1 hI => ?_)
    · intro hk VL1 hI
      refine x_iload_n (pc := 25) O dX1_look_25 rfl ?_
      refine x_if_lt (pc := 26) O 136 dX1_look_26 (by decide) (fun c26 => ?_) (fun c26 => ?_)
      · exact x_ret (v := none) (pc := 136) O dX1_look_136 rfl trivial ⟨Nat.le_refl _, Nat.le_refl _, VL1, rfl, fun h hh => ⟨⟨hI.1, fun c => (hI.2.1 c).trans ⟨fun z => z.2, fun z => ⟨Nat.zero_le _, z⟩⟩, fun c => (hI.2.2 c).trans ⟨fun z => z.2, fun z => ⟨Nat.zero_le _, z⟩⟩⟩, hh⟩⟩
      · exact absurd (by decide) c26
    · rw [show nI (k + 1) - 1 = nI k from nI_pred k]
      have hk3 : k < m := hk
      refine x_iload_n (pc := 25) O dX1_look_25 rfl ?_
      refine x_if_lt (pc := 26) O 136 dX1_look_26 (by decide) (fun c26 => ?_) (fun c26 => ?_)
      · exact absurd c26 (nI_pos (by omega))
      · refine x_aload_n (pc := 29) O dX1_look_29 rfl rfl ?_
        refine cv_get (t := 0) (n := 1) (pc := 30) O dX1_look_30 fdX1_18 rfl rfl rfl ?_
        refine x_iload_n (pc := 33) O dX1_look_33 rfl ?_
        refine x_callV (pc := 34) (rest := []) (ci := 3) O (c_X3_find l E _ _ _ _ _ _ k (by rw [up3_ne _ _ _ (fun z => absurd z.2 (by decide))]; exact hc) h60 hk3) dX1_look_34 cbX1_63 im_yX3_find se_yX3_find rfl (cv_recv (t := 0) (n := 3) rfl rfl) rfl rfl (Nat.le_of_ble_eq_true rfl) ⟨Nat.le_of_ble_eq_true rfl, Nat.le_of_ble_eq_true rfl⟩ ⟨Nat.le_of_ble_eq_true rfl, Nat.le_of_ble_eq_true rfl⟩ (fun _ => ?_)
        dsimp only [Option.toList, List.append, List.nil_append, List.cons_append, Nat.add_zero, Nat.reduceAdd]
        refine x_astore (pc := 37) O dX1_look_37 (by decide) rfl rfl ?_
        refine x_aload (pc := 39) O dX1_look_39 rfl rfl ?_
        refine x_ifnonnull (pc := 41) O 47 dX1_look_41 (by decide) ?_
        refine x_aload (pc := 47) O dX1_look_47 rfl rfl ?_
        refine cv_get (t := 1) (n := k) (pc := 49) O dX1_look_49 fdX1_67 (okC1 (by omega)) rfl rfl ?_
        rw [up3_ne _ _ _ (fun z => absurd z.1 (by decide))]
        refine x_if_eq (pc := 52) O 64 dX1_look_52 (by decide) (fun c52 => ?_) (fun c52 => ?_)
        · refine x_iconst (v := 0) (pc := 64) O dX1_look_64 (by decide) ?_
          have hlv : ¬ alx a j k = true := by
            have e1 : a 20 k = 0 := by rw [(hka.1 k hk3).2.2.2]; exact c52
            simp [alx, alB, e1]
          refine x_istore (pc := 65) O dX1_look_65 (by decide) rfl ?_
          refine x_aload_n (pc := 67) O dX1_look_67 rfl rfl ?_
          refine x_dup (pc := 68) O dX1_look_68 rfl ?_
          refine cv_get (t := 0) (n := 1) (pc := 69) O dX1_look_69 fdX1_51 rfl rfl rfl ?_
          refine x_iload (pc := 72) O dX1_look_72 rfl ?_
          refine x_if_eq (pc := 74) O 83 dX1_look_74 (by decide) (fun c74 => ?_) (fun c74 => ?_)
          · refine x_lconst (v := 0) (pc := 83) O dX1_look_83 rfl ?_
            refine x_lor (pc := 84) O dX1_look_84 ?_
            refine cv_putl (t := 0) (n := 1) (pc := 85) O dX1_look_85 fpX1_51 rfl rfl (Nat.le_of_ble_eq_true rfl) rfl ?_
            refine x_aload_n (pc := 88) O dX1_look_88 rfl rfl ?_
            refine x_dup (pc := 89) O dX1_look_89 rfl ?_
            refine cv_get (t := 0) (n := 1) (pc := 90) O dX1_look_90 fdX1_55 rfl rfl rfl ?_
            rw [up3_eq, va_up_ne _ _ (by decide)]
            refine x_iload (pc := 93) O dX1_look_93 rfl ?_
            refine x_if_ne (pc := 95) O 119 dX1_look_95 (by decide) (fun c95 => ?_) (fun c95 => ?_)
            · exact absurd rfl c95
            · refine x_aload (pc := 98) O dX1_look_98 rfl rfl ?_
              refine cv_get (t := 1) (n := k) (pc := 100) O dX1_look_100 fdX1_73 (okC1 (by omega)) rfl rfl ?_
              rw [up3_ne _ _ _ (fun z => absurd z.1 (by decide)), hI.1 1 k (fun z => absurd z.1 (by decide))]
              refine x_aload (pc := 103) O dX1_look_103 rfl rfl ?_
              refine cv_get (t := 1) (n := k) (pc := 105) O dX1_look_105 fdX1_76 (okC1 (by omega)) rfl rfl ?_
              rw [up3_ne _ _ _ (fun z => absurd z.1 (by decide)), hI.1 1 k (fun z => absurd z.1 (by decide))]
              refine x_lor (pc := 108) O dX1_look_108 ?_
              refine x_aload_n (pc := 109) O dX1_look_109 rfl rfl ?_
              refine cv_get (t := 0) (n := 1) (pc := 110) O dX1_look_110 fdX1_55 rfl rfl rfl ?_
              rw [up3_eq, va_up_ne _ _ (by decide)]
              refine x_land (pc := 113) O dX1_look_113 ?_
              refine x_lconst (v := 0) (pc := 114) O dX1_look_114 rfl ?_
              refine x_lcmp (pc := 115) O dX1_look_115 ?_
              refine x_if_eq (pc := 116) O 125 dX1_look_116 (by decide) (fun c116 => ?_) (fun c116 => ?_)
              · refine x_lconst (v := 0) (pc := 125) O dX1_look_125 rfl ?_
                refine x_lor (pc := 126) O dX1_look_126 ?_
                refine cv_putl (t := 0) (n := 1) (pc := 127) O dX1_look_127 fpX1_55 rfl rfl (Nat.le_of_ble_eq_true rfl) rfl ?_
                refine x_iinc (v := nI k - 1) (pc := 130) O dX1_look_130 rfl (Int32.sub_eq_add_neg (nI k) 1).symm rfl ?_
                refine x_goto (pc := 133) O 25 dX1_look_133 (by decide) ?_
                refine x_lv O [some (.ref (adr 0 1)), some (.int (nI j)), some (.int ord), some (.int (nI k - 1)), none, none] ⟨rfl, rfl, rfl, rfl, trivial⟩ ?_
                exact ih (by omega) _ (LKI_s hI hk3 h60 (Or.inr ⟨hlv, rfl⟩) (Or.inr ⟨fun z => ((lasts_iff a (alx a j) h60 hk3).mp z).elim hlv ((kid_last hka hsx hI hk3).mp (cmpz c116)), rfl⟩))
              · refine x_lconst (v := 1) (pc := 119) O dX1_look_119 rfl ?_
                refine x_iload_n (pc := 120) O dX1_look_120 rfl ?_
                refine x_lshl (pc := 121) O dX1_look_121 ?_
                refine x_goto (pc := 122) O 126 dX1_look_122 (by decide) ?_
                refine x_lor (pc := 126) O dX1_look_126 ?_
                refine cv_putl (t := 0) (n := 1) (pc := 127) O dX1_look_127 fpX1_55 rfl rfl (Nat.le_of_ble_eq_true rfl) rfl ?_
                refine x_iinc (v := nI k - 1) (pc := 130) O dX1_look_130 rfl (Int32.sub_eq_add_neg (nI k) 1).symm rfl ?_
                refine x_goto (pc := 133) O 25 dX1_look_133 (by decide) ?_
                refine x_lv O [some (.ref (adr 0 1)), some (.int (nI j)), some (.int ord), some (.int (nI k - 1)), none, none] ⟨rfl, rfl, rfl, rfl, trivial⟩ ?_
                exact ih (by omega) _ (LKI_s hI hk3 h60 (Or.inr ⟨hlv, rfl⟩) (Or.inl ⟨(lasts_iff a (alx a j) h60 hk3).mpr (Or.inr (Classical.byContradiction fun z => cmpn c116 ((kid_last hka hsx hI hk3).mpr z))), rfl⟩))
          · exact absurd rfl c74
        · refine x_iload_n (pc := 55) O dX1_look_55 rfl ?_
          refine x_iload_n (pc := 56) O dX1_look_56 rfl ?_
          refine x_icmp_eq (pc := 57) O 64 dX1_look_57 (by decide) (fun c57 => ?_) (fun c57 => ?_)
          · refine x_iconst (v := 0) (pc := 64) O dX1_look_64 (by decide) ?_
            have hlv : ¬ alx a j k = true := by
              have e2 : k = j := (nI_eq (by omega) (by omega)).mp c57
              simp [alx, e2]
            refine x_istore (pc := 65) O dX1_look_65 (by decide) rfl ?_
            refine x_aload_n (pc := 67) O dX1_look_67 rfl rfl ?_
            refine x_dup (pc := 68) O dX1_look_68 rfl ?_
            refine cv_get (t := 0) (n := 1) (pc := 69) O dX1_look_69 fdX1_51 rfl rfl rfl ?_
            refine x_iload (pc := 72) O dX1_look_72 rfl ?_
            refine x_if_eq (pc := 74) O 83 dX1_look_74 (by decide) (fun c74 => ?_) (fun c74 => ?_)
            · refine x_lconst (v := 0) (pc := 83) O dX1_look_83 rfl ?_
              refine x_lor (pc := 84) O dX1_look_84 ?_
              refine cv_putl (t := 0) (n := 1) (pc := 85) O dX1_look_85 fpX1_51 rfl rfl (Nat.le_of_ble_eq_true rfl) rfl ?_
              refine x_aload_n (pc := 88) O dX1_look_88 rfl rfl ?_
              refine x_dup (pc := 89) O dX1_look_89 rfl ?_
              refine cv_get (t := 0) (n := 1) (pc := 90) O dX1_look_90 fdX1_55 rfl rfl rfl ?_
              rw [up3_eq, va_up_ne _ _ (by decide)]
              refine x_iload (pc := 93) O dX1_look_93 rfl ?_
              refine x_if_ne (pc := 95) O 119 dX1_look_95 (by decide) (fun c95 => ?_) (fun c95 => ?_)
              · exact absurd rfl c95
              · refine x_aload (pc := 98) O dX1_look_98 rfl rfl ?_
                refine cv_get (t := 1) (n := k) (pc := 100) O dX1_look_100 fdX1_73 (okC1 (by omega)) rfl rfl ?_
                rw [up3_ne _ _ _ (fun z => absurd z.1 (by decide)), hI.1 1 k (fun z => absurd z.1 (by decide))]
                refine x_aload (pc := 103) O dX1_look_103 rfl rfl ?_
                refine cv_get (t := 1) (n := k) (pc := 105) O dX1_look_105 fdX1_76 (okC1 (by omega)) rfl rfl ?_
                rw [up3_ne _ _ _ (fun z => absurd z.1 (by decide)), hI.1 1 k (fun z => absurd z.1 (by decide))]
                refine x_lor (pc := 108) O dX1_look_108 ?_
                refine x_aload_n (pc := 109) O dX1_look_109 rfl rfl ?_
                refine cv_get (t := 0) (n := 1) (pc := 110) O dX1_look_110 fdX1_55 rfl rfl rfl ?_
                rw [up3_eq, va_up_ne _ _ (by decide)]
                refine x_land (pc := 113) O dX1_look_113 ?_
                refine x_lconst (v := 0) (pc := 114) O dX1_look_114 rfl ?_
                refine x_lcmp (pc := 115) O dX1_look_115 ?_
                refine x_if_eq (pc := 116) O 125 dX1_look_116 (by decide) (fun c116 => ?_) (fun c116 => ?_)
                · refine x_lconst (v := 0) (pc := 125) O dX1_look_125 rfl ?_
                  refine x_lor (pc := 126) O dX1_look_126 ?_
                  refine cv_putl (t := 0) (n := 1) (pc := 127) O dX1_look_127 fpX1_55 rfl rfl (Nat.le_of_ble_eq_true rfl) rfl ?_
                  refine x_iinc (v := nI k - 1) (pc := 130) O dX1_look_130 rfl (Int32.sub_eq_add_neg (nI k) 1).symm rfl ?_
                  refine x_goto (pc := 133) O 25 dX1_look_133 (by decide) ?_
                  refine x_lv O [some (.ref (adr 0 1)), some (.int (nI j)), some (.int ord), some (.int (nI k - 1)), none, none] ⟨rfl, rfl, rfl, rfl, trivial⟩ ?_
                  exact ih (by omega) _ (LKI_s hI hk3 h60 (Or.inr ⟨hlv, rfl⟩) (Or.inr ⟨fun z => ((lasts_iff a (alx a j) h60 hk3).mp z).elim hlv ((kid_last hka hsx hI hk3).mp (cmpz c116)), rfl⟩))
                · refine x_lconst (v := 1) (pc := 119) O dX1_look_119 rfl ?_
                  refine x_iload_n (pc := 120) O dX1_look_120 rfl ?_
                  refine x_lshl (pc := 121) O dX1_look_121 ?_
                  refine x_goto (pc := 122) O 126 dX1_look_122 (by decide) ?_
                  refine x_lor (pc := 126) O dX1_look_126 ?_
                  refine cv_putl (t := 0) (n := 1) (pc := 127) O dX1_look_127 fpX1_55 rfl rfl (Nat.le_of_ble_eq_true rfl) rfl ?_
                  refine x_iinc (v := nI k - 1) (pc := 130) O dX1_look_130 rfl (Int32.sub_eq_add_neg (nI k) 1).symm rfl ?_
                  refine x_goto (pc := 133) O 25 dX1_look_133 (by decide) ?_
                  refine x_lv O [some (.ref (adr 0 1)), some (.int (nI j)), some (.int ord), some (.int (nI k - 1)), none, none] ⟨rfl, rfl, rfl, rfl, trivial⟩ ?_
                  exact ih (by omega) _ (LKI_s hI hk3 h60 (Or.inr ⟨hlv, rfl⟩) (Or.inl ⟨(lasts_iff a (alx a j) h60 hk3).mpr (Or.inr (Classical.byContradiction fun z => cmpn c116 ((kid_last hka hsx hI hk3).mpr z))), rfl⟩))
            · exact absurd rfl c74
          · refine x_iconst (v := 1) (pc := 60) O dX1_look_60 (by decide) ?_
            refine x_goto (pc := 61) O 65 dX1_look_61 (by decide) ?_
            have hlv : alx a j k = true := by
              have e1 : ¬ a 20 k = 0 := by rw [(hka.1 k hk3).2.2.2]; exact c52
              have e2 : ¬ k = j := fun z => c57 (by rw [z])
              simp [alx, alB, e1, e2]
            refine x_istore (pc := 65) O dX1_look_65 (by decide) rfl ?_
            refine x_aload_n (pc := 67) O dX1_look_67 rfl rfl ?_
            refine x_dup (pc := 68) O dX1_look_68 rfl ?_
            refine cv_get (t := 0) (n := 1) (pc := 69) O dX1_look_69 fdX1_51 rfl rfl rfl ?_
            refine x_iload (pc := 72) O dX1_look_72 rfl ?_
            refine x_if_eq (pc := 74) O 83 dX1_look_74 (by decide) (fun c74 => ?_) (fun c74 => ?_)
            · exact absurd c74 (by decide)
            · refine x_lconst (v := 1) (pc := 77) O dX1_look_77 rfl ?_
              refine x_iload_n (pc := 78) O dX1_look_78 rfl ?_
              refine x_lshl (pc := 79) O dX1_look_79 ?_
              refine x_goto (pc := 80) O 84 dX1_look_80 (by decide) ?_
              refine x_lor (pc := 84) O dX1_look_84 ?_
              refine cv_putl (t := 0) (n := 1) (pc := 85) O dX1_look_85 fpX1_51 rfl rfl (Nat.le_of_ble_eq_true rfl) rfl ?_
              refine x_aload_n (pc := 88) O dX1_look_88 rfl rfl ?_
              refine x_dup (pc := 89) O dX1_look_89 rfl ?_
              refine cv_get (t := 0) (n := 1) (pc := 90) O dX1_look_90 fdX1_55 rfl rfl rfl ?_
              rw [up3_eq, va_up_ne _ _ (by decide)]
              refine x_iload (pc := 93) O dX1_look_93 rfl ?_
              refine x_if_ne (pc := 95) O 119 dX1_look_95 (by decide) (fun c95 => ?_) (fun c95 => ?_)
              · refine x_lconst (v := 1) (pc := 119) O dX1_look_119 rfl ?_
                refine x_iload_n (pc := 120) O dX1_look_120 rfl ?_
                refine x_lshl (pc := 121) O dX1_look_121 ?_
                refine x_goto (pc := 122) O 126 dX1_look_122 (by decide) ?_
                refine x_lor (pc := 126) O dX1_look_126 ?_
                refine cv_putl (t := 0) (n := 1) (pc := 127) O dX1_look_127 fpX1_55 rfl rfl (Nat.le_of_ble_eq_true rfl) rfl ?_
                refine x_iinc (v := nI k - 1) (pc := 130) O dX1_look_130 rfl (Int32.sub_eq_add_neg (nI k) 1).symm rfl ?_
                refine x_goto (pc := 133) O 25 dX1_look_133 (by decide) ?_
                refine x_lv O [some (.ref (adr 0 1)), some (.int (nI j)), some (.int ord), some (.int (nI k - 1)), none, none] ⟨rfl, rfl, rfl, rfl, trivial⟩ ?_
                exact ih (by omega) _ (LKI_s hI hk3 h60 (Or.inl ⟨hlv, rfl⟩) (Or.inl ⟨(lasts_iff a (alx a j) h60 hk3).mpr (Or.inl hlv), rfl⟩))
              · exact absurd c95 (by decide)
  refine x_aload_n (pc := 0) O dX1_look_0 rfl rfl ?_
  refine x_iload_n (pc := 1) O dX1_look_1 rfl ?_
  refine cv_put (t := 0) (n := 1) (pc := 2) O dX1_look_2 fpX1_48 rfl rfl rfl rfl (Nat.le_of_ble_eq_true rfl) rfl ?_
  refine x_aload_n (pc := 5) O dX1_look_5 rfl rfl ?_
  refine x_lconst (v := 0) (pc := 6) O dX1_look_6 rfl ?_
  refine cv_putl (t := 0) (n := 1) (pc := 7) O dX1_look_7 fpX1_51 rfl rfl (Nat.le_of_ble_eq_true rfl) rfl ?_
  refine x_aload_n (pc := 10) O dX1_look_10 rfl rfl ?_
  refine x_lconst (v := 0) (pc := 11) O dX1_look_11 rfl ?_
  refine cv_putl (t := 0) (n := 1) (pc := 12) O dX1_look_12 fpX1_55 rfl rfl (Nat.le_of_ble_eq_true rfl) rfl ?_
  refine x_aload_n (pc := 15) O dX1_look_15 rfl rfl ?_
  refine cv_get (t := 0) (n := 1) (pc := 16) O dX1_look_16 fdX1_18 rfl rfl rfl ?_
  refine cv_get (t := 0) (n := 3) (pc := 19) O dX1_look_19 fdX1_58 rfl rfl rfl ?_
  rw [up3_ne _ _ _ (fun z => absurd z.2 (by decide)), hc]
  refine x_iconst (v := 1) (pc := 22) O dX1_look_22 (by decide) ?_
  refine x_isub (pc := 23) O dX1_look_23 ?_
  refine x_istore_n (pc := 24) O dX1_look_24 (by decide) rfl ?_
  refine loop m (Nat.le_refl m) _ ⟨fun t n hn => by rw [up3_ne _ _ _ hn, up3_ne _ _ _ hn], fun c => ?_, fun c => ?_⟩
  · rw [up3_eq, va_up_ne _ _ (by decide), up3_eq, va_up_self, bt6_z]
    exact ⟨fun z => absurd z (by decide), fun z => absurd z.1 (by omega)⟩
  · rw [up3_eq, va_up_self, bt6_z]
    exact ⟨fun z => absurd z (by decide), fun z => absurd z.1 (by omega)⟩
def SHI (V : Nat → Nat → Nat → Int32) (fr : Nat) (T : List Nat) (V1 : Nat → Nat → Nat → Int32) : Prop := (∀ t k, ¬ (t = 0 ∧ k = 15) → V1 t k = V t k) ∧ (∀ t, t < T.length → V1 0 15 (fr + t) = nI (T.getD t 0)) ∧ ∀ s, s < fr ∨ fr + T.length ≤ s → V1 0 15 s = V 0 15 s
theorem SHI_0 (V : Nat → Nat → Nat → Int32) (fr : Nat) : SHI V fr [] V := ⟨fun _ _ _ => rfl, fun t h => absurd h (by simp), fun _ _ => rfl⟩
theorem SHI_app {V V1 V2 : Nat → Nat → Nat → Int32} {fr : Nat} {T1 T2 : List Nat} (h1 : SHI V fr T1 V1) (h2 : SHI V1 (fr + T1.length) T2 V2) : SHI V fr (T1 ++ T2) V2 := by
  obtain ⟨a1, a2, a3⟩ := h1
  obtain ⟨b1, b2, b3⟩ := h2
  refine ⟨fun t k h => by rw [b1 t k h, a1 t k h], fun t ht => ?_, fun s hs => ?_⟩
  · rw [List.length_append] at ht
    rcases Nat.lt_or_ge t T1.length with h | h
    · rw [b3 _ (Or.inl (by omega)), a2 t h]
      simp only [List.getD]
      rw [List.getElem?_append_left h]
    · have := b2 (t - T1.length) (by omega)
      rw [show fr + T1.length + (t - T1.length) = fr + t by omega] at this
      rw [this]
      simp only [List.getD]
      rw [List.getElem?_append_right h]
  · rw [List.length_append] at hs
    rw [b3 s (by omega), a3 s (by omega)]
theorem SHI_one (V : Nat → Nat → Nat → Int32) (fr q : Nat) : SHI V fr [q] (up3 V 0 15 fr (nI q)) := by
  refine ⟨fun t k h => up3_ne _ _ _ h, fun t ht => ?_, fun s hs => ?_⟩
  · have : t = 0 := by simpa using ht
    subst this
    rw [Nat.add_zero, up3_eq, va_up_self]; rfl
  · rw [up3_eq, va_up_ne _ _ (by simp at hs; omega)]
set_option maxRecDepth 100000 in
set_option maxHeartbeats 4000000 in
theorem c_X1_give (l : Launch) (E : En) (adr : Nat → Nat → Nat) (V : Nat → Nat → Nat → Int32) (VL : Nat → Nat → Nat → Int64) (m ns : Nat) (ch : Nat → List Rt) (q fr n : Nat) (hfn : fr + n ≤ 12) : Mt l E yX1_give cX1_give 5 none (rmX 1 24 0 0) [.ref (adr 0 1), .int (nI q), .int (nI fr), .int (nI n)] (CV E adr V VL m ns ch) (fun _ : Nat → Nat → Nat → Int32 => none) (fun V1 h => SHI V fr (List.replicate n q) V1 ∧ CV E adr V1 VL m ns ch h) := by
  refine Mt_of (by decide +kernel) (Nat.le_of_ble_eq_true rfl) (fun J O => ?_)
  show J _ 0 0 0 [some (.ref (adr 0 1)), some (.int (nI q)), some (.int (nI fr)), some (.int (nI n)), none] []
  have loop : ∀ k, k ≤ n → ∀ V1, SHI V fr (List.replicate k q) V1 → J (CV E adr V1 VL m ns ch) 0 0 7 [some (.ref (adr 0 1)), some (.int (nI q)), some (.int (nI fr)), some (.int (nI n)), some (.int (nI (fr + k)))] [] := by
    refine up_ind (Φ := fun k => ∀ V1, SHI V fr (List.replicate k q) V1 → J (CV E adr V1 VL m ns ch) 0 0 7 [some (.ref (adr 0 1)), some (.int (nI q)), some (.int (nI fr)), some (.int (nI n)), some (.int (nI (fr + k)))] []) n (fun k hk ih V1 hI => ?_)
    refine x_iload (pc := 7) O dX1_give_7 rfl ?_
    refine x_iload_n (pc := 9) O dX1_give_9 rfl ?_
    refine x_iload_n (pc := 10) O dX1_give_10 rfl ?_
    refine x_iadd (pc := 11) O dX1_give_11 ?_
    rw [nI_add]
    refine x_icmp_ge (pc := 12) O 39 dX1_give_12 (by decide) (fun c12 => ?_) (fun c12 => ?_)
    · have hk3 : k = n := by
        rw [nI_leI (by omega) (by omega)] at c12
        omega
      subst hk3
      exact x_ret (v := none) (pc := 39) O dX1_give_39 rfl trivial ⟨Nat.le_refl _, Nat.le_refl _, V1, rfl, fun h hh => ⟨hI, hh⟩⟩
    · have hk3 : k < n := by
        rw [nI_leI (by omega) (by omega)] at c12
        omega
      refine x_iload (pc := 15) O dX1_give_15 rfl ?_
      refine x_aload_n (pc := 17) O dX1_give_17 rfl rfl ?_
      refine cv_get (t := 0) (n := 1) (pc := 18) O dX1_give_18 fdX1_15 rfl rfl rfl ?_
      refine cv_alen (n := 15) (pc := 21) O dX1_give_21 (by decide) ?_
      refine x_icmp_ge (pc := 22) O 39 dX1_give_22 (by decide) (fun c22 => ?_) (fun c22 => ?_)
      · exact absurd c22 (by
          show ¬ nI 12 ≤ _
          rw [nI_leI (by omega) (by omega)]
          omega)
      · refine x_aload_n (pc := 25) O dX1_give_25 rfl rfl ?_
        refine cv_get (t := 0) (n := 1) (pc := 26) O dX1_give_26 fdX1_15 rfl rfl rfl ?_
        refine x_iload (pc := 29) O dX1_give_29 rfl ?_
        refine x_iload_n (pc := 31) O dX1_give_31 rfl ?_
        refine cv_ast (n := 15) (pc := 32) O dX1_give_32 (by decide) rfl (by show _ < 12; omega) (by omega) ?_
        refine x_iinc (v := nI (fr + k + 1)) (pc := 33) O dX1_give_33 rfl (nI_succ (fr + k)).symm rfl ?_
        refine x_goto (pc := 36) O 7 dX1_give_36 (by decide) ?_
        exact ih (by omega) _ (by rw [List.replicate_succ']; exact SHI_app hI (by rw [List.length_replicate]; exact SHI_one _ _ _))
  refine x_iload_n (pc := 0) O dX1_give_0 rfl ?_
  refine x_iconst (v := 0) (pc := 1) O dX1_give_1 (by decide) ?_
  refine x_max (pc := 2) O dX1_give_2 mx_X1_108 (Nat.le_of_ble_eq_true rfl) (Nat.le_of_ble_eq_true rfl) (Nat.le_of_ble_eq_true rfl) (Nat.le_of_ble_eq_true rfl) ?_
  rw [show (if nI fr < 0 then (0 : Int32) else nI fr) = nI fr from if_neg (nI_pos (by omega))]
  refine x_istore (pc := 5) O dX1_give_5 (by decide) rfl ?_
  exact loop 0 (Nat.zero_le _) V (SHI_0 _ _)
set_option maxRecDepth 100000 in
set_option maxHeartbeats 4000000 in
theorem c_X1_takerOf (l : Launch) (E : En) (adr : Nat → Nat → Nat) (V : Nat → Nat → Nat → Int32) (VL : Nat → Nat → Nat → Int64) (m ns : Nat) (ch : Nat → List Rt) (t : Nat) (ht : t < 12) : Mt l E yX1_takerOf cX1_takerOf 2 (some .int) (rmX 0 0 0 0) [.ref (adr 0 1), .int (nI t)] (CV E adr V VL m ns ch) (fun _ : Unit => some (.int (V 0 15 t))) (fun _ => CV E adr V VL m ns ch) := by
  refine Mt_of (by decide +kernel) (Nat.le_of_ble_eq_true rfl) (fun J O => ?_)
  show J _ 0 0 0 [some (.ref (adr 0 1)), some (.int (nI t))] []
  refine x_iload_n (pc := 0) O dX1_takerOf_0 rfl ?_
  refine x_if_lt (pc := 1) O 22 dX1_takerOf_1 (by decide) (fun c1 => ?_) (fun c1 => ?_)
  · exact absurd c1 (nI_pos (by omega))
  · refine x_iload_n (pc := 4) O dX1_takerOf_4 rfl ?_
    refine x_aload_n (pc := 5) O dX1_takerOf_5 rfl rfl ?_
    refine cv_get (t := 0) (n := 1) (pc := 6) O dX1_takerOf_6 fdX1_15 rfl rfl rfl ?_
    refine cv_alen (n := 15) (pc := 9) O dX1_takerOf_9 (by decide) ?_
    refine x_icmp_ge (pc := 10) O 22 dX1_takerOf_10 (by decide) (fun c10 => ?_) (fun c10 => ?_)
    · exact absurd c10 (by
        show ¬ nI 12 ≤ _
        rw [nI_leI (by omega) (by omega)]
        omega)
    · refine x_aload_n (pc := 13) O dX1_takerOf_13 rfl rfl ?_
      refine cv_get (t := 0) (n := 1) (pc := 14) O dX1_takerOf_14 fdX1_15 rfl rfl rfl ?_
      refine x_iload_n (pc := 17) O dX1_takerOf_17 rfl ?_
      refine cv_ald (n := 15) (pc := 18) O dX1_takerOf_18 (by decide) rfl (by show _ < 12; omega) (by omega) ?_
      refine x_goto (pc := 19) O 23 dX1_takerOf_19 (by decide) ?_
      exact x_ret (v := some (.int _)) (pc := 23) O dX1_takerOf_23 rfl (rfl) ⟨Nat.le_refl _, Nat.le_refl _, (), rfl, fun h hh => hh⟩
