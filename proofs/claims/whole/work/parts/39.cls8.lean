/-! ===== CLS 8: listLine, shareLine, list, share ===== -/
theorem KA_fr {V V1 : Nat → Nat → Nat → Int32} {VL VL1 : Nat → Nat → Nat → Int64} {a : Ar} {m : Nat} (h : KA V VL a m) (h1 : ∀ p, V1 1 p = V 1 p) (h2 : ∀ p, VL1 1 p = VL 1 p) : KA V1 VL1 a m := by
  unfold KA
  simp only [h1, h2]
  exact h
theorem flt_split {B : Nat → Bool} {p m : Nat} (h : p ≤ m) : ∃ r, (List.range m).filter B = (List.range p).filter B ++ r := by
  obtain ⟨t, rfl⟩ : ∃ t, m = p + t := ⟨m - p, by omega⟩
  rw [List.range_add, List.filter_append]
  exact ⟨_, rfl⟩
theorem flt_t {B : Nat → Bool} {p : Nat} (h : B p = true) : (List.range (p + 1)).filter B = (List.range p).filter B ++ [p] := by simp [List.range_succ, List.filter_append, h]
theorem flt_f {B : Nat → Bool} {p : Nat} (h : ¬ B p = true) : (List.range (p + 1)).filter B = (List.range p).filter B := by simp [List.range_succ, List.filter_append, h]
theorem flt_at {B : Nat → Bool} {p m : Nat} (hp : p < m) (h : B p = true) : ((List.range m).filter B).getD ((List.range p).filter B).length 0 = p ∧ ((List.range p).filter B).length < ((List.range m).filter B).length := by
  obtain ⟨r, hr⟩ := flt_split (B := B) (show p + 1 ≤ m from hp)
  rw [hr, flt_t h]
  refine ⟨?_, by simp⟩
  simp [List.getD]
theorem LNs_cnt {m : Nat} {x : Int64} {g : List Nat} (hm : m ≤ 60) (h : LNs m x g) : cnt6 x = g.length := by
  obtain ⟨rfl, h2⟩ := h
  unfold cnt6
  obtain ⟨t, ht⟩ : ∃ t, 64 = m + t := ⟨64 - m, by omega⟩
  rw [ht, List.range_add, List.filter_append, List.length_append]
  have : ((List.range t).map (m + ·)).filter (bt6 x) = [] := by
    rw [List.filter_eq_nil_iff]
    intro c hc
    simp only [List.mem_map, List.mem_range] at hc
    obtain ⟨u, hu, rfl⟩ := hc
    rw [h2 _ (by omega)]; decide
  rw [this]; simp
theorem heirsF_app {a : Ar} {al ln : Nat → Bool} {m : Nat} {ord : Int32} (f : Nat) (g1 g2 : List Nat) : heirsF a al ln m ord f (g1 ++ g2) = heirsF a al ln m ord f g1 ++ heirsF a al ln m ord f g2 := by
  cases f with
  | zero => rfl
  | succ f => simp only [heirsF]; rw [List.flatMap_append]
theorem heirsF_one {a : Ar} {al ln : Nat → Bool} {m : Nat} {ord : Int32} (f p : Nat) : heirsF a al ln m ord (f + 1) [p] = if al p = true then [p] else heirsF a al ln m ord f (grp a ln m ord p (-1)) := by
  simp only [heirsF, List.flatMap_cons, List.flatMap_nil, List.append_nil]
def LHI (V0 : Nat → Nat → Nat → Int32) (H : List Nat) (V1 : Nat → Nat → Nat → Int32) : Prop := (∀ t k, ¬ (t = 0 ∧ (k = 1 ∨ k = 14)) → V1 t k = V0 t k) ∧ V1 0 1 4 = V0 0 1 4 ∧ V1 0 1 1 = nI (min 40 H.length) ∧ ∀ t, t < min 40 H.length → V1 0 14 t = nI (H.getD t 0)
theorem LHI_more {V0 V1 : Nat → Nat → Nat → Int32} {H : List Nat} (h : LHI V0 H V1) (hl : 40 ≤ H.length) (R : List Nat) : LHI V0 (H ++ R) V1 := by
  obtain ⟨h1, h2, h3, h4⟩ := h
  have e : min 40 (H ++ R).length = min 40 H.length := by rw [List.length_append]; omega
  refine ⟨h1, h2, by rw [e]; exact h3, fun t ht => ?_⟩
  rw [e] at ht
  rw [h4 t ht]
  simp only [List.getD]
  rw [List.getElem?_append_left (by omega)]
theorem LHI_push {V0 V1 : Nat → Nat → Nat → Int32} {H : List Nat} (h : LHI V0 H V1) (hl : H.length < 40) (p : Nat) : LHI V0 (H ++ [p]) (up3 (up3 V1 0 14 H.length (nI p)) 0 1 1 (nI H.length + 1)) := by
  obtain ⟨h1, h2, h3, h4⟩ := h
  have e : min 40 (H ++ [p]).length = H.length + 1 := by simp; omega
  refine ⟨fun t k hk => ?_, ?_, ?_, fun t ht => ?_⟩
  · rw [up3_ne _ _ _ (fun z => hk ⟨z.1, Or.inl z.2⟩), up3_ne _ _ _ (fun z => hk ⟨z.1, Or.inr z.2⟩)]; exact h1 t k hk
  · rw [up3_eq, va_up_ne _ _ (by decide), up3_ne _ _ _ (fun z => absurd z.2 (by decide))]; exact h2
  · rw [up3_eq, va_up_self, e]; exact (nI_succ _).symm
  · rw [e] at ht
    rw [up3_ne _ _ _ (fun z => absurd z.2 (by decide)), up3_eq]
    by_cases c : t = H.length
    · subst c; rw [va_up_self]; simp [List.getD]
    · rw [va_up_ne _ _ c, h4 t (by omega)]
      simp only [List.getD]
      rw [List.getElem?_append_left (by omega)]
def StLL (l : Launch) (E : En) (f : Nat) : Prop := ∀ (adr : Nat → Nat → Nat) (V0 V : Nat → Nat → Nat → Int32) (VL : Nat → Nat → Nat → Int64) (m ns : Nat) (ch : Nat → List Rt) (a : Ar) (al ln : Nat → Bool) (H : List Nat) (x : Int64) (g : List Nat), V0 0 3 1 = nI m → m ≤ 60 → KA V0 VL a m → LKd VL al ln m → (V0 0 1 4 = 0 ∨ V0 0 1 4 = 1 ∨ V0 0 1 4 = 2) → LHI V0 H V → LNs m x g → (∀ q ∈ g, 60 ≤ q + f) → f ≤ 60 → kinOk a m →
  Mt l E yX1_listLine cX1_listLine 5 none (rmX (2 + f) (49 + 24 * f) 0 0) [.ref (adr 0 1), .long x, .int (nI (60 - f))] (CV E adr V VL m ns ch) (fun _ : Nat → Nat → Nat → Int32 => none) (fun V2 h => LHI V0 (H ++ heirsF a al ln m (V0 0 1 4) f g) V2 ∧ CV E adr V2 VL m ns ch h)
set_option maxRecDepth 100000 in
set_option maxHeartbeats 4000000 in
theorem c_X1_listLine (l : Launch) (E : En) : ∀ f, StLL l E f := by
  intro f
  induction f with
  | zero =>
    intro adr V0 V VL m ns ch a al ln H x g hc h60 hka hlk hord hLH hg hq60 hf60 hkin
    refine Mt_of (by decide +kernel) (Nat.le_of_ble_eq_true rfl) (fun J O => ?_)
    show J _ 0 0 0 [some (.ref (adr 0 1)), some (.long x), none, some (.int (nI (60 - 0))), none] []
    have loop : ∀ p, p ≤ m → ∀ V1, LHI V0 (H ++ heirsF a al ln m (V0 0 1 4) 0 ((List.range p).filter (bt6 x))) V1 → J (CV E adr V1 VL m ns ch) 0 0 10 [some (.ref (adr 0 1)), some (.long x), none, some (.int (nI (60 - 0))), some (.int (nI p))] [] := by
      refine up_ind (Φ := fun p => ∀ V1, LHI V0 (H ++ heirsF a al ln m (V0 0 1 4) 0 ((List.range p).filter (bt6 x))) V1 → J (CV E adr V1 VL m ns ch) 0 0 10 [some (.ref (adr 0 1)), some (.long x), none, some (.int (nI (60 - 0))), some (.int (nI p))] []) m (fun p hp ih V1 hI => ?_)
      have hcV1 : V1 0 3 1 = nI m := by rw [hI.1 0 3 (fun z => absurd z.2 (by decide))]; exact hc
      have hlst0 : V1 0 1 1 = nI (min 40 (H ++ heirsF a al ln m (V0 0 1 4) 0 ((List.range p).filter (bt6 x))).length) := hI.2.2.1
      refine x_iload (pc := 10) O dX1_listLine_10 rfl ?_
      refine x_aload_n (pc := 12) O dX1_listLine_12 rfl rfl ?_
      refine cv_get (t := 0) (n := 1) (pc := 13) O dX1_listLine_13 fdX1_18 rfl rfl rfl ?_
      refine cv_get (t := 0) (n := 3) (pc := 16) O dX1_listLine_16 fdX1_58 rfl rfl rfl ?_
      rw [hcV1]
      refine x_icmp_ge (pc := 19) O 102 dX1_listLine_19 (by decide) (fun c19 => ?_) (fun c19 => ?_)
      · have hpm : p = m := by
          rw [nI_leI (by omega) (by omega)] at c19
          omega
        subst hpm
        exact x_ret (v := none) (pc := 102) O dX1_listLine_102 rfl trivial ⟨Nat.le_refl _, Nat.le_refl _, V1, rfl, fun h hh => ⟨by rw [hg.1]; exact hI, hh⟩⟩
      · have hp3 : p < m := by
          rw [nI_leI (by omega) (by omega)] at c19
          omega
        refine x_aload_n (pc := 22) O dX1_listLine_22 rfl rfl ?_
        refine cv_get (t := 0) (n := 1) (pc := 23) O dX1_listLine_23 fdX1_26 rfl rfl rfl ?_
        refine x_aload_n (pc := 26) O dX1_listLine_26 rfl rfl ?_
        refine cv_get (t := 0) (n := 1) (pc := 27) O dX1_listLine_27 fdX1_9 rfl rfl rfl ?_
        refine cv_alen (n := 14) (pc := 30) O dX1_listLine_30 (by decide) ?_
        rw [show arrN 14 = 40 from rfl]
        refine x_icmp_ge (pc := 31) O 102 dX1_listLine_31 (by decide) (fun c31 => ?_) (fun c31 => ?_)
        · have hl4 : 40 ≤ (H ++ heirsF a al ln m (V0 0 1 4) 0 ((List.range p).filter (bt6 x))).length := by
            rw [hlst0, nI_leI (by omega) (by omega)] at c31
            omega
          obtain ⟨r, hr⟩ := flt_split (B := bt6 x) hp
          exact x_ret (v := none) (pc := 102) O dX1_listLine_102 rfl trivial ⟨Nat.le_refl _, Nat.le_refl _, V1, rfl, fun h hh => ⟨by rw [hg.1, hr, heirsF_app, ← List.append_assoc]; exact LHI_more hI hl4 _, hh⟩⟩
        · have hl40 : (H ++ heirsF a al ln m (V0 0 1 4) 0 ((List.range p).filter (bt6 x))).length < 40 := by
            rw [hlst0, show nI 40 = nI 40 from rfl, nI_leI (by omega) (by omega)] at c31
            omega
          have hlst : V1 0 1 1 = nI (H ++ heirsF a al ln m (V0 0 1 4) 0 ((List.range p).filter (bt6 x))).length := by rw [hlst0]; congr 1; omega
          refine x_lload_n (pc := 34) O dX1_listLine_34 rfl ?_
          refine x_iload (pc := 35) O dX1_listLine_35 rfl ?_
          refine x_callS (pc := 37) (rest := []) O (c_X1_isIn l E _ x p (by omega)) dX1_listLine_37 cbX1_94 sm_yX1_isIn rfl rfl (Nat.le_of_ble_eq_true rfl) ⟨by simp only [rmX]; omega, by simp only [rmX]; omega⟩ ⟨Nat.le_of_ble_eq_true rfl, Nat.le_of_ble_eq_true rfl⟩ (fun _ => ?_)
          dsimp only [Option.toList, List.append, List.nil_append, List.cons_append, Nat.add_zero, Nat.reduceAdd]
          refine x_if_ne (pc := 40) O 46 dX1_listLine_40 (by decide) (fun c40 => ?_) (fun c40 => ?_)
          · have hpg := (LNs_mem hg).mpr ⟨hp3, b2i_n0 c40⟩
            have := hq60 p hpg
            omega
          · refine x_goto (pc := 43) O 96 dX1_listLine_43 (by decide) ?_
            refine x_iinc (v := nI (p + 1)) (pc := 96) O dX1_listLine_96 rfl (nI_succ p).symm rfl ?_
            refine x_goto (pc := 99) O 10 dX1_listLine_99 (by decide) ?_
            exact ih (by omega) V1 (by rw [flt_f (b2i_z c40)]; exact hI)
    refine x_iload_n (pc := 0) O dX1_listLine_0 rfl ?_
    refine x_bipush (v := 60) (pc := 1) O dX1_listLine_1 (by decide) ?_
    refine x_icmp_le (pc := 3) O 7 dX1_listLine_3 (by decide) (fun c3 => ?_) (fun c3 => ?_)
    · refine x_iconst (v := nI 0) (pc := 7) O dX1_listLine_7 (by decide) ?_
      refine x_istore (pc := 8) O dX1_listLine_8 (by decide) rfl ?_
      exact loop 0 (Nat.zero_le _) V (by rw [show (List.range 0).filter (bt6 x) = [] from rfl, show heirsF a al ln m (V0 0 1 4) 0 [] = [] from rfl, List.append_nil]; exact hLH)
    · exact absurd (show nI (60 - 0) ≤ nI 60 from by rw [nI_leI (by omega) (by omega)]; omega) c3
  | succ f ihf =>
    intro adr V0 V VL m ns ch a al ln H x g hc h60 hka hlk hord hLH hg hq60 hf60 hkin
    refine Mt_of (by decide +kernel) (Nat.le_of_ble_eq_true rfl) (fun J O => ?_)
    show J _ 0 0 0 [some (.ref (adr 0 1)), some (.long x), none, some (.int (nI (60 - (f + 1)))), none] []
    have loop : ∀ p, p ≤ m → ∀ V1, LHI V0 (H ++ heirsF a al ln m (V0 0 1 4) (f + 1) ((List.range p).filter (bt6 x))) V1 → J (CV E adr V1 VL m ns ch) 0 0 10 [some (.ref (adr 0 1)), some (.long x), none, some (.int (nI (60 - (f + 1)))), some (.int (nI p))] [] := by
      refine up_ind (Φ := fun p => ∀ V1, LHI V0 (H ++ heirsF a al ln m (V0 0 1 4) (f + 1) ((List.range p).filter (bt6 x))) V1 → J (CV E adr V1 VL m ns ch) 0 0 10 [some (.ref (adr 0 1)), some (.long x), none, some (.int (nI (60 - (f + 1)))), some (.int (nI p))] []) m (fun p hp ih V1 hI => ?_)
      have hcV1 : V1 0 3 1 = nI m := by rw [hI.1 0 3 (fun z => absurd z.2 (by decide))]; exact hc
      have hlst0 : V1 0 1 1 = nI (min 40 (H ++ heirsF a al ln m (V0 0 1 4) (f + 1) ((List.range p).filter (bt6 x))).length) := hI.2.2.1
      refine x_iload (pc := 10) O dX1_listLine_10 rfl ?_
      refine x_aload_n (pc := 12) O dX1_listLine_12 rfl rfl ?_
      refine cv_get (t := 0) (n := 1) (pc := 13) O dX1_listLine_13 fdX1_18 rfl rfl rfl ?_
      refine cv_get (t := 0) (n := 3) (pc := 16) O dX1_listLine_16 fdX1_58 rfl rfl rfl ?_
      rw [hcV1]
      refine x_icmp_ge (pc := 19) O 102 dX1_listLine_19 (by decide) (fun c19 => ?_) (fun c19 => ?_)
      · have hpm : p = m := by
          rw [nI_leI (by omega) (by omega)] at c19
          omega
        subst hpm
        exact x_ret (v := none) (pc := 102) O dX1_listLine_102 rfl trivial ⟨Nat.le_refl _, Nat.le_refl _, V1, rfl, fun h hh => ⟨by rw [hg.1]; exact hI, hh⟩⟩
      · have hp3 : p < m := by
          rw [nI_leI (by omega) (by omega)] at c19
          omega
        refine x_aload_n (pc := 22) O dX1_listLine_22 rfl rfl ?_
        refine cv_get (t := 0) (n := 1) (pc := 23) O dX1_listLine_23 fdX1_26 rfl rfl rfl ?_
        refine x_aload_n (pc := 26) O dX1_listLine_26 rfl rfl ?_
        refine cv_get (t := 0) (n := 1) (pc := 27) O dX1_listLine_27 fdX1_9 rfl rfl rfl ?_
        refine cv_alen (n := 14) (pc := 30) O dX1_listLine_30 (by decide) ?_
        rw [show arrN 14 = 40 from rfl]
        refine x_icmp_ge (pc := 31) O 102 dX1_listLine_31 (by decide) (fun c31 => ?_) (fun c31 => ?_)
        · have hl4 : 40 ≤ (H ++ heirsF a al ln m (V0 0 1 4) (f + 1) ((List.range p).filter (bt6 x))).length := by
            rw [hlst0, nI_leI (by omega) (by omega)] at c31
            omega
          obtain ⟨r, hr⟩ := flt_split (B := bt6 x) hp
          exact x_ret (v := none) (pc := 102) O dX1_listLine_102 rfl trivial ⟨Nat.le_refl _, Nat.le_refl _, V1, rfl, fun h hh => ⟨by rw [hg.1, hr, heirsF_app, ← List.append_assoc]; exact LHI_more hI hl4 _, hh⟩⟩
        · have hl40 : (H ++ heirsF a al ln m (V0 0 1 4) (f + 1) ((List.range p).filter (bt6 x))).length < 40 := by
            rw [hlst0, show nI 40 = nI 40 from rfl, nI_leI (by omega) (by omega)] at c31
            omega
          have hlst : V1 0 1 1 = nI (H ++ heirsF a al ln m (V0 0 1 4) (f + 1) ((List.range p).filter (bt6 x))).length := by rw [hlst0]; congr 1; omega
          refine x_lload_n (pc := 34) O dX1_listLine_34 rfl ?_
          refine x_iload (pc := 35) O dX1_listLine_35 rfl ?_
          refine x_callS (pc := 37) (rest := []) O (c_X1_isIn l E _ x p (by omega)) dX1_listLine_37 cbX1_94 sm_yX1_isIn rfl rfl (Nat.le_of_ble_eq_true rfl) ⟨by simp only [rmX]; omega, by simp only [rmX]; omega⟩ ⟨Nat.le_of_ble_eq_true rfl, Nat.le_of_ble_eq_true rfl⟩ (fun _ => ?_)
          dsimp only [Option.toList, List.append, List.nil_append, List.cons_append, Nat.add_zero, Nat.reduceAdd]
          refine x_if_ne (pc := 40) O 46 dX1_listLine_40 (by decide) (fun c40 => ?_) (fun c40 => ?_)
          · have hpg := (LNs_mem hg).mpr ⟨hp3, b2i_n0 c40⟩
            have hqp := hq60 p hpg
            refine x_aload_n (pc := 46) O dX1_listLine_46 rfl rfl ?_
            refine cv_get (t := 0) (n := 1) (pc := 47) O dX1_listLine_47 fdX1_51 rfl rfl rfl ?_
            refine x_iload (pc := 50) O dX1_listLine_50 rfl ?_
            refine x_callS (pc := 52) (rest := []) O (c_X1_isIn l E _ _ p (by omega)) dX1_listLine_52 cbX1_94 sm_yX1_isIn rfl rfl (Nat.le_of_ble_eq_true rfl) ⟨by simp only [rmX]; omega, by simp only [rmX]; omega⟩ ⟨Nat.le_of_ble_eq_true rfl, Nat.le_of_ble_eq_true rfl⟩ (fun _ => ?_)
            dsimp only [Option.toList, List.append, List.nil_append, List.cons_append, Nat.add_zero, Nat.reduceAdd]
            refine x_if_eq (pc := 55) O 82 dX1_listLine_55 (by decide) (fun c55 => ?_) (fun c55 => ?_)
            · have hal : ¬ al p = true := fun z => b2i_z c55 ((hlk.1 p).mpr ⟨hp3, z⟩)
              refine x_aload_n (pc := 82) O dX1_listLine_82 rfl rfl ?_
              refine x_aload_n (pc := 83) O dX1_listLine_83 rfl rfl ?_
              refine x_iload (pc := 84) O dX1_listLine_84 rfl ?_
              refine x_lconst (v := 0) (pc := 86) O dX1_listLine_86 rfl ?_
              refine x_callV (pc := 87) (rest := [.ref (adr 0 1)]) (ci := 1) O (c_X1_lineBelow l E _ V1 _ _ _ _ a al ln p (-1) 0 hcV1 h60 (KA_fr hka (fun t => hI.1 1 t (fun z => absurd z.1 (by decide))) (fun _ => rfl)) hlk (by rw [hI.2.1]; exact hord) hp3 (hb_none h60)) dX1_listLine_87 cbX1_79 im_yX1_lineBelow se_yX1_lineBelow rfl (cv_recv (t := 0) (n := 1) rfl rfl) rfl rfl (Nat.le_of_ble_eq_true rfl) ⟨by simp only [rmX]; omega, by simp only [rmX]; omega⟩ ⟨Nat.le_of_ble_eq_true rfl, Nat.le_of_ble_eq_true rfl⟩ (fun y => x_pure O (fun hy => ?_))
              dsimp only [Option.toList, List.append, List.nil_append, List.cons_append, Nat.add_zero, Nat.reduceAdd]
              refine x_iload_n (pc := 90) O dX1_listLine_90 rfl ?_
              refine x_iconst (v := 1) (pc := 91) O dX1_listLine_91 (by decide) ?_
              refine x_iadd (pc := 92) O dX1_listLine_92 ?_
              rw [hI.2.1] at hy
              rw [show nI (60 - (f + 1)) + 1 = nI (60 - f) from by rw [← nI_succ]; congr 1; omega]
              refine x_callV (pc := 93) (rest := []) (ci := 1) O (ihf adr V0 V1 VL m ns ch a al ln (H ++ heirsF a al ln m (V0 0 1 4) (f + 1) ((List.range p).filter (bt6 x))) y (grp a ln m (V0 0 1 4) p (-1)) hc h60 hka hlk hord hI hy ?_ (by omega) hkin) dX1_listLine_93 cbX1_34 im_yX1_listLine se_yX1_listLine rfl (cv_recv (t := 0) (n := 1) rfl rfl) rfl rfl (Nat.le_of_ble_eq_true rfl) ⟨by simp only [rmX]; omega, by simp only [rmX]; omega⟩ ⟨Nat.le_of_ble_eq_true rfl, Nat.le_of_ble_eq_true rfl⟩ (fun V2 => x_pure O (fun hV2 => ?_))
              · intro q hq
                obtain ⟨q1, q2, q3, -⟩ := grp_sub hq
                have := hkin q p q1 hp3 q3
                omega
              dsimp only [Option.toList, List.append, List.nil_append, List.cons_append, Nat.add_zero, Nat.reduceAdd]
              refine x_iinc (v := nI (p + 1)) (pc := 96) O dX1_listLine_96 rfl (nI_succ p).symm rfl ?_
              refine x_goto (pc := 99) O 10 dX1_listLine_99 (by decide) ?_
              exact ih (by omega) V2 (by rw [flt_t (b2i_n0 c40), heirsF_app, ← List.append_assoc, heirsF_one, if_neg hal]; exact hV2)
            · have hal : al p = true := ((hlk.1 p).mp (b2i_n0 c55)).2
              refine x_aload_n (pc := 58) O dX1_listLine_58 rfl rfl ?_
              refine cv_get (t := 0) (n := 1) (pc := 59) O dX1_listLine_59 fdX1_9 rfl rfl rfl ?_
              refine x_aload_n (pc := 62) O dX1_listLine_62 rfl rfl ?_
              refine cv_get (t := 0) (n := 1) (pc := 63) O dX1_listLine_63 fdX1_26 rfl rfl rfl ?_
              rw [hlst]
              refine x_iload (pc := 66) O dX1_listLine_66 rfl ?_
              refine cv_ast (n := 14) (pc := 68) O dX1_listLine_68 (by decide) rfl (by show _ < 40; omega) (by omega) ?_
              refine x_aload_n (pc := 69) O dX1_listLine_69 rfl rfl ?_
              refine x_dup (pc := 70) O dX1_listLine_70 rfl ?_
              refine cv_get (t := 0) (n := 1) (pc := 71) O dX1_listLine_71 fdX1_26 rfl rfl rfl ?_
              rw [up3_ne _ _ _ (fun z => absurd z.2 (by decide)), hlst]
              refine x_iconst (v := 1) (pc := 74) O dX1_listLine_74 (by decide) ?_
              refine x_iadd (pc := 75) O dX1_listLine_75 ?_
              refine cv_put (t := 0) (n := 1) (pc := 76) O dX1_listLine_76 fpX1_26 rfl rfl rfl rfl (Nat.le_of_ble_eq_true rfl) rfl ?_
              refine x_goto (pc := 79) O 96 dX1_listLine_79 (by decide) ?_
              refine x_iinc (v := nI (p + 1)) (pc := 96) O dX1_listLine_96 rfl (nI_succ p).symm rfl ?_
              refine x_goto (pc := 99) O 10 dX1_listLine_99 (by decide) ?_
              exact ih (by omega) _ (by rw [flt_t (b2i_n0 c40), heirsF_app, ← List.append_assoc, heirsF_one, if_pos hal]; exact LHI_push hI hl40 p)
          · refine x_goto (pc := 43) O 96 dX1_listLine_43 (by decide) ?_
            refine x_iinc (v := nI (p + 1)) (pc := 96) O dX1_listLine_96 rfl (nI_succ p).symm rfl ?_
            refine x_goto (pc := 99) O 10 dX1_listLine_99 (by decide) ?_
            exact ih (by omega) V1 (by rw [flt_f (b2i_z c40)]; exact hI)
    refine x_iload_n (pc := 0) O dX1_listLine_0 rfl ?_
    refine x_bipush (v := 60) (pc := 1) O dX1_listLine_1 (by decide) ?_
    refine x_icmp_le (pc := 3) O 7 dX1_listLine_3 (by decide) (fun c3 => ?_) (fun c3 => ?_)
    · refine x_iconst (v := nI 0) (pc := 7) O dX1_listLine_7 (by decide) ?_
      refine x_istore (pc := 8) O dX1_listLine_8 (by decide) rfl ?_
      exact loop 0 (Nat.zero_le _) V (by rw [show (List.range 0).filter (bt6 x) = [] from rfl, show heirsF a al ln m (V0 0 1 4) (f + 1) [] = [] from rfl, List.append_nil]; exact hLH)
    · exact absurd (show nI (60 - (f + 1)) ≤ nI 60 from by rw [nI_leI (by omega) (by omega)]; omega) c3
def StSL (l : Launch) (E : En) (f : Nat) : Prop := ∀ (adr : Nat → Nat → Nat) (V0 : Nat → Nat → Nat → Int32) (VL : Nat → Nat → Nat → Int64) (m ns : Nat) (ch : Nat → List Rt) (a : Ar) (al ln : Nat → Bool) (x : Int64) (g : List Nat) (fr n : Nat), V0 0 3 1 = nI m → m ≤ 60 → KA V0 VL a m → LKd VL al ln m → (V0 0 1 4 = 0 ∨ V0 0 1 4 = 1 ∨ V0 0 1 4 = 2) → LNs m x g → (∀ q ∈ g, q < m ∧ 60 ≤ q + f ∧ ln q = true) → f ≤ 60 → kinOk a m → lnOk a al ln m (V0 0 1 4) → fr + n ≤ 12 →
  Mt l E yX1_shareLine cX1_shareLine 13 none (rmX (2 + f) (49 + 32 * f) 0 0) [.ref (adr 0 1), .long x, .int (nI fr), .int (nI n), .int (nI (60 - f))] (CV E adr V0 VL m ns ch) (fun _ : Nat → Nat → Nat → Int32 => none) (fun V2 h => SHI V0 fr (shareF a al ln m (V0 0 1 4) f g n) V2 ∧ CV E adr V2 VL m ns ch h)
set_option maxRecDepth 100000 in
set_option maxHeartbeats 4000000 in
theorem c_X1_shareLine (l : Launch) (E : En) : ∀ f, StSL l E f := by
  intro f
  induction f with
  | zero =>
    intro adr V0 VL m ns ch a al ln x g fr n hc h60 hka hlk hord hg hgq hf60 hkin hlnok hfn
    have hgl : g.length ≤ 60 := by rw [hg.1]; exact Nat.le_trans (List.length_filter_le _ _) (by rw [List.length_range]; exact h60)
    have hg0 : g = [] := by
      cases g with
      | nil => rfl
      | cons y r => have := hgq y List.mem_cons_self; omega
    refine Mt_of (by decide +kernel) (Nat.le_of_ble_eq_true rfl) (fun J O => ?_)
    show J _ 0 0 0 [some (.ref (adr 0 1)), some (.long x), none, some (.int (nI fr)), some (.int (nI n)), some (.int (nI (60 - 0))), none, none, none, none, none, none, none] []
    refine x_lload_n (pc := 0) O dX1_shareLine_0 rfl ?_
    refine x_callS (pc := 1) (rest := []) O (c_J13_bitCount l E _ x) dX1_shareLine_1 cbX1_98 sm_yJ13_bitCount_95d88 rfl rfl (Nat.le_of_ble_eq_true rfl) ⟨by simp only [rmX]; omega, by simp only [rmX]; omega⟩ ⟨Nat.le_of_ble_eq_true rfl, Nat.le_of_ble_eq_true rfl⟩ (fun _ => ?_)
    dsimp only [Option.toList, List.append, List.nil_append, List.cons_append, Nat.add_zero, Nat.reduceAdd]
    rw [LNs_cnt h60 hg]
    refine x_istore (pc := 4) O dX1_shareLine_4 (by decide) rfl ?_
    refine x_iload (pc := 6) O dX1_shareLine_6 rfl ?_
    refine x_if_eq (pc := 8) O 18 dX1_shareLine_8 (by decide) (fun c8 => ?_) (fun c8 => ?_)
    · exact x_ret (v := none) (pc := 18) O dX1_shareLine_18 rfl trivial ⟨Nat.le_refl _, Nat.le_refl _, V0, rfl, fun h hh => ⟨SHI_0 _ _, hh⟩⟩
    · exact absurd (by rw [hg0]; rfl) c8
  | succ f ihf =>
    intro adr V0 VL m ns ch a al ln x g fr n hc h60 hka hlk hord hg hgq hf60 hkin hlnok hfn
    have hgl : g.length ≤ 60 := by rw [hg.1]; exact Nat.le_trans (List.length_filter_le _ _) (by rw [List.length_range]; exact h60)
    refine Mt_of (by decide +kernel) (Nat.le_of_ble_eq_true rfl) (fun J O => ?_)
    show J _ 0 0 0 [some (.ref (adr 0 1)), some (.long x), none, some (.int (nI fr)), some (.int (nI n)), some (.int (nI (60 - (f + 1)))), none, none, none, none, none, none, none] []
    have loop42 : 0 < g.length → J (CV E adr V0 VL m ns ch) 0 0 42 [some (.ref (adr 0 1)), some (.long x), none, some (.int (nI fr)), some (.int (nI n)), some (.int (nI (60 - (f + 1)))), some (.int (nI g.length)), some (.int (nI (n / g.length))), some (.int (nI (n % g.length))), some (.int (nI (fr))), some (.int (nI (0))), some (.int (nI (0))), none] [] := by
      intro hg1
      have loop : ∀ p, p ≤ m → ∀ V1 k, k = ((List.range p).filter (bt6 x)).length → SHI V0 fr (shK a al ln m (V0 0 1 4) f g n k) V1 → J (CV E adr V1 VL m ns ch) 0 0 42 [some (.ref (adr 0 1)), some (.long x), none, some (.int (nI fr)), some (.int (nI n)), some (.int (nI (60 - (f + 1)))), some (.int (nI g.length)), some (.int (nI (n / g.length))), some (.int (nI (n % g.length))), some (.int (nI (fr + sumP n g.length k))), some (.int (nI (k))), some (.int (nI (p))), none] [] := by
        refine up_ind (Φ := fun p => ∀ V1 k, k = ((List.range p).filter (bt6 x)).length → SHI V0 fr (shK a al ln m (V0 0 1 4) f g n k) V1 → J (CV E adr V1 VL m ns ch) 0 0 42 [some (.ref (adr 0 1)), some (.long x), none, some (.int (nI fr)), some (.int (nI n)), some (.int (nI (60 - (f + 1)))), some (.int (nI g.length)), some (.int (nI (n / g.length))), some (.int (nI (n % g.length))), some (.int (nI (fr + sumP n g.length k))), some (.int (nI (k))), some (.int (nI (p))), none] []) m (fun p hp ih V1 k hk hI => ?_)
        have hcV1 : V1 0 3 1 = nI m := by rw [hI.1 0 3 (fun z => absurd z.2 (by decide))]; exact hc
        have hkg : k ≤ g.length := by
          obtain ⟨r, hr⟩ := flt_split (B := bt6 x) hp
          rw [hk, hg.1, hr, List.length_append]; omega
        have hspn : sumP n g.length k ≤ n := sumP_le hg1 hkg
        have hdn : n / g.length ≤ n := Nat.div_le_self _ _
        refine x_iload (pc := 42) O dX1_shareLine_42 rfl ?_
        refine x_aload_n (pc := 44) O dX1_shareLine_44 rfl rfl ?_
        refine cv_get (t := 0) (n := 1) (pc := 45) O dX1_shareLine_45 fdX1_18 rfl rfl rfl ?_
        refine cv_get (t := 0) (n := 3) (pc := 48) O dX1_shareLine_48 fdX1_58 rfl rfl rfl ?_
        rw [hcV1]
        refine x_icmp_ge (pc := 51) O 153 dX1_shareLine_51 (by decide) (fun c51 => ?_) (fun c51 => ?_)
        · have hpm : p = m := by
            rw [nI_leI (by omega) (by omega)] at c51
            omega
          subst hpm
          rw [← hg.1] at hk
          subst hk
          exact x_ret (v := none) (pc := 153) O dX1_shareLine_153 rfl trivial ⟨Nat.le_refl _, Nat.le_refl _, V1, rfl, fun h hh => ⟨hI, hh⟩⟩
        · have hp3 : p < m := by
            rw [nI_leI (by omega) (by omega)] at c51
            omega
          refine x_lload_n (pc := 54) O dX1_shareLine_54 rfl ?_
          refine x_iload (pc := 55) O dX1_shareLine_55 rfl ?_
          refine x_callS (pc := 57) (rest := []) O (c_X1_isIn l E _ x p (by omega)) dX1_shareLine_57 cbX1_94 sm_yX1_isIn rfl rfl (Nat.le_of_ble_eq_true rfl) ⟨by simp only [rmX]; omega, by simp only [rmX]; omega⟩ ⟨Nat.le_of_ble_eq_true rfl, Nat.le_of_ble_eq_true rfl⟩ (fun _ => ?_)
          dsimp only [Option.toList, List.append, List.nil_append, List.cons_append, Nat.add_zero, Nat.reduceAdd]
          refine x_if_ne (pc := 60) O 66 dX1_shareLine_60 (by decide) (fun c60 => ?_) (fun c60 => ?_)
          · have hbit := b2i_n0 c60
            have hpg := (LNs_mem hg).mpr ⟨hp3, hbit⟩
            obtain ⟨hgq1, hgq2, hgq3⟩ := hgq p hpg
            have hat := flt_at hp3 hbit
            rw [← hg.1, ← hk] at hat
            obtain ⟨hgk, hkl⟩ := hat
            have hpn : sumP n g.length k + (partK n g.length k) ≤ n := by rw [← sumP_s]; exact sumP_le hg1 (by omega)
            have hmn := Nat.mod_lt n hg1
            have hSKl : (shK a al ln m (V0 0 1 4) f g n k).length = sumP n g.length k := shK_len (shareF_len h60 hlnok hkin f) hlnok hkin hgq k (by omega)
            have tail140 : ∀ V2, SHI V0 fr (shK a al ln m (V0 0 1 4) f g n (k + 1)) V2 → J (CV E adr V2 VL m ns ch) 0 0 140 [some (.ref (adr 0 1)), some (.long x), none, some (.int (nI fr)), some (.int (nI n)), some (.int (nI (60 - (f + 1)))), some (.int (nI g.length)), some (.int (nI (n / g.length))), some (.int (nI (n % g.length))), some (.int (nI (fr + sumP n g.length k))), some (.int (nI (k + 1))), some (.int (nI (p))), some (.int (nI (partK n g.length k)))] [] := by
              intro V2 hV2
              refine x_iload (pc := 140) O dX1_shareLine_140 rfl ?_
              refine x_iload (pc := 142) O dX1_shareLine_142 rfl ?_
              refine x_iadd (pc := 144) O dX1_shareLine_144 ?_
              rw [nI_add, show fr + sumP n g.length k + (partK n g.length k) = fr + sumP n g.length (k + 1) from by rw [sumP_s, Nat.add_assoc]]
              refine x_istore (pc := 145) O dX1_shareLine_145 (by decide) rfl ?_
              refine x_iinc (v := nI (p + 1)) (pc := 147) O dX1_shareLine_147 rfl (nI_succ p).symm rfl ?_
              refine x_goto (pc := 150) O 42 dX1_shareLine_150 (by decide) ?_
              refine x_lv O [some (.ref (adr 0 1)), some (.long x), none, some (.int (nI fr)), some (.int (nI n)), some (.int (nI (60 - (f + 1)))), some (.int (nI g.length)), some (.int (nI (n / g.length))), some (.int (nI (n % g.length))), some (.int (nI (fr + sumP n g.length (k + 1)))), some (.int (nI (k + 1))), some (.int (nI (p + 1))), none] ⟨rfl, rfl, rfl, rfl, rfl, rfl, rfl, rfl, rfl, rfl, rfl, trivial⟩ ?_
              exact ih (by omega) V2 (k + 1) (by rw [flt_t hbit, List.length_append, List.length_singleton, ← hk]) hV2
            have tail81 : J (CV E adr V1 VL m ns ch) 0 0 81 [some (.ref (adr 0 1)), some (.long x), none, some (.int (nI fr)), some (.int (nI n)), some (.int (nI (60 - (f + 1)))), some (.int (nI g.length)), some (.int (nI (n / g.length))), some (.int (nI (n % g.length))), some (.int (nI (fr + sumP n g.length k))), some (.int (nI (k))), some (.int (nI (p))), none] [.int (nI (partK n g.length k))] := by
              refine x_istore (pc := 81) O dX1_shareLine_81 (by decide) rfl ?_
              refine x_iinc (v := nI (k + 1)) (pc := 83) O dX1_shareLine_83 rfl (nI_succ k).symm rfl ?_
              refine x_iload (pc := 86) O dX1_shareLine_86 rfl ?_
              refine x_if_le (pc := 88) O 116 dX1_shareLine_88 (by decide) (fun c88 => ?_) (fun c88 => ?_)
              · refine x_iload (pc := 116) O dX1_shareLine_116 rfl ?_
                refine x_if_le (pc := 118) O 140 dX1_shareLine_118 (by decide) (fun c118 => ?_) (fun c118 => ?_)
                · have hpt0 : (partK n g.length k) = 0 := by
                    rw [show (0 : Int32) = nI 0 from rfl, nI_leI (by omega) (by decide)] at c88
                    omega
                  refine x_lv O [some (.ref (adr 0 1)), some (.long x), none, some (.int (nI fr)), some (.int (nI n)), some (.int (nI (60 - (f + 1)))), some (.int (nI g.length)), some (.int (nI (n / g.length))), some (.int (nI (n % g.length))), some (.int (nI (fr + sumP n g.length k))), some (.int (nI (k + 1))), some (.int (nI (p))), some (.int (nI (partK n g.length k)))] ⟨rfl, rfl, rfl, rfl, rfl, rfl, rfl, rfl, rfl, rfl, rfl, rfl, trivial⟩ ?_
                  refine tail140 V1 ?_
                  rw [shK_s, show shB a al ln m (V0 0 1 4) f g n k = [] from if_pos hpt0, List.append_nil]
                  exact hI
                · exact absurd c88 c118
              · have hpt0 : ¬ (partK n g.length k) = 0 := fun z => c88 (by rw [z]; decide)
                refine x_aload_n (pc := 91) O dX1_shareLine_91 rfl rfl ?_
                refine cv_get (t := 0) (n := 1) (pc := 92) O dX1_shareLine_92 fdX1_51 rfl rfl rfl ?_
                refine x_iload (pc := 95) O dX1_shareLine_95 rfl ?_
                refine x_callS (pc := 97) (rest := []) O (c_X1_isIn l E _ _ p (by omega)) dX1_shareLine_97 cbX1_94 sm_yX1_isIn rfl rfl (Nat.le_of_ble_eq_true rfl) ⟨by simp only [rmX]; omega, by simp only [rmX]; omega⟩ ⟨Nat.le_of_ble_eq_true rfl, Nat.le_of_ble_eq_true rfl⟩ (fun _ => ?_)
                dsimp only [Option.toList, List.append, List.nil_append, List.cons_append, Nat.add_zero, Nat.reduceAdd]
                refine x_if_eq (pc := 100) O 116 dX1_shareLine_100 (by decide) (fun c100 => ?_) (fun c100 => ?_)
                · have hal : ¬ al p = true := fun z => b2i_z c100 ((hlk.1 p).mpr ⟨hp3, z⟩)
                  have hBal : shB a al ln m (V0 0 1 4) f g n k = shareF a al ln m (V0 0 1 4) f (grp a ln m (V0 0 1 4) p (-1)) (partK n g.length k) := by
                    unfold shB
                    rw [if_neg hpt0, hgk, if_neg hal]
                  refine x_iload (pc := 116) O dX1_shareLine_116 rfl ?_
                  refine x_if_le (pc := 118) O 140 dX1_shareLine_118 (by decide) (fun c118 => ?_) (fun c118 => ?_)
                  · exact absurd c118 c88
                  · refine x_aload_n (pc := 121) O dX1_shareLine_121 rfl rfl ?_
                    refine x_aload_n (pc := 122) O dX1_shareLine_122 rfl rfl ?_
                    refine x_iload (pc := 123) O dX1_shareLine_123 rfl ?_
                    refine x_lconst (v := 0) (pc := 125) O dX1_shareLine_125 rfl ?_
                    refine x_callV (pc := 126) (rest := [.ref (adr 0 1)]) (ci := 1) O (c_X1_lineBelow l E _ V1 _ _ _ _ a al ln p (-1) 0 hcV1 h60 (KA_fr hka (fun t => hI.1 1 t (fun z => absurd z.1 (by decide))) (fun _ => rfl)) hlk (by rw [hI.1 0 1 (fun z => absurd z.2 (by decide))]; exact hord) hp3 (hb_none h60)) dX1_shareLine_126 cbX1_79 im_yX1_lineBelow se_yX1_lineBelow rfl (cv_recv (t := 0) (n := 1) rfl rfl) rfl rfl (Nat.le_of_ble_eq_true rfl) ⟨by simp only [rmX]; omega, by simp only [rmX]; omega⟩ ⟨Nat.le_of_ble_eq_true rfl, Nat.le_of_ble_eq_true rfl⟩ (fun y => x_pure O (fun hy => ?_))
                    dsimp only [Option.toList, List.append, List.nil_append, List.cons_append, Nat.add_zero, Nat.reduceAdd]
                    refine x_iload (pc := 129) O dX1_shareLine_129 rfl ?_
                    refine x_iload (pc := 131) O dX1_shareLine_131 rfl ?_
                    refine x_iload (pc := 133) O dX1_shareLine_133 rfl ?_
                    refine x_iconst (v := 1) (pc := 135) O dX1_shareLine_135 (by decide) ?_
                    refine x_iadd (pc := 136) O dX1_shareLine_136 ?_
                    have e14 : V1 0 1 = V0 0 1 := hI.1 0 1 (fun z => absurd z.2 (by decide))
                    rw [e14] at hy
                    rw [show nI (60 - (f + 1)) + 1 = nI (60 - f) from by rw [← nI_succ]; congr 1; omega]
                    refine x_callV (pc := 137) (rest := []) (ci := 1) O (ihf adr V1 VL m ns ch a al ln y (grp a ln m (V0 0 1 4) p (-1)) (fr + sumP n g.length k) (partK n g.length k) hcV1 h60 (KA_fr hka (fun t => hI.1 1 t (fun z => absurd z.1 (by decide))) (fun _ => rfl)) hlk (by rw [e14]; exact hord) hy ?_ (by omega) hkin (by rw [e14]; exact hlnok) (by omega)) dX1_shareLine_137 cbX1_44 im_yX1_shareLine se_yX1_shareLine rfl (cv_recv (t := 0) (n := 1) rfl rfl) rfl rfl (Nat.le_of_ble_eq_true rfl) ⟨by simp only [rmX]; omega, by simp only [rmX]; omega⟩ ⟨Nat.le_of_ble_eq_true rfl, Nat.le_of_ble_eq_true rfl⟩ (fun V2 => x_pure O (fun hV2 => ?_))
                    · intro q hq
                      obtain ⟨q1, q2, q3, -⟩ := grp_sub hq
                      have := hkin q p q1 hp3 q3
                      exact ⟨q1, by omega, q2⟩
                    rw [e14] at hV2
                    dsimp only [Option.toList, List.append, List.nil_append, List.cons_append, Nat.add_zero, Nat.reduceAdd]
                    refine x_lv O [some (.ref (adr 0 1)), some (.long x), none, some (.int (nI fr)), some (.int (nI n)), some (.int (nI (60 - (f + 1)))), some (.int (nI g.length)), some (.int (nI (n / g.length))), some (.int (nI (n % g.length))), some (.int (nI (fr + sumP n g.length k))), some (.int (nI (k + 1))), some (.int (nI (p))), some (.int (nI (partK n g.length k)))] ⟨rfl, rfl, rfl, rfl, rfl, rfl, rfl, rfl, rfl, rfl, rfl, rfl, trivial⟩ ?_
                    refine tail140 V2 ?_
                    rw [shK_s, hBal]
                    exact SHI_app hI (by rw [hSKl]; exact hV2)
                · have hal : al p = true := ((hlk.1 p).mp (b2i_n0 c100)).2
                  have hBal : shB a al ln m (V0 0 1 4) f g n k = List.replicate (partK n g.length k) p := by
                    unfold shB
                    rw [if_neg hpt0, hgk, if_pos hal]
                  refine x_aload_n (pc := 103) O dX1_shareLine_103 rfl rfl ?_
                  refine x_iload (pc := 104) O dX1_shareLine_104 rfl ?_
                  refine x_iload (pc := 106) O dX1_shareLine_106 rfl ?_
                  refine x_iload (pc := 108) O dX1_shareLine_108 rfl ?_
                  refine x_callV (pc := 110) (rest := []) (ci := 1) O (c_X1_give l E _ V1 _ _ _ _ p (fr + sumP n g.length k) (partK n g.length k) (by omega)) dX1_shareLine_110 cbX1_104 im_yX1_give se_yX1_give rfl (cv_recv (t := 0) (n := 1) rfl rfl) rfl rfl (Nat.le_of_ble_eq_true rfl) ⟨by simp only [rmX]; omega, by simp only [rmX]; omega⟩ ⟨Nat.le_of_ble_eq_true rfl, Nat.le_of_ble_eq_true rfl⟩ (fun V2 => x_pure O (fun hV2 => ?_))
                  dsimp only [Option.toList, List.append, List.nil_append, List.cons_append, Nat.add_zero, Nat.reduceAdd]
                  refine x_goto (pc := 113) O 140 dX1_shareLine_113 (by decide) ?_
                  refine x_lv O [some (.ref (adr 0 1)), some (.long x), none, some (.int (nI fr)), some (.int (nI n)), some (.int (nI (60 - (f + 1)))), some (.int (nI g.length)), some (.int (nI (n / g.length))), some (.int (nI (n % g.length))), some (.int (nI (fr + sumP n g.length k))), some (.int (nI (k + 1))), some (.int (nI (p))), some (.int (nI (partK n g.length k)))] ⟨rfl, rfl, rfl, rfl, rfl, rfl, rfl, rfl, rfl, rfl, rfl, rfl, trivial⟩ ?_
                  refine tail140 V2 ?_
                  rw [shK_s, hBal]
                  exact SHI_app hI (by rw [hSKl]; exact hV2)
            refine x_iload (pc := 66) O dX1_shareLine_66 rfl ?_
            refine x_iload (pc := 68) O dX1_shareLine_68 rfl ?_
            refine x_iload (pc := 70) O dX1_shareLine_70 rfl ?_
            refine x_icmp_ge (pc := 72) O 79 dX1_shareLine_72 (by decide) (fun c72 => ?_) (fun c72 => ?_)
            · refine x_iconst (v := nI 0) (pc := 79) O dX1_shareLine_79 (by decide) ?_
              refine x_iadd (pc := 80) O dX1_shareLine_80 ?_
              rw [nI_leI (by omega) (by omega)] at c72
              rw [nI_add, show n / g.length + 0 = (partK n g.length k) from by unfold partK; rw [if_neg (by omega)]]
              exact tail81
            · refine x_iconst (v := nI 1) (pc := 75) O dX1_shareLine_75 (by decide) ?_
              refine x_goto (pc := 76) O 80 dX1_shareLine_76 (by decide) ?_
              refine x_iadd (pc := 80) O dX1_shareLine_80 ?_
              rw [nI_leI (by omega) (by omega)] at c72
              rw [nI_add, show n / g.length + 1 = (partK n g.length k) from by unfold partK; rw [if_pos (by omega)]]
              exact tail81
          · refine x_goto (pc := 63) O 147 dX1_shareLine_63 (by decide) ?_
            refine x_iinc (v := nI (p + 1)) (pc := 147) O dX1_shareLine_147 rfl (nI_succ p).symm rfl ?_
            refine x_goto (pc := 150) O 42 dX1_shareLine_150 (by decide) ?_
            exact ih (by omega) V1 k (by rw [flt_f (b2i_z c60)]; exact hk) hI
      have h0 := loop 0 (Nat.zero_le _) V0 0 rfl (SHI_0 _ _)
      rw [sumP_0] at h0
      exact h0
    refine x_lload_n (pc := 0) O dX1_shareLine_0 rfl ?_
    refine x_callS (pc := 1) (rest := []) O (c_J13_bitCount l E _ x) dX1_shareLine_1 cbX1_98 sm_yJ13_bitCount_95d88 rfl rfl (Nat.le_of_ble_eq_true rfl) ⟨by simp only [rmX]; omega, by simp only [rmX]; omega⟩ ⟨Nat.le_of_ble_eq_true rfl, Nat.le_of_ble_eq_true rfl⟩ (fun _ => ?_)
    dsimp only [Option.toList, List.append, List.nil_append, List.cons_append, Nat.add_zero, Nat.reduceAdd]
    rw [LNs_cnt h60 hg]
    refine x_istore (pc := 4) O dX1_shareLine_4 (by decide) rfl ?_
    refine x_iload (pc := 6) O dX1_shareLine_6 rfl ?_
    refine x_if_eq (pc := 8) O 18 dX1_shareLine_8 (by decide) (fun c8 => ?_) (fun c8 => ?_)
    · have hg0 : g = [] := List.eq_nil_of_length_eq_zero ((nI_eq (by omega) (by omega)).mp c8)
      exact x_ret (v := none) (pc := 18) O dX1_shareLine_18 rfl trivial ⟨Nat.le_refl _, Nat.le_refl _, V0, rfl, fun h hh => ⟨by rw [hg0]; exact SHI_0 _ _, hh⟩⟩
    · refine x_iload (pc := 11) O dX1_shareLine_11 rfl ?_
      refine x_bipush (v := 60) (pc := 13) O dX1_shareLine_13 (by decide) ?_
      refine x_icmp_le (pc := 15) O 19 dX1_shareLine_15 (by decide) (fun c15 => ?_) (fun c15 => ?_)
      · refine x_iload (pc := 19) O dX1_shareLine_19 rfl ?_
        refine x_iload (pc := 21) O dX1_shareLine_21 rfl ?_
        have hg1 : 0 < g.length := List.length_pos_iff.mpr (fun z => c8 (by rw [z]; rfl))
        refine x_idiv (pc := 23) O dX1_shareLine_23 (nI_ne0 hg1 (by omega)) ?_
        rw [pk_div (by omega) hg1 (by omega)]
        refine x_istore (pc := 24) O dX1_shareLine_24 (by decide) rfl ?_
        refine x_iload (pc := 26) O dX1_shareLine_26 rfl ?_
        refine x_iload (pc := 28) O dX1_shareLine_28 rfl ?_
        refine x_irem (pc := 30) O dX1_shareLine_30 (nI_ne0 hg1 (by omega)) ?_
        rw [pk_rem (by omega) hg1 (by omega)]
        refine x_istore (pc := 31) O dX1_shareLine_31 (by decide) rfl ?_
        refine x_iload_n (pc := 33) O dX1_shareLine_33 rfl ?_
        refine x_istore (pc := 34) O dX1_shareLine_34 (by decide) rfl ?_
        refine x_iconst (v := nI 0) (pc := 36) O dX1_shareLine_36 (by decide) ?_
        refine x_istore (pc := 37) O dX1_shareLine_37 (by decide) rfl ?_
        refine x_iconst (v := nI 0) (pc := 39) O dX1_shareLine_39 (by decide) ?_
        refine x_istore (pc := 40) O dX1_shareLine_40 (by decide) rfl ?_
        exact loop42 (List.length_pos_iff.mpr (fun z => c8 (by rw [z]; rfl)))
      · exact absurd (show nI (60 - (f + 1)) ≤ nI 60 from by rw [nI_leI (by omega) (by omega)]; omega) c15
