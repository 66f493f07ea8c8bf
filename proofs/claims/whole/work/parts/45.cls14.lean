/-! ===== CLS 14: passOwnStrips, die, marry, grant, rod, heir ===== -/
def S6 (j : Nat) (V : Nat → Nat → Nat → Int32) (VL : Nat → Nat → Nat → Int64) (V1 : Nat → Nat → Nat → Int32) (VL1 : Nat → Nat → Nat → Int64) : Prop := (∀ t k f, ¬ (t = 0 ∧ (k = 1 ∨ k = 2 ∨ k = 13 ∨ k = 14 ∨ k = 15)) → ¬ (t = 1 ∧ k = j ∧ f = 6) → V1 t k f = V t k f) ∧ ∀ t k, ¬ (t = 0 ∧ k = 1) → VL1 t k = VL t k
theorem S6.rf (j : Nat) (V : Nat → Nat → Nat → Int32) (VL : Nat → Nat → Nat → Int64) : S6 j V VL V VL := ⟨fun _ _ _ _ _ => rfl, fun _ _ _ => rfl⟩
theorem S6.sq {j : Nat} {V V1 V2 : Nat → Nat → Nat → Int32} {VL VL1 VL2 : Nat → Nat → Nat → Int64} (h : S6 j V VL V1 VL1) (h2 : SQ V1 VL1 V2 VL2) : S6 j V VL V2 VL2 := ⟨fun t k f h3 h4 => by rw [h2.1 t k h3]; exact h.1 t k f h3 h4, fun t k h3 => by rw [h2.2 t k h3]; exact h.2 t k h3⟩
theorem S6.o {j : Nat} {V V1 : Nat → Nat → Nat → Int32} {VL VL1 : Nat → Nat → Nat → Int64} (h : S6 j V VL V1 VL1) (v : Int32) : S6 j V VL (up3 V1 1 j 6 v) VL1 := ⟨fun t k f h3 h4 => by
    by_cases c : t = 1 ∧ k = j
    · obtain ⟨rfl, rfl⟩ := c
      rw [up3_eq, va_up_ne _ _ (fun z => h4 ⟨rfl, rfl, z⟩)]; exact h.1 _ _ f h3 h4
    · rw [up3_ne _ _ _ c]; exact h.1 t k f h3 h4, h.2⟩
theorem S6.ka {j : Nat} {V V1 : Nat → Nat → Nat → Int32} {VL VL1 : Nat → Nat → Nat → Int64} {a : Ar} {m : Nat} (h : S6 j V VL V1 VL1) (hk : KA V VL a m) : KA V1 VL1 a m := by
  have e : ∀ p f, f ≠ 6 → V1 1 p f = V 1 p f := fun p f hf => h.1 1 p f (fun z => absurd z.1 (by decide)) (fun z => hf z.2.2)
  have e2 : ∀ p, VL1 1 p = VL 1 p := fun p => h.2 1 p (fun z => absurd z.1 (by decide))
  unfold KA
  simp only [e2, e _ 0 (by decide), e _ 1 (by decide), e _ 2 (by decide), e _ 4 (by decide)]
  exact hk
theorem S6.c {j : Nat} {V V1 : Nat → Nat → Nat → Int32} {VL VL1 : Nat → Nat → Nat → Int64} (h : S6 j V VL V1 VL1) (k : Nat) (hk : k = 0 ∨ k = 3 ∨ k = 7) : V1 0 k = V 0 k := by
  funext f
  exact h.1 0 k f (fun z => by omega) (fun z => absurd z.1 (by decide))
def owS (now : Int32) (a : Ar) (m : Nat) (ord : Int32) (j : Nat) (w : Int32) (wd : Nat) (ch : Nat → List Rt) (h : Nat) : Nat → List Rt :=
  let L := pkL (pkC ch (nI j) 0) h 12
  if L = [] then ch else clL now (clL now ch ((L.take (dyP w wd L.length)).map (fun s => (s, w, 3)))) (passE a m ord (alx a j) j (L.drop (dyP w wd L.length)) (L.length - dyP w wd L.length))
def owC (now : Int32) (a : Ar) (m : Nat) (ord : Int32) (j : Nat) (w : Int32) (wd : Nat) (hr o0 : Int32) (ch : Nat → List Rt) : Nat → (Nat → List Rt) × Nat × Int32
  | 0 => (ch, 0, o0)
  | h + 1 =>
    let v := owC now a m ord j w wd hr o0 ch h
    let L := pkL (pkC v.1 (nI j) 0) h 12
    (owS now a m ord j w wd v.1 h, v.2.1 + L.length, if L.length = 0 then v.2.2 else v.2.2 + hr)
theorem owC_mono (now : Int32) (a : Ar) (m : Nat) (ord : Int32) (j : Nat) (w : Int32) (wd : Nat) (hr o0 : Int32) (ch : Nat → List Rt) (k : Nat) : ∀ t, (owC now a m ord j w wd hr o0 ch k).2.1 ≤ (owC now a m ord j w wd hr o0 ch (k + t)).2.1
  | 0 => Nat.le_refl _
  | t + 1 => Nat.le_trans (owC_mono now a m ord j w wd hr o0 ch k t) (by rw [← Nat.add_assoc]; exact Nat.le_add_right _ _)
set_option maxRecDepth 100000 in
set_option maxHeartbeats 4000000 in
theorem c_X7_passOwnStrips (l : Launch) (E : En) (adr : Nat → Nat → Nat) (V : Nat → Nat → Nat → Int32) (VL : Nat → Nat → Nat → Int64) (m ns : Nat) (ch : Nat → List Rt) (a : Ar) (j r wd : Nat) (hc : V 0 3 1 = nI m) (h60 : m ≤ 60) (hka : KA V VL a m) (hsx : ∀ c, c < m → a 9 c = 0 ∨ a 9 c = 1) (hfa : ∀ p, p < m → a 10 p = -1 ∨ ∃ f, f < m ∧ a 10 p = nI f) (hkin : kinOk a m) (hord : V 0 0 0 = 0 ∨ V 0 0 0 = 1 ∨ V 0 0 0 = 2) (hj : j < m) (hwd : V 0 0 1 = nI wd) (hwd12 : wd ≤ 12) (hr : V 0 2 1 = nI r) (hr2 : r + (owC (V 0 7 0) a m (V 0 0 0) j (V 1 j 5) wd (V 0 0 4) (V 1 j 6) ch 10).2.1 ≤ 61560) : Mt l E yX7_passOwnStrips cX7_passOwnStrips 7 (some .int) (rmX 65 2049 (owC (V 0 7 0) a m (V 0 0 0) j (V 1 j 5) wd (V 0 0 4) (V 1 j 6) ch 10).2.1 (4 * (owC (V 0 7 0) a m (V 0 0 0) j (V 1 j 5) wd (V 0 0 4) (V 1 j 6) ch 10).2.1)) [.ref (adr 0 7), .int (nI j), .ref (adr 1 j)] (CV E adr V VL m ns ch) (fun _ : (Nat → Nat → Nat → Int32) × (Nat → Nat → Nat → Int64) => some (.int (nI (owC (V 0 7 0) a m (V 0 0 0) j (V 1 j 5) wd (V 0 0 4) (V 1 j 6) ch 10).2.1))) (fun x h => (S6 j V VL x.1 x.2 ∧ x.1 1 j 6 = (owC (V 0 7 0) a m (V 0 0 0) j (V 1 j 5) wd (V 0 0 4) (V 1 j 6) ch 10).2.2 ∧ x.1 0 2 1 = nI (r + (owC (V 0 7 0) a m (V 0 0 0) j (V 1 j 5) wd (V 0 0 4) (V 1 j 6) ch 10).2.1)) ∧ CV E adr x.1 x.2 m ns (owC (V 0 7 0) a m (V 0 0 0) j (V 1 j 5) wd (V 0 0 4) (V 1 j 6) ch 10).1 h) := by
  refine Mt_of (by decide +kernel) (Nat.le_of_ble_eq_true rfl) (fun J O => ?_)
  show J _ 0 0 0 [some (.ref (adr 0 7)), some (.int (nI j)), some (.ref (adr 1 j)), none, none, none, none] []
  have loop : ∀ k, k ≤ 10 → ∀ V1 VL1, S6 j V VL V1 VL1 → V1 1 j 6 = (owC (V 0 7 0) a m (V 0 0 0) j (V 1 j 5) wd (V 0 0 4) (V 1 j 6) ch k).2.2 → V1 0 2 1 = nI (r + (owC (V 0 7 0) a m (V 0 0 0) j (V 1 j 5) wd (V 0 0 4) (V 1 j 6) ch k).2.1) → J (CV E adr V1 VL1 m ns (owC (V 0 7 0) a m (V 0 0 0) j (V 1 j 5) wd (V 0 0 4) (V 1 j 6) ch k).1) (owC (V 0 7 0) a m (V 0 0 0) j (V 1 j 5) wd (V 0 0 4) (V 1 j 6) ch k).2.1 (4 * (owC (V 0 7 0) a m (V 0 0 0) j (V 1 j 5) wd (V 0 0 4) (V 1 j 6) ch k).2.1) 5 [some (.ref (adr 0 7)), some (.int (nI j)), some (.ref (adr 1 j)), some (.int (nI (owC (V 0 7 0) a m (V 0 0 0) j (V 1 j 5) wd (V 0 0 4) (V 1 j 6) ch k).2.1)), some (.int (nI k)), none, none] [] := by
    refine up_ind (Φ := fun k => ∀ V1 VL1, S6 j V VL V1 VL1 → V1 1 j 6 = (owC (V 0 7 0) a m (V 0 0 0) j (V 1 j 5) wd (V 0 0 4) (V 1 j 6) ch k).2.2 → V1 0 2 1 = nI (r + (owC (V 0 7 0) a m (V 0 0 0) j (V 1 j 5) wd (V 0 0 4) (V 1 j 6) ch k).2.1) → J (CV E adr V1 VL1 m ns (owC (V 0 7 0) a m (V 0 0 0) j (V 1 j 5) wd (V 0 0 4) (V 1 j 6) ch k).1) (owC (V 0 7 0) a m (V 0 0 0) j (V 1 j 5) wd (V 0 0 4) (V 1 j 6) ch k).2.1 (4 * (owC (V 0 7 0) a m (V 0 0 0) j (V 1 j 5) wd (V 0 0 4) (V 1 j 6) ch k).2.1) 5 [some (.ref (adr 0 7)), some (.int (nI j)), some (.ref (adr 1 j)), some (.int (nI (owC (V 0 7 0) a m (V 0 0 0) j (V 1 j 5) wd (V 0 0 4) (V 1 j 6) ch k).2.1)), some (.int (nI k)), none, none] []) 10 (fun k hk ih V1 VL1 hI ho hr1 => ?_)
    refine x_iload (pc := 5) O dX7_passOwnStrips_5 rfl ?_
    refine x_bipush (v := nI 10) (pc := 7) O dX7_passOwnStrips_7 (by decide) ?_
    refine x_icmp_ge (pc := 9) O 117 dX7_passOwnStrips_9 (by decide) (fun c9 => ?_) (fun c9 => ?_)
    · refine x_iload_n (pc := 117) O dX7_passOwnStrips_117 rfl ?_
      have hk3 : k = 10 := by
        rw [nI_leI (by omega) (by omega)] at c9
        omega
      subst hk3
      exact x_ret (v := some (.int _)) (pc := 118) O dX7_passOwnStrips_118 rfl rfl ⟨Nat.le_refl _, Nat.le_refl _, (V1, VL1), rfl, fun h hh => ⟨⟨hI, ho, hr1⟩, hh⟩⟩
    · have hk3 : k < 10 := by
        rw [nI_leI (by omega) (by omega)] at c9
        omega
      have hmn := owC_mono (V 0 7 0) a m (V 0 0 0) j (V 1 j 5) wd (V 0 0 4) (V 1 j 6) ch (k + 1) (10 - (k + 1))
      rw [show k + 1 + (10 - (k + 1)) = 10 by omega] at hmn
      obtain ⟨L, hLd⟩ : ∃ L, L = pkL (pkC (owC (V 0 7 0) a m (V 0 0 0) j (V 1 j 5) wd (V 0 0 4) (V 1 j 6) ch k).1 (nI j) 0) k 12 := ⟨_, rfl⟩
      have hLl : L.length ≤ 12 := by rw [hLd]; exact pkL_len _ _ _
      have h120 : ∀ s ∈ L, s < 120 := fun s hs => by rw [hLd] at hs; have := (pkL_mem hs).1; omega
      have hst : (owC (V 0 7 0) a m (V 0 0 0) j (V 1 j 5) wd (V 0 0 4) (V 1 j 6) ch (k + 1)).2.1 = (owC (V 0 7 0) a m (V 0 0 0) j (V 1 j 5) wd (V 0 0 4) (V 1 j 6) ch k).2.1 + L.length := by rw [hLd]; rfl
      have e0 : V1 0 0 = V 0 0 := hI.c 0 (by omega)
      have e7 : V1 0 7 = V 0 7 := hI.c 7 (by omega)
      have e3 : V1 0 3 = V 0 3 := hI.c 3 (by omega)
      have hdl : (dyP (V 1 j 5) wd L.length) ≤ L.length := dyP_le _ hwd12
      refine x_aload_n (pc := 12) O dX7_passOwnStrips_12 rfl rfl ?_
      refine cv_get (t := 0) (n := 7) (pc := 13) O dX7_passOwnStrips_13 fdX7_35 rfl rfl rfl ?_
      refine x_iload (pc := 16) O dX7_passOwnStrips_16 rfl ?_
      refine x_iload_n (pc := 18) O dX7_passOwnStrips_18 rfl ?_
      refine x_iconst (v := 0) (pc := 19) O dX7_passOwnStrips_19 (by decide) ?_
      refine x_callV (pc := 20) (rest := []) (ci := 2) O (v_X2_pick l E _ _ _ _ _ _ k (nI j) 0 hk3) dX7_passOwnStrips_20 cbX7_112 im_yX2_pick se_yX2_pick rfl (cv_recv (t := 0) (n := 2) rfl rfl) rfl rfl (Nat.le_of_ble_eq_true rfl) ⟨Nat.le_of_ble_eq_true rfl, Nat.le_of_ble_eq_true rfl⟩ ⟨by simp only [rmX]; omega, by simp only [rmX]; omega⟩ (fun V2 => x_pure O (fun hq => ?_))
      dsimp only [Option.toList, List.append, List.nil_append, List.cons_append, Nat.add_zero, Nat.reduceAdd]
      rw [← hLd] at hq
      refine x_aload_n (pc := 23) O dX7_passOwnStrips_23 rfl rfl ?_
      refine cv_get (t := 0) (n := 7) (pc := 24) O dX7_passOwnStrips_24 fdX7_35 rfl rfl rfl ?_
      refine cv_get (t := 0) (n := 2) (pc := 27) O dX7_passOwnStrips_27 fdX7_116 rfl rfl rfl ?_
      rw [hq.2.2.1]
      refine x_istore (pc := 30) O dX7_passOwnStrips_30 (by decide) rfl ?_
      refine x_iload (pc := 32) O dX7_passOwnStrips_32 rfl ?_
      refine x_if_le (pc := 34) O 111 dX7_passOwnStrips_34 (by decide) (fun c34 => ?_) (fun c34 => ?_)
      · refine x_iinc (v := nI (k + 1)) (pc := 111) O dX7_passOwnStrips_111 rfl (nI_succ k).symm rfl ?_
        refine x_goto (pc := 114) O 5 dX7_passOwnStrips_114 (by decide) ?_
        have hL0 : L = [] := List.eq_nil_of_length_eq_zero (by
          rw [show (0 : Int32) = nI 0 from rfl, nI_leI (by omega) (by decide)] at c34
          omega)
        have q2 : (owC (V 0 7 0) a m (V 0 0 0) j (V 1 j 5) wd (V 0 0 4) (V 1 j 6) ch k).2.1 = (owC (V 0 7 0) a m (V 0 0 0) j (V 1 j 5) wd (V 0 0 4) (V 1 j 6) ch (k + 1)).2.1 := by rw [hst, hL0]; rfl
        have q1 : (owC (V 0 7 0) a m (V 0 0 0) j (V 1 j 5) wd (V 0 0 4) (V 1 j 6) ch k).1 = (owC (V 0 7 0) a m (V 0 0 0) j (V 1 j 5) wd (V 0 0 4) (V 1 j 6) ch (k + 1)).1 := by
          show _ = owS (V 0 7 0) a m (V 0 0 0) j (V 1 j 5) wd (owC (V 0 7 0) a m (V 0 0 0) j (V 1 j 5) wd (V 0 0 4) (V 1 j 6) ch k).1 k
          unfold owS
          dsimp only
          rw [← hLd, if_pos hL0]
        have q3 : (owC (V 0 7 0) a m (V 0 0 0) j (V 1 j 5) wd (V 0 0 4) (V 1 j 6) ch k).2.2 = (owC (V 0 7 0) a m (V 0 0 0) j (V 1 j 5) wd (V 0 0 4) (V 1 j 6) ch (k + 1)).2.2 := by
          show _ = (if (pkL (pkC (owC (V 0 7 0) a m (V 0 0 0) j (V 1 j 5) wd (V 0 0 4) (V 1 j 6) ch k).1 (nI j) 0) k 12).length = 0 then _ else _)
          rw [← hLd, if_pos (by rw [hL0]; rfl)]
        rw [q1, q2]
        refine x_lv O [some (.ref (adr 0 7)), some (.int (nI j)), some (.ref (adr 1 j)), some (.int (nI (owC (V 0 7 0) a m (V 0 0 0) j (V 1 j 5) wd (V 0 0 4) (V 1 j 6) ch (k + 1)).2.1)), some (.int (nI (k + 1))), none, none] ⟨rfl, rfl, rfl, rfl, rfl, trivial⟩ ?_
        exact ih (by omega) V2 VL1 (hI.sq (SQ.pk VL1 hq)) (by rw [hq.1 1 j (fun z => absurd z.1 (by decide)), ho, q3]) (by rw [hq.2.1, hr1, q2])
      · have hL0 : 0 < L.length := by
          rcases Nat.eq_zero_or_pos L.length with z | z
          · exact absurd (by rw [z]; decide) c34
          · exact z
        have e02 : V2 0 0 = V 0 0 := by rw [hq.1 0 0 (fun z => absurd z.2 (by decide))]; exact e0
        have e72 : V2 0 7 = V 0 7 := by rw [hq.1 0 7 (fun z => absurd z.2 (by decide))]; exact e7
        have e32 : V2 0 3 = V 0 3 := by rw [hq.1 0 3 (fun z => absurd z.2 (by decide))]; exact e3
        have e15 : V2 1 j 5 = V 1 j 5 := by
          rw [hq.1 1 j (fun z => absurd z.1 (by decide))]
          exact hI.1 1 j 5 (fun z => absurd z.1 (by decide)) (fun z => absurd z.2.2 (by decide))
        have tail62 : J (CV E adr V2 VL1 m ns (owC (V 0 7 0) a m (V 0 0 0) j (V 1 j 5) wd (V 0 0 4) (V 1 j 6) ch k).1) (owC (V 0 7 0) a m (V 0 0 0) j (V 1 j 5) wd (V 0 0 4) (V 1 j 6) ch k).2.1 (4 * (owC (V 0 7 0) a m (V 0 0 0) j (V 1 j 5) wd (V 0 0 4) (V 1 j 6) ch k).2.1) 62 [some (.ref (adr 0 7)), some (.int (nI j)), some (.ref (adr 1 j)), some (.int (nI (owC (V 0 7 0) a m (V 0 0 0) j (V 1 j 5) wd (V 0 0 4) (V 1 j 6) ch k).2.1)), some (.int (nI k)), some (.int (nI L.length)), none] [.int (nI (dyP (V 1 j 5) wd L.length))] := by
          refine x_istore (pc := 62) O dX7_passOwnStrips_62 (by decide) rfl ?_
          refine x_aload_n (pc := 64) O dX7_passOwnStrips_64 rfl rfl ?_
          refine cv_get (t := 0) (n := 7) (pc := 65) O dX7_passOwnStrips_65 fdX7_35 rfl rfl rfl ?_
          refine x_iconst (v := nI 0) (pc := 68) O dX7_passOwnStrips_68 (by decide) ?_
          refine x_iload (pc := 69) O dX7_passOwnStrips_69 rfl ?_
          refine x_aload_n (pc := 71) O dX7_passOwnStrips_71 rfl rfl ?_
          refine cv_get (t := 1) (n := j) (pc := 72) O dX7_passOwnStrips_72 fdX7_86 (okC1 (by omega)) rfl rfl ?_
          rw [e15]
          refine x_iconst (v := 3) (pc := 75) O dX7_passOwnStrips_75 (by decide) ?_
          refine x_aload_n (pc := 76) O dX7_passOwnStrips_76 rfl rfl ?_
          refine cv_get (t := 0) (n := 7) (pc := 77) O dX7_passOwnStrips_77 fdX7_9 rfl rfl rfl ?_
          rw [e72]
          refine x_callV (pc := 80) (rest := []) (ci := 2) O (c_X2_bringPicked l E _ V2 _ _ _ _ L 0 (dyP (V 1 j 5) wd L.length) (r + (owC (V 0 7 0) a m (V 0 0 0) j (V 1 j 5) wd (V 0 0 4) (V 1 j 6) ch k).2.1) (V 1 j 5) 3 (V 0 7 0) hq.2.2.1 hq.2.2.2 hLl h120 (Nat.zero_le _) hdl (by rw [hq.2.1]; exact hr1) (by omega)) dX7_passOwnStrips_80 cbX7_119 im_yX2_bringPicked se_yX2_bringPicked rfl (cv_recv (t := 0) (n := 2) rfl rfl) rfl rfl (Nat.le_of_ble_eq_true rfl) ⟨Nat.le_of_ble_eq_true rfl, Nat.le_of_ble_eq_true rfl⟩ ⟨by simp only [rmX]; omega, by simp only [rmX]; omega⟩ (fun _ => ?_)
          dsimp only [Option.toList, List.append, List.nil_append, List.cons_append, Nat.add_zero, Nat.reduceAdd]
          rw [Nat.sub_zero, List.drop_zero]
          obtain ⟨V3, hV3⟩ : ∃ V3, V3 = up3 V2 0 2 1 (nI (r + (owC (V 0 7 0) a m (V 0 0 0) j (V 1 j 5) wd (V 0 0 4) (V 1 j 6) ch k).2.1 + (dyP (V 1 j 5) wd L.length))) := ⟨_, rfl⟩
          rw [← hV3]
          have hI2 : S6 j V VL V3 VL1 := by rw [hV3]; exact (hI.sq (SQ.pk VL1 hq)).sq ((SQ.rf V2 VL1).r 1 _)
          have e03 : V3 0 0 = V 0 0 := hI2.c 0 (by omega)
          have e73 : V3 0 7 = V 0 7 := hI2.c 7 (by omega)
          have e33 : V3 0 3 = V 0 3 := hI2.c 3 (by omega)
          have r3 : V3 0 2 1 = nI (r + (owC (V 0 7 0) a m (V 0 0 0) j (V 1 j 5) wd (V 0 0 4) (V 1 j 6) ch k).2.1 + (dyP (V 1 j 5) wd L.length)) := by rw [hV3, up3_eq, va_up_self]
          have c3 : V3 0 2 3 = nI L.length := by rw [hV3, up3_eq, va_up_ne _ _ (by decide)]; exact hq.2.2.1
          have p3 : ∀ t, t < L.length → V3 0 13 t = nI (L.getD t 0) := fun t ht => by rw [hV3, up3_ne _ _ _ (fun z => absurd z.2 (by decide))]; exact hq.2.2.2 t ht
          have o3 : V3 1 j 6 = (owC (V 0 7 0) a m (V 0 0 0) j (V 1 j 5) wd (V 0 0 4) (V 1 j 6) ch k).2.2 := by
            rw [hV3, up3_ne _ _ _ (fun z => absurd z.1 (by decide)), hq.1 1 j (fun z => absurd z.1 (by decide))]; exact ho
          refine x_aload_n (pc := 83) O dX7_passOwnStrips_83 rfl rfl ?_
          refine x_iload (pc := 84) O dX7_passOwnStrips_84 rfl ?_
          refine x_iload_n (pc := 86) O dX7_passOwnStrips_86 rfl ?_
          refine x_callV (pc := 87) (rest := []) (ci := 7) O (c_X7_passPicked l E _ V3 VL1 m ns _ a L (dyP (V 1 j 5) wd L.length) j (r + (owC (V 0 7 0) a m (V 0 0 0) j (V 1 j 5) wd (V 0 0 4) (V 1 j 6) ch k).2.1 + (dyP (V 1 j 5) wd L.length)) (by rw [e33]; exact hc) h60 (hI2.ka hka) hsx hfa hkin (by rw [e03]; exact hord) c3 p3 hLl h120 hdl hj r3 (by omega)) dX7_passOwnStrips_87 cbX7_237 im_yX7_passPicked se_yX7_passPicked rfl (cv_recv (t := 0) (n := 7) rfl rfl) rfl rfl (Nat.le_of_ble_eq_true rfl) ⟨Nat.le_of_ble_eq_true rfl, Nat.le_of_ble_eq_true rfl⟩ ⟨by simp only [rmX]; omega, by simp only [rmX]; omega⟩ (fun x => x_pure O (fun hx => ?_))
          dsimp only [Option.toList, List.append, List.nil_append, List.cons_append, Nat.add_zero, Nat.reduceAdd]
          rw [e73, e03] at hx
          have hxc : x.2.2 = (owC (V 0 7 0) a m (V 0 0 0) j (V 1 j 5) wd (V 0 0 4) (V 1 j 6) ch (k + 1)).1 := by
            rw [hx.2.2.2]
            show _ = owS (V 0 7 0) a m (V 0 0 0) j (V 1 j 5) wd (owC (V 0 7 0) a m (V 0 0 0) j (V 1 j 5) wd (V 0 0 4) (V 1 j 6) ch k).1 k
            unfold owS
            dsimp only
            rw [← hLd, if_neg (fun z => absurd hL0 (by rw [z]; decide))]
          have e0x : x.1 0 0 = V 0 0 := by rw [hx.1.c 0 (by omega)]; exact e03
          have o6x : x.1 1 j 6 = (owC (V 0 7 0) a m (V 0 0 0) j (V 1 j 5) wd (V 0 0 4) (V 1 j 6) ch k).2.2 := by rw [hx.1.1 1 j (fun z => absurd z.1 (by decide))]; exact o3
          refine x_aload_n (pc := 90) O dX7_passOwnStrips_90 rfl rfl ?_
          refine x_dup (pc := 91) O dX7_passOwnStrips_91 rfl ?_
          refine cv_get (t := 1) (n := j) (pc := 92) O dX7_passOwnStrips_92 fdX7_123 (okC1 (by omega)) rfl rfl ?_
          rw [o6x]
          refine x_aload_n (pc := 95) O dX7_passOwnStrips_95 rfl rfl ?_
          refine cv_get (t := 0) (n := 7) (pc := 96) O dX7_passOwnStrips_96 fdX7_18 rfl rfl rfl ?_
          refine cv_get (t := 0) (n := 0) (pc := 99) O dX7_passOwnStrips_99 fdX7_240 rfl rfl rfl ?_
          rw [e0x]
          refine x_iadd (pc := 102) O dX7_passOwnStrips_102 ?_
          refine cv_put (t := 1) (n := j) (pc := 103) O dX7_passOwnStrips_103 fpX7_123 rfl rfl (okC1 (by omega)) rfl (Nat.le_of_ble_eq_true rfl) rfl ?_
          refine x_iload_n (pc := 106) O dX7_passOwnStrips_106 rfl ?_
          refine x_iload (pc := 107) O dX7_passOwnStrips_107 rfl ?_
          refine x_iadd (pc := 109) O dX7_passOwnStrips_109 ?_
          rw [nI_add, ← hst]
          refine x_istore_n (pc := 110) O dX7_passOwnStrips_110 (by decide) rfl ?_
          refine x_iinc (v := nI (k + 1)) (pc := 111) O dX7_passOwnStrips_111 rfl (nI_succ k).symm rfl ?_
          refine x_goto (pc := 114) O 5 dX7_passOwnStrips_114 (by decide) ?_
          rw [hxc]
          refine x_lv O [some (.ref (adr 0 7)), some (.int (nI j)), some (.ref (adr 1 j)), some (.int (nI (owC (V 0 7 0) a m (V 0 0 0) j (V 1 j 5) wd (V 0 0 4) (V 1 j 6) ch (k + 1)).2.1)), some (.int (nI (k + 1))), none, none] ⟨rfl, rfl, rfl, rfl, rfl, trivial⟩ ?_
          refine x_widen O (by omega) (by omega) (ih (by omega) _ x.2.1 ((hI2.sq hx.1).o _) ?_ ?_)
          · rw [up3_eq, va_up_self]
            show _ = (if (pkL (pkC (owC (V 0 7 0) a m (V 0 0 0) j (V 1 j 5) wd (V 0 0 4) (V 1 j 6) ch k).1 (nI j) 0) k 12).length = 0 then _ else _)
            rw [← hLd, if_neg (by omega)]
          · rw [up3_ne _ _ _ (fun z => absurd z.1 (by decide)), hx.2.1]
            congr 1; omega
        refine x_aload_n (pc := 37) O dX7_passOwnStrips_37 rfl rfl ?_
        refine cv_get (t := 1) (n := j) (pc := 38) O dX7_passOwnStrips_38 fdX7_86 (okC1 (by omega)) rfl rfl ?_
        rw [e15]
        refine x_iconst (v := (-1)) (pc := 41) O dX7_passOwnStrips_41 (by decide) ?_
        refine x_icmp_ne (pc := 42) O 49 dX7_passOwnStrips_42 (by decide) (fun c42 => ?_) (fun c42 => ?_)
        · refine x_iload (pc := 49) O dX7_passOwnStrips_49 rfl ?_
          refine x_aload_n (pc := 51) O dX7_passOwnStrips_51 rfl rfl ?_
          refine cv_get (t := 0) (n := 7) (pc := 52) O dX7_passOwnStrips_52 fdX7_18 rfl rfl rfl ?_
          refine cv_get (t := 0) (n := 0) (pc := 55) O dX7_passOwnStrips_55 fdX7_234 rfl rfl rfl ?_
          rw [e02, hwd]
          refine x_imul (pc := 58) O dX7_passOwnStrips_58 ?_
          refine x_bipush (v := nI 12) (pc := 59) O dX7_passOwnStrips_59 (by decide) ?_
          refine x_idiv (pc := 61) O dX7_passOwnStrips_61 (by decide) ?_
          rw [pk_mul, pk_div (by have : L.length * wd ≤ 12 * 12 := Nat.mul_le_mul hLl hwd12
                                 omega) (by decide) (by decide)]
          rw [show (dyP (V 1 j 5) wd L.length) = L.length * wd / 12 from if_neg c42] at tail62
          exact tail62
        · refine x_iconst (v := nI 0) (pc := 45) O dX7_passOwnStrips_45 (by decide) ?_
          refine x_goto (pc := 46) O 62 dX7_passOwnStrips_46 (by decide) ?_
          rw [show (dyP (V 1 j 5) wd L.length) = 0 from if_pos c42] at tail62
          exact tail62
  refine x_iconst (v := nI 0) (pc := 0) O dX7_passOwnStrips_0 (by decide) ?_
  refine x_istore_n (pc := 1) O dX7_passOwnStrips_1 (by decide) rfl ?_
  refine x_iconst (v := nI 0) (pc := 2) O dX7_passOwnStrips_2 (by decide) ?_
  refine x_istore (pc := 3) O dX7_passOwnStrips_3 (by decide) rfl ?_
  exact loop 0 (Nat.zero_le _) V VL (S6.rf _ _ _) rfl (by rw [hr]; rfl)
