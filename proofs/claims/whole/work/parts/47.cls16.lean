/-! ===== CLS 16: marry, die, right, holder ===== -/
abbrev cmC (V : Nat → Nat → Nat → Int32) (m : Nat) (p w : Int32) : Prop := lvC V m p ∧ lvC V m w ∧ V 1 p.toNatClampNeg 0 = 0 ∧ V 1 w.toNatClampNeg 0 = 1 ∧ V 1 p.toNatClampNeg 5 = -1 ∧ V 1 w.toNatClampNeg 5 = -1
def cmQ (V : Nat → Nat → Nat → Int32) (a : Ar) (m : Nat) (ch : Nat → List Rt) (p w : Int32) : (Nat → List Rt) × Nat := if cmC V m p w then ((wpC (V 0 7 0) a m (V 0 0 0) w (wpC (V 0 7 0) a m (V 0 0 0) p ch 10).1 10).1, (wpC (V 0 7 0) a m (V 0 0 0) p ch 10).2 + (wpC (V 0 7 0) a m (V 0 0 0) w (wpC (V 0 7 0) a m (V 0 0 0) p ch 10).1 10).2) else (ch, 0)
def cmB (V : Nat → Nat → Nat → Int32) (m : Nat) (p w : Int32) : Nat → Nat → Nat → Int32 := if cmC V m p w then up3 (up3 (up3 V 1 p.toNatClampNeg 5 w) 1 w.toNatClampNeg 5 p) 1 (meT V m w.toNatClampNeg) 6 (V 1 (meT V m w.toNatClampNeg) 6 + V 0 0 6) else V
theorem meT_congr {V V1 : Nat → Nat → Nat → Int32} {m w : Nat} (h : ∀ p f, f ≠ 5 → V1 1 p f = V 1 p f) : meT V1 m w = meT V m w := by
  unfold meT
  simp only [lvC, h _ 1 (by decide), h _ 4 (by decide)]
set_option maxRecDepth 100000 in
set_option maxHeartbeats 400000 in
theorem c_X7_marry (l : Launch) (E : En) (adr : Nat → Nat → Nat) (V : Nat → Nat → Nat → Int32) (VL : Nat → Nat → Nat → Int64) (m ns : Nat) (ch : Nat → List Rt) (a : Ar) (p w : Int32) (r : Nat) (hc : V 0 3 1 = nI m) (h60 : m ≤ 60) (hka : KA V VL a m) (hsx : ∀ c, c < m → a 9 c = 0 ∨ a 9 c = 1) (hfa : ∀ p, p < m → a 10 p = -1 ∨ ∃ f, f < m ∧ a 10 p = nI f) (hkin : kinOk a m) (hord : V 0 0 0 = 0 ∨ V 0 0 0 = 1 ∨ V 0 0 0 = 2) (hw : WOk m ch) (hr : V 0 2 1 = nI r) (hr2 : r + (cmQ V a m ch p w).2 ≤ 61560) : Mt l E yX7_marry cX7_marry 5 (some .boolean) (rmX 66 2072 (cmQ V a m ch p w).2 (4 * (cmQ V a m ch p w).2)) [.ref (adr 0 7), .int p, .int w] (CV E adr V VL m ns ch) (fun _ : (Nat → Nat → Nat → Int32) × (Nat → Nat → Nat → Int64) => some (.int (b2i (cmC V m p w)))) (fun x h9 => (SQ (cmB V m p w) VL x.1 x.2 ∧ x.1 0 2 1 = nI (r + (cmQ V a m ch p w).2)) ∧ CV E adr x.1 x.2 m ns (cmQ V a m ch p w).1 h9) := by
  refine Mt_of (by decide +kernel) (Nat.le_of_ble_eq_true rfl) (fun J O => ?_)
  show J _ 0 0 0 [some (.ref (adr 0 7)), some (.int p), some (.int w), none, none] []
  refine x_aload_n (pc := 0) O dX7_marry_0 rfl rfl ?_
  refine cv_get (t := 0) (n := 7) (pc := 1) O dX7_marry_1 fdX7_28 rfl rfl rfl ?_
  refine x_iload_n (pc := 4) O dX7_marry_4 rfl ?_
  rcases noA_or m V p with ⟨j, hj, rfl, hal⟩ | hna
  · refine x_callV (pc := 5) (rest := []) (ci := 3) O (c_X3_findAlive l E _ _ _ _ _ _ j hc h60 hj hal) dX7_marry_5 cbX7_79 im_yX3_findAlive se_yX3_findAlive rfl (cv_recv (t := 0) (n := 3) rfl rfl) rfl rfl (Nat.le_of_ble_eq_true rfl) ⟨Nat.le_of_ble_eq_true rfl, Nat.le_of_ble_eq_true rfl⟩ ⟨by simp only [rmX]; omega, by simp only [rmX]; omega⟩ (fun _ => ?_)
    dsimp only [Option.toList, List.append, List.nil_append, List.cons_append, Nat.add_zero, Nat.reduceAdd]
    refine x_astore_n (pc := 8) O dX7_marry_8 (by decide) rfl rfl ?_
    refine x_aload_n (pc := 9) O dX7_marry_9 rfl rfl ?_
    refine cv_get (t := 0) (n := 7) (pc := 10) O dX7_marry_10 fdX7_28 rfl rfl rfl ?_
    refine x_iload_n (pc := 13) O dX7_marry_13 rfl ?_
    rcases noA_or m V w with ⟨u, hu, rfl, hau⟩ | hnw
    · refine x_callV (pc := 14) (rest := []) (ci := 3) O (c_X3_findAlive l E _ _ _ _ _ _ u hc h60 hu hau) dX7_marry_14 cbX7_79 im_yX3_findAlive se_yX3_findAlive rfl (cv_recv (t := 0) (n := 3) rfl rfl) rfl rfl (Nat.le_of_ble_eq_true rfl) ⟨Nat.le_of_ble_eq_true rfl, Nat.le_of_ble_eq_true rfl⟩ ⟨by simp only [rmX]; omega, by simp only [rmX]; omega⟩ (fun _ => ?_)
      dsimp only [Option.toList, List.append, List.nil_append, List.cons_append, Nat.add_zero, Nat.reduceAdd]
      refine x_astore (pc := 17) O dX7_marry_17 (by decide) rfl rfl ?_
      refine x_aload_n (pc := 19) O dX7_marry_19 rfl rfl ?_
      refine x_ifnull (pc := 20) O dX7_marry_20 ?_
      refine x_aload (pc := 23) O dX7_marry_23 rfl rfl ?_
      refine x_ifnull (pc := 25) O dX7_marry_25 ?_
      refine x_aload_n (pc := 28) O dX7_marry_28 rfl rfl ?_
      refine cv_get (t := 1) (n := j) (pc := 29) O dX7_marry_29 fdX7_83 (okC1 (by omega)) rfl rfl ?_
      refine x_if_ne (pc := 32) O 44 dX7_marry_32 (by decide) (fun c32 => ?_) (fun c32 => ?_)
      · refine x_iconst (v := 0) (pc := 44) O dX7_marry_44 (by decide) ?_
        have hc9 : ¬ (cmC V m (nI j) (nI u)) := fun z => c32 (by have := z.2.2.1; rw [cl_ok h60 hj] at this; exact this)
        have eQ : (cmQ V a m ch (nI j) (nI u)) = (ch, 0) := if_neg hc9
        have eB : cmB V m (nI j) (nI u) = V := if_neg hc9
        exact x_ret (v := some (.int _)) (pc := 45) O dX7_marry_45 rfl rfl ⟨by simp only [rmX]; omega, by simp only [rmX]; omega, (V, VL), congrArg (fun z => some (Value.int z)) (b2i_f hc9).symm, fun h hh => ⟨⟨by rw [eB]; exact SQ.rf _ _, by rw [eQ]; exact hr⟩, by rw [eQ]; exact hh⟩⟩
      · refine x_aload (pc := 35) O dX7_marry_35 rfl rfl ?_
        refine cv_get (t := 1) (n := u) (pc := 37) O dX7_marry_37 fdX7_83 (okC1 (by omega)) rfl rfl ?_
        refine x_iconst (v := 1) (pc := 40) O dX7_marry_40 (by decide) ?_
        refine x_icmp_eq (pc := 41) O 46 dX7_marry_41 (by decide) (fun c41 => ?_) (fun c41 => ?_)
        · refine x_aload_n (pc := 46) O dX7_marry_46 rfl rfl ?_
          refine cv_get (t := 1) (n := j) (pc := 47) O dX7_marry_47 fdX7_86 (okC1 (by omega)) rfl rfl ?_
          refine x_iconst (v := (-1)) (pc := 50) O dX7_marry_50 (by decide) ?_
          refine x_icmp_ne (pc := 51) O 63 dX7_marry_51 (by decide) (fun c51 => ?_) (fun c51 => ?_)
          · refine x_iconst (v := 0) (pc := 63) O dX7_marry_63 (by decide) ?_
            have hc9 : ¬ (cmC V m (nI j) (nI u)) := fun z => c51 (by have := z.2.2.2.2.1; rw [cl_ok h60 hj] at this; exact this)
            have eQ : (cmQ V a m ch (nI j) (nI u)) = (ch, 0) := if_neg hc9
            have eB : cmB V m (nI j) (nI u) = V := if_neg hc9
            exact x_ret (v := some (.int _)) (pc := 64) O dX7_marry_64 rfl rfl ⟨by simp only [rmX]; omega, by simp only [rmX]; omega, (V, VL), congrArg (fun z => some (Value.int z)) (b2i_f hc9).symm, fun h hh => ⟨⟨by rw [eB]; exact SQ.rf _ _, by rw [eQ]; exact hr⟩, by rw [eQ]; exact hh⟩⟩
          · refine x_aload (pc := 54) O dX7_marry_54 rfl rfl ?_
            refine cv_get (t := 1) (n := u) (pc := 56) O dX7_marry_56 fdX7_86 (okC1 (by omega)) rfl rfl ?_
            refine x_iconst (v := (-1)) (pc := 59) O dX7_marry_59 (by decide) ?_
            refine x_icmp_eq (pc := 60) O 65 dX7_marry_60 (by decide) (fun c60 => ?_) (fun c60 => ?_)
            · have hcm : cmC V m (nI j) (nI u) := ⟨lv_ok h60 hj hal, lv_ok h60 hu hau, by rw [cl_ok h60 hj]; exact c32, by rw [cl_ok h60 hu]; exact c41, by rw [cl_ok h60 hj]; exact c51, by rw [cl_ok h60 hu]; exact c60⟩
              have eQ : cmQ V a m ch (nI j) (nI u) = ((wpC (V 0 7 0) a m (V 0 0 0) (nI u) (wpC (V 0 7 0) a m (V 0 0 0) (nI j) ch 10).1 10).1, (wpC (V 0 7 0) a m (V 0 0 0) (nI j) ch 10).2 + (wpC (V 0 7 0) a m (V 0 0 0) (nI u) (wpC (V 0 7 0) a m (V 0 0 0) (nI j) ch 10).1 10).2) := if_pos hcm
              have eB : cmB V m (nI j) (nI u) = up3 (up3 (up3 V 1 j 5 (nI u)) 1 u 5 (nI j)) 1 (meT V m u) 6 (V 1 (meT V m u) 6 + V 0 0 6) := by
                unfold cmB
                rw [if_pos hcm, cl_ok h60 hj, cl_ok h60 hu]
              have eQ1 : (cmQ V a m ch (nI j) (nI u)).1 = (wpC (V 0 7 0) a m (V 0 0 0) (nI u) (wpC (V 0 7 0) a m (V 0 0 0) (nI j) ch 10).1 10).1 := by rw [eQ]
              have eN : (cmQ V a m ch (nI j) (nI u)).2 = (wpC (V 0 7 0) a m (V 0 0 0) (nI j) ch 10).2 + (wpC (V 0 7 0) a m (V 0 0 0) (nI u) (wpC (V 0 7 0) a m (V 0 0 0) (nI j) ch 10).1 10).2 := by rw [eQ]
              refine x_aload_n (pc := 65) O dX7_marry_65 rfl rfl ?_
              refine x_iload_n (pc := 66) O dX7_marry_66 rfl ?_
              refine x_callV (pc := 67) (rest := []) (ci := 7) O (c_X7_passWidowsParts l E _ _ _ _ _ _ a (nI j) r hc h60 hka hsx hfa hkin hord hw hr (by omega)) dX7_marry_67 cbX7_89 im_yX7_passWidowsParts se_yX7_passWidowsParts rfl (cv_recv (t := 0) (n := 7) rfl rfl) rfl rfl (Nat.le_of_ble_eq_true rfl) ⟨Nat.le_of_ble_eq_true rfl, Nat.le_of_ble_eq_true rfl⟩ ⟨by simp only [rmX]; omega, by simp only [rmX]; omega⟩ (fun x => x_pure O (fun hx => ?_))
              dsimp only [Option.toList, List.append, List.nil_append, List.cons_append, Nat.add_zero, Nat.reduceAdd]
              refine x_pop (pc := 70) O dX7_marry_70 rfl ?_
              refine x_aload_n (pc := 71) O dX7_marry_71 rfl rfl ?_
              refine x_iload_n (pc := 72) O dX7_marry_72 rfl ?_
              have e0x := hx.1.c 0 (by omega)
              have e7x := hx.1.c 7 (by omega)
              have e3x := hx.1.c 3 (by omega)
              refine x_callV (pc := 73) (rest := []) (ci := 7) O (c_X7_passWidowsParts l E _ x.1 x.2 m ns _ a (nI u) (r + (wpC (V 0 7 0) a m (V 0 0 0) (nI j) ch 10).2) (by rw [e3x]; exact hc) h60 (hx.1.ka hka) hsx hfa hkin (by rw [e0x]; exact hord) (wpC_ok hw 10) hx.2 (by rw [e0x, e7x]; omega)) dX7_marry_73 cbX7_89 im_yX7_passWidowsParts se_yX7_passWidowsParts rfl (cv_recv (t := 0) (n := 7) rfl rfl) rfl rfl (Nat.le_of_ble_eq_true rfl) ⟨Nat.le_of_ble_eq_true rfl, Nat.le_of_ble_eq_true rfl⟩ ⟨by rw [e0x, e7x]; simp only [rmX]; omega, by rw [e0x, e7x]; simp only [rmX]; omega⟩ (fun y => x_pure O (fun hy => ?_))
              dsimp only [Option.toList, List.append, List.nil_append, List.cons_append, Nat.add_zero, Nat.reduceAdd]
              rw [e0x, e7x] at hy ⊢
              refine x_pop (pc := 76) O dX7_marry_76 rfl ?_
              refine x_aload_n (pc := 77) O dX7_marry_77 rfl rfl ?_
              refine x_iload_n (pc := 78) O dX7_marry_78 rfl ?_
              refine cv_put (t := 1) (n := j) (pc := 79) O dX7_marry_79 fpX7_86 rfl rfl (okC1 (by omega)) rfl (Nat.le_of_ble_eq_true rfl) rfl ?_
              refine x_aload (pc := 82) O dX7_marry_82 rfl rfl ?_
              refine x_iload_n (pc := 84) O dX7_marry_84 rfl ?_
              refine cv_put (t := 1) (n := u) (pc := 85) O dX7_marry_85 fpX7_86 rfl rfl (okC1 (by omega)) rfl (Nat.le_of_ble_eq_true rfl) rfl ?_
              refine x_aload_n (pc := 88) O dX7_marry_88 rfl rfl ?_
              refine x_aload (pc := 89) O dX7_marry_89 rfl rfl ?_
              refine x_callV (pc := 91) (rest := []) (ci := 7) O (c_X7_oweMerchet l E _ _ _ _ _ _ u (by rw [up3_ne _ _ _ (fun z => absurd z.1 (by decide)), up3_ne _ _ _ (fun z => absurd z.1 (by decide)), hy.1.c 3 (by omega), e3x]; exact hc) h60 hu) dX7_marry_91 cbX7_93 im_yX7_oweMerchet se_yX7_oweMerchet rfl (cv_recv (t := 0) (n := 7) rfl rfl) rfl rfl (Nat.le_of_ble_eq_true rfl) ⟨Nat.le_of_ble_eq_true rfl, Nat.le_of_ble_eq_true rfl⟩ ⟨by simp only [rmX]; omega, by simp only [rmX]; omega⟩ (fun _ => ?_)
              dsimp only [Option.toList, List.append, List.nil_append, List.cons_append, Nat.add_zero, Nat.reduceAdd]
              refine x_iconst (v := 1) (pc := 94) O dX7_marry_94 (by decide) ?_
              refine x_ret (v := some (.int _)) (pc := 95) O dX7_marry_95 rfl rfl ⟨by simp only [rmX]; omega, by simp only [rmX]; omega, ((up3 (up3 (up3 y.1 1 j 5 (nI u)) 1 u 5 (nI j)) 1 (meT (up3 (up3 y.1 1 j 5 (nI u)) 1 u 5 (nI j)) m u) 6 ((up3 (up3 y.1 1 j 5 (nI u)) 1 u 5 (nI j)) 1 (meT (up3 (up3 y.1 1 j 5 (nI u)) 1 u 5 (nI j)) m u) 6 + (up3 (up3 y.1 1 j 5 (nI u)) 1 u 5 (nI j)) 0 0 6)), y.2), congrArg (fun z => some (Value.int z)) (b2i_t hcm).symm, fun h hh => ⟨⟨?_, ?_⟩, ?_⟩⟩
              · rw [eB]
                have hS := hx.1.tr hy.1
                have e6 : ∀ t, up3 (up3 y.1 1 j 5 (nI u)) 1 u 5 (nI j) 1 t 6 = V 1 t 6 := fun t => by
                  have q : ∀ (W : Nat → Nat → Nat → Int32) (k : Nat) (v : Int32), up3 W 1 k 5 v 1 t 6 = W 1 t 6 := fun W k v => by
                    by_cases c : t = k
                    · subst c; rw [up3_eq, va_up_ne _ _ (by decide)]
                    · rw [up3_ne _ _ _ (fun z => c z.2)]
                  rw [q, q, hS.1 1 t (fun z => absurd z.1 (by decide))]
                have e0 : up3 (up3 y.1 1 j 5 (nI u)) 1 u 5 (nI j) 0 0 6 = V 0 0 6 := by
                  rw [up3_ne _ _ _ (fun z => absurd z.1 (by decide)), up3_ne _ _ _ (fun z => absurd z.1 (by decide)), hS.1 0 0 (fun z => by omega)]
                have eT : meT (up3 (up3 y.1 1 j 5 (nI u)) 1 u 5 (nI j)) m u = meT V m u := meT_congr (fun t f hf => by
                  have q : ∀ (W : Nat → Nat → Nat → Int32) (k : Nat) (v : Int32), up3 W 1 k 5 v 1 t f = W 1 t f := fun W k v => by
                    by_cases c : t = k
                    · subst c; rw [up3_eq, va_up_ne _ _ hf]
                    · rw [up3_ne _ _ _ (fun z => c z.2)]
                  rw [q, q, hS.1 1 t (fun z => absurd z.1 (by decide))])
                show SQ _ VL (up3 (up3 (up3 y.1 1 j 5 (nI u)) 1 u 5 (nI j)) 1 (meT (up3 (up3 y.1 1 j 5 (nI u)) 1 u 5 (nI j)) m u) 6 _) y.2
                rw [eT, e6, e0]
                exact ((hS.u 5 _ (by decide)).u 5 _ (by decide)).u 6 _ (by decide)
              · rw [eN]
                show (up3 (up3 (up3 y.1 1 j 5 (nI u)) 1 u 5 (nI j)) 1 (meT (up3 (up3 y.1 1 j 5 (nI u)) 1 u 5 (nI j)) m u) 6 ((up3 (up3 y.1 1 j 5 (nI u)) 1 u 5 (nI j)) 1 (meT (up3 (up3 y.1 1 j 5 (nI u)) 1 u 5 (nI j)) m u) 6 + (up3 (up3 y.1 1 j 5 (nI u)) 1 u 5 (nI j)) 0 0 6)) 0 2 1 = _
                rw [up3_ne _ _ _ (fun z => absurd z.1 (by decide)), up3_ne _ _ _ (fun z => absurd z.1 (by decide)), up3_ne _ _ _ (fun z => absurd z.1 (by decide)), hy.2]
                rw [Nat.add_assoc]
              · show CV E adr (up3 (up3 (up3 y.1 1 j 5 (nI u)) 1 u 5 (nI j)) 1 (meT (up3 (up3 y.1 1 j 5 (nI u)) 1 u 5 (nI j)) m u) 6 ((up3 (up3 y.1 1 j 5 (nI u)) 1 u 5 (nI j)) 1 (meT (up3 (up3 y.1 1 j 5 (nI u)) 1 u 5 (nI j)) m u) 6 + (up3 (up3 y.1 1 j 5 (nI u)) 1 u 5 (nI j)) 0 0 6)) y.2 m ns (cmQ V a m ch (nI j) (nI u)).1 h
                rw [eQ1]
                exact hh
            · refine x_iconst (v := 0) (pc := 63) O dX7_marry_63 (by decide) ?_
              have hc9 : ¬ (cmC V m (nI j) (nI u)) := fun z => c60 (by have := z.2.2.2.2.2; rw [cl_ok h60 hu] at this; exact this)
              have eQ : (cmQ V a m ch (nI j) (nI u)) = (ch, 0) := if_neg hc9
              have eB : cmB V m (nI j) (nI u) = V := if_neg hc9
              exact x_ret (v := some (.int _)) (pc := 64) O dX7_marry_64 rfl rfl ⟨by simp only [rmX]; omega, by simp only [rmX]; omega, (V, VL), congrArg (fun z => some (Value.int z)) (b2i_f hc9).symm, fun h hh => ⟨⟨by rw [eB]; exact SQ.rf _ _, by rw [eQ]; exact hr⟩, by rw [eQ]; exact hh⟩⟩
        · refine x_iconst (v := 0) (pc := 44) O dX7_marry_44 (by decide) ?_
          have hc9 : ¬ (cmC V m (nI j) (nI u)) := fun z => c41 (by have := z.2.2.2.1; rw [cl_ok h60 hu] at this; exact this)
          have eQ : (cmQ V a m ch (nI j) (nI u)) = (ch, 0) := if_neg hc9
          have eB : cmB V m (nI j) (nI u) = V := if_neg hc9
          exact x_ret (v := some (.int _)) (pc := 45) O dX7_marry_45 rfl rfl ⟨by simp only [rmX]; omega, by simp only [rmX]; omega, (V, VL), congrArg (fun z => some (Value.int z)) (b2i_f hc9).symm, fun h hh => ⟨⟨by rw [eB]; exact SQ.rf _ _, by rw [eQ]; exact hr⟩, by rw [eQ]; exact hh⟩⟩
    · refine x_callV (pc := 14) (rest := []) (ci := 3) O (c_X3_findAlive_no l E _ _ _ _ _ _ _ hc h60 hnw) dX7_marry_14 cbX7_79 im_yX3_findAlive se_yX3_findAlive rfl (cv_recv (t := 0) (n := 3) rfl rfl) rfl rfl (Nat.le_of_ble_eq_true rfl) ⟨Nat.le_of_ble_eq_true rfl, Nat.le_of_ble_eq_true rfl⟩ ⟨by simp only [rmX]; omega, by simp only [rmX]; omega⟩ (fun _ => ?_)
      dsimp only [Option.toList, List.append, List.nil_append, List.cons_append, Nat.add_zero, Nat.reduceAdd]
      refine x_astore (pc := 17) O dX7_marry_17 (by decide) rfl rfl ?_
      refine x_aload_n (pc := 19) O dX7_marry_19 rfl rfl ?_
      refine x_ifnull (pc := 20) O dX7_marry_20 ?_
      refine x_aload (pc := 23) O dX7_marry_23 rfl rfl ?_
      refine x_ifnullN (pc := 25) O 44 dX7_marry_25 (by decide) ?_
      refine x_iconst (v := 0) (pc := 44) O dX7_marry_44 (by decide) ?_
      have hc9 : ¬ (cmC V m (nI j) w) := fun z => lv_no h60 hnw z.2.1
      have eQ : (cmQ V a m ch (nI j) w) = (ch, 0) := if_neg hc9
      have eB : cmB V m (nI j) w = V := if_neg hc9
      exact x_ret (v := some (.int _)) (pc := 45) O dX7_marry_45 rfl rfl ⟨by simp only [rmX]; omega, by simp only [rmX]; omega, (V, VL), congrArg (fun z => some (Value.int z)) (b2i_f hc9).symm, fun h hh => ⟨⟨by rw [eB]; exact SQ.rf _ _, by rw [eQ]; exact hr⟩, by rw [eQ]; exact hh⟩⟩
  · refine x_callV (pc := 5) (rest := []) (ci := 3) O (c_X3_findAlive_no l E _ _ _ _ _ _ _ hc h60 hna) dX7_marry_5 cbX7_79 im_yX3_findAlive se_yX3_findAlive rfl (cv_recv (t := 0) (n := 3) rfl rfl) rfl rfl (Nat.le_of_ble_eq_true rfl) ⟨Nat.le_of_ble_eq_true rfl, Nat.le_of_ble_eq_true rfl⟩ ⟨by simp only [rmX]; omega, by simp only [rmX]; omega⟩ (fun _ => ?_)
    dsimp only [Option.toList, List.append, List.nil_append, List.cons_append, Nat.add_zero, Nat.reduceAdd]
    refine x_astore_n (pc := 8) O dX7_marry_8 (by decide) rfl rfl ?_
    refine x_aload_n (pc := 9) O dX7_marry_9 rfl rfl ?_
    refine cv_get (t := 0) (n := 7) (pc := 10) O dX7_marry_10 fdX7_28 rfl rfl rfl ?_
    refine x_iload_n (pc := 13) O dX7_marry_13 rfl ?_
    rcases noA_or m V w with ⟨u, hu, rfl, hau⟩ | hnw
    · refine x_callV (pc := 14) (rest := []) (ci := 3) O (c_X3_findAlive l E _ _ _ _ _ _ u hc h60 hu hau) dX7_marry_14 cbX7_79 im_yX3_findAlive se_yX3_findAlive rfl (cv_recv (t := 0) (n := 3) rfl rfl) rfl rfl (Nat.le_of_ble_eq_true rfl) ⟨Nat.le_of_ble_eq_true rfl, Nat.le_of_ble_eq_true rfl⟩ ⟨by simp only [rmX]; omega, by simp only [rmX]; omega⟩ (fun _ => ?_)
      dsimp only [Option.toList, List.append, List.nil_append, List.cons_append, Nat.add_zero, Nat.reduceAdd]
      refine x_astore (pc := 17) O dX7_marry_17 (by decide) rfl rfl ?_
      refine x_aload_n (pc := 19) O dX7_marry_19 rfl rfl ?_
      refine x_ifnullN (pc := 20) O 44 dX7_marry_20 (by decide) ?_
      refine x_iconst (v := 0) (pc := 44) O dX7_marry_44 (by decide) ?_
      have hc9 : ¬ (cmC V m p (nI u)) := fun z => lv_no h60 hna z.1
      have eQ : (cmQ V a m ch p (nI u)) = (ch, 0) := if_neg hc9
      have eB : cmB V m p (nI u) = V := if_neg hc9
      exact x_ret (v := some (.int _)) (pc := 45) O dX7_marry_45 rfl rfl ⟨by simp only [rmX]; omega, by simp only [rmX]; omega, (V, VL), congrArg (fun z => some (Value.int z)) (b2i_f hc9).symm, fun h hh => ⟨⟨by rw [eB]; exact SQ.rf _ _, by rw [eQ]; exact hr⟩, by rw [eQ]; exact hh⟩⟩
    · refine x_callV (pc := 14) (rest := []) (ci := 3) O (c_X3_findAlive_no l E _ _ _ _ _ _ _ hc h60 hnw) dX7_marry_14 cbX7_79 im_yX3_findAlive se_yX3_findAlive rfl (cv_recv (t := 0) (n := 3) rfl rfl) rfl rfl (Nat.le_of_ble_eq_true rfl) ⟨Nat.le_of_ble_eq_true rfl, Nat.le_of_ble_eq_true rfl⟩ ⟨by simp only [rmX]; omega, by simp only [rmX]; omega⟩ (fun _ => ?_)
      dsimp only [Option.toList, List.append, List.nil_append, List.cons_append, Nat.add_zero, Nat.reduceAdd]
      refine x_astore (pc := 17) O dX7_marry_17 (by decide) rfl rfl ?_
      refine x_aload_n (pc := 19) O dX7_marry_19 rfl rfl ?_
      refine x_ifnullN (pc := 20) O 44 dX7_marry_20 (by decide) ?_
      refine x_iconst (v := 0) (pc := 44) O dX7_marry_44 (by decide) ?_
      have hc9 : ¬ (cmC V m p w) := fun z => lv_no h60 hna z.1
      have eQ : (cmQ V a m ch p w) = (ch, 0) := if_neg hc9
      have eB : cmB V m p w = V := if_neg hc9
      exact x_ret (v := some (.int _)) (pc := 45) O dX7_marry_45 rfl rfl ⟨by simp only [rmX]; omega, by simp only [rmX]; omega, (V, VL), congrArg (fun z => some (Value.int z)) (b2i_f hc9).symm, fun h hh => ⟨⟨by rw [eB]; exact SQ.rf _ _, by rw [eQ]; exact hr⟩, by rw [eQ]; exact hh⟩⟩
def cdOw (V : Nat → Nat → Nat → Int32) (a : Ar) (m wd : Nat) (ch : Nat → List Rt) (j : Nat) : (Nat → List Rt) × Nat × Int32 := (owC (V 0 7 0) (up2 a 20 j 0) m (V 0 0 0) j (V 1 j 5) wd (V 0 0 4) (V 1 j 6) ch 10)
def cdWp (V : Nat → Nat → Nat → Int32) (a : Ar) (m wd : Nat) (ch : Nat → List Rt) (j : Nat) : (Nat → List Rt) × Nat := (wpC (V 0 7 0) (up2 a 20 j 0) m (V 0 0 0) (nI j) (cdOw V a m wd ch j).1 10)
def cdQ (V : Nat → Nat → Nat → Int32) (a : Ar) (m wd : Nat) (ch : Nat → List Rt) (p : Int32) : (Nat → List Rt) × Nat := if lvC V m p then ((cdWp V a m wd ch p.toNatClampNeg).1, (cdOw V a m wd ch p.toNatClampNeg).2.1 + (cdWp V a m wd ch p.toNatClampNeg).2) else (ch, 0)
def cdB (V : Nat → Nat → Nat → Int32) (a : Ar) (m wd : Nat) (ch : Nat → List Rt) (p : Int32) : Nat → Nat → Nat → Int32 := if lvC V m p then
    (let j := p.toNatClampNeg
     let b := up3 (up3 V 1 j 4 0) 1 j 6 (cdOw V a m wd ch j).2.2
     up3 (if V 1 j 5 = -1 then b else up3 b 1 (V 1 j 5).toNatClampNeg 5 (-1)) 1 j 5 (-1)) else V
theorem KA_die {V : Nat → Nat → Nat → Int32} {VL : Nat → Nat → Nat → Int64} {a : Ar} {m j : Nat} (h : KA V VL a m) : KA (up3 V 1 j 4 0) VL (up2 a 20 j 0) m := by
  obtain ⟨h1, h2, h3⟩ := h
  have q : ∀ k, k ≠ 20 → (up2 a 20 j 0) k = a k := fun k hk => up2_ne _ _ _ hk
  have c : ∀ x y, chd (up2 a 20 j 0) x y ↔ chd a x y := fun x y => by unfold chd; rw [q 10 (by decide), q 11 (by decide)]
  refine ⟨fun p hp => ?_, fun p x hp => ?_, fun p x hp => ?_⟩
  · obtain ⟨g1, g2, g3, g4⟩ := h1 p hp
    have e : ∀ f, f ≠ 4 → up3 V 1 j 4 0 1 p f = V 1 p f := fun f hf => by
      by_cases z : p = j
      · subst z; rw [up3_eq, va_up_ne _ _ hf]
      · rw [up3_ne _ _ _ (fun y => z y.2)]
    refine ⟨by rw [q 9 (by decide), e 0 (by decide)]; exact g1, by rw [q 10 (by decide), e 1 (by decide)]; exact g2, by rw [q 11 (by decide), e 2 (by decide)]; exact g3, ?_⟩
    rw [up2_eq]
    by_cases z : p = j
    · subst z; rw [up3_eq, va_up_self, upd_eq]
    · rw [up3_ne _ _ _ (fun y => z y.2), upd_ne _ _ z]; exact g4
  · rw [q 9 (by decide), c]; exact h2 p x hp
  · rw [q 9 (by decide), c]; exact h3 p x hp
theorem S6.to {j : Nat} {V V1 : Nat → Nat → Nat → Int32} {VL VL1 : Nat → Nat → Nat → Int64} (h : S6 j V VL V1 VL1) {v : Int32} (hv : V1 1 j 6 = v) : SQ (up3 V 1 j 6 v) VL V1 VL1 := ⟨fun t k hk => by
    funext f
    by_cases c : t = 1 ∧ k = j
    · obtain ⟨rfl, rfl⟩ := c
      rw [up3_eq]
      by_cases e : f = 6
      · subst e; rw [va_up_self]; exact hv
      · rw [va_up_ne _ _ e]; exact h.1 _ _ f hk (fun z => e z.2.2)
    · rw [up3_ne _ _ _ c]; exact h.1 t k f hk (fun z => c ⟨z.1, z.2.1⟩), h.2⟩
set_option maxRecDepth 100000 in
set_option maxHeartbeats 400000 in
theorem c_X7_die (l : Launch) (E : En) (adr : Nat → Nat → Nat) (V : Nat → Nat → Nat → Int32) (VL : Nat → Nat → Nat → Int64) (m ns : Nat) (ch : Nat → List Rt) (a : Ar) (p : Int32) (r wd : Nat) (hc : V 0 3 1 = nI m) (h60 : m ≤ 60) (hka : KA V VL a m) (hsx : ∀ c, c < m → a 9 c = 0 ∨ a 9 c = 1) (hfa : ∀ p, p < m → a 10 p = -1 ∨ ∃ f, f < m ∧ a 10 p = nI f) (hkin : kinOk a m) (hord : V 0 0 0 = 0 ∨ V 0 0 0 = 1 ∨ V 0 0 0 = 2) (hw2 : ∀ j, j < m → WOk m (cdOw V a m wd ch j).1) (hsp : ∀ p, p < m → V 1 p 5 = -1 ∨ ∃ u, u < m ∧ V 1 p 5 = nI u) (hwd : V 0 0 1 = nI wd) (hwd12 : wd ≤ 12) (hr : V 0 2 1 = nI r) (hr2 : r + (cdQ V a m wd ch p).2 ≤ 61560) : Mt l E yX7_die cX7_die 5 (some .int) (rmX 66 2075 (cdQ V a m wd ch p).2 (4 * (cdQ V a m wd ch p).2)) [.ref (adr 0 7), .int p] (CV E adr V VL m ns ch) (fun _ : (Nat → Nat → Nat → Int32) × (Nat → Nat → Nat → Int64) => some (.int (if lvC V m p then nI (cdQ V a m wd ch p).2 else -1))) (fun x h9 => (SQ (cdB V a m wd ch p) VL x.1 x.2 ∧ x.1 0 2 1 = nI (r + (cdQ V a m wd ch p).2)) ∧ CV E adr x.1 x.2 m ns (cdQ V a m wd ch p).1 h9) := by
  refine Mt_of (by decide +kernel) (Nat.le_of_ble_eq_true rfl) (fun J O => ?_)
  show J _ 0 0 0 [some (.ref (adr 0 7)), some (.int p), none, none, none] []
  refine x_aload_n (pc := 0) O dX7_die_0 rfl rfl ?_
  refine cv_get (t := 0) (n := 7) (pc := 1) O dX7_die_1 fdX7_28 rfl rfl rfl ?_
  refine x_iload_n (pc := 4) O dX7_die_4 rfl ?_
  rcases noA_or m V p with ⟨j, hj, rfl, hal⟩ | hna
  · refine x_callV (pc := 5) (rest := []) (ci := 3) O (c_X3_findAlive l E _ _ _ _ _ _ j hc h60 hj hal) dX7_die_5 cbX7_79 im_yX3_findAlive se_yX3_findAlive rfl (cv_recv (t := 0) (n := 3) rfl rfl) rfl rfl (Nat.le_of_ble_eq_true rfl) ⟨Nat.le_of_ble_eq_true rfl, Nat.le_of_ble_eq_true rfl⟩ ⟨by simp only [rmX]; omega, by simp only [rmX]; omega⟩ (fun _ => ?_)
    dsimp only [Option.toList, List.append, List.nil_append, List.cons_append, Nat.add_zero, Nat.reduceAdd]
    refine x_astore_n (pc := 8) O dX7_die_8 (by decide) rfl rfl ?_
    refine x_aload_n (pc := 9) O dX7_die_9 rfl rfl ?_
    refine x_ifnonnull (pc := 10) O 15 dX7_die_10 (by decide) ?_
    refine x_aload_n (pc := 15) O dX7_die_15 rfl rfl ?_
    refine x_iconst (v := 0) (pc := 16) O dX7_die_16 (by decide) ?_
    refine cv_put (t := 1) (n := j) (pc := 17) O dX7_die_17 fpX7_97 rfl rfl (okC1 (by omega)) rfl (Nat.le_of_ble_eq_true rfl) rfl ?_
    have hlv := lv_ok h60 hj hal
    have eQ : cdQ V a m wd ch (nI j) = ((cdWp V a m wd ch j).1, (cdOw V a m wd ch j).2.1 + (cdWp V a m wd ch j).2) := by
      unfold cdQ
      rw [if_pos hlv, cl_ok h60 hj]
    have eQ1 : (cdQ V a m wd ch (nI j)).1 = (cdWp V a m wd ch j).1 := by rw [eQ]
    have eN : (cdQ V a m wd ch (nI j)).2 = (cdOw V a m wd ch j).2.1 + (cdWp V a m wd ch j).2 := by rw [eQ]
    have q0 : ∀ k, (up3 V 1 j 4 0) 0 k = V 0 k := fun k => up3_ne _ _ _ (fun z => absurd z.1 (by decide))
    have q5 : (up3 V 1 j 4 0) 1 j 5 = V 1 j 5 := by rw [up3_eq, va_up_ne _ _ (by decide)]
    have q6 : (up3 V 1 j 4 0) 1 j 6 = V 1 j 6 := by rw [up3_eq, va_up_ne _ _ (by decide)]
    have qa : ∀ k, k ≠ 20 → (up2 a 20 j 0) k = a k := fun k hk => up2_ne _ _ _ hk
    have hka1 : KA (up3 V 1 j 4 0) VL (up2 a 20 j 0) m := KA_die hka
    have hsx1 : ∀ c, c < m → (up2 a 20 j 0) 9 c = 0 ∨ (up2 a 20 j 0) 9 c = 1 := fun c hc9 => by rw [qa 9 (by decide)]; exact hsx c hc9
    have hfa1 : ∀ p, p < m → (up2 a 20 j 0) 10 p = -1 ∨ ∃ f, f < m ∧ (up2 a 20 j 0) 10 p = nI f := fun c hc9 => by rw [qa 10 (by decide)]; exact hfa c hc9
    have hkin1 : kinOk (up2 a 20 j 0) m := fun c e hc9 he9 hch => hkin c e hc9 he9 (by unfold chd at hch; rw [qa 10 (by decide), qa 11 (by decide)] at hch; exact hch)
    have eOw : owC ((up3 V 1 j 4 0) 0 7 0) (up2 a 20 j 0) m ((up3 V 1 j 4 0) 0 0 0) j ((up3 V 1 j 4 0) 1 j 5) wd ((up3 V 1 j 4 0) 0 0 4) ((up3 V 1 j 4 0) 1 j 6) ch 10 = cdOw V a m wd ch j := by rw [q0, q0, q5, q6]; rfl
    refine x_aload_n (pc := 20) O dX7_die_20 rfl rfl ?_
    refine x_iload_n (pc := 21) O dX7_die_21 rfl ?_
    refine x_aload_n (pc := 22) O dX7_die_22 rfl rfl ?_
    refine x_callV (pc := 23) (rest := []) (ci := 7) O (c_X7_passOwnStrips l E _ (up3 V 1 j 4 0) VL m ns ch (up2 a 20 j 0) j r wd (by rw [q0]; exact hc) h60 hka1 hsx1 hfa1 hkin1 (by rw [q0]; exact hord) hj (by rw [q0]; exact hwd) hwd12 (by rw [q0]; exact hr) (by rw [eOw]; omega)) dX7_die_23 cbX7_101 im_yX7_passOwnStrips se_yX7_passOwnStrips rfl (cv_recv (t := 0) (n := 7) rfl rfl) rfl rfl (Nat.le_of_ble_eq_true rfl) ⟨Nat.le_of_ble_eq_true rfl, Nat.le_of_ble_eq_true rfl⟩ ⟨by rw [eOw]; simp only [rmX]; omega, by rw [eOw]; simp only [rmX]; omega⟩ (fun x => x_pure O (fun hx => ?_))
    dsimp only [Option.toList, List.append, List.nil_append, List.cons_append, Nat.add_zero, Nat.reduceAdd]
    rw [eOw] at hx ⊢
    have e0x : x.1 0 0 = V 0 0 := by rw [hx.1.c 0 (by omega)]; exact q0 0
    have e7x : x.1 0 7 = V 0 7 := by rw [hx.1.c 7 (by omega)]; exact q0 7
    have e3x : x.1 0 3 = V 0 3 := by rw [hx.1.c 3 (by omega)]; exact q0 3
    have eWp : wpC (x.1 0 7 0) (up2 a 20 j 0) m (x.1 0 0 0) (nI j) (cdOw V a m wd ch j).1 10 = cdWp V a m wd ch j := by rw [e0x, e7x]; rfl
    refine x_aload_n (pc := 26) O dX7_die_26 rfl rfl ?_
    refine x_iload_n (pc := 27) O dX7_die_27 rfl ?_
    refine x_callV (pc := 28) (rest := [.int (nI (cdOw V a m wd ch j).2.1)]) (ci := 7) O (c_X7_passWidowsParts l E _ x.1 x.2 m ns _ (up2 a 20 j 0) (nI j) (r + (cdOw V a m wd ch j).2.1) (by rw [e3x]; exact hc) h60 (hx.1.ka hka1) hsx1 hfa1 hkin1 (by rw [e0x]; exact hord) (hw2 j hj) hx.2.2 (by rw [eWp]; omega)) dX7_die_28 cbX7_89 im_yX7_passWidowsParts se_yX7_passWidowsParts rfl (cv_recv (t := 0) (n := 7) rfl rfl) rfl rfl (Nat.le_of_ble_eq_true rfl) ⟨Nat.le_of_ble_eq_true rfl, Nat.le_of_ble_eq_true rfl⟩ ⟨by rw [eWp]; simp only [rmX]; omega, by rw [eWp]; simp only [rmX]; omega⟩ (fun y => x_pure O (fun hy => ?_))
    dsimp only [Option.toList, List.append, List.nil_append, List.cons_append, Nat.add_zero, Nat.reduceAdd]
    rw [eWp] at hy ⊢
    have hS := (hx.1.to hx.2.1).tr hy.1
    have e5y : y.1 1 j 5 = V 1 j 5 := by
      rw [hy.1.1 1 j (fun z => absurd z.1 (by decide)), hx.1.1 1 j 5 (fun z => absurd z.1 (by decide)) (fun z => absurd z.2.2 (by decide))]; exact q5
    have e3y : y.1 0 3 = V 0 3 := by rw [hy.1.c 3 (by omega)]; exact e3x
    refine x_iadd (pc := 31) O dX7_die_31 ?_
    rw [nI_add]
    refine x_istore_n (pc := 32) O dX7_die_32 (by decide) rfl ?_
    refine x_aload_n (pc := 33) O dX7_die_33 rfl rfl ?_
    refine cv_get (t := 0) (n := 7) (pc := 34) O dX7_die_34 fdX7_28 rfl rfl rfl ?_
    refine x_aload_n (pc := 37) O dX7_die_37 rfl rfl ?_
    refine cv_get (t := 1) (n := j) (pc := 38) O dX7_die_38 fdX7_86 (okC1 (by omega)) rfl rfl ?_
    rw [e5y]
    rcases hsp j hj with hsp1 | ⟨u, hu, hsp1⟩ <;> rw [hsp1]
    · refine x_callV (pc := 41) (rest := []) (ci := 3) O (c_X3_find_no l E _ _ _ _ _ _ _ (by rw [e3y]; exact hc) h60 (noP_m1 h60)) dX7_die_41 cbX7_105 im_yX3_find se_yX3_find rfl (cv_recv (t := 0) (n := 3) rfl rfl) rfl rfl (Nat.le_of_ble_eq_true rfl) ⟨Nat.le_of_ble_eq_true rfl, Nat.le_of_ble_eq_true rfl⟩ ⟨by simp only [rmX]; omega, by simp only [rmX]; omega⟩ (fun _ => ?_)
      dsimp only [Option.toList, List.append, List.nil_append, List.cons_append, Nat.add_zero, Nat.reduceAdd]
      refine x_astore (pc := 44) O dX7_die_44 (by decide) rfl rfl ?_
      refine x_aload (pc := 46) O dX7_die_46 rfl rfl ?_
      refine x_ifnullN (pc := 48) O 57 dX7_die_48 (by decide) ?_
      refine x_aload_n (pc := 57) O dX7_die_57 rfl rfl ?_
      refine x_iconst (v := (-1)) (pc := 58) O dX7_die_58 (by decide) ?_
      refine cv_put (t := 1) (n := j) (pc := 59) O dX7_die_59 fpX7_86 rfl rfl (okC1 (by omega)) rfl (Nat.le_of_ble_eq_true rfl) rfl ?_
      refine x_iload_n (pc := 62) O dX7_die_62 rfl ?_
      refine x_ret (v := some (.int _)) (pc := 63) O dX7_die_63 rfl rfl ⟨by simp only [rmX]; omega, by simp only [rmX]; omega, (up3 y.1 1 j 5 (-1), y.2), congrArg (fun z => some (Value.int z)) ?_, fun h hh => ⟨⟨?_, ?_⟩, ?_⟩⟩
      · show _ = (if lvC V m (nI j) then nI (cdQ V a m wd ch (nI j)).2 else -1)
        rw [if_pos hlv, eN]
      · rw [show cdB V a m wd ch (nI j) = _ from if_pos hlv]
        dsimp only
        rw [cl_ok h60 hj, if_pos hsp1]
        exact (hS.u 5 _ (by decide))
      · rw [eN]
        show (up3 y.1 1 j 5 (-1)) 0 2 1 = _
        rw [up3_ne _ _ _ (fun z => absurd z.1 (by decide)), hy.2]
        rw [Nat.add_assoc]
      · show CV E adr (up3 y.1 1 j 5 (-1)) y.2 m ns (cdQ V a m wd ch (nI j)).1 h
        rw [eQ1]
        exact hh
    · refine x_callV (pc := 41) (rest := []) (ci := 3) O (c_X3_find l E _ _ _ _ _ _ u (by rw [e3y]; exact hc) h60 hu) dX7_die_41 cbX7_105 im_yX3_find se_yX3_find rfl (cv_recv (t := 0) (n := 3) rfl rfl) rfl rfl (Nat.le_of_ble_eq_true rfl) ⟨Nat.le_of_ble_eq_true rfl, Nat.le_of_ble_eq_true rfl⟩ ⟨by simp only [rmX]; omega, by simp only [rmX]; omega⟩ (fun _ => ?_)
      dsimp only [Option.toList, List.append, List.nil_append, List.cons_append, Nat.add_zero, Nat.reduceAdd]
      refine x_astore (pc := 44) O dX7_die_44 (by decide) rfl rfl ?_
      refine x_aload (pc := 46) O dX7_die_46 rfl rfl ?_
      refine x_ifnull (pc := 48) O dX7_die_48 ?_
      refine x_aload (pc := 51) O dX7_die_51 rfl rfl ?_
      refine x_iconst (v := (-1)) (pc := 53) O dX7_die_53 (by decide) ?_
      refine cv_put (t := 1) (n := u) (pc := 54) O dX7_die_54 fpX7_86 rfl rfl (okC1 (by omega)) rfl (Nat.le_of_ble_eq_true rfl) rfl ?_
      refine x_aload_n (pc := 57) O dX7_die_57 rfl rfl ?_
      refine x_iconst (v := (-1)) (pc := 58) O dX7_die_58 (by decide) ?_
      refine cv_put (t := 1) (n := j) (pc := 59) O dX7_die_59 fpX7_86 rfl rfl (okC1 (by omega)) rfl (Nat.le_of_ble_eq_true rfl) rfl ?_
      refine x_iload_n (pc := 62) O dX7_die_62 rfl ?_
      refine x_ret (v := some (.int _)) (pc := 63) O dX7_die_63 rfl rfl ⟨by simp only [rmX]; omega, by simp only [rmX]; omega, (up3 (up3 y.1 1 u 5 (-1)) 1 j 5 (-1), y.2), congrArg (fun z => some (Value.int z)) ?_, fun h hh => ⟨⟨?_, ?_⟩, ?_⟩⟩
      · show _ = (if lvC V m (nI j) then nI (cdQ V a m wd ch (nI j)).2 else -1)
        rw [if_pos hlv, eN]
      · rw [show cdB V a m wd ch (nI j) = _ from if_pos hlv]
        dsimp only
        rw [cl_ok h60 hj, if_neg (by rw [hsp1]; exact nI_nm1 (by omega)), hsp1, nI_clamp (by omega)]
        exact ((hS.u 5 _ (by decide)).u 5 _ (by decide))
      · rw [eN]
        show (up3 (up3 y.1 1 u 5 (-1)) 1 j 5 (-1)) 0 2 1 = _
        rw [up3_ne _ _ _ (fun z => absurd z.1 (by decide)), up3_ne _ _ _ (fun z => absurd z.1 (by decide)), hy.2]
        rw [Nat.add_assoc]
      · show CV E adr (up3 (up3 y.1 1 u 5 (-1)) 1 j 5 (-1)) y.2 m ns (cdQ V a m wd ch (nI j)).1 h
        rw [eQ1]
        exact hh
  · refine x_callV (pc := 5) (rest := []) (ci := 3) O (c_X3_findAlive_no l E _ _ _ _ _ _ _ hc h60 hna) dX7_die_5 cbX7_79 im_yX3_findAlive se_yX3_findAlive rfl (cv_recv (t := 0) (n := 3) rfl rfl) rfl rfl (Nat.le_of_ble_eq_true rfl) ⟨Nat.le_of_ble_eq_true rfl, Nat.le_of_ble_eq_true rfl⟩ ⟨by simp only [rmX]; omega, by simp only [rmX]; omega⟩ (fun _ => ?_)
    dsimp only [Option.toList, List.append, List.nil_append, List.cons_append, Nat.add_zero, Nat.reduceAdd]
    refine x_astore_n (pc := 8) O dX7_die_8 (by decide) rfl rfl ?_
    refine x_aload_n (pc := 9) O dX7_die_9 rfl rfl ?_
    refine x_ifnonnullN (pc := 10) O dX7_die_10 ?_
    refine x_iconst (v := (-1)) (pc := 13) O dX7_die_13 (by decide) ?_
    have hc9 : ¬ lvC V m p := lv_no h60 hna
    have eQ : (cdQ V a m wd ch p) = (ch, 0) := if_neg hc9
    have eB : cdB V a m wd ch p = V := if_neg hc9
    exact x_ret (v := some (.int _)) (pc := 14) O dX7_die_14 rfl rfl ⟨by simp only [rmX]; omega, by simp only [rmX]; omega, (V, VL), congrArg (fun z => some (Value.int z)) (if_neg hc9).symm, fun h hh => ⟨⟨by rw [eB]; exact SQ.rf _ _, by rw [eQ]; exact hr⟩, by rw [eQ]; exact hh⟩⟩
