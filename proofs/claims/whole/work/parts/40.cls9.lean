/-! ===== CLS 9: list, share; land ===== -/
theorem up3_id {α : Type} {V : Nat → Nat → Nat → α} {t n k : Nat} {v : α} (h : V t n k = v) : up3 V t n k v = V := by
  funext t' n'
  by_cases c : t' = t ∧ n' = n
  · obtain ⟨rfl, rfl⟩ := c
    rw [up3_eq]
    funext k'
    by_cases e : k' = k
    · subst e; rw [va_up_self, h]
    · rw [va_up_ne _ _ e]
  · rw [up3_ne _ _ _ c]
theorem up3_up3 {α : Type} (V : Nat → Nat → Nat → α) (t n k : Nat) (v u : α) : up3 (up3 V t n k v) t n k u = up3 V t n k u := by
  funext t' n'
  by_cases c : t' = t ∧ n' = n
  · obtain ⟨rfl, rfl⟩ := c
    rw [up3_eq, up3_eq, up3_eq, bx_uu]
  · rw [up3_ne _ _ _ c, up3_ne _ _ _ c, up3_ne _ _ _ c]
def LSQ (V : Nat → Nat → Nat → Int32) (VL : Nat → Nat → Nat → Int64) (H : List Nat) (x : (Nat → Nat → Nat → Int32) × (Nat → Nat → Nat → Int64)) : Prop := (∀ t k, ¬ (t = 0 ∧ (k = 1 ∨ k = 14)) → x.1 t k = V t k) ∧ (∀ t k, ¬ (t = 0 ∧ k = 1) → x.2 t k = VL t k) ∧ x.1 0 1 1 = nI (min 40 H.length) ∧ ∀ t, t < min 40 H.length → x.1 0 14 t = nI (H.getD t 0)
def LTQ (V : Nat → Nat → Nat → Int32) (VL : Nat → Nat → Nat → Int64) (T : List Nat) (x : (Nat → Nat → Nat → Int32) × (Nat → Nat → Nat → Int64)) : Prop := (∀ t k, ¬ (t = 0 ∧ (k = 1 ∨ k = 15)) → x.1 t k = V t k) ∧ (∀ t k, ¬ (t = 0 ∧ k = 1) → x.2 t k = VL t k) ∧ ∀ t, t < 12 → x.1 0 15 t = hvI T t
set_option maxRecDepth 100000 in
set_option maxHeartbeats 4000000 in
theorem c_X1_list (l : Launch) (E : En) (adr : Nat → Nat → Nat) (V : Nat → Nat → Nat → Int32) (VL : Nat → Nat → Nat → Int64) (m ns : Nat) (ch : Nat → List Rt) (a : Ar) (j : Nat) (ord : Int32) (hc : V 0 3 1 = nI m) (h60 : m ≤ 60) (hka : KA V VL a m) (hsx : ∀ c, c < m → a 9 c = 0 ∨ a 9 c = 1) (hfa : ∀ p, p < m → a 10 p = -1 ∨ ∃ f, f < m ∧ a 10 p = nI f) (hkin : kinOk a m) (hord : ord = 0 ∨ ord = 1 ∨ ord = 2) (hj : j < m) : Mt l E yX1_list cX1_list 3 none (rmX 63 1513 0 0) [.ref (adr 0 1), .int (nI j), .int ord] (CV E adr V VL m ns ch) (fun _ : (Nat → Nat → Nat → Int32) × (Nat → Nat → Nat → Int64) => none) (fun x h => LSQ V VL (heirsOf a m ord (alx a j) j) x ∧ CV E adr x.1 x.2 m ns ch h) := by
  refine Mt_of (by decide +kernel) (Nat.le_of_ble_eq_true rfl) (fun J O => ?_)
  show J _ 0 0 0 [some (.ref (adr 0 1)), some (.int (nI j)), some (.int ord)] []
  refine x_aload_n (pc := 0) O dX1_list_0 rfl rfl ?_
  refine x_iload_n (pc := 1) O dX1_list_1 rfl ?_
  refine x_iload_n (pc := 2) O dX1_list_2 rfl ?_
  refine x_callV (pc := 3) (rest := []) (ci := 1) O (c_X1_look l E _ _ _ _ _ _ a j ord hc h60 hka hsx hj) dX1_list_3 cbX1_22 im_yX1_look se_yX1_look rfl (cv_recv (t := 0) (n := 1) rfl rfl) rfl rfl (Nat.le_of_ble_eq_true rfl) ⟨Nat.le_of_ble_eq_true rfl, Nat.le_of_ble_eq_true rfl⟩ ⟨Nat.le_of_ble_eq_true rfl, Nat.le_of_ble_eq_true rfl⟩ (fun VL1 => x_pure O (fun hL => ?_))
  dsimp only [Option.toList, List.append, List.nil_append, List.cons_append, Nat.add_zero, Nat.reduceAdd]
  refine x_aload_n (pc := 6) O dX1_list_6 rfl rfl ?_
  refine x_iconst (v := 0) (pc := 7) O dX1_list_7 (by decide) ?_
  refine cv_put (t := 0) (n := 1) (pc := 8) O dX1_list_8 fpX1_26 rfl rfl rfl rfl (Nat.le_of_ble_eq_true rfl) rfl ?_
  refine x_aload_n (pc := 11) O dX1_list_11 rfl rfl ?_
  refine x_aload_n (pc := 12) O dX1_list_12 rfl rfl ?_
  refine x_iload_n (pc := 13) O dX1_list_13 rfl ?_
  have hV4 : (up3 (up3 V 0 1 4 ord) 0 1 1 0) 0 1 4 = ord := by rw [up3_eq, va_up_ne _ _ (by decide), up3_eq, va_up_self]
  have hVo : ∀ t k, ¬ (t = 0 ∧ k = 1) → (up3 (up3 V 0 1 4 ord) 0 1 1 0) t k = V t k := fun t k h => by rw [up3_ne _ _ _ h, up3_ne _ _ _ h]
  refine x_callV (pc := 14) (rest := [.ref (adr 0 1)]) (ci := 1) O (c_X1_firstLine l E _ (up3 (up3 V 0 1 4 ord) 0 1 1 0) _ _ _ _ a _ _ j (by rw [hVo 0 3 (fun z => absurd z.2 (by decide))]; exact hc) h60 (KA_fr hka (fun p => hVo 1 p (fun z => absurd z.1 (by decide))) (fun p => hL.1 1 p (fun z => absurd z.1 (by decide)))) hL.2 (by rw [hV4]; exact hord) hfa hj) dX1_list_14 cbX1_30 im_yX1_firstLine se_yX1_firstLine rfl (cv_recv (t := 0) (n := 1) rfl rfl) rfl rfl (Nat.le_of_ble_eq_true rfl) ⟨Nat.le_of_ble_eq_true rfl, Nat.le_of_ble_eq_true rfl⟩ ⟨Nat.le_of_ble_eq_true rfl, Nat.le_of_ble_eq_true rfl⟩ (fun y => x_pure O (fun hy => ?_))
  dsimp only [Option.toList, List.append, List.nil_append, List.cons_append, Nat.add_zero, Nat.reduceAdd]
  rw [hV4] at hy
  refine x_iconst (v := nI 0) (pc := 17) O dX1_list_17 (by decide) ?_
  refine x_callV (pc := 18) (rest := []) (ci := 1) O (c_X1_listLine l E 60 adr (up3 (up3 V 0 1 4 ord) 0 1 1 0) (up3 (up3 V 0 1 4 ord) 0 1 1 0) VL1 m ns ch a (alx a j) (lasts a (alx a j) m) [] y (fstG a (lasts a (alx a j) m) m ord j) (by rw [hVo 0 3 (fun z => absurd z.2 (by decide))]; exact hc) h60 (KA_fr hka (fun p => hVo 1 p (fun z => absurd z.1 (by decide))) (fun p => hL.1 1 p (fun z => absurd z.1 (by decide)))) hL.2 (by rw [hV4]; exact hord) ⟨fun _ _ _ => rfl, rfl, by rw [up3_eq, va_up_self]; rfl, fun t ht => absurd ht (by simp)⟩ hy (fun q _ => by omega) (Nat.le_refl _) hkin) dX1_list_18 cbX1_34 im_yX1_listLine se_yX1_listLine rfl (cv_recv (t := 0) (n := 1) rfl rfl) rfl rfl (Nat.le_of_ble_eq_true rfl) ⟨Nat.le_of_ble_eq_true rfl, Nat.le_of_ble_eq_true rfl⟩ ⟨Nat.le_of_ble_eq_true rfl, Nat.le_of_ble_eq_true rfl⟩ (fun V3 => x_pure O (fun hV3 => ?_))
  dsimp only [Option.toList, List.append, List.nil_append, List.cons_append, Nat.add_zero, Nat.reduceAdd]
  rw [List.nil_append, hV4] at hV3
  exact x_ret (v := none) (pc := 21) O dX1_list_21 rfl trivial ⟨Nat.le_refl _, Nat.le_refl _, (V3, VL1), rfl, fun h hh => ⟨⟨fun t k hk => by show V3 t k = V t k; rw [hV3.1 t k hk]; exact hVo t k (fun z => hk ⟨z.1, Or.inl z.2⟩), fun t k hk => hL.1 t k hk, hV3.2.2.1, hV3.2.2.2⟩, hh⟩⟩
set_option maxRecDepth 100000 in
set_option maxHeartbeats 4000000 in
theorem c_X1_share (l : Launch) (E : En) (adr : Nat → Nat → Nat) (V : Nat → Nat → Nat → Int32) (VL : Nat → Nat → Nat → Int64) (m ns : Nat) (ch : Nat → List Rt) (a : Ar) (j : Nat) (ord : Int32) (n : Nat) (hc : V 0 3 1 = nI m) (h60 : m ≤ 60) (hka : KA V VL a m) (hsx : ∀ c, c < m → a 9 c = 0 ∨ a 9 c = 1) (hfa : ∀ p, p < m → a 10 p = -1 ∨ ∃ f, f < m ∧ a 10 p = nI f) (hkin : kinOk a m) (hord : ord = 0 ∨ ord = 1 ∨ ord = 2) (hj : j < m) (hn : n ≤ 12) : Mt l E yX1_share cX1_share 5 none (rmX 63 2001 0 0) [.ref (adr 0 1), .int (nI j), .int ord, .int (nI n)] (CV E adr V VL m ns ch) (fun _ : (Nat → Nat → Nat → Int32) × (Nat → Nat → Nat → Int64) => none) (fun x h => LTQ V VL (shareF a (alx a j) (lasts a (alx a j) m) m ord 60 (fstG a (lasts a (alx a j) m) m ord j) n) x ∧ CV E adr x.1 x.2 m ns ch h) := by
  refine Mt_of (by decide +kernel) (Nat.le_of_ble_eq_true rfl) (fun J O => ?_)
  show J _ 0 0 0 [some (.ref (adr 0 1)), some (.int (nI j)), some (.int ord), some (.int (nI n)), none] []
  refine x_aload_n (pc := 0) O dX1_share_0 rfl rfl ?_
  refine x_iload_n (pc := 1) O dX1_share_1 rfl ?_
  refine x_iload_n (pc := 2) O dX1_share_2 rfl ?_
  refine x_callV (pc := 3) (rest := []) (ci := 1) O (c_X1_look l E _ _ _ _ _ _ a j ord hc h60 hka hsx hj) dX1_share_3 cbX1_22 im_yX1_look se_yX1_look rfl (cv_recv (t := 0) (n := 1) rfl rfl) rfl rfl (Nat.le_of_ble_eq_true rfl) ⟨Nat.le_of_ble_eq_true rfl, Nat.le_of_ble_eq_true rfl⟩ ⟨Nat.le_of_ble_eq_true rfl, Nat.le_of_ble_eq_true rfl⟩ (fun VL1 => x_pure O (fun hL => ?_))
  dsimp only [Option.toList, List.append, List.nil_append, List.cons_append, Nat.add_zero, Nat.reduceAdd]
  refine x_iconst (v := nI 0) (pc := 6) O dX1_share_6 (by decide) ?_
  refine x_istore (pc := 7) O dX1_share_7 (by decide) rfl ?_
  have loop : ∀ k, k ≤ 12 → ∀ V2, ((∀ t k, ¬ (t = 0 ∧ k = 15) → V2 t k = (up3 V 0 1 4 ord) t k) ∧ ∀ t, t < k → V2 0 15 t = -1) → J (CV E adr V2 VL1 m ns ch) 0 0 9 [some (.ref (adr 0 1)), some (.int (nI j)), some (.int ord), some (.int (nI n)), some (.int (nI k))] [] := by
    refine up_ind (Φ := fun k => ∀ V2, ((∀ t k, ¬ (t = 0 ∧ k = 15) → V2 t k = (up3 V 0 1 4 ord) t k) ∧ ∀ t, t < k → V2 0 15 t = -1) → J (CV E adr V2 VL1 m ns ch) 0 0 9 [some (.ref (adr 0 1)), some (.int (nI j)), some (.int ord), some (.int (nI n)), some (.int (nI k))] []) 12 (fun k hk ih V2 hI => ?_)
    refine x_iload (pc := 9) O dX1_share_9 rfl ?_
    refine x_aload_n (pc := 11) O dX1_share_11 rfl rfl ?_
    refine cv_get (t := 0) (n := 1) (pc := 12) O dX1_share_12 fdX1_15 rfl rfl rfl ?_
    refine cv_alen (n := 15) (pc := 15) O dX1_share_15 (by decide) ?_
    rw [show arrN 15 = 12 from rfl]
    refine x_icmp_ge (pc := 16) O 33 dX1_share_16 (by decide) (fun c16 => ?_) (fun c16 => ?_)
    · have hk3 : k = 12 := by
        rw [nI_leI (by omega) (by omega)] at c16
        omega
      subst hk3
      have hV4 : V2 0 1 4 = ord := by rw [hI.1 0 1 (fun z => absurd z.2 (by decide)), up3_eq, va_up_self]
      have hVo : ∀ t k, ¬ (t = 0 ∧ (k = 1 ∨ k = 15)) → V2 t k = V t k := fun t k h => by rw [hI.1 t k (fun z => h ⟨z.1, Or.inr z.2⟩), up3_ne _ _ _ (fun z => h ⟨z.1, Or.inl z.2⟩)]
      have hka2 : KA V2 VL1 a m := KA_fr hka (fun p => hVo 1 p (fun z => absurd z.1 (by decide))) (fun p => hL.1 1 p (fun z => absurd z.1 (by decide)))
      have hc2 : V2 0 3 1 = nI m := by rw [hVo 0 3 (fun z => absurd z.2 (by decide))]; exact hc
      refine x_aload_n (pc := 33) O dX1_share_33 rfl rfl ?_
      refine x_aload_n (pc := 34) O dX1_share_34 rfl rfl ?_
      refine x_iload_n (pc := 35) O dX1_share_35 rfl ?_
      refine x_callV (pc := 36) (rest := [.ref (adr 0 1)]) (ci := 1) O (c_X1_firstLine l E _ V2 _ _ _ _ a _ _ j hc2 h60 hka2 hL.2 (by rw [hV4]; exact hord) hfa hj) dX1_share_36 cbX1_30 im_yX1_firstLine se_yX1_firstLine rfl (cv_recv (t := 0) (n := 1) rfl rfl) rfl rfl (Nat.le_of_ble_eq_true rfl) ⟨Nat.le_of_ble_eq_true rfl, Nat.le_of_ble_eq_true rfl⟩ ⟨Nat.le_of_ble_eq_true rfl, Nat.le_of_ble_eq_true rfl⟩ (fun y => x_pure O (fun hy => ?_))
      dsimp only [Option.toList, List.append, List.nil_append, List.cons_append, Nat.add_zero, Nat.reduceAdd]
      rw [hV4] at hy
      refine x_iconst (v := nI 0) (pc := 39) O dX1_share_39 (by decide) ?_
      refine x_iload_n (pc := 40) O dX1_share_40 rfl ?_
      refine x_aload_n (pc := 41) O dX1_share_41 rfl rfl ?_
      refine cv_get (t := 0) (n := 1) (pc := 42) O dX1_share_42 fdX1_15 rfl rfl rfl ?_
      refine cv_alen (n := 15) (pc := 45) O dX1_share_45 (by decide) ?_
      rw [show arrN 15 = 12 from rfl]
      refine x_min (pc := 46) O dX1_share_46 mi_X1_38 (Nat.le_of_ble_eq_true rfl) (Nat.le_of_ble_eq_true rfl) (Nat.le_of_ble_eq_true rfl) (Nat.le_of_ble_eq_true rfl) ?_
      rw [if_neg (by rw [nI_ltI (by omega) (by omega)]; omega)]
      refine x_iconst (v := nI 0) (pc := 49) O dX1_share_49 (by decide) ?_
      refine x_callV (pc := 50) (rest := []) (ci := 1) O (c_X1_shareLine l E 60 adr V2 VL1 m ns ch a (alx a j) (lasts a (alx a j) m) y (fstG a (lasts a (alx a j) m) m ord j) 0 n hc2 h60 hka2 hL.2 (by rw [hV4]; exact hord) hy (fun q hq => ⟨fstG_lt q hq, by omega, fstG_ln q hq⟩) (Nat.le_refl _) hkin (lnOk_lasts h60 hsx) (by omega)) dX1_share_50 cbX1_44 im_yX1_shareLine se_yX1_shareLine rfl (cv_recv (t := 0) (n := 1) rfl rfl) rfl rfl (Nat.le_of_ble_eq_true rfl) ⟨Nat.le_of_ble_eq_true rfl, Nat.le_of_ble_eq_true rfl⟩ ⟨Nat.le_of_ble_eq_true rfl, Nat.le_of_ble_eq_true rfl⟩ (fun V3 => x_pure O (fun hV3 => ?_))
      dsimp only [Option.toList, List.append, List.nil_append, List.cons_append, Nat.add_zero, Nat.reduceAdd]
      rw [hV4] at hV3
      refine x_ret (v := none) (pc := 53) O dX1_share_53 rfl trivial ⟨Nat.le_refl _, Nat.le_refl _, (V3, VL1), rfl, fun h hh => ⟨⟨fun t k hk => ?_, fun t k hk => hL.1 t k hk, fun t ht => ?_⟩, hh⟩⟩
      · show V3 t k = V t k
        rw [hV3.1 t k (fun z => hk ⟨z.1, Or.inr z.2⟩)]; exact hVo t k hk
      · show V3 0 15 t = _
        unfold hvI
        split
        · rename_i hlt
          have := hV3.2.1 t hlt
          rw [Nat.zero_add] at this; exact this
        · rename_i hlt
          rw [hV3.2.2 t (Or.inr (by omega))]; exact hI.2 t ht
    · have hk3 : k < 12 := by
        rw [nI_leI (by omega) (by omega)] at c16
        omega
      refine x_aload_n (pc := 19) O dX1_share_19 rfl rfl ?_
      refine cv_get (t := 0) (n := 1) (pc := 20) O dX1_share_20 fdX1_15 rfl rfl rfl ?_
      refine x_iload (pc := 23) O dX1_share_23 rfl ?_
      refine x_iconst (v := (-1)) (pc := 25) O dX1_share_25 (by decide) ?_
      refine cv_ast (n := 15) (pc := 26) O dX1_share_26 (by decide) rfl (by show _ < 12; omega) (by omega) ?_
      refine x_iinc (v := nI (k + 1)) (pc := 27) O dX1_share_27 rfl (nI_succ k).symm rfl ?_
      refine x_goto (pc := 30) O 9 dX1_share_30 (by decide) ?_
      exact ih (by omega) _ ⟨fun t k0 h => by rw [up3_ne _ _ _ h]; exact hI.1 t k0 h, fun t ht => by
        rw [up3_eq]
        by_cases e : t = k
        · subst e; rw [va_up_self]
        · rw [va_up_ne _ _ e]; exact hI.2 t (by omega)⟩
  exact loop 0 (Nat.zero_le _) _ ⟨fun _ _ _ => rfl, fun t h => absurd h (by omega)⟩
theorem Mt_mono {X Y : Type} {l : Launch} {E : En} {y : MethodName} {bytes : ByteArray} {maxL : Nat} {ret : Option FieldType} {rm : Room} {av : List Value} {P Q : HP} {val : X → Option Value} {P' : X → HP} {val2 : Y → Option Value} {P2 : Y → HP} (hM : Mt l E y bytes maxL ret rm av P val P') (hQ : ∀ h, Q h → P h) (hq : ∀ x, ∃ z, val x = val2 z ∧ ∀ h, P' x h → P2 z h) : Mt l E y bytes maxL ret rm av Q val2 P2 := by
  intro ws sz hP p e h1 h2 h3 s m args below h4 h5 h6 h7
  obtain ⟨n, o, r1, r2, r3, ⟨⟨⟨x, ws', q1, q2, q3, q4⟩, q5⟩, L, q6, q7⟩⟩ := hM ws sz (hQ _ hP) p e h1 h2 h3 s m args below h4 h5 h6 h7
  obtain ⟨z, e1, e2⟩ := hq x
  exact ⟨n, o, r1, r2, r3, ⟨⟨⟨z, ws', by rw [q1, e1], e2 _ q2, q3, q4⟩, q5⟩, L, q6, q7⟩⟩
theorem Mt_ex {X Z : Type} {l : Launch} {E : En} {y : MethodName} {bytes : ByteArray} {maxL : Nat} {ret : Option FieldType} {rm : Room} {av : List Value} {P : Z → HP} {val : X → Option Value} {P' : X → HP} (hM : ∀ z, Mt l E y bytes maxL ret rm av (P z) val P') : Mt l E y bytes maxL ret rm av (fun h => ∃ z, P z h) val P' := by
  intro ws sz hP
  obtain ⟨z, hz⟩ := hP
  exact hM z ws sz hz
theorem Mt_pure {X : Type} {l : Launch} {E : En} {y : MethodName} {bytes : ByteArray} {maxL : Nat} {ret : Option FieldType} {rm : Room} {av : List Value} {φ : Prop} {P : HP} {val : X → Option Value} {P' : X → HP} (hM : φ → Mt l E y bytes maxL ret rm av P val P') : Mt l E y bytes maxL ret rm av (fun h => φ ∧ P h) val P' := by
  intro ws sz hP
  exact hM hP.1 ws sz hP.2
theorem Mt_open {X : Type} {l : Launch} {E : En} {yy : MethodName} {bytes : ByteArray} {maxL : Nat} {ret : Option FieldType} {rm : Room} {av : List Value} {adr : Nat → Nat → Nat} {V : Nat → Nat → Nat → Int32} {VL : Nat → Nat → Nat → Int64} {m ns : Nat} {ch : Nat → List Rt} {val : X → Option Value} {P' : X → HP} (hM : ∀ y : Hid, CRel y ch → Mt l E yy bytes maxL ret rm av (CW E (mrg adr y.1) (mrg V y.2.1) VL m ns y.2.2.1 y.2.2.2.1 y.2.2.2.2) val P') : Mt l E yy bytes maxL ret rm av (CV E adr V VL m ns ch) val P' :=
  Mt_ex (P := fun (y : Hid) h => CRel y ch ∧ CW E (mrg adr y.1) (mrg V y.2.1) VL m ns y.2.2.1 y.2.2.2.1 y.2.2.2.2 h) (fun y => Mt_pure (fun hy => hM y hy))
def hdR (ch : Nat → List Rt) (s : Nat) : Rt := (ch s).headD (0, 0, 0)
theorem CRel_hd {y : Hid} {ch : Nat → List Rt} (h : CRel y ch) {s : Nat} (hs : s < 120) : y.2.1 (y.2.2.2.1 s) 0 = (hdR ch s).1 ∧ y.2.1 (y.2.2.2.1 s) 1 = (hdR ch s).2.1 ∧ y.2.1 (y.2.2.2.1 s) 2 = (hdR ch s).2.2 := by
  unfold hdR
  rw [h.2.2 s hs]
  exact ⟨rfl, rfl, rfl⟩
def hcC (ch : Nat → List Rt) (p : Int32) : Nat → Int32
  | 0 => 0
  | k + 1 => hcC ch p k + (if (hdR ch k).1 = p then 1 else 0)
def pcC (ch : Nat → List Rt) (p : Int32) : Nat → Int32
  | 0 => 0
  | k + 1 => pcC ch p k + (if (hdR ch k).1 = p ∧ (hdR ch k).2.1 = 3 then 1 else 0)
theorem ccnt_is {y : Hid} {ch : Nat → List Rt} (h : CRel y ch) (V : Nat → Nat → Nat → Int32) (p : Int32) : ∀ k, k ≤ 120 → ccnt (mrg V y.2.1) y.2.2.2.1 p k = hcC ch p k
  | 0, _ => rfl
  | k + 1, hk => by
    simp only [ccnt, hcC]
    rw [ccnt_is h V p k (by omega), mrg_3, (CRel_hd h (show k < 120 by omega)).1]
theorem pcnt_is {y : Hid} {ch : Nat → List Rt} (h : CRel y ch) (V : Nat → Nat → Nat → Int32) (p : Int32) : ∀ k, k ≤ 120 → pcnt (mrg V y.2.1) y.2.2.2.1 p k = pcC ch p k
  | 0, _ => rfl
  | k + 1, hk => by
    simp only [pcnt, pcC]
    rw [pcnt_is h V p k (by omega), mrg_3, (CRel_hd h (show k < 120 by omega)).1, (CRel_hd h (show k < 120 by omega)).2.1]
theorem v_X2_heldBy (l : Launch) (E : En) (adr : Nat → Nat → Nat) (V : Nat → Nat → Nat → Int32) (VL : Nat → Nat → Nat → Int64) (m ns : Nat) (ch : Nat → List Rt) (p : Int32) : Mt l E yX2_heldBy cX2_heldBy 5 (some .int) (rmX 1 21 0 0) [.ref (adr 0 2), .int p] (CV E adr V VL m ns ch) (fun _ : Unit => some (.int (hcC ch p 120))) (fun _ => CV E adr V VL m ns ch) :=
  Mt_open (fun y hy => Mt_mono (c_X2_heldBy l E (mrg adr y.1) (mrg V y.2.1) VL m ns y.2.2.1 y.2.2.2.1 y.2.2.2.2 p hy.1) (fun _ h => h) (fun _ => ⟨(), by rw [ccnt_is hy V p 120 (Nat.le_refl _)], fun h hh => ⟨y, hy, hh⟩⟩))
theorem v_X2_partsOf (l : Launch) (E : En) (adr : Nat → Nat → Nat) (V : Nat → Nat → Nat → Int32) (VL : Nat → Nat → Nat → Int64) (m ns : Nat) (ch : Nat → List Rt) (p : Int32) : Mt l E yX2_partsOf cX2_partsOf 5 (some .int) (rmX 1 21 0 0) [.ref (adr 0 2), .int p] (CV E adr V VL m ns ch) (fun _ : Unit => some (.int (pcC ch p 120))) (fun _ => CV E adr V VL m ns ch) :=
  Mt_open (fun y hy => Mt_mono (c_X2_partsOf l E (mrg adr y.1) (mrg V y.2.1) VL m ns y.2.2.1 y.2.2.2.1 y.2.2.2.2 p hy.1) (fun _ h => h) (fun _ => ⟨(), by rw [pcnt_is hy V p 120 (Nat.le_refl _)], fun h hh => ⟨y, hy, hh⟩⟩))
theorem v_X2_giverOf (l : Launch) (E : En) (adr : Nat → Nat → Nat) (V : Nat → Nat → Nat → Int32) (VL : Nat → Nat → Nat → Int64) (m ns : Nat) (ch : Nat → List Rt) (s : Nat) (hs : s < 120) (e1 e2 : Rt) (r : List Rt) (hch : ch s = e1 :: e2 :: r) : Mt l E yX2_giverOf cX2_giverOf 3 (some .int) (rmX 1 21 0 0) [.ref (adr 0 2), .int (nI s)] (CV E adr V VL m ns ch) (fun _ : Unit => some (.int e2.1)) (fun _ => CV E adr V VL m ns ch) :=
  Mt_open (fun y hy => by
    have h3 := hy.2.2 s hs
    rw [hch] at h3
    simp only [chC] at h3
    cases hr : y.2.2.2.2 (y.2.2.2.1 s) with
    | none => rw [hr] at h3; cases h3
    | some k =>
      rw [hr] at h3
      have hlt := hy.2.1 _ _ hr
      have h0 := hy.1 s hs
      have e : e2.1 = y.2.1 k 0 := by
        dsimp only at h3
        have h4 := (List.cons.inj h3).2
        obtain ⟨f, hf⟩ : ∃ f, y.2.2.2.1 s = f + 1 := ⟨y.2.2.2.1 s - 1, by omega⟩
        rw [hf] at h4
        simp only [chC] at h4
        rw [(List.cons.inj h4).1]
      exact Mt_mono (c_X2_giverOf l E (mrg adr y.1) (mrg V y.2.1) VL m ns y.2.2.1 y.2.2.2.1 y.2.2.2.2 s k hy.1 hs hr (by omega)) (fun _ h => h) (fun _ => ⟨(), by rw [mrg_3, e], fun h hh => ⟨y, hy, hh⟩⟩))
def PKQ (V : Nat → Nat → Nat → Int32) (L : List Nat) (V1 : Nat → Nat → Nat → Int32) : Prop := (∀ t k, ¬ (t = 0 ∧ (k = 2 ∨ k = 13)) → V1 t k = V t k) ∧ V1 0 2 1 = V 0 2 1 ∧ V1 0 2 3 = nI L.length ∧ ∀ t, t < L.length → V1 0 13 t = nI (L.getD t 0)
theorem PKQ_push {V V1 : Nat → Nat → Nat → Int32} {L : List Nat} (h : PKQ V L V1) (p : Nat) : PKQ V (L ++ [p]) (up3 (up3 V1 0 13 L.length (nI p)) 0 2 3 (nI L.length + 1)) := by
  obtain ⟨h1, h2, h3, h4⟩ := h
  refine ⟨fun t k hk => ?_, ?_, ?_, fun t ht => ?_⟩
  · rw [up3_ne _ _ _ (fun z => hk ⟨z.1, Or.inl z.2⟩), up3_ne _ _ _ (fun z => hk ⟨z.1, Or.inr z.2⟩)]; exact h1 t k hk
  · rw [up3_eq, va_up_ne _ _ (by decide), up3_ne _ _ _ (fun z => absurd z.2 (by decide))]; exact h2
  · rw [up3_eq, va_up_self, List.length_append, List.length_singleton]; exact (nI_succ _).symm
  · rw [List.length_append, List.length_singleton] at ht
    rw [up3_ne _ _ _ (fun z => absurd z.2 (by decide)), up3_eq]
    by_cases c : t = L.length
    · subst c; rw [va_up_self]; simp [List.getD]
    · rw [va_up_ne _ _ c, h4 t (by omega)]
      simp only [List.getD]
      rw [List.getElem?_append_left (by omega)]
def pkW (V : Nat → Nat → Nat → Int32) (hd : Nat → Nat) (p b : Int32) (s : Nat) : Bool := decide (V 3 (hd s) 0 = p ∧ (if V 3 (hd s) 1 = 3 then (1 : Int32) else 0) = b)
def pkC (ch : Nat → List Rt) (p b : Int32) (s : Nat) : Bool := decide ((hdR ch s).1 = p ∧ (if (hdR ch s).2.1 = 3 then (1 : Int32) else 0) = b)
theorem pkL_congr {f g : Nat → Bool} {h : Nat} (e : ∀ s, 12 * h ≤ s → s < 12 * h + 12 → f s = g s) : pkL f h 12 = pkL g h 12 := by
  unfold pkL
  refine List.filter_congr (fun s hs => ?_)
  simp only [List.mem_map, List.mem_range] at hs
  obtain ⟨t, ht, rfl⟩ := hs
  exact e _ (by omega) (by omega)
set_option maxRecDepth 100000 in
set_option maxHeartbeats 4000000 in
theorem c_X2_pick (l : Launch) (E : En) (adr : Nat → Nat → Nat) (V : Nat → Nat → Nat → Int32) (VL : Nat → Nat → Nat → Int64) (m ns nr : Nat) (hd : Nat → Nat) (rn : Nat → Option Nat) (g : Nat) (p b : Int32) (hhd : ∀ s, s < 120 → hd s < nr) (hg : g < 10) : Mt l E yX2_pick cX2_pick 7 none (rmX 1 21 0 0) [.ref (adr 0 2), .int (nI g), .int p, .int b] (CW E adr V VL m ns nr hd rn) (fun _ : Nat → Nat → Nat → Int32 => none) (fun V1 h => PKQ V (pkL (pkW V hd p b) g 12) V1 ∧ CW E adr V1 VL m ns nr hd rn h) := by
  refine Mt_of (by decide +kernel) (Nat.le_of_ble_eq_true rfl) (fun J O => ?_)
  show J _ 0 0 0 [some (.ref (adr 0 2)), some (.int (nI g)), some (.int p), some (.int b), none, none, none] []
  have loop : ∀ k, k ≤ 12 → ∀ V1, PKQ V (pkL (pkW V hd p b) g k) V1 → J (CW E adr V1 VL m ns nr hd rn) 0 0 8 [some (.ref (adr 0 2)), some (.int (nI g)), some (.int p), some (.int b), some (.int (nI k)), none, none] [] := by
    refine up_ind (Φ := fun k => ∀ V1, PKQ V (pkL (pkW V hd p b) g k) V1 → J (CW E adr V1 VL m ns nr hd rn) 0 0 8 [some (.ref (adr 0 2)), some (.int (nI g)), some (.int p), some (.int b), some (.int (nI k)), none, none] []) 12 (fun k hk ih V1 hI => ?_)
    refine x_iload (pc := 8) O dX2_pick_8 rfl ?_
    refine x_bipush (v := nI 12) (pc := 10) O dX2_pick_10 (by decide) ?_
    refine x_icmp_ge (pc := 12) O 103 dX2_pick_12 (by decide) (fun c12 => ?_) (fun c12 => ?_)
    · have hk3 : k = 12 := by
        rw [nI_leI (by omega) (by omega)] at c12
        omega
      subst hk3
      exact x_ret (v := none) (pc := 103) O dX2_pick_103 rfl trivial ⟨Nat.le_refl _, Nat.le_refl _, V1, rfl, fun h hh => ⟨hI, hh⟩⟩
    · have hk3 : k < 12 := by
        rw [nI_leI (by omega) (by omega)] at c12
        omega
      have hs3 : 12 * g + k < 120 := by omega
      have hhk := hhd _ hs3
      have hLl := pkL_len (pkW V hd p b) g k
      refine x_aload_n (pc := 15) O dX2_pick_15 rfl rfl ?_
      refine c_get (t := 0) (n := 2) (pc := 16) O dX2_pick_16 fdX2_28 rfl rfl rfl ?_
      rw [hI.2.2.1]
      refine x_aload_n (pc := 19) O dX2_pick_19 rfl rfl ?_
      refine c_get (t := 0) (n := 2) (pc := 20) O dX2_pick_20 fdX2_21 rfl rfl rfl ?_
      refine c_len (n := 13) (t0 := 0) (pc := 23) O dX2_pick_23 rfl rfl rfl ?_
      refine x_icmp_ge (pc := 24) O 103 dX2_pick_24 (by decide) (fun c24 => ?_) (fun c24 => ?_)
      · exact absurd c24 (by
          show ¬ nI 12 ≤ _
          rw [nI_leI (by omega) (by omega)]
          omega)
      · refine x_iload_n (pc := 27) O dX2_pick_27 rfl ?_
        refine x_bipush (v := nI 12) (pc := 28) O dX2_pick_28 (by decide) ?_
        refine x_imul (pc := 30) O dX2_pick_30 ?_
        rw [pk_mul]
        refine x_iload (pc := 31) O dX2_pick_31 rfl ?_
        refine x_iadd (pc := 33) O dX2_pick_33 ?_
        rw [nI_add, show g * 12 + k = 12 * g + k by omega]
        refine x_istore (pc := 34) O dX2_pick_34 (by decide) rfl ?_
        refine x_aload_n (pc := 36) O dX2_pick_36 rfl rfl ?_
        refine x_iload (pc := 37) O dX2_pick_37 rfl ?_
        refine x_callV (pc := 39) (rest := []) (ci := 2) O (c_X2_find l E _ _ _ _ _ _ _ _ (12 * g + k) hs3) dX2_pick_39 cbX2_31 im_yX2_find se_yX2_find rfl (c_recv (t := 0) (n := 2) rfl rfl) rfl rfl (Nat.le_of_ble_eq_true rfl) ⟨Nat.le_of_ble_eq_true rfl, Nat.le_of_ble_eq_true rfl⟩ ⟨Nat.le_of_ble_eq_true rfl, Nat.le_of_ble_eq_true rfl⟩ (fun _ => ?_)
        dsimp only [Option.toList, List.append, List.nil_append, List.cons_append, Nat.add_zero, Nat.reduceAdd]
        have e3 : V1 3 (hd (12 * g + k)) = V 3 (hd (12 * g + k)) := hI.1 3 _ (fun z => absurd z.1 (by decide))
        refine x_astore (pc := 42) O dX2_pick_42 (by decide) rfl rfl ?_
        refine x_aload (pc := 44) O dX2_pick_44 rfl rfl ?_
        refine x_ifnull (pc := 46) O dX2_pick_46 ?_
        refine x_aload (pc := 49) O dX2_pick_49 rfl rfl ?_
        refine c_get (t := 3) (n := (hd (12 * g + k))) (pc := 51) O dX2_pick_51 fdX2_35 (okC3 (by omega)) rfl rfl ?_
        rw [e3]
        refine x_iload_n (pc := 54) O dX2_pick_54 rfl ?_
        refine x_icmp_ne (pc := 55) O 97 dX2_pick_55 (by decide) (fun c55 => ?_) (fun c55 => ?_)
        · refine x_iinc (v := nI (k + 1)) (pc := 97) O dX2_pick_97 rfl (nI_succ k).symm rfl ?_
          refine x_goto (pc := 100) O 8 dX2_pick_100 (by decide) ?_
          refine x_lv O [some (.ref (adr 0 2)), some (.int (nI g)), some (.int p), some (.int b), some (.int (nI (k + 1))), none, none] ⟨rfl, rfl, rfl, rfl, rfl, trivial⟩ ?_
          exact ih (by omega) V1 (by rw [pkL_f (by simp [pkW, e3, c55])]; exact hI)
        · refine x_aload (pc := 58) O dX2_pick_58 rfl rfl ?_
          refine c_get (t := 3) (n := (hd (12 * g + k))) (pc := 60) O dX2_pick_60 fdX2_38 (okC3 (by omega)) rfl rfl ?_
          rw [e3]
          refine x_iconst (v := 3) (pc := 63) O dX2_pick_63 (by decide) ?_
          refine x_icmp_ne (pc := 64) O 71 dX2_pick_64 (by decide) (fun c64 => ?_) (fun c64 => ?_)
          · refine x_iconst (v := 0) (pc := 71) O dX2_pick_71 (by decide) ?_
            refine x_iload_n (pc := 72) O dX2_pick_72 rfl ?_
            refine x_icmp_ne (pc := 73) O 97 dX2_pick_73 (by decide) (fun c73 => ?_) (fun c73 => ?_)
            · refine x_iinc (v := nI (k + 1)) (pc := 97) O dX2_pick_97 rfl (nI_succ k).symm rfl ?_
              refine x_goto (pc := 100) O 8 dX2_pick_100 (by decide) ?_
              refine x_lv O [some (.ref (adr 0 2)), some (.int (nI g)), some (.int p), some (.int b), some (.int (nI (k + 1))), none, none] ⟨rfl, rfl, rfl, rfl, rfl, trivial⟩ ?_
              exact ih (by omega) V1 (by rw [pkL_f (by simp only [pkW, decide_eq_true_eq]; exact fun z => c73 (by have := z.2; rw [if_neg c64] at this; exact this))]; exact hI)
            · refine x_aload_n (pc := 76) O dX2_pick_76 rfl rfl ?_
              refine c_get (t := 0) (n := 2) (pc := 77) O dX2_pick_77 fdX2_21 rfl rfl rfl ?_
              refine x_aload_n (pc := 80) O dX2_pick_80 rfl rfl ?_
              refine c_get (t := 0) (n := 2) (pc := 81) O dX2_pick_81 fdX2_28 rfl rfl rfl ?_
              rw [hI.2.2.1]
              refine x_iload (pc := 84) O dX2_pick_84 rfl ?_
              refine c_ast (n := 13) (pc := 86) O dX2_pick_86 rfl rfl rfl rfl (by show _ < 12; omega) (by omega) ?_
              refine x_aload_n (pc := 87) O dX2_pick_87 rfl rfl ?_
              refine x_dup (pc := 88) O dX2_pick_88 rfl ?_
              refine c_get (t := 0) (n := 2) (pc := 89) O dX2_pick_89 fdX2_28 rfl rfl rfl ?_
              rw [up3_ne _ _ _ (fun z => absurd z.2 (by decide)), hI.2.2.1]
              refine x_iconst (v := 1) (pc := 92) O dX2_pick_92 (by decide) ?_
              refine x_iadd (pc := 93) O dX2_pick_93 ?_
              refine c_put (t := 0) (n := 2) (pc := 94) O dX2_pick_94 fpX2_28 rfl rfl rfl rfl (Nat.le_of_ble_eq_true rfl) rfl ?_
              refine x_iinc (v := nI (k + 1)) (pc := 97) O dX2_pick_97 rfl (nI_succ k).symm rfl ?_
              refine x_goto (pc := 100) O 8 dX2_pick_100 (by decide) ?_
              refine x_lv O [some (.ref (adr 0 2)), some (.int (nI g)), some (.int p), some (.int b), some (.int (nI (k + 1))), none, none] ⟨rfl, rfl, rfl, rfl, rfl, trivial⟩ ?_
              exact ih (by omega) _ (by rw [pkL_t (by simp only [pkW, decide_eq_true_eq]; exact ⟨c55, by rw [if_neg c64]; exact c73⟩)]; exact PKQ_push hI _)
          · refine x_iconst (v := 1) (pc := 67) O dX2_pick_67 (by decide) ?_
            refine x_goto (pc := 68) O 72 dX2_pick_68 (by decide) ?_
            refine x_iload_n (pc := 72) O dX2_pick_72 rfl ?_
            refine x_icmp_ne (pc := 73) O 97 dX2_pick_73 (by decide) (fun c73 => ?_) (fun c73 => ?_)
            · refine x_iinc (v := nI (k + 1)) (pc := 97) O dX2_pick_97 rfl (nI_succ k).symm rfl ?_
              refine x_goto (pc := 100) O 8 dX2_pick_100 (by decide) ?_
              refine x_lv O [some (.ref (adr 0 2)), some (.int (nI g)), some (.int p), some (.int b), some (.int (nI (k + 1))), none, none] ⟨rfl, rfl, rfl, rfl, rfl, trivial⟩ ?_
              exact ih (by omega) V1 (by rw [pkL_f (by simp only [pkW, decide_eq_true_eq]; exact fun z => c73 (by have := z.2; rw [if_pos c64] at this; exact this))]; exact hI)
            · refine x_aload_n (pc := 76) O dX2_pick_76 rfl rfl ?_
              refine c_get (t := 0) (n := 2) (pc := 77) O dX2_pick_77 fdX2_21 rfl rfl rfl ?_
              refine x_aload_n (pc := 80) O dX2_pick_80 rfl rfl ?_
              refine c_get (t := 0) (n := 2) (pc := 81) O dX2_pick_81 fdX2_28 rfl rfl rfl ?_
              rw [hI.2.2.1]
              refine x_iload (pc := 84) O dX2_pick_84 rfl ?_
              refine c_ast (n := 13) (pc := 86) O dX2_pick_86 rfl rfl rfl rfl (by show _ < 12; omega) (by omega) ?_
              refine x_aload_n (pc := 87) O dX2_pick_87 rfl rfl ?_
              refine x_dup (pc := 88) O dX2_pick_88 rfl ?_
              refine c_get (t := 0) (n := 2) (pc := 89) O dX2_pick_89 fdX2_28 rfl rfl rfl ?_
              rw [up3_ne _ _ _ (fun z => absurd z.2 (by decide)), hI.2.2.1]
              refine x_iconst (v := 1) (pc := 92) O dX2_pick_92 (by decide) ?_
              refine x_iadd (pc := 93) O dX2_pick_93 ?_
              refine c_put (t := 0) (n := 2) (pc := 94) O dX2_pick_94 fpX2_28 rfl rfl rfl rfl (Nat.le_of_ble_eq_true rfl) rfl ?_
              refine x_iinc (v := nI (k + 1)) (pc := 97) O dX2_pick_97 rfl (nI_succ k).symm rfl ?_
              refine x_goto (pc := 100) O 8 dX2_pick_100 (by decide) ?_
              refine x_lv O [some (.ref (adr 0 2)), some (.int (nI g)), some (.int p), some (.int b), some (.int (nI (k + 1))), none, none] ⟨rfl, rfl, rfl, rfl, rfl, trivial⟩ ?_
              exact ih (by omega) _ (by rw [pkL_t (by simp only [pkW, decide_eq_true_eq]; exact ⟨c55, by rw [if_pos c64]; exact c73⟩)]; exact PKQ_push hI _)
  refine x_aload_n (pc := 0) O dX2_pick_0 rfl rfl ?_
  refine x_iconst (v := 0) (pc := 1) O dX2_pick_1 (by decide) ?_
  refine c_put (t := 0) (n := 2) (pc := 2) O dX2_pick_2 fpX2_28 rfl rfl rfl rfl (Nat.le_of_ble_eq_true rfl) rfl ?_
  refine x_iconst (v := nI 0) (pc := 5) O dX2_pick_5 (by decide) ?_
  refine x_istore (pc := 6) O dX2_pick_6 (by decide) rfl ?_
  exact loop 0 (Nat.zero_le _) _ ⟨fun t k hk => up3_ne _ _ _ (fun z => hk ⟨z.1, Or.inl z.2⟩), by rw [up3_eq, va_up_ne _ _ (by decide)], by rw [up3_eq, va_up_self]; rfl, fun t ht => absurd ht (by simp [pkL])⟩
theorem v_X2_pick (l : Launch) (E : En) (adr : Nat → Nat → Nat) (V : Nat → Nat → Nat → Int32) (VL : Nat → Nat → Nat → Int64) (m ns : Nat) (ch : Nat → List Rt) (g : Nat) (p b : Int32) (hg : g < 10) : Mt l E yX2_pick cX2_pick 7 none (rmX 1 21 0 0) [.ref (adr 0 2), .int (nI g), .int p, .int b] (CV E adr V VL m ns ch) (fun _ : Nat → Nat → Nat → Int32 => none) (fun V1 h => PKQ V (pkL (pkC ch p b) g 12) V1 ∧ CV E adr V1 VL m ns ch h) :=
  Mt_open (fun y hy => Mt_mono (c_X2_pick l E (mrg adr y.1) (mrg V y.2.1) VL m ns y.2.2.1 y.2.2.2.1 y.2.2.2.2 g p b hy.1 hg) (fun _ h => h) (fun V1 => ⟨fun t k => if t = 3 then V t k else V1 t k, rfl, fun h hh => by
    obtain ⟨h1, h2⟩ := hh
    have e : pkL (pkW (mrg V y.2.1) y.2.2.2.1 p b) g 12 = pkL (pkC ch p b) g 12 := pkL_congr (fun s q1 q2 => by
      have z := CRel_hd hy (show s < 120 by omega)
      simp only [pkW, pkC, mrg_3, z.1, z.2.1])
    rw [e] at h1
    refine ⟨⟨fun t k hk => ?_, h1.2.1, h1.2.2.1, h1.2.2.2⟩, y, hy, ?_⟩
    · by_cases c : t = 3
      · simp only [c, if_true]
      · simp only [c, if_false]
        rw [h1.1 t k hk, mrg_ne _ _ _ c]
    · have e2 : mrg (fun t k => if t = 3 then V t k else V1 t k) y.2.1 = V1 := by
        funext t k
        by_cases c : t = 3
        · subst c; rw [mrg_3, h1.1 3 k (fun z => absurd z.1 (by decide)), mrg_3]
        · rw [mrg_ne _ _ _ c]; simp only [c, if_false]
      rw [e2]; exact h2⟩))
