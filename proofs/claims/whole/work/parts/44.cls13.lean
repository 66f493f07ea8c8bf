/-! ===== CLS 13: passPicked, passWidowsParts ===== -/
theorem shareF_lt {a : Ar} {al ln : Nat → Bool} {ord : Int32} {m : Nat} : ∀ f g n, (∀ q ∈ g, q < m) → ∀ x ∈ shareF a al ln m ord f g n, x < m
  | 0, _, _, _, x, h => by simp [shareF] at h
  | f + 1, g, n, hg, x, h => by
    simp only [shareF, List.mem_flatMap, List.mem_range] at h
    obtain ⟨k, hk, hx⟩ := h
    split at hx
    · simp at hx
    · split at hx
      · have := List.eq_of_mem_replicate hx
        subst this
        exact hg _ (getD_mem hk)
      · exact shareF_lt f _ _ (fun y hy => (grp_sub hy).1) x hx
theorem ents_at : ∀ (T hs : List Nat) (t : Nat), t < T.length → (ents hs T)[t]? = some (hs.getD t 0, nI (T.getD t 0), 2)
  | [], _, t, h => by simp at h
  | q :: T, hs, 0, h => by
    simp only [ents]
    cases hs <;> simp [List.getD]
  | q :: T, hs, t + 1, h => by
    simp only [ents, List.getElem?_cons_succ]
    rw [ents_at T hs.tail t (by simpa using h)]
    cases hs <;> simp [List.getD]
def tkL (a : Ar) (m : Nat) (ord : Int32) (al : Nat → Bool) (j n : Nat) : List Nat := shareF a al (lasts a al m) m ord 60 (fstG a (lasts a al m) m ord j) n
theorem passE_len2 {a : Ar} {m : Nat} {ord : Int32} {al : Nat → Bool} {j n : Nat} {hs : List Nat} (h60 : m ≤ 60) (hsx : ∀ c, c < m → a 9 c = 0 ∨ a 9 c = 1) (hkin : kinOk a m) (hn : n ≤ hs.length) : (passE a m ord al j hs n).length = n := by
  unfold passE
  split
  · simp; omega
  · rename_i h
    rw [ents_len]
    exact shareF_len h60 (lnOk_lasts h60 hsx) hkin 60 _ n h (fun q hq => ⟨fstG_lt q hq, by omega, fstG_ln q hq⟩)
theorem passE_at {a : Ar} {m : Nat} {ord : Int32} {al : Nat → Bool} {j n t : Nat} {hs : List Nat} (h60 : m ≤ 60) (hsx : ∀ c, c < m → a 9 c = 0 ∨ a 9 c = 1) (hkin : kinOk a m) (hn : n ≤ hs.length) (ht : t < n) : (passE a m ord al j hs n)[t]? = some (hs.getD t 0, hvI (tkL a m ord al j n) t, if hvI (tkL a m ord al j n) t = -1 then 5 else 2) := by
  unfold passE
  split
  · rename_i h
    have e : tkL a m ord al j n = [] := by unfold tkL; rw [h]; rfl
    rw [e, show hvI [] t = -1 from rfl, if_pos rfl, List.getElem?_map, List.getElem?_take_of_lt ht, List.getElem?_eq_getElem (by omega)]
    simp [List.getD, show t < hs.length by omega]
  · rename_i h
    have hl : (tkL a m ord al j n).length = n := shareF_len h60 (lnOk_lasts h60 hsx) hkin 60 _ n h (fun q hq => ⟨fstG_lt q hq, by omega, fstG_ln q hq⟩)
    have e : hvI (tkL a m ord al j n) t = nI ((tkL a m ord al j n).getD t 0) := by unfold hvI; rw [if_pos (by omega)]
    have hlt : (tkL a m ord al j n).getD t 0 < m := shareF_lt 60 _ n (fun q hq => fstG_lt q hq) _ (getD_mem (show t < (tkL a m ord al j n).length by omega))
    rw [e, if_neg (nI_nm1 (by omega))]
    exact ents_at _ _ _ (show t < (tkL a m ord al j n).length by omega)
/-- the class behind some work on land and heirs: all but their own rows as before -/
def SQ (V : Nat → Nat → Nat → Int32) (VL : Nat → Nat → Nat → Int64) (V1 : Nat → Nat → Nat → Int32) (VL1 : Nat → Nat → Nat → Int64) : Prop := (∀ t k, ¬ (t = 0 ∧ (k = 1 ∨ k = 2 ∨ k = 13 ∨ k = 14 ∨ k = 15)) → V1 t k = V t k) ∧ ∀ t k, ¬ (t = 0 ∧ k = 1) → VL1 t k = VL t k
theorem SQ.rf (V : Nat → Nat → Nat → Int32) (VL : Nat → Nat → Nat → Int64) : SQ V VL V VL := ⟨fun _ _ _ => rfl, fun _ _ _ => rfl⟩
theorem SQ.tr {V V1 V2 : Nat → Nat → Nat → Int32} {VL VL1 VL2 : Nat → Nat → Nat → Int64} (h : SQ V VL V1 VL1) (h2 : SQ V1 VL1 V2 VL2) : SQ V VL V2 VL2 := ⟨fun t k hk => by rw [h2.1 t k hk, h.1 t k hk], fun t k hk => by rw [h2.2 t k hk, h.2 t k hk]⟩
theorem SQ.ka {V V1 : Nat → Nat → Nat → Int32} {VL VL1 : Nat → Nat → Nat → Int64} {a : Ar} {m : Nat} (h : SQ V VL V1 VL1) (hk : KA V VL a m) : KA V1 VL1 a m := KA_fr hk (fun p => h.1 1 p (fun z => absurd z.1 (by decide))) (fun p => h.2 1 p (fun z => absurd z.1 (by decide)))
theorem SQ.pk {V V1 : Nat → Nat → Nat → Int32} (VL : Nat → Nat → Nat → Int64) {L : List Nat} (h : PKQ V L V1) : SQ V VL V1 VL := ⟨fun t k hk => h.1 t k (fun z => hk ⟨z.1, z.2.elim (fun z => Or.inr (Or.inl z)) (fun z => Or.inr (Or.inr (Or.inl z)))⟩), fun _ _ _ => rfl⟩
theorem SQ.r {V V1 : Nat → Nat → Nat → Int32} {VL VL1 : Nat → Nat → Nat → Int64} (h : SQ V VL V1 VL1) (f : Nat) (v : Int32) : SQ V VL (up3 V1 0 2 f v) VL1 := ⟨fun t k hk => by rw [up3_ne _ _ _ (fun z => hk ⟨z.1, Or.inr (Or.inl z.2)⟩)]; exact h.1 t k hk, h.2⟩
theorem SQ.c {V V1 : Nat → Nat → Nat → Int32} {VL VL1 : Nat → Nat → Nat → Int64} (h : SQ V VL V1 VL1) (k : Nat) (hk : k = 0 ∨ k = 3 ∨ k = 7) : V1 0 k = V 0 k := h.1 0 k (fun z => by omega)
set_option maxRecDepth 100000 in
set_option maxHeartbeats 4000000 in
theorem c_X7_passPicked (l : Launch) (E : En) (adr : Nat → Nat → Nat) (V : Nat → Nat → Nat → Int32) (VL : Nat → Nat → Nat → Int64) (m ns : Nat) (ch : Nat → List Rt) (a : Ar) (L : List Nat) (fr j r : Nat) (hc : V 0 3 1 = nI m) (h60 : m ≤ 60) (hka : KA V VL a m) (hsx : ∀ c, c < m → a 9 c = 0 ∨ a 9 c = 1) (hfa : ∀ p, p < m → a 10 p = -1 ∨ ∃ f, f < m ∧ a 10 p = nI f) (hkin : kinOk a m) (hord : V 0 0 0 = 0 ∨ V 0 0 0 = 1 ∨ V 0 0 0 = 2) (hL : V 0 2 3 = nI L.length) (hP : ∀ t, t < L.length → V 0 13 t = nI (L.getD t 0)) (hl12 : L.length ≤ 12) (h120 : ∀ s ∈ L, s < 120) (hfr : fr ≤ L.length) (hj : j < m) (hr : V 0 2 1 = nI r) (hr2 : r + (L.length - fr) ≤ 61560) : Mt l E yX7_passPicked cX7_passPicked 5 none (rmX 64 2025 (L.length - fr) (4 * (L.length - fr))) [.ref (adr 0 7), .int (nI fr), .int (nI j)] (CV E adr V VL m ns ch) (fun _ : (Nat → Nat → Nat → Int32) × (Nat → Nat → Nat → Int64) × (Nat → List Rt) => none) (fun x h => (SQ V VL x.1 x.2.1 ∧ x.1 0 2 1 = nI (r + (L.length - fr)) ∧ x.1 0 2 3 = nI L.length ∧ x.2.2 = clL (V 0 7 0) ch (passE a m (V 0 0 0) (alx a j) j (L.drop fr) (L.length - fr))) ∧ CV E adr x.1 x.2.1 m ns x.2.2 h) := by
  refine Mt_of (by decide +kernel) (Nat.le_of_ble_eq_true rfl) (fun J O => ?_)
  show J _ 0 0 0 [some (.ref (adr 0 7)), some (.int (nI fr)), some (.int (nI j)), none, none] []
  have hEl : (passE a m (V 0 0 0) (alx a j) j (L.drop fr) (L.length - fr)).length = L.length - fr := passE_len2 h60 hsx hkin (by rw [List.length_drop]; exact Nat.le_refl _)
  refine x_aload_n (pc := 0) O dX7_passPicked_0 rfl rfl ?_
  refine cv_get (t := 0) (n := 7) (pc := 1) O dX7_passPicked_1 fdX7_44 rfl rfl rfl ?_
  refine x_iload_n (pc := 4) O dX7_passPicked_4 rfl ?_
  refine x_aload_n (pc := 5) O dX7_passPicked_5 rfl rfl ?_
  refine cv_get (t := 0) (n := 7) (pc := 6) O dX7_passPicked_6 fdX7_18 rfl rfl rfl ?_
  refine cv_get (t := 0) (n := 0) (pc := 9) O dX7_passPicked_9 fdX7_191 rfl rfl rfl ?_
  refine x_aload_n (pc := 12) O dX7_passPicked_12 rfl rfl ?_
  refine cv_get (t := 0) (n := 7) (pc := 13) O dX7_passPicked_13 fdX7_35 rfl rfl rfl ?_
  refine cv_get (t := 0) (n := 2) (pc := 16) O dX7_passPicked_16 fdX7_116 rfl rfl rfl ?_
  rw [hL]
  refine x_iload_n (pc := 19) O dX7_passPicked_19 rfl ?_
  refine x_isub (pc := 20) O dX7_passPicked_20 ?_
  rw [pk_sub hfr]
  refine x_callV (pc := 21) (rest := []) (ci := 1) O (c_X1_share l E _ _ _ _ _ _ a j (V 0 0 0) (L.length - fr) hc h60 hka hsx hfa hkin hord hj (by omega)) dX7_passPicked_21 cbX7_249 im_yX1_share se_yX1_share rfl (cv_recv (t := 0) (n := 1) rfl rfl) rfl rfl (Nat.le_of_ble_eq_true rfl) ⟨Nat.le_of_ble_eq_true rfl, Nat.le_of_ble_eq_true rfl⟩ ⟨by simp only [rmX]; omega, by simp only [rmX]; omega⟩ (fun x => x_pure O (fun hx => ?_))
  dsimp only [Option.toList, List.append, List.nil_append, List.cons_append, Nat.add_zero, Nat.reduceAdd]
  refine x_iload_n (pc := 24) O dX7_passPicked_24 rfl ?_
  refine x_istore_n (pc := 25) O dX7_passPicked_25 (by decide) rfl ?_
  have loop : ∀ k, k ≤ L.length → fr ≤ k → ∀ V1, ((∀ t u, ¬ (t = 0 ∧ u = 2) → V1 t u = x.1 t u) ∧ V1 0 2 3 = nI L.length ∧ V1 0 2 1 = nI (r + (k - fr))) → J (CV E adr V1 x.2 m ns (clL (V 0 7 0) ch ((passE a m (V 0 0 0) (alx a j) j (L.drop fr) (L.length - fr)).take (k - fr)))) (k - fr) (4 * (k - fr)) 26 [some (.ref (adr 0 7)), some (.int (nI fr)), some (.int (nI j)), some (.int (nI k)), none] [] := by
    refine up_ind (Φ := fun k => fr ≤ k → ∀ V1, ((∀ t u, ¬ (t = 0 ∧ u = 2) → V1 t u = x.1 t u) ∧ V1 0 2 3 = nI L.length ∧ V1 0 2 1 = nI (r + (k - fr))) → J (CV E adr V1 x.2 m ns (clL (V 0 7 0) ch ((passE a m (V 0 0 0) (alx a j) j (L.drop fr) (L.length - fr)).take (k - fr)))) (k - fr) (4 * (k - fr)) 26 [some (.ref (adr 0 7)), some (.int (nI fr)), some (.int (nI j)), some (.int (nI k)), none] []) L.length (fun k hk ih hfk V1 hI => ?_)
    refine x_iload_n (pc := 26) O dX7_passPicked_26 rfl ?_
    refine x_aload_n (pc := 27) O dX7_passPicked_27 rfl rfl ?_
    refine cv_get (t := 0) (n := 7) (pc := 28) O dX7_passPicked_28 fdX7_35 rfl rfl rfl ?_
    refine cv_get (t := 0) (n := 2) (pc := 31) O dX7_passPicked_31 fdX7_116 rfl rfl rfl ?_
    rw [hI.2.1]
    refine x_icmp_ge (pc := 34) O 83 dX7_passPicked_34 (by decide) (fun c34 => ?_) (fun c34 => ?_)
    · have hk3 : k = L.length := by
        rw [nI_leI (by omega) (by omega)] at c34
        omega
      subst hk3
      refine x_ret (v := none) (pc := 83) O dX7_passPicked_83 rfl trivial ⟨Nat.le_refl _, Nat.le_refl _, (V1, x.2, _), rfl, fun h hh => ⟨⟨⟨fun t u hu => ?_, fun t u hu => hx.2.1 t u hu⟩, hI.2.2, hI.2.1, ?_⟩, hh⟩⟩
      · show V1 t u = V t u
        rw [hI.1 t u (fun z => hu ⟨z.1, Or.inr (Or.inl z.2)⟩)]
        exact hx.1 t u (fun z => hu ⟨z.1, z.2.elim Or.inl (fun z => Or.inr (Or.inr (Or.inr (Or.inr z))))⟩)
      · show (clL (V 0 7 0) ch ((passE a m (V 0 0 0) (alx a j) j (L.drop fr) (L.length - fr)).take (L.length - fr))) = clL (V 0 7 0) ch (passE a m (V 0 0 0) (alx a j) j (L.drop fr) (L.length - fr))
        rw [List.take_of_length_le (Nat.le_of_eq hEl)]
    · have hk3 : k < L.length := by
        rw [nI_leI (by omega) (by omega)] at c34
        omega
      have hs3 : L.getD k 0 < 120 := h120 _ (getD_mem hk3)
      have hat := passE_at (a := a) (ord := V 0 0 0) (al := alx a j) (j := j) (n := L.length - fr) (t := k - fr) (hs := L.drop fr) h60 hsx hkin (by rw [List.length_drop]; exact Nat.le_refl _) (by omega)
      have hgd : (L.drop fr).getD (k - fr) 0 = L.getD k 0 := by
        simp only [List.getD]
        rw [List.getElem?_drop, show fr + (k - fr) = k by omega]
      rw [hgd] at hat
      have e15 : V1 0 15 (k - fr) = hvI (tkL a m (V 0 0 0) (alx a j) j (L.length - fr)) (k - fr) := by
        rw [hI.1 0 15 (fun z => absurd z.2 (by decide))]
        exact hx.2.2 _ (by omega)
      have e70 : V1 0 7 = V 0 7 := by
        rw [hI.1 0 7 (fun z => absurd z.2 (by decide))]
        exact hx.1 0 7 (fun z => absurd z.2 (by decide))
      obtain ⟨tk, htk⟩ : ∃ tk, tk = hvI (tkL a m (V 0 0 0) (alx a j) j (L.length - fr)) (k - fr) := ⟨_, rfl⟩
      rw [← htk] at e15 hat
      refine x_aload_n (pc := 37) O dX7_passPicked_37 rfl rfl ?_
      refine cv_get (t := 0) (n := 7) (pc := 38) O dX7_passPicked_38 fdX7_44 rfl rfl rfl ?_
      refine x_iload_n (pc := 41) O dX7_passPicked_41 rfl ?_
      refine x_iload_n (pc := 42) O dX7_passPicked_42 rfl ?_
      refine x_isub (pc := 43) O dX7_passPicked_43 ?_
      rw [pk_sub hfk]
      refine x_callV (pc := 44) (rest := []) (ci := 1) O (c_X1_takerOf l E _ V1 _ _ _ _ (k - fr) (by omega)) dX7_passPicked_44 cbX7_252 im_yX1_takerOf se_yX1_takerOf rfl (cv_recv (t := 0) (n := 1) rfl rfl) rfl rfl (Nat.le_of_ble_eq_true rfl) ⟨Nat.le_of_ble_eq_true rfl, Nat.le_of_ble_eq_true rfl⟩ ⟨by simp only [rmX]; omega, by simp only [rmX]; omega⟩ (fun _ => ?_)
      dsimp only [Option.toList, List.append, List.nil_append, List.cons_append, Nat.add_zero, Nat.reduceAdd]
      rw [e15]
      refine x_istore (pc := 47) O dX7_passPicked_47 (by decide) rfl ?_
      refine x_aload_n (pc := 49) O dX7_passPicked_49 rfl rfl ?_
      refine cv_get (t := 0) (n := 7) (pc := 50) O dX7_passPicked_50 fdX7_35 rfl rfl rfl ?_
      refine x_iload_n (pc := 53) O dX7_passPicked_53 rfl ?_
      refine x_iload_n (pc := 54) O dX7_passPicked_54 rfl ?_
      refine x_iconst (v := nI 1) (pc := 55) O dX7_passPicked_55 (by decide) ?_
      refine x_iadd (pc := 56) O dX7_passPicked_56 ?_
      rw [nI_add]
      refine x_iload (pc := 57) O dX7_passPicked_57 rfl ?_
      refine x_iload (pc := 59) O dX7_passPicked_59 rfl ?_
      refine x_iconst (v := (-1)) (pc := 61) O dX7_passPicked_61 (by decide) ?_
      refine x_icmp_ne (pc := 62) O 69 dX7_passPicked_62 (by decide) (fun c62 => ?_) (fun c62 => ?_)
      · refine x_iconst (v := 2) (pc := 69) O dX7_passPicked_69 (by decide) ?_
        refine x_aload_n (pc := 70) O dX7_passPicked_70 rfl rfl ?_
        refine cv_get (t := 0) (n := 7) (pc := 71) O dX7_passPicked_71 fdX7_9 rfl rfl rfl ?_
        rw [e70]
        have hW : clL (V 0 7 0) (clL (V 0 7 0) ch ((passE a m (V 0 0 0) (alx a j) j (L.drop fr) (L.length - fr)).take (k - fr))) (((L.take (k + 1)).drop k).map (fun s => (s, tk, (2 : Int32)))) = (clL (V 0 7 0) ch ((passE a m (V 0 0 0) (alx a j) j (L.drop fr) (L.length - fr)).take ((k + 1) - fr))) := by
          have e1 : (L.take (k + 1)).drop k = [L.getD k 0] := by
            rw [take_step (Nat.le_refl _) hk3]
            simp
          rw [e1, ← clL_app2, show k + 1 - fr = (k - fr) + 1 by omega, List.take_succ_eq_append_getElem (by rw [hEl]; omega)]
          congr 2
          rw [List.getElem?_eq_getElem (by rw [hEl]; omega), Option.some.injEq] at hat
          rw [hat, if_neg c62]
          rfl
        refine x_callV (pc := 74) (rest := []) (ci := 2) O (c_X2_bringPicked l E _ V1 _ _ _ _ L k (k + 1) (r + (k - fr)) tk 2 (V 0 7 0) hI.2.1 (fun t ht => by rw [hI.1 0 13 (fun z => absurd z.2 (by decide)), hx.1 0 13 (fun z => absurd z.2 (by decide))]; exact hP t ht) hl12 h120 (by omega) (by omega) hI.2.2 (by omega)) dX7_passPicked_74 cbX7_119 im_yX2_bringPicked se_yX2_bringPicked rfl (cv_recv (t := 0) (n := 2) rfl rfl) rfl rfl (Nat.le_of_ble_eq_true rfl) ⟨Nat.le_of_ble_eq_true rfl, Nat.le_of_ble_eq_true rfl⟩ ⟨by simp only [rmX]; omega, by simp only [rmX]; omega⟩ (fun _ => ?_)
        dsimp only [Option.toList, List.append, List.nil_append, List.cons_append, Nat.add_zero, Nat.reduceAdd]
        refine x_iinc (v := nI (k + 1)) (pc := 77) O dX7_passPicked_77 rfl (nI_succ k).symm rfl ?_
        refine x_goto (pc := 80) O 26 dX7_passPicked_80 (by decide) ?_
        refine x_lv O [some (.ref (adr 0 7)), some (.int (nI fr)), some (.int (nI j)), some (.int (nI (k + 1))), none] ⟨rfl, rfl, rfl, rfl, trivial⟩ ?_
        rw [hW]
        exact x_widen O (by omega) (by omega) (ih (by omega) (by omega) _ ⟨fun t u hu => by rw [up3_ne _ _ _ hu]; exact hI.1 t u hu, by rw [up3_eq, va_up_ne _ _ (by decide)]; exact hI.2.1, by rw [up3_eq, va_up_self]; congr 1; omega⟩)
      · refine x_iconst (v := 5) (pc := 65) O dX7_passPicked_65 (by decide) ?_
        refine x_goto (pc := 66) O 70 dX7_passPicked_66 (by decide) ?_
        refine x_aload_n (pc := 70) O dX7_passPicked_70 rfl rfl ?_
        refine cv_get (t := 0) (n := 7) (pc := 71) O dX7_passPicked_71 fdX7_9 rfl rfl rfl ?_
        rw [e70]
        have hW : clL (V 0 7 0) (clL (V 0 7 0) ch ((passE a m (V 0 0 0) (alx a j) j (L.drop fr) (L.length - fr)).take (k - fr))) (((L.take (k + 1)).drop k).map (fun s => (s, tk, (5 : Int32)))) = (clL (V 0 7 0) ch ((passE a m (V 0 0 0) (alx a j) j (L.drop fr) (L.length - fr)).take ((k + 1) - fr))) := by
          have e1 : (L.take (k + 1)).drop k = [L.getD k 0] := by
            rw [take_step (Nat.le_refl _) hk3]
            simp
          rw [e1, ← clL_app2, show k + 1 - fr = (k - fr) + 1 by omega, List.take_succ_eq_append_getElem (by rw [hEl]; omega)]
          congr 2
          rw [List.getElem?_eq_getElem (by rw [hEl]; omega), Option.some.injEq] at hat
          rw [hat, if_pos c62]
          rfl
        refine x_callV (pc := 74) (rest := []) (ci := 2) O (c_X2_bringPicked l E _ V1 _ _ _ _ L k (k + 1) (r + (k - fr)) tk 5 (V 0 7 0) hI.2.1 (fun t ht => by rw [hI.1 0 13 (fun z => absurd z.2 (by decide)), hx.1 0 13 (fun z => absurd z.2 (by decide))]; exact hP t ht) hl12 h120 (by omega) (by omega) hI.2.2 (by omega)) dX7_passPicked_74 cbX7_119 im_yX2_bringPicked se_yX2_bringPicked rfl (cv_recv (t := 0) (n := 2) rfl rfl) rfl rfl (Nat.le_of_ble_eq_true rfl) ⟨Nat.le_of_ble_eq_true rfl, Nat.le_of_ble_eq_true rfl⟩ ⟨by simp only [rmX]; omega, by simp only [rmX]; omega⟩ (fun _ => ?_)
        dsimp only [Option.toList, List.append, List.nil_append, List.cons_append, Nat.add_zero, Nat.reduceAdd]
        refine x_iinc (v := nI (k + 1)) (pc := 77) O dX7_passPicked_77 rfl (nI_succ k).symm rfl ?_
        refine x_goto (pc := 80) O 26 dX7_passPicked_80 (by decide) ?_
        refine x_lv O [some (.ref (adr 0 7)), some (.int (nI fr)), some (.int (nI j)), some (.int (nI (k + 1))), none] ⟨rfl, rfl, rfl, rfl, trivial⟩ ?_
        rw [hW]
        exact x_widen O (by omega) (by omega) (ih (by omega) (by omega) _ ⟨fun t u hu => by rw [up3_ne _ _ _ hu]; exact hI.1 t u hu, by rw [up3_eq, va_up_ne _ _ (by decide)]; exact hI.2.1, by rw [up3_eq, va_up_self]; congr 1; omega⟩)
  have h0 := loop fr hfr (Nat.le_refl _) x.1 ⟨fun _ _ _ => rfl, by rw [hx.1 0 2 (fun z => absurd z.2 (by decide))]; exact hL, by rw [hx.1 0 2 (fun z => absurd z.2 (by decide)), Nat.sub_self, Nat.add_zero]; exact hr⟩
  rw [Nat.sub_self, List.take_zero, show clL (V 0 7 0) ch [] = ch from rfl] at h0
  exact h0
def gv2 (c : List Rt) : Int32 := match c with
  | _ :: e :: _ => e.1
  | _ => -1
def wpG (ch : Nat → List Rt) (L : List Nat) : Nat := (gv2 (ch (L.headD 0))).toNatClampNeg
def wpS (now : Int32) (a : Ar) (m : Nat) (ord : Int32) (p : Int32) (ch : Nat → List Rt) (h : Nat) : Nat → List Rt :=
  let L := pkL (pkC ch p 1) h 12
  if L = [] then ch else clL now ch (passE a m ord (alx a (wpG ch L)) (wpG ch L) L L.length)
def wpC (now : Int32) (a : Ar) (m : Nat) (ord : Int32) (p : Int32) (ch : Nat → List Rt) : Nat → (Nat → List Rt) × Nat
  | 0 => (ch, 0)
  | h + 1 => (wpS now a m ord p (wpC now a m ord p ch h).1 h, (wpC now a m ord p ch h).2 + (pkL (pkC (wpC now a m ord p ch h).1 p 1) h 12).length)
theorem wpC_mono (now : Int32) (a : Ar) (m : Nat) (ord : Int32) (p : Int32) (ch : Nat → List Rt) (k : Nat) : ∀ t, (wpC now a m ord p ch k).2 ≤ (wpC now a m ord p ch (k + t)).2
  | 0 => Nat.le_refl _
  | t + 1 => Nat.le_trans (wpC_mono now a m ord p ch k t) (by rw [← Nat.add_assoc]; exact Nat.le_add_right _ _)
/-- who holds a widow's part has it from somebody -/
def WOk (m : Nat) (ch : Nat → List Rt) : Prop := ∀ s, s < 120 → (hdR ch s).2.1 = 3 → ∃ e1 e2 r g, ch s = e1 :: e2 :: r ∧ e2.1 = nI g ∧ g < m
theorem WOk.come {m : Nat} (now : Int32) : ∀ (l : List (Nat × Int32 × Int32)) (ch : Nat → List Rt), WOk m ch → (∀ e ∈ l, ¬ e.2.2 = 3) → WOk m (clL now ch l)
  | [], ch, h, _ => h
  | e :: l, ch, h, hl => by
    refine WOk.come now l _ (fun s hs h3 => ?_) (fun e' he' => hl e' (List.mem_cons_of_mem _ he'))
    by_cases c : s = e.1
    · subst c
      simp only [hdR, va_up_self] at h3
      exact absurd h3 (hl e List.mem_cons_self)
    · simp only [hdR, va_up_ne _ _ c] at h3 ⊢
      exact h s hs h3
theorem ents_how : ∀ (T hs : List Nat), ∀ e ∈ ents hs T, e.2.2 = 2
  | [], _, e, h => by simp [ents] at h
  | q :: T, hs, e, h => by
    simp only [ents, List.mem_cons] at h
    rcases h with rfl | h
    · rfl
    · exact ents_how T _ e h
theorem passE_how {a : Ar} {m : Nat} {ord : Int32} {al : Nat → Bool} {j n : Nat} {hs : List Nat} : ∀ e ∈ passE a m ord al j hs n, ¬ e.2.2 = 3 := by
  intro e he
  unfold passE at he
  split at he
  · simp only [List.mem_map] at he
    obtain ⟨s, -, rfl⟩ := he
    show ¬ (5 : Int32) = 3
    decide
  · rw [ents_how _ _ e he]; decide
theorem wpS_ok {now : Int32} {a : Ar} {m : Nat} {ord p : Int32} {ch : Nat → List Rt} {h : Nat} (hw : WOk m ch) : WOk m (wpS now a m ord p ch h) := by
  unfold wpS
  dsimp only
  split
  · exact hw
  · exact WOk.come now _ _ hw passE_how
theorem wpC_ok {now : Int32} {a : Ar} {m : Nat} {ord p : Int32} {ch : Nat → List Rt} (hw : WOk m ch) : ∀ h, WOk m (wpC now a m ord p ch h).1
  | 0 => hw
  | h + 1 => wpS_ok (wpC_ok hw h)
set_option maxRecDepth 100000 in
set_option maxHeartbeats 4000000 in
theorem c_X7_passWidowsParts (l : Launch) (E : En) (adr : Nat → Nat → Nat) (V : Nat → Nat → Nat → Int32) (VL : Nat → Nat → Nat → Int64) (m ns : Nat) (ch : Nat → List Rt) (a : Ar) (p : Int32) (r : Nat) (hc : V 0 3 1 = nI m) (h60 : m ≤ 60) (hka : KA V VL a m) (hsx : ∀ c, c < m → a 9 c = 0 ∨ a 9 c = 1) (hfa : ∀ p, p < m → a 10 p = -1 ∨ ∃ f, f < m ∧ a 10 p = nI f) (hkin : kinOk a m) (hord : V 0 0 0 = 0 ∨ V 0 0 0 = 1 ∨ V 0 0 0 = 2) (hw : WOk m ch) (hr : V 0 2 1 = nI r) (hr2 : r + (wpC (V 0 7 0) a m (V 0 0 0) p ch 10).2 ≤ 61560) : Mt l E yX7_passWidowsParts cX7_passWidowsParts 4 (some .int) (rmX 65 2049 (wpC (V 0 7 0) a m (V 0 0 0) p ch 10).2 (4 * (wpC (V 0 7 0) a m (V 0 0 0) p ch 10).2)) [.ref (adr 0 7), .int p] (CV E adr V VL m ns ch) (fun _ : (Nat → Nat → Nat → Int32) × (Nat → Nat → Nat → Int64) => some (.int (nI (wpC (V 0 7 0) a m (V 0 0 0) p ch 10).2))) (fun x h => (SQ V VL x.1 x.2 ∧ x.1 0 2 1 = nI (r + (wpC (V 0 7 0) a m (V 0 0 0) p ch 10).2)) ∧ CV E adr x.1 x.2 m ns (wpC (V 0 7 0) a m (V 0 0 0) p ch 10).1 h) := by
  refine Mt_of (by decide +kernel) (Nat.le_of_ble_eq_true rfl) (fun J O => ?_)
  show J _ 0 0 0 [some (.ref (adr 0 7)), some (.int p), none, none] []
  have loop : ∀ k, k ≤ 10 → ∀ V1 VL1, SQ V VL V1 VL1 → V1 0 2 1 = nI (r + (wpC (V 0 7 0) a m (V 0 0 0) p ch k).2) → J (CV E adr V1 VL1 m ns (wpC (V 0 7 0) a m (V 0 0 0) p ch k).1) (wpC (V 0 7 0) a m (V 0 0 0) p ch k).2 (4 * (wpC (V 0 7 0) a m (V 0 0 0) p ch k).2) 4 [some (.ref (adr 0 7)), some (.int p), some (.int (nI (wpC (V 0 7 0) a m (V 0 0 0) p ch k).2)), some (.int (nI k))] [] := by
    refine up_ind (Φ := fun k => ∀ V1 VL1, SQ V VL V1 VL1 → V1 0 2 1 = nI (r + (wpC (V 0 7 0) a m (V 0 0 0) p ch k).2) → J (CV E adr V1 VL1 m ns (wpC (V 0 7 0) a m (V 0 0 0) p ch k).1) (wpC (V 0 7 0) a m (V 0 0 0) p ch k).2 (4 * (wpC (V 0 7 0) a m (V 0 0 0) p ch k).2) 4 [some (.ref (adr 0 7)), some (.int p), some (.int (nI (wpC (V 0 7 0) a m (V 0 0 0) p ch k).2)), some (.int (nI k))] []) 10 (fun k hk ih V1 VL1 hI hr1 => ?_)
    refine x_iload_n (pc := 4) O dX7_passWidowsParts_4 rfl ?_
    refine x_bipush (v := nI 10) (pc := 5) O dX7_passWidowsParts_5 (by decide) ?_
    refine x_icmp_ge (pc := 7) O 67 dX7_passWidowsParts_7 (by decide) (fun c7 => ?_) (fun c7 => ?_)
    · refine x_iload_n (pc := 67) O dX7_passWidowsParts_67 rfl ?_
      have hk3 : k = 10 := by
        rw [nI_leI (by omega) (by omega)] at c7
        omega
      subst hk3
      exact x_ret (v := some (.int _)) (pc := 68) O dX7_passWidowsParts_68 rfl rfl ⟨Nat.le_refl _, Nat.le_refl _, (V1, VL1), rfl, fun h hh => ⟨⟨hI, hr1⟩, hh⟩⟩
    · have hk3 : k < 10 := by
        rw [nI_leI (by omega) (by omega)] at c7
        omega
      have hWk := wpC_ok (now := V 0 7 0) (a := a) (ord := V 0 0 0) (p := p) hw k
      have hmn := wpC_mono (V 0 7 0) a m (V 0 0 0) p ch (k + 1) (10 - (k + 1))
      rw [show k + 1 + (10 - (k + 1)) = 10 by omega] at hmn
      obtain ⟨L, hLd⟩ : ∃ L, L = pkL (pkC (wpC (V 0 7 0) a m (V 0 0 0) p ch k).1 p 1) k 12 := ⟨_, rfl⟩
      have hLl : L.length ≤ 12 := by rw [hLd]; exact pkL_len _ _ _
      have hst : (wpC (V 0 7 0) a m (V 0 0 0) p ch (k + 1)).2 = (wpC (V 0 7 0) a m (V 0 0 0) p ch k).2 + L.length := by rw [hLd]; rfl
      have e0 : V1 0 0 = V 0 0 := hI.c 0 (by omega)
      have e7 : V1 0 7 = V 0 7 := hI.c 7 (by omega)
      have e3 : V1 0 3 = V 0 3 := hI.c 3 (by omega)
      refine x_aload_n (pc := 10) O dX7_passWidowsParts_10 rfl rfl ?_
      refine cv_get (t := 0) (n := 7) (pc := 11) O dX7_passWidowsParts_11 fdX7_35 rfl rfl rfl ?_
      refine x_iload_n (pc := 14) O dX7_passWidowsParts_14 rfl ?_
      refine x_iload_n (pc := 15) O dX7_passWidowsParts_15 rfl ?_
      refine x_iconst (v := 1) (pc := 16) O dX7_passWidowsParts_16 (by decide) ?_
      refine x_callV (pc := 17) (rest := []) (ci := 2) O (v_X2_pick l E _ _ _ _ _ _ k p 1 hk3) dX7_passWidowsParts_17 cbX7_112 im_yX2_pick se_yX2_pick rfl (cv_recv (t := 0) (n := 2) rfl rfl) rfl rfl (Nat.le_of_ble_eq_true rfl) ⟨Nat.le_of_ble_eq_true rfl, Nat.le_of_ble_eq_true rfl⟩ ⟨by simp only [rmX]; omega, by simp only [rmX]; omega⟩ (fun V2 => x_pure O (fun hq => ?_))
      dsimp only [Option.toList, List.append, List.nil_append, List.cons_append, Nat.add_zero, Nat.reduceAdd]
      rw [← hLd] at hq
      refine x_aload_n (pc := 20) O dX7_passWidowsParts_20 rfl rfl ?_
      refine cv_get (t := 0) (n := 7) (pc := 21) O dX7_passWidowsParts_21 fdX7_35 rfl rfl rfl ?_
      refine cv_get (t := 0) (n := 2) (pc := 24) O dX7_passWidowsParts_24 fdX7_116 rfl rfl rfl ?_
      rw [hq.2.2.1]
      refine x_if_le (pc := 27) O 61 dX7_passWidowsParts_27 (by decide) (fun c27 => ?_) (fun c27 => ?_)
      · refine x_iinc (v := nI (k + 1)) (pc := 61) O dX7_passWidowsParts_61 rfl (nI_succ k).symm rfl ?_
        refine x_goto (pc := 64) O 4 dX7_passWidowsParts_64 (by decide) ?_
        have hL0 : L = [] := List.eq_nil_of_length_eq_zero (by
          rw [show (0 : Int32) = nI 0 from rfl, nI_leI (by omega) (by decide)] at c27
          omega)
        have e2 : (wpC (V 0 7 0) a m (V 0 0 0) p ch k).2 = (wpC (V 0 7 0) a m (V 0 0 0) p ch (k + 1)).2 := by
          show _ = (wpC (V 0 7 0) a m (V 0 0 0) p ch k).2 + (pkL (pkC (wpC (V 0 7 0) a m (V 0 0 0) p ch k).1 p 1) k 12).length
          rw [← hLd, hL0]; rfl
        have e1 : (wpC (V 0 7 0) a m (V 0 0 0) p ch k).1 = (wpC (V 0 7 0) a m (V 0 0 0) p ch (k + 1)).1 := by
          show _ = wpS (V 0 7 0) a m (V 0 0 0) p (wpC (V 0 7 0) a m (V 0 0 0) p ch k).1 k
          unfold wpS
          dsimp only
          rw [← hLd, if_pos hL0]
        rw [e1, e2]
        refine x_lv O [some (.ref (adr 0 7)), some (.int p), some (.int (nI (wpC (V 0 7 0) a m (V 0 0 0) p ch (k + 1)).2)), some (.int (nI (k + 1)))] ⟨rfl, rfl, rfl, rfl, trivial⟩ ?_
        exact ih (by omega) V2 VL1 (hI.tr (SQ.pk VL1 hq)) (by rw [hq.2.1, hr1, e2])
      · have hL0 : 0 < L.length := by
          rcases Nat.eq_zero_or_pos L.length with z | z
          · exact absurd (by rw [z]; decide) c27
          · exact z
        have hs0 : L.getD 0 0 ∈ L := getD_mem hL0
        have hmem := hs0
        rw [hLd] at hmem
        obtain ⟨⟨hb1, hb2⟩, hpk⟩ := pkL_mem hmem
        rw [← hLd] at hb1 hb2 hpk
        simp only [pkC, decide_eq_true_eq] at hpk
        have hhow : (hdR (wpC (V 0 7 0) a m (V 0 0 0) p ch k).1 (L.getD 0 0)).2.1 = 3 := Classical.byContradiction fun z => by
          rw [if_neg z] at hpk; exact absurd hpk.2 (by decide)
        obtain ⟨e1, e2, rr, g, hch, hg1, hg2⟩ := hWk _ (by omega) hhow
        have hG : wpG (wpC (V 0 7 0) a m (V 0 0 0) p ch k).1 L = g := by
          unfold wpG
          rw [show L.headD 0 = L.getD 0 0 from by cases L <;> rfl, hch]
          show e2.1.toNatClampNeg = g
          rw [hg1, nI_clamp (by omega)]
        refine x_aload_n (pc := 30) O dX7_passWidowsParts_30 rfl rfl ?_
        refine x_iconst (v := nI 0) (pc := 31) O dX7_passWidowsParts_31 (by decide) ?_
        refine x_aload_n (pc := 32) O dX7_passWidowsParts_32 rfl rfl ?_
        refine cv_get (t := 0) (n := 7) (pc := 33) O dX7_passWidowsParts_33 fdX7_35 rfl rfl rfl ?_
        refine x_aload_n (pc := 36) O dX7_passWidowsParts_36 rfl rfl ?_
        refine cv_get (t := 0) (n := 7) (pc := 37) O dX7_passWidowsParts_37 fdX7_35 rfl rfl rfl ?_
        refine cv_get (t := 0) (n := 2) (pc := 40) O dX7_passWidowsParts_40 fdX7_243 rfl rfl rfl ?_
        refine x_iconst (v := nI 0) (pc := 43) O dX7_passWidowsParts_43 (by decide) ?_
        refine cv_ald (n := 13) (pc := 44) O dX7_passWidowsParts_44 (by decide) rfl (by show _ < 12; omega) (by omega) ?_
        rw [hq.2.2.2 0 hL0]
        refine x_callV (pc := 45) (rest := [.int (nI 0), .ref (adr 0 7)]) (ci := 2) O (v_X2_giverOf l E _ _ _ _ _ _ (L.getD 0 0) (by omega) e1 e2 rr hch) dX7_passWidowsParts_45 cbX7_246 im_yX2_giverOf se_yX2_giverOf rfl (cv_recv (t := 0) (n := 2) rfl rfl) rfl rfl (Nat.le_of_ble_eq_true rfl) ⟨Nat.le_of_ble_eq_true rfl, Nat.le_of_ble_eq_true rfl⟩ ⟨by simp only [rmX]; omega, by simp only [rmX]; omega⟩ (fun _ => ?_)
        dsimp only [Option.toList, List.append, List.nil_append, List.cons_append, Nat.add_zero, Nat.reduceAdd]
        rw [hg1]
        have e02 : V2 0 0 = V 0 0 := by rw [hq.1 0 0 (fun z => absurd z.2 (by decide))]; exact e0
        have e72 : V2 0 7 = V 0 7 := by rw [hq.1 0 7 (fun z => absurd z.2 (by decide))]; exact e7
        have e32 : V2 0 3 = V 0 3 := by rw [hq.1 0 3 (fun z => absurd z.2 (by decide))]; exact e3
        refine x_callV (pc := 48) (rest := []) (ci := 7) O (c_X7_passPicked l E _ V2 VL1 m ns (wpC (V 0 7 0) a m (V 0 0 0) p ch k).1 a L 0 g (r + (wpC (V 0 7 0) a m (V 0 0 0) p ch k).2) (by rw [e32]; exact hc) h60 ((hI.tr (SQ.pk VL1 hq)).ka hka) hsx hfa hkin (by rw [e02]; exact hord) hq.2.2.1 hq.2.2.2 hLl (fun s hs => by rw [hLd] at hs; have := (pkL_mem hs).1; omega) (Nat.zero_le _) hg2 (by rw [hq.2.1]; exact hr1) (by omega)) dX7_passWidowsParts_48 cbX7_237 im_yX7_passPicked se_yX7_passPicked rfl (cv_recv (t := 0) (n := 7) rfl rfl) rfl rfl (Nat.le_of_ble_eq_true rfl) ⟨Nat.le_of_ble_eq_true rfl, Nat.le_of_ble_eq_true rfl⟩ ⟨by simp only [rmX]; omega, by simp only [rmX]; omega⟩ (fun x => x_pure O (fun hx => ?_))
        dsimp only [Option.toList, List.append, List.nil_append, List.cons_append, Nat.add_zero, Nat.reduceAdd]
        rw [e72, e02, List.drop_zero, Nat.sub_zero] at hx
        have hxc : x.2.2 = (wpC (V 0 7 0) a m (V 0 0 0) p ch (k + 1)).1 := by
          rw [hx.2.2.2]
          show _ = wpS (V 0 7 0) a m (V 0 0 0) p (wpC (V 0 7 0) a m (V 0 0 0) p ch k).1 k
          unfold wpS
          dsimp only
          rw [← hLd, if_neg (fun z => absurd hL0 (by rw [z]; decide)), hG]
        rw [hxc]
        refine x_iload_n (pc := 51) O dX7_passWidowsParts_51 rfl ?_
        refine x_aload_n (pc := 52) O dX7_passWidowsParts_52 rfl rfl ?_
        refine cv_get (t := 0) (n := 7) (pc := 53) O dX7_passWidowsParts_53 fdX7_35 rfl rfl rfl ?_
        refine cv_get (t := 0) (n := 2) (pc := 56) O dX7_passWidowsParts_56 fdX7_116 rfl rfl rfl ?_
        rw [hx.2.2.1]
        refine x_iadd (pc := 59) O dX7_passWidowsParts_59 ?_
        rw [nI_add, ← hst]
        refine x_istore_n (pc := 60) O dX7_passWidowsParts_60 (by decide) rfl ?_
        refine x_iinc (v := nI (k + 1)) (pc := 61) O dX7_passWidowsParts_61 rfl (nI_succ k).symm rfl ?_
        refine x_goto (pc := 64) O 4 dX7_passWidowsParts_64 (by decide) ?_
        refine x_lv O [some (.ref (adr 0 7)), some (.int p), some (.int (nI (wpC (V 0 7 0) a m (V 0 0 0) p ch (k + 1)).2)), some (.int (nI (k + 1)))] ⟨rfl, rfl, rfl, rfl, trivial⟩ ?_
        exact x_widen O (by omega) (by omega) (ih (by omega) x.1 x.2.1 ((hI.tr (SQ.pk VL1 hq)).tr hx.1) (by rw [hx.2.1]; congr 1; omega))
  refine x_iconst (v := nI 0) (pc := 0) O dX7_passWidowsParts_0 (by decide) ?_
  refine x_istore_n (pc := 1) O dX7_passWidowsParts_1 (by decide) rfl ?_
  refine x_iconst (v := nI 0) (pc := 2) O dX7_passWidowsParts_2 (by decide) ?_
  refine x_istore_n (pc := 3) O dX7_passWidowsParts_3 (by decide) rfl ?_
  exact loop 0 (Nat.zero_le _) V VL (SQ.rf _ _) (by rw [hr]; rfl)
