/-! ===== REF 9: heir ===== -/
theorem any_congr {f g : Nat → Bool} : ∀ (l : List Nat), (∀ q ∈ l, f q = g q) → l.any f = l.any g
  | [], _ => rfl
  | x :: r, h => by rw [List.any_cons, List.any_cons, h x List.mem_cons_self, any_congr r (fun q hq => h q (List.mem_cons_of_mem _ hq))]
theorem lastsF_congr {a A : Ar} {al al' : Nat → Bool} {m : Nat} (h10 : ∀ c, c < m → A 10 c = a 10 c) (h11 : ∀ c, c < m → A 11 c = a 11 c) (hal : ∀ c, c < m → al' c = al c) : ∀ f p, p < m → lastsF A al' m f p = lastsF a al m f p
  | 0, _, _ => rfl
  | f + 1, p, hp => by
    simp only [lastsF]
    rw [hal p hp]
    congr 1
    refine any_congr _ (fun c hc => ?_)
    have hc := List.mem_range.mp hc
    rw [lastsF_congr h10 h11 hal f c hc]
    simp only [chd, h10 c hc, h11 c hc]
theorem lasts_congr {a A : Ar} {al al' : Nat → Bool} {m : Nat} (h10 : ∀ c, c < m → A 10 c = a 10 c) (h11 : ∀ c, c < m → A 11 c = a 11 c) (hal : ∀ c, c < m → al' c = al c) {p : Nat} (hp : p < m) : lasts A al' m p = lasts a al m p := lastsF_congr h10 h11 hal 60 p hp
theorem fstG_congr {a A : Ar} {ln ln' : Nat → Bool} {ord : Int32} {m p : Nat} (hp : p < m) (h9 : ∀ c, c < m → A 9 c = a 9 c) (h10 : ∀ c, c < m → A 10 c = a 10 c) (h11 : ∀ c, c < m → A 11 c = a 11 c) (hl : ∀ c, c < m → ln' c = ln c) : fstG A ln' m ord p = fstG a ln m ord p := by
  unfold fstG
  rw [grp_congr h9 h10 h11 hl, h10 p hp, grp_congr h9 h10 h11 hl]
theorem fstG_lt {a : Ar} {ln : Nat → Bool} {ord : Int32} {m p : Nat} : ∀ q ∈ fstG a ln m ord p, q < m := by
  intro q hq
  unfold fstG at hq
  dsimp only at hq
  (repeat' split at hq) <;> first | exact (grp_sub hq).1 | simp at hq
def heirsOf (a : Ar) (m : Nat) (ord : Int32) (al : Nat → Bool) (j : Nat) : List Nat := heirsF a al (lasts a al m) m ord 60 (fstG a (lasts a al m) m ord j)
def alx (a : Ar) (j : Nat) : Nat → Bool := fun q => alB a q && decide (q ≠ j)
def hvI (H : List Nat) (n : Nat) : Int32 := if n < H.length then nI (H.getD n 0) else -1
def sEq (i : Nat → Int32) (a : Ar) (x : (Nat → Int32) × Ar) : Prop := (∀ k, k ≠ 40 → k ≠ 41 → k ≠ 42 → x.1 k = i k) ∧ ∀ k, k ≠ 21 → k ≠ 39 → k ≠ 43 → x.2 k = a k
theorem alx_up (a : Ar) (j q : Nat) : alB (up2 a 20 j 0) q = alx a j q := by
  unfold alB alx
  rw [up2_eq]
  by_cases h : q = j
  · subst h; rw [upd_eq]; simp
  · rw [upd_ne _ _ h]; simp [alB, h]
set_option maxRecDepth 100000 in
set_option maxHeartbeats 4000000 in
theorem c_X8_heir (l : Launch) (E : En) (o : Nat) (d : Nat → Nat) (i : Nat → Int32) (a : Nat → Nat → Int32) (ch : Nat → List Rt) (p x : Int32) {m : Nat} (hm : i 22 = nI m) (h60 : m ≤ 60) (hal : ∀ p, p < 60 → a 20 p = 0 ∨ a 20 p = 1) (hfa : ∀ p, p < m → ¬ a 10 p = -1 → ∃ f, f < 60 ∧ a 10 p = nI f) (hkin : ∀ c p, c < m → p < m → chd a c p → p < c) : Mt l E yX8_heir cX8_heir 6 (some .int) (rmX 63 1696 0 0) [.ref o, .int p, .int x] (RV E o d i a ch) (fun _ : (Nat → Int32) × Ar => some (.int (if isP i p ∧ 0 ≤ x ∧ x ≤ 39 then hvI (heirsOf a m (i 0) (alx a p.toNatClampNeg) p.toNatClampNeg) x.toNatClampNeg else -1))) (fun y h => sEq i a y ∧ RV E o d y.1 y.2 ch h) := by
  refine Mt_of (by decide +kernel) (Nat.le_of_ble_eq_true rfl) (fun J O => ?_)
  show J _ 0 0 0 [some (.ref o), some (.int p), some (.int x), none, none, none] []
  refine x_aload_n (pc := 0) O dX8_heir_0 rfl rfl ?_
  refine x_iload_n (pc := 1) O dX8_heir_1 rfl ?_
  refine x_callV (pc := 2) (rest := _) (ci := 8) O (c_X8_isPerson l E _ _ _ _ _ _) dX8_heir_2 cbX8_107 im_yX8_isPerson se_yX8_isPerson rfl v_recv rfl rfl (Nat.le_of_ble_eq_true rfl) ⟨Nat.le_of_ble_eq_true rfl, Nat.le_of_ble_eq_true rfl⟩ ⟨Nat.le_of_ble_eq_true rfl, Nat.le_of_ble_eq_true rfl⟩ (fun _ => ?_)
  dsimp only [Option.toList, List.append, List.nil_append, List.cons_append, Nat.add_zero, Nat.reduceAdd]
  refine x_if_eq (pc := 5) O 18 dX8_heir_5 (by decide) (fun c5 => ?_) (fun c5 => ?_)
  · refine x_iconst (v := (-1)) (pc := 18) O dX8_heir_18 (by decide) ?_
    have hc9 : ¬ (isP i p ∧ 0 ≤ x ∧ x ≤ 39) := fun z => b2i_z c5 z.1
    refine x_ret (v := some (.int _)) (pc := 19) O dX8_heir_19 rfl rfl ⟨Nat.le_refl _, Nat.le_refl _, (i, a), congrArg (fun z => some (Value.int z)) (if_neg hc9).symm, fun h hh => ?_⟩
    exact ⟨⟨fun _ _ _ _ => rfl, fun _ _ _ _ => rfl⟩, hh⟩
  · have hp := in_nat hm (by omega) (b2i_n0 c5)
    obtain ⟨j, hjm, rfl⟩ : ∃ j, j < m ∧ p = nI j := ⟨_, hp.2, hp.1⟩
    refine x_iload_n (pc := 8) O dX8_heir_8 rfl ?_
    refine x_iconst (v := 0) (pc := 9) O dX8_heir_9 (by decide) ?_
    refine x_bipush (v := 39) (pc := 10) O dX8_heir_10 (by decide) ?_
    refine x_callS (pc := 12) (rest := _) O (c_X8_in l E _ _ _ _) dX8_heir_12 cbX8_103 sm_yX8_in rfl rfl (Nat.le_of_ble_eq_true rfl) ⟨Nat.le_of_ble_eq_true rfl, Nat.le_of_ble_eq_true rfl⟩ ⟨Nat.le_of_ble_eq_true rfl, Nat.le_of_ble_eq_true rfl⟩ (fun _ => ?_)
    dsimp only [Option.toList, List.append, List.nil_append, List.cons_append, Nat.add_zero, Nat.reduceAdd]
    refine x_if_ne (pc := 15) O 20 dX8_heir_15 (by decide) (fun c15 => ?_) (fun c15 => ?_)
    · obtain ⟨xn, hx40, rfl⟩ : ∃ xn, xn < 40 ∧ x = nI xn := by
        have hx := b2i_n0 c15
        obtain ⟨z, hz, rfl⟩ := nI_of (x := x) (Int32.not_lt.mpr hx.1)
        refine ⟨z, ?_, rfl⟩
        have h2 := hx.2
        rw [show (39 : Int32) = nI 39 from rfl, nI_leI hz (by decide)] at h2
        omega
      have hCO : isP i (nI j) ∧ 0 ≤ nI xn ∧ nI xn ≤ 39 := ⟨b2i_n0 c5, b2i_n0 c15⟩
      refine x_aload_n (pc := 20) O dX8_heir_20 rfl rfl ?_
      refine v_get (pc := 21) O dX8_heir_21 fdX8_43 rfl rfl ?_
      refine x_iload_n (pc := 24) O dX8_heir_24 rfl ?_
      refine v_zld (k := 20) (pc := 25) O dX8_heir_25 rfl rfl (by omega) ?_
      refine x_istore_n (pc := 26) O dX8_heir_26 (by decide) rfl ?_
      refine x_aload_n (pc := 27) O dX8_heir_27 rfl rfl ?_
      refine v_get (pc := 28) O dX8_heir_28 fdX8_43 rfl rfl ?_
      refine x_iload_n (pc := 31) O dX8_heir_31 rfl ?_
      refine x_iconst (v := 0) (pc := 32) O dX8_heir_32 (by decide) ?_
      refine v_zst (k := 20) (pc := 33) O dX8_heir_33 rfl rfl (by omega) rfl ?_
      refine x_aload_n (pc := 34) O dX8_heir_34 rfl rfl ?_
      refine x_callV (pc := 35) (rest := _) (ci := 8) O (c_X8_lines l E _ _ _ _ _ hm h60 (fun p hp => by
        rw [up2_eq]
        by_cases e : p = j
        · subst e; rw [upd_eq]; exact Or.inl rfl
        · rw [upd_ne _ _ e]; exact hal p hp)) dX8_heir_35 cbX8_174 im_yX8_lines se_yX8_lines rfl v_recv rfl rfl (Nat.le_of_ble_eq_true rfl) ⟨Nat.le_of_ble_eq_true rfl, Nat.le_of_ble_eq_true rfl⟩ ⟨Nat.le_of_ble_eq_true rfl, Nat.le_of_ble_eq_true rfl⟩ (fun B => x_pure O (fun hB => ?_))
      dsimp only [Option.toList, List.append, List.nil_append, List.cons_append, Nat.add_zero, Nat.reduceAdd]
      obtain ⟨hB1, hB2⟩ := hB
      refine x_aload_n (pc := 38) O dX8_heir_38 rfl rfl ?_
      refine x_iconst (v := nI 0) (pc := 39) O dX8_heir_39 (by decide) ?_
      refine v_put (pc := 40) O dX8_heir_40 fpX8_158 rfl rfl ?_
      refine x_aload_n (pc := 43) O dX8_heir_43 rfl rfl ?_
      refine x_iconst (v := nI 0) (pc := 44) O dX8_heir_44 (by decide) ?_
      refine v_put (pc := 45) O dX8_heir_45 fpX8_165 rfl rfl ?_
      refine x_aload_n (pc := 48) O dX8_heir_48 rfl rfl ?_
      refine x_iload_n (pc := 49) O dX8_heir_49 rfl ?_
      refine v_put (pc := 50) O dX8_heir_50 fpX8_168 rfl rfl ?_
      refine x_aload_n (pc := 53) O dX8_heir_53 rfl rfl ?_
      refine x_iload_n (pc := 54) O dX8_heir_54 rfl ?_
      refine x_callV (pc := 55) (rest := _) (ci := 8) O (c_X8_first l E _ _ _ _ _ j (m := m) (by rw [upd_ne _ _ (by decide), upd_ne _ _ (by decide), upd_ne _ _ (by decide)]; exact hm) h60 (by rw [upd_ne _ _ (by decide), upd_ne _ _ (by decide), upd_eq]) (by omega) (by rw [hB1 10 (by decide)]; exact hfa j hjm)) dX8_heir_55 cbX8_177 im_yX8_first se_yX8_first rfl v_recv rfl rfl (Nat.le_of_ble_eq_true rfl) ⟨Nat.le_of_ble_eq_true rfl, Nat.le_of_ble_eq_true rfl⟩ ⟨Nat.le_of_ble_eq_true rfl, Nat.le_of_ble_eq_true rfl⟩ (fun _ => ?_)
      dsimp only [Option.toList, List.append, List.nil_append, List.cons_append, Nat.add_zero, Nat.reduceAdd]
      have hln : ∀ c, c < m → lnB B c = lasts a (alx a j) m c := fun c hc => by
        have h1 := hB2 c hc
        rw [lasts_congr (a := a) (al := alx a j) (fun c _ => by rw [up2_ne _ _ _ (by decide)]) (fun c _ => by rw [up2_ne _ _ _ (by decide)]) (fun c _ => alx_up a j c) hc] at h1
        exact Bool.eq_iff_iff.mpr h1
      have hGe : fstG B (lnB B) m (upd (upd (upd i 40 (nI 0)) 41 (nI 0)) 42 (nI xn) 0) j = fstG a (lasts a (alx a j) m) m (i 0) j := by
        rw [upd_ne _ _ (by decide), upd_ne _ _ (by decide), upd_ne _ _ (by decide)]
        exact fstG_congr hjm (fun c _ => by rw [hB1 9 (by decide), up2_ne _ _ _ (by decide)]) (fun c _ => by rw [hB1 10 (by decide), up2_ne _ _ _ (by decide)]) (fun c _ => by rw [hB1 11 (by decide), up2_ne _ _ _ (by decide)]) hln
      rw [hGe]
      obtain ⟨G, hG⟩ : ∃ G, G = fstG a (lasts a (alx a j) m) m (i 0) j := ⟨_, rfl⟩
      rw [← hG]
      have hgl : G.length ≤ 60 := by rw [hG]; exact fstG_len h60
      refine x_istore (pc := 58) O dX8_heir_58 (by decide) rfl ?_
      refine x_aload_n (pc := 60) O dX8_heir_60 rfl rfl ?_
      refine x_iconst (v := nI 0) (pc := 61) O dX8_heir_61 (by decide) ?_
      refine x_iload (pc := 62) O dX8_heir_62 rfl ?_
      refine x_callV (pc := 64) (rest := _) (ci := 8) O (c_X8_listed l E o d 60 _ _ ch m 0 (0 + G.length) 0 xn G (by rw [upd_ne _ _ (by decide), upd_ne _ _ (by decide), upd_ne _ _ (by decide), upd_ne _ _ (by decide)]; exact hm) h60 (upd_eq _ _ _) (by omega) (fun t ht => rowput_get _ _ _ ht) (fun q hq => ⟨by rw [hG] at hq; exact fstG_lt q hq, by omega⟩) (Nat.le_refl _) (by rw [upd_ne _ _ (by decide), upd_ne _ _ (by decide), upd_eq]) (by rw [upd_ne _ _ (by decide), upd_eq]) (Nat.zero_le _) hx40 (fun c p hc hp9 hch => by
        simp only [chd, rowput_ne _ _ _ (show (10 : Nat) ≠ 39 by decide), rowput_ne _ _ _ (show (11 : Nat) ≠ 39 by decide), hB1 10 (by decide), hB1 11 (by decide), up2_ne a j 0 (show (10 : Nat) ≠ 20 by decide), up2_ne a j 0 (show (11 : Nat) ≠ 20 by decide)] at hch
        exact hkin c p hc hp9 hch)) dX8_heir_64 cbX8_171 im_yX8_listed se_yX8_listed rfl v_recv rfl rfl (Nat.le_of_ble_eq_true rfl) ⟨Nat.le_of_ble_eq_true rfl, Nat.le_of_ble_eq_true rfl⟩ ⟨Nat.le_of_ble_eq_true rfl, Nat.le_of_ble_eq_true rfl⟩ (fun y => x_pure O (fun hy => ?_))
      obtain ⟨hy1, hy2, hy3, hy4⟩ := hy
      rw [upd_ne _ _ (by decide), upd_ne _ _ (by decide), upd_ne _ _ (by decide), upd_ne _ _ (by decide), heirsF_congr (a := a) (al := alx a j) (ln := lasts a (alx a j) m) (fun c _ => by rw [rowput_ne _ _ _ (by decide), hB1 9 (by decide), up2_ne _ _ _ (by decide)]) (fun c _ => by rw [rowput_ne _ _ _ (by decide), hB1 10 (by decide), up2_ne _ _ _ (by decide)]) (fun c _ => by rw [rowput_ne _ _ _ (by decide), hB1 11 (by decide), up2_ne _ _ _ (by decide)]) (fun c hc => by rw [← hln c hc]; simp only [lnB, rowput_ne _ _ _ (show (21 : Nat) ≠ 39 by decide)]) (fun c hc => by rw [← alx_up a j c]; simp only [alB, rowput_ne _ _ _ (show (20 : Nat) ≠ 39 by decide), hB1 20 (by decide)]) 60 G (fun q hq => by rw [hG] at hq; exact fstG_lt q hq), hG] at hy4
      rw [show heirsF a (alx a j) (lasts a (alx a j) m) m (i 0) 60 (fstG a (lasts a (alx a j) m) m (i 0) j) = heirsOf a m (i 0) (alx a j) j from rfl, Nat.zero_add, Nat.sub_zero] at hy4
      dsimp only [Option.toList, List.append, List.nil_append, List.cons_append, Nat.add_zero, Nat.reduceAdd]
      refine x_istore (pc := 67) O dX8_heir_67 (by decide) rfl ?_
      refine x_aload_n (pc := 69) O dX8_heir_69 rfl rfl ?_
      refine v_get (pc := 70) O dX8_heir_70 fdX8_43 rfl rfl ?_
      refine x_iload_n (pc := 73) O dX8_heir_73 rfl ?_
      refine x_iload_n (pc := 74) O dX8_heir_74 rfl ?_
      refine v_zst (k := 20) (pc := 75) O dX8_heir_75 rfl rfl (by omega) (nar01 (hal j (by omega))) ?_
      refine x_iload (pc := 76) O dX8_heir_76 rfl ?_
      refine x_ret (v := some (.int _)) (pc := 78) O dX8_heir_78 rfl rfl ⟨Nat.le_refl _, Nat.le_refl _, (y.2.1, up2 y.2.2 20 j (a 20 j)), congrArg (fun z => some (Value.int z)) ?_, fun h hh => ⟨⟨fun k k1 k2 k3 => ?_, fun k k1 k2 k3 => ?_⟩, hh⟩⟩
      · rw [if_pos hCO, nI_clamp (by omega), nI_clamp (by omega)]
        unfold hvI
        rcases hy4 with ⟨q1, q2, q3⟩ | ⟨q1, q2, q3⟩
        · rw [if_pos (by omega)]; exact q2
        · rw [if_neg (by omega)]; exact q2
      · show y.2.1 k = i k
        rw [hy1 k k2, upd_ne _ _ k1, upd_ne _ _ k3, upd_ne _ _ k2, upd_ne _ _ k1]
      · show up2 y.2.2 20 j (a 20 j) k = a k
        by_cases e : k = 20
        · subst e
          rw [up2_eq, hy2 20 (by decide), rowput_ne _ _ _ (by decide), hB1 20 (by decide), up2_eq]
          funext q
          by_cases e2 : q = j
          · subst e2; rw [upd_eq]
          · rw [upd_ne _ _ e2, upd_ne _ _ e2]
        · rw [up2_ne _ _ _ e, hy2 k k2, rowput_ne _ _ _ k2, hB1 k k1, up2_ne _ _ _ e]
    · refine x_iconst (v := (-1)) (pc := 18) O dX8_heir_18 (by decide) ?_
      have hc9 : ¬ (isP i (nI j) ∧ 0 ≤ x ∧ x ≤ 39) := fun z => b2i_z c15 z.2
      refine x_ret (v := some (.int _)) (pc := 19) O dX8_heir_19 rfl rfl ⟨Nat.le_refl _, Nat.le_refl _, (i, a), congrArg (fun z => some (Value.int z)) (if_neg hc9).symm, fun h hh => ?_⟩
      exact ⟨⟨fun _ _ _ _ => rfl, fun _ _ _ _ => rfl⟩, hh⟩
