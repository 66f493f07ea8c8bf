/-! ===== REF 10: longer, comes ===== -/
def gup (f : Nat → Int32) (k : Nat) : Nat → Int32 := fun j => if j < k then f j else 0
theorem gup_0 (f : Nat → Int32) : gup f 0 = fun _ => 0 := by funext j; simp [gup]
theorem gup_s (f : Nat → Int32) (k : Nat) : upd (gup f k) k (f k) = gup f (k + 1) := by
  funext j
  by_cases h : j = k
  · subst h; rw [upd_eq]; simp [gup]
  · rw [upd_ne _ _ h]
    unfold gup
    by_cases h2 : j < k
    · rw [if_pos h2, if_pos (by omega)]
    · rw [if_neg h2, if_neg (by omega)]
set_option maxRecDepth 100000 in
set_option maxHeartbeats 4000000 in
theorem c_X8_longer (l : Launch) (E : En) (P : HP) (q n : Nat) (f : Nat → Int32) (hP : ∀ h, P h → h q = some (.inl (E.2 0, n, .inl f))) (hn : n ≤ 32768) : Mt l E yX8_longer cX8_longer 3 (some (.array .int)) (rmX 0 0 1 (2 * n)) [.ref q] (P) (fun r : Nat => some (.ref r)) (fun r h => ∃ h0, P h0 ∧ h0 r = none ∧ h = hset h0 r (.inl (E.2 0, 2 * n, .inl (gup f n)))) := by
  refine Mt_of (by decide +kernel) (Nat.le_of_ble_eq_true rfl) (fun J O => ?_)
  show J _ 0 0 0 [some (.ref q), none, none] []
  refine x_iconst (v := nI 2) (pc := 0) O dX8_longer_0 (by decide) ?_
  refine x_aload_n (pc := 1) O dX8_longer_1 rfl rfl ?_
  refine x_alen (t0 := 0) (ty := .int) (N := n) (pc := 2) O dX8_longer_2 (fun h H => ⟨_, _, hP h H, rfl⟩) rfl ?_
  refine x_imul (pc := 3) O dX8_longer_3 ?_
  rw [show nI 2 * Int32.ofNat n = nI (2 * n) from pk_mul 2 n]
  refine x_newi (N := 2 * n) (pc := 4) O dX8_longer_4 (nI_pos (by omega)) (nI_clamp (by omega)) (by omega) (Nat.le_refl _) (by show 0 + 2 * n ≤ 2 * n; omega) (fun r => ?_)
  rw [← gup_0 f]
  have loop : ∀ k, k ≤ n → J (fun h => ∃ h0, P h0 ∧ h0 r = none ∧ h = hset h0 r (.inl (E.2 0, 2 * n, .inl (gup f k)))) (0 + 1) (0 + 2 * n) 9 [some (.ref q), some (.ref r), some (.int (nI k))] [] := by
    refine up_ind n (fun k hk ih => ?_)
    refine x_iload_n (pc := 9) O dX8_longer_9 rfl ?_
    refine x_aload_n (pc := 10) O dX8_longer_10 rfl rfl ?_
    refine x_alen (t0 := 0) (ty := .int) (N := n) (pc := 11) O dX8_longer_11 (fun h H => ⟨E.2 0, .inl f, (by
        obtain ⟨h0, g1, g2, g3⟩ := H
        have hne : q ≠ r := fun e => by rw [← e, hP h0 g1] at g2; cases g2
        rw [g3, hset_ne _ _ hne]; exact hP h0 g1), rfl⟩) rfl ?_
    refine x_icmp_ge (pc := 12) O 27 dX8_longer_12 (by decide) (fun c12 => ?_) (fun c12 => ?_)
    · refine x_aload_n (pc := 27) O dX8_longer_27 rfl rfl ?_
      have hk2 : k = n := by
        rw [show Int32.ofNat n = nI n from rfl, nI_leI (by omega) (by omega)] at c12
        omega
      subst hk2
      exact x_ret (v := some (.ref r)) (pc := 28) O dX8_longer_28 rfl trivial ⟨Nat.le_of_eq (Nat.zero_add _), Nat.le_of_eq (Nat.zero_add _), r, rfl, fun h hh => hh⟩
    · have hk3 : k < n := by
        rw [show Int32.ofNat n = nI n from rfl, nI_leI (by omega) (by omega)] at c12
        omega
      refine x_aload_n (pc := 15) O dX8_longer_15 rfl rfl ?_
      refine x_iload_n (pc := 16) O dX8_longer_16 rfl ?_
      refine x_aload_n (pc := 17) O dX8_longer_17 rfl rfl ?_
      refine x_iload_n (pc := 18) O dX8_longer_18 rfl ?_
      refine x_iald (v := f k) (pc := 19) O dX8_longer_19 (fun h H => ⟨n, f, (by
          obtain ⟨h0, g1, g2, g3⟩ := H
          have hne : q ≠ r := fun e => by rw [← e, hP h0 g1] at g2; cases g2
          rw [g3, hset_ne _ _ hne]; exact hP h0 g1), vp_in_nI hk3 (by omega), by rw [nI_clamp (by omega)]⟩) ?_
      refine x_iast (P' := (fun h => ∃ h0, P h0 ∧ h0 r = none ∧ h = hset h0 r (.inl (E.2 0, 2 * n, .inl (gup f (k + 1)))))) (pc := 20) O dX8_longer_20 (fun h H => ?_) ?_
      · obtain ⟨h0, g1, g2, g3⟩ := H
        refine ⟨2 * n, gup f k, by rw [g3, hset_same], vp_in_nI (by omega) (by omega), h0, g1, g2, ?_⟩
        rw [nI_clamp (by omega), gup_s, g3]
        funext z
        by_cases e : z = r
        · subst e; rw [hset_same, hset_same]
        · rw [hset_ne _ _ e, hset_ne _ _ e, hset_ne _ _ e]
      refine x_iinc (v := nI (k + 1)) (pc := 21) O dX8_longer_21 rfl (nI_succ k).symm rfl ?_
      refine x_goto (pc := 24) O 9 dX8_longer_24 (by decide) ?_
      exact ih (by omega)
  refine x_astore_n (pc := 6) O dX8_longer_6 (by decide) rfl rfl ?_
  refine x_iconst (v := nI 0) (pc := 7) O dX8_longer_7 (by decide) ?_
  refine x_istore_n (pc := 8) O dX8_longer_8 (by decide) rfl ?_
  exact loop 0 (Nat.zero_le _)
theorem cap_32 {r : Nat} (h : r = cap r) (h2 : r < 65536) : cap r ≤ 32768 := by revert h; unfold cap; (repeat' split) <;> omega
def RWn (E : En) (o : Nat) (d : Nat → Nat) (n : Nat → Nat) (i : Nat → Int32) (a : Ar) : HP := fun h =>
  h o = some (.inr (8, rfs d i)) ∧ (∀ k, isA k = true → h (d k) = some (.inl (E.2 (rty k), n k, .inl (a k)))) ∧ ∀ j k, isA j = true → isA k = true → d j = d k → j = k
theorem RWn.to {E : En} {o N : Nat} {d : Nat → Nat} {n : Nat → Nat} {i : Nat → Int32} {a : Ar} {h : HF} (H : RWn E o d n i a h) (hn : ∀ k, isA k = true → n k = rlen N k) : RW E o d N i a h := ⟨H.1, fun k hk => by rw [← hn k hk]; exact H.2.1 k hk, H.2.2⟩
theorem RWn.grow {E : En} {o : Nat} {d : Nat → Nat} {n : Nat → Nat} {i : Nat → Int32} {a : Ar} {h : HF} {k r N : Nat} {g : Nat → Int32} (hk : isA k = true) (hz : isZ k = false) (H : ∃ h0, RWn E o d n i a h0 ∧ h0 r = none ∧ h = hset h0 r (.inl (E.2 0, N, .inl g))) : ∃ fs, h o = some (.inr (8, fs)) ∧ k < fs.length ∧ RWn E o (va_up d k r) (va_up n k N) i (va_up a k g) (hset h o (.inr (8, fs.set k (.ref r)))) := by
  obtain ⟨h0, ⟨g1, g2, g3⟩, g4, rfl⟩ := H
  have hro : o ≠ r := fun e => by rw [← e, g1] at g4; cases g4
  have hrk : ∀ j, isA j = true → d j ≠ r := fun j hj e => by have := g2 j hj; rw [e, g4] at this; cases this
  have hok : ∀ j, isA j = true → d j ≠ o := fun j hj e => by have := g2 j hj; rw [e, g1] at this; cases this
  refine ⟨rfs d i, by rw [hset_ne _ _ hro]; exact g1, by simp only [rfs, List.length_cons, List.length_nil]; exact isA_lt hk, ?_, ?_, ?_⟩
  · rw [hset_same, rfs_setA d i r k hk]
  · intro j hj
    by_cases e : j = k
    · subst e
      rw [va_up_self, va_up_self, va_up_self, hset_ne _ _ (Ne.symm hro), hset_same]
      simp only [rty, hz, Bool.false_eq_true, if_false]
    · rw [va_up_ne _ _ e, va_up_ne _ _ e, va_up_ne _ _ e, hset_ne _ _ (hok j hj), hset_ne _ _ (hrk j hj)]
      exact g2 j hj
  · intro x y hx hy e
    by_cases ex : x = k
    · subst ex
      by_cases ey : y = x
      · exact ey.symm
      · rw [va_up_self, va_up_ne _ _ ey] at e
        exact absurd e.symm (hrk y hy)
    · by_cases ey : y = k
      · subst ey
        rw [va_up_self, va_up_ne _ _ ex] at e
        exact absurd e (hrk x hx)
      · rw [va_up_ne _ _ ex, va_up_ne _ _ ey] at e
        exact g3 x y hx hy e
theorem rn_get {l : Launch} {E : En} {cc : ByteArray} {own nm : String} {nL : Nat} {R : Room} {ret : Option FieldType} {Fn : Ft} {J : Jt} (O : Ok l E cc own nm nL R ret Fn J) {pc index : Nat} {k : Nat} {v : Value} {o : Nat} {d n : Nat → Nat} {i : Nat → Int32} {a : Ar} {ce sl : Nat} {lv : LV} {st : List Value} (dd : decode cc pc = .ok (.getfield index, 3)) (hl : FD own index 8 k) (hv : (rfs d i)[k]? = some v) (kk : J (RWn E o d n i a) ce sl (pc + 3) lv (v :: st)) : J (RWn E o d n i a) ce sl pc lv (.ref o :: st) :=
  x_get O dd hl (fun h H => ⟨_, H.1, hv⟩) kk
theorem chainR_pre {a b : Ar} {r : Nat} (h : ∀ k, k < r → a 24 k = b 24 k ∧ a 25 k = b 25 k ∧ a 26 k = b 26 k ∧ a 27 k = b 27 k) (s : Nat) : ∀ k, k ≤ r → chainR a s k = chainR b s k
  | 0, _ => rfl
  | k + 1, hk => by
    obtain ⟨h1, h2, h3, h4⟩ := h k (by omega)
    simp only [chainR, h1, h2, h3, h4, chainR_pre h s k (by omega)]
theorem RC.come {d d' D : Nat → Nat} {i : Nat → Int32} {b a A : Ar} {ch : Nat → List Rt} {r s : Nat} {who how : Int32} (h : RC d d' i b a ch r) (hs : s < 120) (hr : r + 1 ≤ 61560) (hD : ∀ k, isRr k = false → D k = d' k) (hA : ∀ k, isRr k = false → A k = a k) (hAr : ∀ k, k < r → A 24 k = a 24 k ∧ A 25 k = a 25 k ∧ A 26 k = a 26 k ∧ A 27 k = a 27 k) :
    RC d D (upd i 28 (i 28 + 1)) (up2 (up2 b 29 s who) 30 s (-1)) (up2 (up2 (up2 (up2 (up2 (up2 A 24 r (nI s)) 25 r who) 26 r how) 27 r (i 8)) 29 s who) 30 s (-1)) (va_up ch s ((who, how, i 8) :: ch s)) (r + 1) := by
  obtain ⟨h1, h2, h3, h4, h5⟩ := h
  have e24 : ∀ k, (up2 (up2 (up2 (up2 (up2 (up2 A 24 r (nI s)) 25 r who) 26 r how) 27 r (i 8)) 29 s who) 30 s (-1)) 24 k = upd (A 24) r (nI s) k := fun k => by simp [up2]
  have e25 : ∀ k, (up2 (up2 (up2 (up2 (up2 (up2 A 24 r (nI s)) 25 r who) 26 r how) 27 r (i 8)) 29 s who) 30 s (-1)) 25 k = upd (A 25) r who k := fun k => by simp [up2]
  have e26 : ∀ k, (up2 (up2 (up2 (up2 (up2 (up2 A 24 r (nI s)) 25 r who) 26 r how) 27 r (i 8)) 29 s who) 30 s (-1)) 26 k = upd (A 26) r how k := fun k => by simp [up2]
  have e27 : ∀ k, (up2 (up2 (up2 (up2 (up2 (up2 A 24 r (nI s)) 25 r who) 26 r how) 27 r (i 8)) 29 s who) 30 s (-1)) 27 k = upd (A 27) r (i 8) k := fun k => by simp [up2]
  refine ⟨fun k hk => ⟨(hD k hk).trans (h1 k hk).1, ?_⟩, ?_, hr, ?_, ?_⟩
  · have hk2 : k ≠ 24 ∧ k ≠ 25 ∧ k ≠ 26 ∧ k ≠ 27 := by simp [isRr] at hk; omega
    by_cases e30 : k = 30
    · subst e30
      rw [up2_eq, up2_eq, up2_ne _ _ _ (by decide), up2_ne _ _ _ (by decide), up2_ne _ _ _ (by decide), up2_ne _ _ _ (by decide), up2_ne _ _ _ (by decide), up2_ne _ _ _ (by decide), hA 30 rfl, (h1 30 rfl).2]
    · rw [up2_ne _ _ _ e30, up2_ne _ _ _ e30]
      by_cases e29 : k = 29
      · subst e29
        rw [up2_eq, up2_eq, up2_ne _ _ _ (by decide), up2_ne _ _ _ (by decide), up2_ne _ _ _ (by decide), up2_ne _ _ _ (by decide), hA 29 rfl, (h1 29 rfl).2]
      · rw [up2_ne _ _ _ e29, up2_ne _ _ _ e29, up2_ne _ _ _ hk2.2.2.2, up2_ne _ _ _ hk2.2.2.1, up2_ne _ _ _ hk2.2.1, up2_ne _ _ _ hk2.1, hA k hk, (h1 k hk).2]
  · rw [upd_eq, h2, show nI r + 1 = nI (r + 1) from (nI_succ r).symm]
  · intro k hk
    rw [e24]
    by_cases e : k = r
    · subst e; exact ⟨s, hs, upd_eq _ _ _⟩
    · rw [upd_ne _ _ e, (hAr k (by omega)).1]
      exact h4 k (by omega)
  · intro t ht
    show (if _ = nI t then _ :: _ else _) = _
    rw [e24, e25, e26, e27, upd_eq, upd_eq, upd_eq, upd_eq, chainR_pre (b := a) (r := r) (fun k hk => ?_) t r (Nat.le_refl r), h5 t ht]
    · by_cases e : t = s
      · subst e; rw [if_pos rfl, va_up_self]
      · rw [if_neg (fun z => e ((nI_eq (by omega) (by omega)).mp z).symm), va_up_ne _ _ e]
    · rw [e24, e25, e26, e27, upd_ne _ _ (by omega), upd_ne _ _ (by omega), upd_ne _ _ (by omega), upd_ne _ _ (by omega)]
      exact hAr k hk
set_option maxRecDepth 100000 in
set_option maxHeartbeats 4000000 in
theorem c_X8_comes (l : Launch) (E : En) (o : Nat) (d : Nat → Nat) (i : Nat → Int32) (a : Nat → Nat → Int32) (ch : Nat → List Rt) (s : Nat) (who how : Int32) {r : Nat} (hs : s < 120) (hr : i 28 = nI r) (hr2 : r + 1 ≤ 61560) : Mt l E yX8_comes cX8_comes 4 none (rmX 1 22 ((cap (r + 1) - cap r) / 64) (8 * (cap (r + 1) - cap r))) [.ref o, .int (nI s), .int who, .int how] (RV E o d i a ch) (fun _ : Unit => none) (fun _ => RV E o d (upd i 28 (i 28 + 1)) (up2 (up2 a 29 s who) 30 s (-1)) (va_up ch s ((who, how, i 8) :: ch s))) := by
  refine Mt_of (by decide +kernel) (Nat.le_of_ble_eq_true rfl) (fun J O => ?_)
  show J _ 0 0 0 [some (.ref o), some (.int (nI s)), some (.int who), some (.int how)] []
  refine v_open O (fun d' a' r' hq => ?_)
  have hrr : r' = r := (nI_eq (by have := hq.2.2.1; omega) (by omega)).mp (hq.2.1.symm.trans hr)
  subst hrr
  have hr65 : r' ≤ 65536 := by omega
  have tail : ∀ ce sl D A, ce ≤ (cap (r' + 1) - cap r') / 64 → sl ≤ 8 * (cap (r' + 1) - cap r') → (∀ k, isRr k = false → D k = d' k) → (∀ k, isRr k = false → A k = a' k) → (∀ k, k < r' → A 24 k = a' 24 k ∧ A 25 k = a' 25 k ∧ A 26 k = a' 26 k ∧ A 27 k = a' 27 k) → J (RW E o D (cap (r' + 1)) i A) ce sl 56 [some (.ref o), some (.int (nI s)), some (.int who), some (.int how)] [] := by
    intro ce sl D A hce hsl hD hA hAr
    have hcap := cap_ge (r := r' + 1) (by omega)
    refine x_aload_n (pc := 56) O dX8_comes_56 rfl rfl ?_
    refine r_get (pc := 57) O dX8_comes_57 fdX8_50 rfl ?_
    refine x_aload_n (pc := 60) O dX8_comes_60 rfl rfl ?_
    refine r_get (pc := 61) O dX8_comes_61 fdX8_111 rfl ?_
    refine x_iload_n (pc := 64) O dX8_comes_64 rfl ?_
    refine r_ast (k := 24) (pc := 65) O dX8_comes_65 rfl rfl hr (by show _ < cap (r' + 1); omega) (by omega) ?_
    refine x_aload_n (pc := 66) O dX8_comes_66 rfl rfl ?_
    refine r_get (pc := 67) O dX8_comes_67 fdX8_53 rfl ?_
    refine x_aload_n (pc := 70) O dX8_comes_70 rfl rfl ?_
    refine r_get (pc := 71) O dX8_comes_71 fdX8_111 rfl ?_
    refine x_iload_n (pc := 74) O dX8_comes_74 rfl ?_
    refine r_ast (k := 25) (pc := 75) O dX8_comes_75 rfl rfl hr (by show _ < cap (r' + 1); omega) (by omega) ?_
    refine x_aload_n (pc := 76) O dX8_comes_76 rfl rfl ?_
    refine r_get (pc := 77) O dX8_comes_77 fdX8_56 rfl ?_
    refine x_aload_n (pc := 80) O dX8_comes_80 rfl rfl ?_
    refine r_get (pc := 81) O dX8_comes_81 fdX8_111 rfl ?_
    refine x_iload_n (pc := 84) O dX8_comes_84 rfl ?_
    refine r_ast (k := 26) (pc := 85) O dX8_comes_85 rfl rfl hr (by show _ < cap (r' + 1); omega) (by omega) ?_
    refine x_aload_n (pc := 86) O dX8_comes_86 rfl rfl ?_
    refine r_get (pc := 87) O dX8_comes_87 fdX8_59 rfl ?_
    refine x_aload_n (pc := 90) O dX8_comes_90 rfl rfl ?_
    refine r_get (pc := 91) O dX8_comes_91 fdX8_111 rfl ?_
    refine x_aload_n (pc := 94) O dX8_comes_94 rfl rfl ?_
    refine r_get (pc := 95) O dX8_comes_95 fdX8_118 rfl ?_
    refine r_ast (k := 27) (pc := 98) O dX8_comes_98 rfl rfl hr (by show _ < cap (r' + 1); omega) (by omega) ?_
    refine x_aload_n (pc := 99) O dX8_comes_99 rfl rfl ?_
    refine x_dup (pc := 100) O dX8_comes_100 rfl ?_
    refine r_get (pc := 101) O dX8_comes_101 fdX8_111 rfl ?_
    refine x_iconst (v := 1) (pc := 104) O dX8_comes_104 (by decide) ?_
    refine x_iadd (pc := 105) O dX8_comes_105 ?_
    refine r_put (pc := 106) O dX8_comes_106 fpX8_111 rfl ?_
    refine x_aload_n (pc := 109) O dX8_comes_109 rfl rfl ?_
    refine r_get (pc := 110) O dX8_comes_110 fdX8_62 rfl ?_
    refine x_iload_n (pc := 113) O dX8_comes_113 rfl ?_
    refine x_iload_n (pc := 114) O dX8_comes_114 rfl ?_
    refine r_ast (k := 29) (pc := 115) O dX8_comes_115 rfl rfl rfl (by show _ < 120; omega) (by omega) ?_
    refine x_aload_n (pc := 116) O dX8_comes_116 rfl rfl ?_
    refine r_get (pc := 117) O dX8_comes_117 fdX8_65 rfl ?_
    refine x_iload_n (pc := 120) O dX8_comes_120 rfl ?_
    refine x_iconst (v := (-1)) (pc := 121) O dX8_comes_121 (by decide) ?_
    refine r_ast (k := 30) (pc := 122) O dX8_comes_122 rfl rfl rfl (by show _ < 120; omega) (by omega) ?_
    exact x_ret (v := none) (pc := 123) O dX8_comes_123 rfl trivial ⟨hce, hsl, (), rfl, fun h hh => ⟨(D, _, r' + 1), hq.come hs hr2 hD hA hAr, hh⟩⟩
  refine x_aload_n (pc := 0) O dX8_comes_0 rfl rfl ?_
  refine r_get (pc := 1) O dX8_comes_1 fdX8_111 rfl ?_
  refine x_aload_n (pc := 4) O dX8_comes_4 rfl rfl ?_
  refine r_get (pc := 5) O dX8_comes_5 fdX8_50 rfl ?_
  refine r_len (k := 24) (pc := 8) O dX8_comes_8 rfl rfl ?_
  refine x_icmp_ne (pc := 9) O 56 dX8_comes_9 (by decide) (fun c9 => ?_) (fun c9 => ?_)
  · rw [hr, nI_eq (by omega) (by show cap r' < _; have := cap_hi r'; omega)] at c9
    rw [← cap_same c9 hr65]
    exact tail 0 0 d' a' (Nat.zero_le _) (Nat.zero_le _) (fun _ _ => rfl) (fun _ _ => rfl) (fun _ _ => ⟨rfl, rfl, rfl, rfl⟩)
  · have hc9 : r' = cap r' := by
      rw [hr, nI_eq (by omega) (by show cap r' < _; have := cap_hi r'; omega)] at c9
      exact c9
    have hcn := cap_next hc9 (by omega)
    have h32 := cap_32 hc9 (by omega)
    have hlo := cap_lo r'
    refine x_imp O (P' := RWn E o d' (rlen (cap r')) i a') (fun h H => H) ?_
    refine x_aload_n (pc := 12) O dX8_comes_12 rfl rfl ?_
    refine x_aload_n (pc := 13) O dX8_comes_13 rfl rfl ?_
    refine rn_get (pc := 14) O dX8_comes_14 fdX8_50 rfl ?_
    refine x_callS (pc := 17) (rest := [.ref o]) O (c_X8_longer l E (RWn E o d' (rlen (cap r')) i a') (d' 24) (cap r') (a' 24) (fun h H => H.2.1 24 rfl) (by omega)) dX8_comes_17 cbX8_114 sm_yX8_longer rfl rfl (Nat.le_of_ble_eq_true rfl) ⟨Nat.le_of_ble_eq_true rfl, Nat.le_of_ble_eq_true rfl⟩ ⟨by show 0 + 1 ≤ (cap (r' + 1) - cap r') / 64; omega, by show 0 + 2 * cap r' ≤ 8 * (cap (r' + 1) - cap r'); omega⟩ (fun q24 => ?_)
    refine x_put (pc := 20) (P' := RWn E o (va_up d' 24 q24) (va_up (rlen (cap r')) 24 (2 * cap r')) i (va_up a' 24 (gup (a' 24) (cap r')))) O dX8_comes_20 fpX8_50 rfl rfl (fun h H => RWn.grow rfl rfl H) ?_
    refine x_aload_n (pc := 23) O dX8_comes_23 rfl rfl ?_
    refine x_aload_n (pc := 24) O dX8_comes_24 rfl rfl ?_
    refine rn_get (pc := 25) O dX8_comes_25 fdX8_53 rfl ?_
    refine x_callS (pc := 28) (rest := [.ref o]) O (c_X8_longer l E (RWn E o (va_up d' 24 q24) (va_up (rlen (cap r')) 24 (2 * cap r')) i (va_up a' 24 (gup (a' 24) (cap r')))) ((va_up d' 24 q24) 25) (cap r') (a' 25) (fun h H => H.2.1 25 rfl) (by omega)) dX8_comes_28 cbX8_114 sm_yX8_longer rfl rfl (Nat.le_of_ble_eq_true rfl) ⟨Nat.le_of_ble_eq_true rfl, Nat.le_of_ble_eq_true rfl⟩ ⟨by show 0 + 1 + 1 ≤ (cap (r' + 1) - cap r') / 64; omega, by show 0 + 2 * cap r' + 2 * cap r' ≤ 8 * (cap (r' + 1) - cap r'); omega⟩ (fun q25 => ?_)
    refine x_put (pc := 31) (P' := RWn E o (va_up (va_up d' 24 q24) 25 q25) (va_up (va_up (rlen (cap r')) 24 (2 * cap r')) 25 (2 * cap r')) i (va_up (va_up a' 24 (gup (a' 24) (cap r'))) 25 (gup (a' 25) (cap r')))) O dX8_comes_31 fpX8_53 rfl rfl (fun h H => RWn.grow rfl rfl H) ?_
    refine x_aload_n (pc := 34) O dX8_comes_34 rfl rfl ?_
    refine x_aload_n (pc := 35) O dX8_comes_35 rfl rfl ?_
    refine rn_get (pc := 36) O dX8_comes_36 fdX8_56 rfl ?_
    refine x_callS (pc := 39) (rest := [.ref o]) O (c_X8_longer l E (RWn E o (va_up (va_up d' 24 q24) 25 q25) (va_up (va_up (rlen (cap r')) 24 (2 * cap r')) 25 (2 * cap r')) i (va_up (va_up a' 24 (gup (a' 24) (cap r'))) 25 (gup (a' 25) (cap r')))) ((va_up (va_up d' 24 q24) 25 q25) 26) (cap r') (a' 26) (fun h H => H.2.1 26 rfl) (by omega)) dX8_comes_39 cbX8_114 sm_yX8_longer rfl rfl (Nat.le_of_ble_eq_true rfl) ⟨Nat.le_of_ble_eq_true rfl, Nat.le_of_ble_eq_true rfl⟩ ⟨by show 0 + 1 + 1 + 1 ≤ (cap (r' + 1) - cap r') / 64; omega, by show 0 + 2 * cap r' + 2 * cap r' + 2 * cap r' ≤ 8 * (cap (r' + 1) - cap r'); omega⟩ (fun q26 => ?_)
    refine x_put (pc := 42) (P' := RWn E o (va_up (va_up (va_up d' 24 q24) 25 q25) 26 q26) (va_up (va_up (va_up (rlen (cap r')) 24 (2 * cap r')) 25 (2 * cap r')) 26 (2 * cap r')) i (va_up (va_up (va_up a' 24 (gup (a' 24) (cap r'))) 25 (gup (a' 25) (cap r'))) 26 (gup (a' 26) (cap r')))) O dX8_comes_42 fpX8_56 rfl rfl (fun h H => RWn.grow rfl rfl H) ?_
    refine x_aload_n (pc := 45) O dX8_comes_45 rfl rfl ?_
    refine x_aload_n (pc := 46) O dX8_comes_46 rfl rfl ?_
    refine rn_get (pc := 47) O dX8_comes_47 fdX8_59 rfl ?_
    refine x_callS (pc := 50) (rest := [.ref o]) O (c_X8_longer l E (RWn E o (va_up (va_up (va_up d' 24 q24) 25 q25) 26 q26) (va_up (va_up (va_up (rlen (cap r')) 24 (2 * cap r')) 25 (2 * cap r')) 26 (2 * cap r')) i (va_up (va_up (va_up a' 24 (gup (a' 24) (cap r'))) 25 (gup (a' 25) (cap r'))) 26 (gup (a' 26) (cap r')))) ((va_up (va_up (va_up d' 24 q24) 25 q25) 26 q26) 27) (cap r') (a' 27) (fun h H => H.2.1 27 rfl) (by omega)) dX8_comes_50 cbX8_114 sm_yX8_longer rfl rfl (Nat.le_of_ble_eq_true rfl) ⟨Nat.le_of_ble_eq_true rfl, Nat.le_of_ble_eq_true rfl⟩ ⟨by show 0 + 1 + 1 + 1 + 1 ≤ (cap (r' + 1) - cap r') / 64; omega, by show 0 + 2 * cap r' + 2 * cap r' + 2 * cap r' + 2 * cap r' ≤ 8 * (cap (r' + 1) - cap r'); omega⟩ (fun q27 => ?_)
    refine x_put (pc := 53) (P' := RWn E o (va_up (va_up (va_up (va_up d' 24 q24) 25 q25) 26 q26) 27 q27) (va_up (va_up (va_up (va_up (rlen (cap r')) 24 (2 * cap r')) 25 (2 * cap r')) 26 (2 * cap r')) 27 (2 * cap r')) i (va_up (va_up (va_up (va_up a' 24 (gup (a' 24) (cap r'))) 25 (gup (a' 25) (cap r'))) 26 (gup (a' 26) (cap r'))) 27 (gup (a' 27) (cap r')))) O dX8_comes_53 fpX8_59 rfl rfl (fun h H => RWn.grow rfl rfl H) ?_
    refine x_imp O (P' := RW E o (va_up (va_up (va_up (va_up d' 24 q24) 25 q25) 26 q26) 27 q27) (cap (r' + 1)) i (va_up (va_up (va_up (va_up a' 24 (gup (a' 24) (cap r'))) 25 (gup (a' 25) (cap r'))) 26 (gup (a' 26) (cap r'))) 27 (gup (a' 27) (cap r')))) (fun h H => H.to (fun k hk => ?_)) ?_
    · rw [hcn]
      by_cases e7 : k = 27
      · subst e7; rw [va_up_self]; rfl
      · rw [va_up_ne _ _ e7]
        by_cases e6 : k = 26
        · subst e6; rw [va_up_self]; rfl
        · rw [va_up_ne _ _ e6]
          by_cases e5 : k = 25
          · subst e5; rw [va_up_self]; rfl
          · rw [va_up_ne _ _ e5]
            by_cases e4 : k = 24
            · subst e4; rw [va_up_self]; rfl
            · rw [va_up_ne _ _ e4]
              have q1 : k ≠ 22 := by rintro rfl; cases hk
              have q2 : k ≠ 23 := by rintro rfl; cases hk
              unfold rlen
              (repeat' split) <;> omega
    refine tail _ _ _ _ ?_ ?_ (fun k hk => ?_) (fun k hk => ?_) (fun k hk => ?_)
    · show 0 + 1 + 1 + 1 + 1 ≤ _
      omega
    · show 0 + 2 * cap r' + 2 * cap r' + 2 * cap r' + 2 * cap r' ≤ _
      omega
    · have hk2 : k ≠ 24 ∧ k ≠ 25 ∧ k ≠ 26 ∧ k ≠ 27 := by simp [isRr] at hk; omega
      rw [va_up_ne _ _ hk2.2.2.2, va_up_ne _ _ hk2.2.2.1, va_up_ne _ _ hk2.2.1, va_up_ne _ _ hk2.1]
    · have hk2 : k ≠ 24 ∧ k ≠ 25 ∧ k ≠ 26 ∧ k ≠ 27 := by simp [isRr] at hk; omega
      rw [va_up_ne _ _ hk2.2.2.2, va_up_ne _ _ hk2.2.2.1, va_up_ne _ _ hk2.2.1, va_up_ne _ _ hk2.1]
    · rw [va_up_ne _ _ (by decide), va_up_ne _ _ (by decide), va_up_ne _ _ (by decide), va_up_self, va_up_ne _ _ (by decide), va_up_ne _ _ (by decide), va_up_self, va_up_ne _ _ (by decide), va_up_self, va_up_self]
      simp only [gup]
      rw [if_pos (by omega), if_pos (by omega), if_pos (by omega), if_pos (by omega)]
      exact ⟨rfl, rfl, rfl, rfl⟩
