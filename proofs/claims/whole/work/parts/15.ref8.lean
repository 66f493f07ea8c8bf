/-! ===== REF 8: listed, heir ===== -/
theorem kids_congr {a A : Ar} {ln ln' : Nat → Bool} {of : Nat} {but s : Int32} {m : Nat} (h9 : ∀ c, c < m → A 9 c = a 9 c) (h10 : ∀ c, c < m → A 10 c = a 10 c) (h11 : ∀ c, c < m → A 11 c = a 11 c) (hl : ∀ c, c < m → ln' c = ln c) : kids A ln' of but s m = kids a ln of but s m := by
  unfold kids
  refine List.filter_congr (fun c hc => ?_)
  have hc := List.mem_range.mp hc
  simp only [kidB, chd, h9 c hc, h10 c hc, h11 c hc, hl c hc]
theorem grp_congr {a A : Ar} {ln ln' : Nat → Bool} {of : Nat} {but ord : Int32} {m : Nat} (h9 : ∀ c, c < m → A 9 c = a 9 c) (h10 : ∀ c, c < m → A 10 c = a 10 c) (h11 : ∀ c, c < m → A 11 c = a 11 c) (hl : ∀ c, c < m → ln' c = ln c) : grp A ln' m ord of but = grp a ln m ord of but := by
  unfold grp
  rw [kids_congr h9 h10 h11 hl, kids_congr h9 h10 h11 hl]
theorem fm_congr {f g : Nat → List Nat} : ∀ (l : List Nat), (∀ q ∈ l, f q = g q) → l.flatMap f = l.flatMap g
  | [], _ => rfl
  | x :: r, h => by rw [List.flatMap_cons, List.flatMap_cons, h x List.mem_cons_self, fm_congr r (fun q hq => h q (List.mem_cons_of_mem _ hq))]
theorem heirsF_congr {a A : Ar} {al al' ln ln' : Nat → Bool} {ord : Int32} {m : Nat} (h9 : ∀ c, c < m → A 9 c = a 9 c) (h10 : ∀ c, c < m → A 10 c = a 10 c) (h11 : ∀ c, c < m → A 11 c = a 11 c) (hl : ∀ c, c < m → ln' c = ln c) (hal : ∀ c, c < m → al' c = al c) : ∀ f g, (∀ q ∈ g, q < m) → heirsF A al' ln' m ord f g = heirsF a al ln m ord f g
  | 0, _, _ => rfl
  | f + 1, g, hg => by
    simp only [heirsF]
    refine fm_congr _ (fun q hq => ?_)
    rw [hal q (hg q hq), grp_congr h9 h10 h11 hl, heirsF_congr h9 h10 h11 hl hal f _ (fun x hx => (grp_sub hx).1)]
theorem heirsF_lt {a : Ar} {al ln : Nat → Bool} {ord : Int32} {m : Nat} : ∀ f g, (∀ q ∈ g, q < m) → ∀ x ∈ heirsF a al ln m ord f g, x < m
  | 0, _, _, x, h => by simp [heirsF] at h
  | f + 1, g, hg, x, h => by
    simp only [heirsF, List.mem_flatMap] at h
    obtain ⟨q, hq, hx⟩ := h
    split at hx
    · simp at hx; subst hx; exact hg _ hq
    · exact heirsF_lt f _ (fun y hy => (grp_sub hy).1) x hx
theorem heirsF_step {a : Ar} {al ln : Nat → Bool} {ord : Int32} {m f k : Nat} {g : List Nat} (hk : k < g.length) : heirsF a al ln m ord (f + 1) (g.take (k + 1)) = heirsF a al ln m ord (f + 1) (g.take k) ++ (if al (g.getD k 0) = true then [g.getD k 0] else heirsF a al ln m ord f (grp a ln m ord (g.getD k 0) (-1))) := by
  have : g.getD k 0 = g[k] := by simp [List.getD, hk]
  simp only [heirsF]
  rw [List.take_succ_eq_append_getElem hk, List.flatMap_append, this]
  simp
theorem heirsF_pre {a : Ar} {al ln : Nat → Bool} {ord : Int32} {m f : Nat} {g : List Nat} (k : Nat) : ∃ r, heirsF a al ln m ord (f + 1) g = heirsF a al ln m ord (f + 1) (g.take k) ++ r := by
  refine ⟨heirsF a al ln m ord (f + 1) (g.drop k), ?_⟩
  simp only [heirsF]
  rw [← List.flatMap_append, List.take_append_drop]
theorem getD_app3 {l1 l2 l3 : List Nat} {t : Nat} (h : t < l2.length) : (l1 ++ l2 ++ l3).getD (l1.length + t) 0 = l2.getD t 0 := by
  simp only [List.getD]
  rw [List.append_assoc, List.getElem?_append_right (by omega), Nat.add_sub_cancel_left, List.getElem?_append_left h]
def LQ (i : Nat → Int32) (a : Ar) (u s0 wn : Nat) (H : List Nat) (x : Int32 × (Nat → Int32) × Ar) : Prop :=
  (∀ k, k ≠ 41 → x.2.1 k = i k) ∧ (∀ k, k ≠ 39 → x.2.2 k = a k) ∧ (∀ j, j < u → x.2.2 39 j = a 39 j) ∧ ((wn < s0 + H.length ∧ x.1 = nI (H.getD (wn - s0) 0) ∧ x.2.1 41 = nI wn) ∨ (s0 + H.length ≤ wn ∧ x.1 = -1 ∧ x.2.1 41 = nI (s0 + H.length)))
def LI (i : Nat → Int32) (a : Ar) (u s0 wn : Nat) (H : List Nat) (I : Nat → Int32) (A : Ar) : Prop :=
  (∀ k, k ≠ 41 → I k = i k) ∧ (∀ k, k ≠ 39 → A k = a k) ∧ (∀ j, j < u → A 39 j = a 39 j) ∧ s0 + H.length ≤ wn ∧ I 41 = nI (s0 + H.length)
def StL (l : Launch) (E : En) (o : Nat) (d : Nat → Nat) (f : Nat) : Prop := ∀ (i : Nat → Int32) (a : Ar) (ch : Nat → List Rt) (m b u s0 wn : Nat) (g : List Nat), i 22 = nI m → m ≤ 60 → i 40 = nI u → u + 60 * f ≤ 3720 → (∀ t, t < g.length → a 39 (b + t) = nI (g.getD t 0)) → (∀ q ∈ g, q < m ∧ 60 ≤ q + f) → b + g.length ≤ u → i 41 = nI s0 → i 42 = nI wn → s0 ≤ wn → wn < 40 → (∀ c p, c < m → p < m → chd a c p → p < c) →
  Mt l E yX8_listed cX8_listed 8 (some .int) (rmX (2 + f) (49 + 27 * f) 0 0) [.ref o, .int (nI b), .int (nI g.length)] (RV E o d i a ch) (fun x : Int32 × (Nat → Int32) × Ar => some (.int x.1)) (fun x h => LQ i a u s0 wn (heirsF a (alB a) (lnB a) m (i 0) f g) x ∧ RV E o d x.2.1 x.2.2 ch h)
set_option maxRecDepth 100000 in
set_option maxHeartbeats 4000000 in
theorem c_X8_listed (l : Launch) (E : En) (o : Nat) (d : Nat → Nat) : ∀ f, StL l E o d f := by
  intro f
  induction f with
  | zero =>
    intro i a ch m b u s0 wn g hm h60 hu hu2 hrow hg hbu h41 h42 hsw hw40 hkin
    have hg0 : g = [] := by
      cases g with
      | nil => rfl
      | cons x r => have := hg x List.mem_cons_self; omega
    refine Mt_of (by decide +kernel) (Nat.le_of_ble_eq_true rfl) (fun J O => ?_)
    show J _ 0 0 0 [some (.ref o), some (.int (nI b)), some (.int (nI g.length)), none, none, none, none, none] []
    refine x_iconst (v := nI 0) (pc := 0) O dX8_listed_0 (by decide) ?_
    refine x_istore_n (pc := 1) O dX8_listed_1 (by decide) rfl ?_
    refine x_iload_n (pc := 2) O dX8_listed_2 rfl ?_
    refine x_iload_n (pc := 3) O dX8_listed_3 rfl ?_
    refine x_icmp_ge (pc := 4) O 100 dX8_listed_4 (by decide) (fun c4 => ?_) (fun c4 => ?_)
    · refine x_iconst (v := (-1)) (pc := 100) O dX8_listed_100 (by decide) ?_
      exact x_ret (v := some (.int _)) (pc := 101) O dX8_listed_101 rfl (rfl) ⟨Nat.le_refl _, Nat.le_refl _, (-1, i, a), rfl, fun h hh => ⟨⟨fun _ _ => rfl, fun _ _ => rfl, fun _ _ => rfl, Or.inr ⟨by rw [hg0]; simpa [heirsF] using hsw, rfl, by rw [hg0]; simpa [heirsF] using h41⟩⟩, hh⟩⟩
    · exact absurd (by rw [hg0]; decide) c4
  | succ f ihf =>
    intro i a ch m b u s0 wn g hm h60 hu hu2 hrow hg hbu h41 h42 hsw hw40 hkin
    refine Mt_of (by decide +kernel) (Nat.le_of_ble_eq_true rfl) (fun J O => ?_)
    show J _ 0 0 0 [some (.ref o), some (.int (nI b)), some (.int (nI g.length)), none, none, none, none, none] []
    have loop : ∀ k, k ≤ g.length → ∀ I A, LI i a u s0 wn (heirsF a (alB a) (lnB a) m (i 0) (f + 1) (g.take k)) I A → J (RV E o d I A ch) 0 0 2 [some (.ref o), some (.int (nI b)), some (.int (nI g.length)), some (.int (nI k)), none, none, none, none] [] := by
      refine up_ind (Φ := fun k => ∀ I A, LI i a u s0 wn (heirsF a (alB a) (lnB a) m (i 0) (f + 1) (g.take k)) I A → J (RV E o d I A ch) 0 0 2 [some (.ref o), some (.int (nI b)), some (.int (nI g.length)), some (.int (nI k)), none, none, none, none] []) g.length (fun k hk ih I A hinv => ?_)
      obtain ⟨hI, hA, hAr, hsk, h41k⟩ := hinv
      have hI22 : I 22 = nI m := by rw [hI 22 (by decide)]; exact hm
      have hI40 : I 40 = nI u := by rw [hI 40 (by decide)]; exact hu
      refine x_iload_n (pc := 2) O dX8_listed_2 rfl ?_
      refine x_iload_n (pc := 3) O dX8_listed_3 rfl ?_
      refine x_icmp_ge (pc := 4) O 100 dX8_listed_4 (by decide) (fun c4 => ?_) (fun c4 => ?_)
      · refine x_iconst (v := (-1)) (pc := 100) O dX8_listed_100 (by decide) ?_
        have hk2 : k = g.length := by
          rw [nI_leI (by omega) (by omega)] at c4
          omega
        exact x_ret (v := some (.int _)) (pc := 101) O dX8_listed_101 rfl (rfl) ⟨Nat.le_refl _, Nat.le_refl _, (-1, I, A), rfl, fun h hh => ⟨⟨hI, hA, hAr, Or.inr ⟨by rw [hk2, List.take_length] at hsk; exact hsk, rfl, by rw [hk2, List.take_length] at h41k; exact h41k⟩⟩, hh⟩⟩
      · have hk3 : k < g.length := by
          rw [nI_leI (by omega) (by omega)] at c4
          omega
        obtain ⟨q, hq⟩ : ∃ q, q = g.getD k 0 := ⟨_, rfl⟩
        have hqm : q ∈ g := by
          rw [hq, List.getD_eq_getElem?_getD, List.getElem?_eq_getElem hk3]
          exact List.getElem_mem _
        have hq60 := (hg q hqm).1
        have hstep := heirsF_step (a := a) (al := alB a) (ln := lnB a) (ord := i 0) (m := m) (f := f) hk3
        rw [← hq] at hstep
        refine x_aload_n (pc := 7) O dX8_listed_7 rfl rfl ?_
        refine v_get (pc := 8) O dX8_listed_8 fdX8_89 rfl rfl ?_
        refine x_iload_n (pc := 11) O dX8_listed_11 rfl ?_
        refine x_iload_n (pc := 12) O dX8_listed_12 rfl ?_
        refine x_iadd (pc := 13) O dX8_listed_13 ?_
        refine v_aldv (k := 39) (v := nI q) (pc := 14) O dX8_listed_14 rfl rfl rfl (nI_add b k) (by show _ < 3720; omega) (by rw [hAr _ (by omega), hrow k hk3, hq]) ?_
        refine x_istore (pc := 15) O dX8_listed_15 (by decide) rfl ?_
        refine x_aload_n (pc := 17) O dX8_listed_17 rfl rfl ?_
        refine v_get (pc := 18) O dX8_listed_18 fdX8_43 rfl rfl ?_
        refine x_iload (pc := 21) O dX8_listed_21 rfl ?_
        refine v_zldv (k := 20) (v := a 20 q) (pc := 23) O dX8_listed_23 rfl rfl (by omega) (by rw [hA 20 (by decide)]) ?_
        refine x_if_eq (pc := 24) O 54 dX8_listed_24 (by decide) (fun c24 => ?_) (fun c24 => ?_)
        · have hal9 : ¬ alB a q = true := by simp [alB, c24]
          refine x_aload_n (pc := 54) O dX8_listed_54 rfl rfl ?_
          refine v_get (pc := 55) O dX8_listed_55 fdX8_158 rfl rfl ?_
          rw [hI40]
          refine x_istore (pc := 58) O dX8_listed_58 (by decide) rfl ?_
          refine x_aload_n (pc := 60) O dX8_listed_60 rfl rfl ?_
          refine x_iload (pc := 61) O dX8_listed_61 rfl ?_
          refine x_iconst (v := (-1)) (pc := 63) O dX8_listed_63 (by decide) ?_
          refine x_callV (pc := 64) (rest := _) (ci := 8) O (c_X8_group l E _ _ _ _ _ q (-1) hI22 h60 (u := u) hI40 (by omega)) dX8_listed_64 cbX8_161 im_yX8_group se_yX8_group rfl v_recv rfl rfl (Nat.le_of_ble_eq_true rfl) ⟨by simp only [rmX]; omega, by simp only [rmX]; omega⟩ ⟨Nat.le_of_ble_eq_true rfl, Nat.le_of_ble_eq_true rfl⟩ (fun _ => ?_)
          dsimp only [Option.toList, List.append, List.nil_append, List.cons_append, Nat.add_zero, Nat.reduceAdd]
          refine x_istore (pc := 67) O dX8_listed_67 (by decide) rfl ?_
          refine x_aload_n (pc := 69) O dX8_listed_69 rfl rfl ?_
          refine x_iload (pc := 70) O dX8_listed_70 rfl ?_
          refine x_iload (pc := 72) O dX8_listed_72 rfl ?_
          have hG : grp A (lnB A) m (I 0) q (-1) = grp a (lnB a) m (i 0) q (-1) := by
            rw [hI 0 (by decide)]
            exact grp_congr (fun c _ => by rw [hA 9 (by decide)]) (fun c _ => by rw [hA 10 (by decide)]) (fun c _ => by rw [hA 11 (by decide)]) (fun c _ => by simp only [lnB, hA 21 (by decide)])
          have hgl := grp_len (a := a) (ln := lnB a) (ord := i 0) (of := q) (but := -1) h60
          rw [hG]
          refine x_callV (pc := 74) (rest := _) (ci := 8) O (ihf (upd I 40 (nI (u + (grp a (lnB a) m (i 0) q (-1)).length))) (rowput A u (grp a (lnB a) m (i 0) q (-1))) ch m u (u + (grp a (lnB a) m (i 0) q (-1)).length) (s0 + (heirsF a (alB a) (lnB a) m (i 0) (f + 1) (g.take k)).length) wn (grp a (lnB a) m (i 0) q (-1)) ?_ h60 ?_ ?_ ?_ ?_ ?_ ?_ ?_ ?_ ?_ ?_) dX8_listed_74 cbX8_171 im_yX8_listed se_yX8_listed rfl v_recv rfl rfl (Nat.le_of_ble_eq_true rfl) ⟨by simp only [rmX]; omega, by simp only [rmX]; omega⟩ ⟨Nat.le_of_ble_eq_true rfl, Nat.le_of_ble_eq_true rfl⟩ (fun x => x_pure O (fun hx => ?_))
          · rw [upd_ne _ _ (by decide)]; exact hI22
          · exact upd_eq _ _ _
          · omega
          · intro t ht; exact rowput_get _ _ _ ht
          · intro y hy
            obtain ⟨y1, y2, y3, -⟩ := grp_sub hy
            have := hkin y q y1 hq60 y3
            have := (hg q hqm).2
            exact ⟨y1, by omega⟩
          · omega
          · rw [upd_ne _ _ (by decide)]; exact h41k
          · rw [upd_ne _ _ (by decide), hI 42 (by decide)]; exact h42
          · exact hsk
          · exact hw40
          · intro c p hc hp9 hch
            simp only [chd, rowput_ne _ _ _ (show (10 : Nat) ≠ 39 by decide), rowput_ne _ _ _ (show (11 : Nat) ≠ 39 by decide), hA 10 (by decide), hA 11 (by decide)] at hch
            exact hkin c p hc hp9 hch
          have hH : heirsF (rowput A u (grp a (lnB a) m (i 0) q (-1))) (alB (rowput A u (grp a (lnB a) m (i 0) q (-1)))) (lnB (rowput A u (grp a (lnB a) m (i 0) q (-1)))) m (upd I 40 (nI (u + (grp a (lnB a) m (i 0) q (-1)).length)) 0) f (grp a (lnB a) m (i 0) q (-1)) = heirsF a (alB a) (lnB a) m (i 0) f (grp a (lnB a) m (i 0) q (-1)) := by
            rw [upd_ne _ _ (by decide), hI 0 (by decide)]
            exact heirsF_congr (fun c _ => by rw [rowput_ne _ _ _ (by decide), hA 9 (by decide)]) (fun c _ => by rw [rowput_ne _ _ _ (by decide), hA 10 (by decide)]) (fun c _ => by rw [rowput_ne _ _ _ (by decide), hA 11 (by decide)]) (fun c _ => by simp only [lnB, rowput_ne _ _ _ (show (21 : Nat) ≠ 39 by decide), hA 21 (by decide)]) (fun c _ => by simp only [alB, rowput_ne _ _ _ (show (20 : Nat) ≠ 39 by decide), hA 20 (by decide)]) f _ (fun y hy => (grp_sub hy).1)
          rw [hH] at hx
          obtain ⟨hx1, hx2, hx3, hx4⟩ := hx
          dsimp only [Option.toList, List.append, List.nil_append, List.cons_append, Nat.add_zero, Nat.reduceAdd]
          refine x_istore (pc := 77) O dX8_listed_77 (by decide) rfl ?_
          refine x_aload_n (pc := 79) O dX8_listed_79 rfl rfl ?_
          refine x_iload (pc := 80) O dX8_listed_80 rfl ?_
          refine v_put (pc := 82) O dX8_listed_82 fpX8_158 rfl rfl ?_
          refine x_iload (pc := 85) O dX8_listed_85 rfl ?_
          refine x_iconst (v := (-1)) (pc := 87) O dX8_listed_87 (by decide) ?_
          refine x_icmp_eq (pc := 88) O 94 dX8_listed_88 (by decide) (fun c88 => ?_) (fun c88 => ?_)
          · refine x_iinc (v := nI (k + 1)) (pc := 94) O dX8_listed_94 rfl (nI_succ k).symm rfl ?_
            refine x_goto (pc := 97) O 2 dX8_listed_97 (by decide) ?_
            refine x_lv O [some (.ref o), some (.int (nI b)), some (.int (nI g.length)), some (.int (nI (k + 1))), none, none, none, none] ⟨rfl, rfl, rfl, rfl, trivial⟩ ?_
            rcases hx4 with ⟨q1, q2, q3⟩ | ⟨q1, q2, q3⟩
            · exfalso
              rw [q2] at c88
              have hlt : (heirsF a (alB a) (lnB a) m (i 0) f (grp a (lnB a) m (i 0) q (-1))).getD (wn - (s0 + (heirsF a (alB a) (lnB a) m (i 0) (f + 1) (g.take k)).length)) 0 < m := by
                rw [List.getD_eq_getElem?_getD, List.getElem?_eq_getElem (by omega)]
                exact heirsF_lt f _ (fun y hy => (grp_sub hy).1) _ (List.getElem_mem _)
              exact nI_nm1 (by omega) c88
            · refine ih (by omega) _ _ ⟨fun j hj => ?_, fun j hj => ?_, fun j hj => ?_, ?_, ?_⟩
              · by_cases e : j = 40
                · subst e; rw [upd_eq, hu]
                · rw [upd_ne _ _ e, hx1 j hj, upd_ne _ _ e]; exact hI j hj
              · rw [hx2 j hj, rowput_ne _ _ _ hj]; exact hA j hj
              · rw [hx3 j (by omega), rowput_out _ _ _ hj]; exact hAr j hj
              · rw [hstep, if_neg hal9, List.length_append]; omega
              · rw [upd_ne _ _ (by decide), q3, hstep, if_neg hal9, List.length_append, Nat.add_assoc]
          · refine x_iload (pc := 91) O dX8_listed_91 rfl ?_
            rcases hx4 with ⟨q1, q2, q3⟩ | ⟨q1, q2, q3⟩
            · obtain ⟨r, hr⟩ := heirsF_pre (a := a) (al := alB a) (ln := lnB a) (ord := i 0) (m := m) (f := f) (g := g) (k + 1)
              rw [hstep, if_neg hal9] at hr
              refine x_ret (v := some (.int _)) (pc := 93) O dX8_listed_93 rfl rfl ⟨Nat.le_refl _, Nat.le_refl _, (x.1, upd x.2.1 40 (nI u), x.2.2), rfl, fun h hh => ⟨⟨fun j hj => ?_, fun j hj => ?_, fun j hj => ?_, Or.inl ⟨?_, ?_, ?_⟩⟩, hh⟩⟩
              · show upd x.2.1 40 (nI u) j = i j
                by_cases e : j = 40
                · subst e; rw [upd_eq, hu]
                · rw [upd_ne _ _ e, hx1 j hj, upd_ne _ _ e]; exact hI j hj
              · show x.2.2 j = a j
                rw [hx2 j hj, rowput_ne _ _ _ hj]; exact hA j hj
              · show x.2.2 39 j = a 39 j
                rw [hx3 j (by omega), rowput_out _ _ _ hj]; exact hAr j hj
              · rw [hr]; simp only [List.length_append]; omega
              · show x.1 = _
                rw [q2, hr, show wn - s0 = (heirsF a (alB a) (lnB a) m (i 0) (f + 1) (g.take k)).length + (wn - (s0 + (heirsF a (alB a) (lnB a) m (i 0) (f + 1) (g.take k)).length)) by omega, getD_app3 (by omega)]
              · show upd x.2.1 40 (nI u) 41 = _
                rw [upd_ne _ _ (by decide)]; exact q3
            · exact absurd q2 c88
        · have hal9 : alB a q = true := by simp [alB, c24]
          refine x_aload_n (pc := 27) O dX8_listed_27 rfl rfl ?_
          refine v_get (pc := 28) O dX8_listed_28 fdX8_165 rfl rfl ?_
          refine x_aload_n (pc := 31) O dX8_listed_31 rfl rfl ?_
          refine v_get (pc := 32) O dX8_listed_32 fdX8_168 rfl rfl ?_
          refine x_icmp_ne (pc := 35) O 41 dX8_listed_35 (by decide) (fun c35 => ?_) (fun c35 => ?_)
          · refine x_aload_n (pc := 41) O dX8_listed_41 rfl rfl ?_
            refine x_dup (pc := 42) O dX8_listed_42 rfl ?_
            refine v_get (pc := 43) O dX8_listed_43 fdX8_165 rfl rfl ?_
            refine x_iconst (v := 1) (pc := 46) O dX8_listed_46 (by decide) ?_
            refine x_iadd (pc := 47) O dX8_listed_47 ?_
            refine v_put (pc := 48) O dX8_listed_48 fpX8_165 rfl rfl ?_
            refine x_goto (pc := 51) O 94 dX8_listed_51 (by decide) ?_
            refine x_iinc (v := nI (k + 1)) (pc := 94) O dX8_listed_94 rfl (nI_succ k).symm rfl ?_
            refine x_goto (pc := 97) O 2 dX8_listed_97 (by decide) ?_
            refine x_lv O [some (.ref o), some (.int (nI b)), some (.int (nI g.length)), some (.int (nI (k + 1))), none, none, none, none] ⟨rfl, rfl, rfl, rfl, trivial⟩ ?_
            refine ih (by omega) _ _ ⟨fun j hj => by rw [upd_ne _ _ hj]; exact hI j hj, hA, hAr, ?_, ?_⟩
            · rw [hstep, if_pos hal9]; simp only [List.length_append, List.length_singleton]
              have hne : s0 + (heirsF a (alB a) (lnB a) m (i 0) (f + 1) (g.take k)).length ≠ wn := fun z => c35 (by rw [h41k, hI 42 (by decide), h42, z])
              omega
            · rw [upd_eq, h41k, hstep, if_pos hal9]; simp only [List.length_append, List.length_singleton]; rw [← Nat.add_assoc, nI_succ]
          · refine x_iload (pc := 38) O dX8_listed_38 rfl ?_
            have hne : s0 + (heirsF a (alB a) (lnB a) m (i 0) (f + 1) (g.take k)).length = wn := by
              rw [h41k, hI 42 (by decide), h42, nI_eq (by omega) (by omega)] at c35
              exact c35
            obtain ⟨r, hr⟩ := heirsF_pre (a := a) (al := alB a) (ln := lnB a) (ord := i 0) (m := m) (f := f) (g := g) (k + 1)
            rw [hstep, if_pos hal9] at hr
            exact x_ret (v := some (.int _)) (pc := 40) O dX8_listed_40 rfl (rfl) ⟨Nat.le_refl _, Nat.le_refl _, (nI q, I, A), rfl, fun h hh => ⟨⟨hI, hA, hAr, Or.inl ⟨by rw [hr]; simp only [List.length_append, List.length_singleton]; omega, by rw [hr, show wn - s0 = (heirsF a (alB a) (lnB a) m (i 0) (f + 1) (g.take k)).length + 0 by omega, getD_app3 (by simp)]; rfl, by show I 41 = _; rw [h41k, hne]⟩⟩, hh⟩⟩
    refine x_iconst (v := nI 0) (pc := 0) O dX8_listed_0 (by decide) ?_
    refine x_istore_n (pc := 1) O dX8_listed_1 (by decide) rfl ?_
    exact loop 0 (Nat.zero_le _) i a ⟨fun _ _ => rfl, fun _ _ => rfl, fun _ _ => rfl, by simpa [heirsF] using hsw, by simpa [heirsF] using h41⟩
