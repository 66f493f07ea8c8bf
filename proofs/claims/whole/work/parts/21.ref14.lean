/-! ===== REF 14: shares ===== -/
def StS (l : Launch) (E : En) (o : Nat) (d : Nat → Nat) (f : Nat) : Prop := ∀ (i : Nat → Int32) (a : Ar) (ch : Nat → List Rt) (m b u fr n r : Nat) (g hs : List Nat), i 22 = nI m → m ≤ 60 → i 40 = nI u → u + 60 * f ≤ 3720 → (∀ t, t < g.length → a 39 (b + t) = nI (g.getD t 0)) → (∀ q ∈ g, q < m ∧ 60 ≤ q + f ∧ lnB a q = true) → b + g.length ≤ u → (∀ t, t < n → a 43 (fr + t) = nI (hs.getD t 0)) → (∀ t, t < n → hs.getD t 0 < 120) → fr + n ≤ 12 → lnOk a (alB a) (lnB a) m (i 0) → kinOk a m → i 28 = nI r → r + n ≤ 61560 → ¬ g = [] → Mt l E yX8_shares cX8_shares 11 none (rmX (2 + f) (49 + 30 * f) (ccost r n) (scost r n)) [.ref o, .int (nI fr), .int (nI n), .int (nI b), .int (nI g.length)] (RV E o d i a ch) (fun _ : (Nat → Int32) × Ar × (Nat → List Rt) => none) (fun x h => SIq i a u (cmL (i 8) (lsOf a ch r) (ents hs (shareF a (alB a) (lnB a) m (i 0) f g n))) x ∧ RV E o d x.1 x.2.1 x.2.2 h)
theorem ccost_0 (r : Nat) : ccost r 0 = 0 ∧ scost r 0 = 0 := by simp [ccost, scost]
theorem shareF_congr {a A : Ar} {al al' ln ln' : Nat → Bool} {ord : Int32} {m : Nat} (h9 : ∀ c, c < m → A 9 c = a 9 c) (h10 : ∀ c, c < m → A 10 c = a 10 c) (h11 : ∀ c, c < m → A 11 c = a 11 c) (hl : ∀ c, c < m → ln' c = ln c) (hal : ∀ c, c < m → al' c = al c) : ∀ f g n, (∀ q ∈ g, q < m) → shareF A al' ln' m ord f g n = shareF a al ln m ord f g n
  | 0, _, _, _ => rfl
  | f + 1, g, n, hg => by
    simp only [shareF]
    refine fm_congr _ (fun k hk => ?_)
    have hk := List.mem_range.mp hk
    rw [hal _ (hg _ (getD_mem hk)), grp_congr h9 h10 h11 hl, shareF_congr h9 h10 h11 hl hal f _ _ (fun x hx => (grp_sub hx).1)]
set_option maxRecDepth 100000 in
set_option maxHeartbeats 4000000 in
theorem c_X8_shares (l : Launch) (E : En) (o : Nat) (d : Nat → Nat) : ∀ f, StS l E o d f := by
  intro f
  induction f with
  | zero =>
    intro i a ch m b u fr n r g hs hm h60 hu hu2 hrow hg hbu hheap hh120 hfr hlnok hkin hr hr2 hgne
    exfalso
    obtain ⟨x, t, hx⟩ := List.exists_cons_of_ne_nil hgne
    have := hg x (by rw [hx]; exact List.mem_cons_self)
    omega
  | succ f ihf =>
    intro i a ch m b u fr n r g hs hm h60 hu hu2 hrow hg hbu hheap hh120 hfr hlnok hkin hr hr2 hgne
    have hg0 : 0 < g.length := List.length_pos_iff.mpr hgne
    refine Mt_of (by decide +kernel) (Nat.le_of_ble_eq_true rfl) (fun J O => ?_)
    show J _ 0 0 0 [some (.ref o), some (.int (nI fr)), some (.int (nI n)), some (.int (nI b)), some (.int (nI g.length)), none, none, none, none, none, none] []
    have loop : ∀ k, k ≤ g.length → ∀ x, SIq i a u (cmL (i 8) (lsOf a ch r) (ents hs (shK a (alB a) (lnB a) m (i 0) f g n k))) x → J (RV E o d x.1 x.2.1 x.2.2) (ccost r (sumP n g.length k)) (scost r (sumP n g.length k)) 6 [some (.ref o), some (.int (nI fr)), some (.int (nI n)), some (.int (nI b)), some (.int (nI g.length)), some (.int (nI (fr + (sumP n g.length k)))), some (.int (nI (k))), none, none, none, none] [] := by
      refine up_ind (Φ := fun k => ∀ x, SIq i a u (cmL (i 8) (lsOf a ch r) (ents hs (shK a (alB a) (lnB a) m (i 0) f g n k))) x → J (RV E o d x.1 x.2.1 x.2.2) (ccost r (sumP n g.length k)) (scost r (sumP n g.length k)) 6 [some (.ref o), some (.int (nI fr)), some (.int (nI n)), some (.int (nI b)), some (.int (nI g.length)), some (.int (nI (fr + (sumP n g.length k)))), some (.int (nI (k))), none, none, none, none] []) g.length (fun k hk ih x hx => ?_)
      have hI := hx.1
      have hA := hx.2.1
      have hspn : (sumP n g.length k) ≤ n := sumP_le hg0 hk
      have hSKl := shK_len (shareF_len h60 hlnok hkin f) hlnok hkin (n := n) hg k hk
      have hx28 : x.1 28 = nI (r + (sumP n g.length k)) := by rw [hx.2.2.2.2.2.2, cmL_n, ents_len, hSKl]; rfl
      have hI22 : x.1 22 = nI m := by rw [hI 22 (by decide)]; exact hm
      have hI40 : x.1 40 = nI u := by rw [hI 40 (by decide)]; exact hu
      refine x_iload (pc := 6) O dX8_shares_6 rfl ?_
      refine x_iload (pc := 8) O dX8_shares_8 rfl ?_
      refine x_icmp_ge (pc := 10) O 147 dX8_shares_10 (by decide) (fun c10 => ?_) (fun c10 => ?_)
      · have hk2 : k = g.length := by
          rw [nI_leI (by omega) (by omega)] at c10
          omega
        refine x_ret (v := none) (pc := 147) O dX8_shares_147 rfl trivial ⟨(cost_le r hspn).1, (cost_le r hspn).2, x, rfl, fun h hh => ⟨?_, hh⟩⟩
        rw [shareF_shK, ← hk2]
        exact hx
      · have hk3 : k < g.length := by
          rw [nI_leI (by omega) (by omega)] at c10
          omega
        have hptn : (sumP n g.length k) + partK n g.length k ≤ n := by rw [← sumP_s]; exact sumP_le hg0 (by omega)
        have hmn := Nat.mod_lt n hg0
        obtain ⟨q, hq⟩ : ∃ q, q = g.getD k 0 := ⟨_, rfl⟩
        have hqm : q ∈ g := by rw [hq]; exact getD_mem hk3
        have hq60 := (hg q hqm).1
        have hqln := (hg q hqm).2.2
        have hBl := shB_len (shareF_len h60 hlnok hkin f) hlnok hkin (n := n) hg hk3
        have hcx : ccost r (sumP n g.length k) + 0 ≤ ccost r n ∧ scost r (sumP n g.length k) + 0 ≤ scost r n := cost_le r hspn
        have tail134 : ∀ z, SIq i a u (cmL (i 8) (lsOf a ch r) (ents hs (shK a (alB a) (lnB a) m (i 0) f g n (k + 1)))) z → J (RV E o d z.1 z.2.1 z.2.2) (ccost r (sumP n g.length (k + 1))) (scost r (sumP n g.length (k + 1))) 134 [some (.ref o), some (.int (nI fr)), some (.int (nI n)), some (.int (nI b)), some (.int (nI g.length)), some (.int (nI (fr + (sumP n g.length k)))), some (.int (nI (k))), some (.int (nI (partK n g.length k))), none, none, none] [] := by
          intro z hz
          refine x_iload (pc := 134) O dX8_shares_134 rfl ?_
          refine x_iload (pc := 136) O dX8_shares_136 rfl ?_
          refine x_iadd (pc := 138) O dX8_shares_138 ?_
          rw [nI_add, show fr + (sumP n g.length k) + partK n g.length k = fr + sumP n g.length (k + 1) from by rw [sumP_s, Nat.add_assoc]]
          refine x_istore (pc := 139) O dX8_shares_139 (by decide) rfl ?_
          refine x_iinc (v := nI (k + 1)) (pc := 141) O dX8_shares_141 rfl (nI_succ k).symm rfl ?_
          refine x_goto (pc := 144) O 6 dX8_shares_144 (by decide) ?_
          refine x_lv O [some (.ref o), some (.int (nI fr)), some (.int (nI n)), some (.int (nI b)), some (.int (nI g.length)), some (.int (nI (fr + sumP n g.length (k + 1)))), some (.int (nI (k + 1))), none, none, none, none] ⟨rfl, rfl, rfl, rfl, rfl, rfl, rfl, trivial⟩ ?_
          exact ih (by omega) z hz
        have tail32 : J (RV E o d x.1 x.2.1 x.2.2) (ccost r (sumP n g.length k)) (scost r (sumP n g.length k)) 32 [some (.ref o), some (.int (nI fr)), some (.int (nI n)), some (.int (nI b)), some (.int (nI g.length)), some (.int (nI (fr + (sumP n g.length k)))), some (.int (nI (k))), none, none, none, none] [.int (nI (partK n g.length k))] := by
          refine x_istore (pc := 32) O dX8_shares_32 (by decide) rfl ?_
          refine x_aload_n (pc := 34) O dX8_shares_34 rfl rfl ?_
          refine v_get (pc := 35) O dX8_shares_35 fdX8_89 rfl rfl ?_
          refine x_iload_n (pc := 38) O dX8_shares_38 rfl ?_
          refine x_iload (pc := 39) O dX8_shares_39 rfl ?_
          refine x_iadd (pc := 41) O dX8_shares_41 ?_
          refine v_aldv (k := 39) (v := nI q) (pc := 42) O dX8_shares_42 rfl rfl rfl (nI_add b k) (by show _ < 3720; omega) (by rw [hx.2.2.1 _ (by omega), hrow k hk3, hq]) ?_
          refine x_istore (pc := 43) O dX8_shares_43 (by decide) rfl ?_
          refine x_iload (pc := 45) O dX8_shares_45 rfl ?_
          refine x_if_le (pc := 47) O 96 dX8_shares_47 (by decide) (fun c47 => ?_) (fun c47 => ?_)
          · refine x_iload (pc := 96) O dX8_shares_96 rfl ?_
            refine x_if_le (pc := 98) O 134 dX8_shares_98 (by decide) (fun c98 => ?_) (fun c98 => ?_)
            · have hpt0 : partK n g.length k = 0 := by
                rw [show (0 : Int32) = nI 0 from rfl, nI_leI (by omega) (by decide)] at c47
                omega
              refine x_lv O [some (.ref o), some (.int (nI fr)), some (.int (nI n)), some (.int (nI b)), some (.int (nI g.length)), some (.int (nI (fr + (sumP n g.length k)))), some (.int (nI (k))), some (.int (nI (partK n g.length k))), none, none, none] ⟨rfl, rfl, rfl, rfl, rfl, rfl, rfl, rfl, trivial⟩ ?_
              have hsp2 : sumP n g.length (k + 1) = (sumP n g.length k) := by rw [sumP_s, hpt0]; rfl
              have t9 := tail134 x (by rw [shK_s, show shB a (alB a) (lnB a) m (i 0) f g n k = [] from if_pos hpt0, List.append_nil]; exact hx)
              rw [hsp2] at t9
              exact t9
            · exact absurd c47 c98
          · have hpt0 : ¬ partK n g.length k = 0 := fun z => c47 (by rw [z]; decide)
            refine x_aload_n (pc := 50) O dX8_shares_50 rfl rfl ?_
            refine v_get (pc := 51) O dX8_shares_51 fdX8_43 rfl rfl ?_
            refine x_iload (pc := 54) O dX8_shares_54 rfl ?_
            refine v_zldv (k := 20) (v := a 20 q) (pc := 56) O dX8_shares_56 rfl rfl (by omega) (by rw [hA 20 (by decide) (by decide) (by decide)]) ?_
            refine x_if_eq (pc := 57) O 96 dX8_shares_57 (by decide) (fun c57 => ?_) (fun c57 => ?_)
            · have hal9 : ¬ alB a q = true := by simp [alB, c57]
              refine x_iload (pc := 96) O dX8_shares_96 rfl ?_
              refine x_if_le (pc := 98) O 134 dX8_shares_98 (by decide) (fun c98 => ?_) (fun c98 => ?_)
              · exact absurd c98 c47
              · have hBdead : shB a (alB a) (lnB a) m (i 0) f g n k = shareF a (alB a) (lnB a) m (i 0) f (grp a (lnB a) m (i 0) q (-1)) (partK n g.length k) := by
                  unfold shB
                  rw [if_neg hpt0, ← hq, if_neg hal9]
                refine x_aload_n (pc := 101) O dX8_shares_101 rfl rfl ?_
                refine v_get (pc := 102) O dX8_shares_102 fdX8_158 rfl rfl ?_
                rw [hI40]
                refine x_istore (pc := 105) O dX8_shares_105 (by decide) rfl ?_
                refine x_aload_n (pc := 107) O dX8_shares_107 rfl rfl ?_
                refine x_iload (pc := 108) O dX8_shares_108 rfl ?_
                refine x_iconst (v := (-1)) (pc := 110) O dX8_shares_110 (by decide) ?_
                refine x_callV (pc := 111) (rest := _) (ci := 8) O (c_X8_group l E _ _ _ _ _ q (-1) hI22 h60 (u := u) hI40 (by omega)) dX8_shares_111 cbX8_161 im_yX8_group se_yX8_group rfl v_recv rfl rfl (Nat.le_of_ble_eq_true rfl) ⟨by simp only [rmX]; omega, by simp only [rmX]; omega⟩ ⟨hcx.1, hcx.2⟩ (fun _ => ?_)
                dsimp only [Option.toList, List.append, List.nil_append, List.cons_append, Nat.add_zero, Nat.reduceAdd]
                refine x_istore (pc := 114) O dX8_shares_114 (by decide) rfl ?_
                refine x_aload_n (pc := 116) O dX8_shares_116 rfl rfl ?_
                refine x_iload (pc := 117) O dX8_shares_117 rfl ?_
                refine x_iload (pc := 119) O dX8_shares_119 rfl ?_
                refine x_iload (pc := 121) O dX8_shares_121 rfl ?_
                refine x_iload (pc := 123) O dX8_shares_123 rfl ?_
                have hGe : grp x.2.1 (lnB x.2.1) m (x.1 0) q (-1) = (grp a (lnB a) m (i 0) q (-1)) := by
                  rw [hI 0 (by decide)]
                  exact grp_congr (fun c _ => by rw [hA 9 (by decide) (by decide) (by decide)]) (fun c _ => by rw [hA 10 (by decide) (by decide) (by decide)]) (fun c _ => by rw [hA 11 (by decide) (by decide) (by decide)]) (fun c _ => by simp only [lnB, hA 21 (by decide) (by decide) (by decide)])
                have hgl := grp_len (a := a) (ln := lnB a) (ord := i 0) (of := q) (but := -1) h60
                rw [hGe]
                have hR1 : ∀ k, k ≠ 29 → k ≠ 30 → k ≠ 39 → rowput x.2.1 u (grp a (lnB a) m (i 0) q (-1)) k = a k := fun k k1 k2 k3 => by rw [rowput_ne _ _ _ k3]; exact hA k k1 k2 k3
                have hc0 := cost_add r (sumP n g.length k) (partK n g.length k)
                have hc1 := cost_le r (k := (sumP n g.length k) + partK n g.length k) (t := n) (by omega)
                have hG0 : ¬ (grp a (lnB a) m (i 0) q (-1)) = [] := (hlnok q hq60 hqln).resolve_left hal9
                refine x_callV (pc := 125) (rest := _) (ci := 8) O (ihf (upd x.1 40 (nI (u + (grp a (lnB a) m (i 0) q (-1)).length))) (rowput x.2.1 u (grp a (lnB a) m (i 0) q (-1))) x.2.2 m u (u + (grp a (lnB a) m (i 0) q (-1)).length) (fr + (sumP n g.length k)) (partK n g.length k) (r + (sumP n g.length k)) (grp a (lnB a) m (i 0) q (-1)) ((hs.drop (sumP n g.length k)).take (partK n g.length k)) ?_ h60 ?_ ?_ ?_ ?_ ?_ ?_ ?_ ?_ ?_ ?_ ?_ ?_ hG0) dX8_shares_125 cbX8_181 im_yX8_shares se_yX8_shares rfl v_recv rfl rfl (Nat.le_of_ble_eq_true rfl) ⟨by simp only [rmX]; omega, by simp only [rmX]; omega⟩ ⟨Nat.le_trans (Nat.le_of_eq hc0.1) hc1.1, Nat.le_trans (Nat.le_of_eq hc0.2) hc1.2⟩ (fun y => x_pure O (fun hy => ?_))
                · rw [upd_ne _ _ (by decide)]; exact hI22
                · exact upd_eq _ _ _
                · omega
                · intro t ht; exact rowput_get _ _ _ ht
                · intro c hc
                  obtain ⟨c1, c2, c3, -⟩ := grp_sub hc
                  have := hkin c q c1 hq60 c3
                  have := (hg q hqm).2.1
                  exact ⟨c1, by omega, by simp only [lnB, hR1 21 (by decide) (by decide) (by decide)]; exact c2⟩
                · exact Nat.le_refl _
                · intro t ht
                  rw [hR1 43 (by decide) (by decide) (by decide), Nat.add_assoc, hheap _ (by omega), List.getD_eq_getElem?_getD, List.getD_eq_getElem?_getD, List.getElem?_take_of_lt ht, List.getElem?_drop]
                · intro t ht
                  rw [List.getD_eq_getElem?_getD, List.getElem?_take_of_lt ht, List.getElem?_drop, ← List.getD_eq_getElem?_getD]
                  exact hh120 _ (by omega)
                · omega
                · intro c hc hl
                  have e9 := grp_congr (a := a) (A := rowput x.2.1 u (grp a (lnB a) m (i 0) q (-1))) (ln := lnB a) (ln' := lnB (rowput x.2.1 u (grp a (lnB a) m (i 0) q (-1)))) (of := c) (but := -1) (ord := i 0) (m := m) (fun c _ => by rw [hR1 9 (by decide) (by decide) (by decide)]) (fun c _ => by rw [hR1 10 (by decide) (by decide) (by decide)]) (fun c _ => by rw [hR1 11 (by decide) (by decide) (by decide)]) (fun c _ => by simp only [lnB, hR1 21 (by decide) (by decide) (by decide)])
                  rw [upd_ne _ _ (by decide), hI 0 (by decide), e9]
                  have hl2 : lnB a c = true := by
                    simp only [lnB, hR1 21 (by decide) (by decide) (by decide)] at hl ⊢
                    exact hl
                  rcases hlnok c hc hl2 with h | h
                  · left
                    simp only [alB, hR1 20 (by decide) (by decide) (by decide)] at h ⊢
                    exact h
                  · exact Or.inr h
                · intro c e hc he9 hch
                  simp only [chd, hR1 10 (by decide) (by decide) (by decide), hR1 11 (by decide) (by decide) (by decide)] at hch
                  exact hkin c e hc he9 hch
                · rw [upd_ne _ _ (by decide)]; exact hx28
                · omega
                refine x_widen O (ce' := ccost r (sumP n g.length (k + 1))) (sl' := scost r (sumP n g.length (k + 1))) (Nat.le_of_eq (by rw [hc0.1, sumP_s])) (Nat.le_of_eq (by rw [hc0.2, sumP_s])) ?_
                obtain ⟨y1, y2, y3, y4, y5, y6, y7⟩ := hy
                have hls : lsOf (rowput x.2.1 u (grp a (lnB a) m (i 0) q (-1))) x.2.2 (r + (sumP n g.length k)) = (cmL (i 8) (lsOf a ch r) (ents hs (shK a (alB a) (lnB a) m (i 0) f g n k))) := by
                  refine Prod.ext ?_ (Prod.ext ?_ (Prod.ext ?_ ?_))
                  · show rowput x.2.1 u (grp a (lnB a) m (i 0) q (-1)) 29 = _
                    rw [rowput_ne _ _ _ (by decide)]; exact hx.2.2.2.1
                  · show rowput x.2.1 u (grp a (lnB a) m (i 0) q (-1)) 30 = _
                    rw [rowput_ne _ _ _ (by decide)]; exact hx.2.2.2.2.1
                  · exact hx.2.2.2.2.2.1
                  · show r + (sumP n g.length k) = _
                    rw [cmL_n, ents_len, hSKl]; rfl
                have hsf : shareF (rowput x.2.1 u (grp a (lnB a) m (i 0) q (-1))) (alB (rowput x.2.1 u (grp a (lnB a) m (i 0) q (-1)))) (lnB (rowput x.2.1 u (grp a (lnB a) m (i 0) q (-1)))) m (upd x.1 40 (nI (u + (grp a (lnB a) m (i 0) q (-1)).length)) 0) f (grp a (lnB a) m (i 0) q (-1)) (partK n g.length k) = shareF a (alB a) (lnB a) m (i 0) f (grp a (lnB a) m (i 0) q (-1)) (partK n g.length k) := by
                  rw [upd_ne _ _ (by decide), hI 0 (by decide)]
                  exact shareF_congr (fun c _ => by rw [hR1 9 (by decide) (by decide) (by decide)]) (fun c _ => by rw [hR1 10 (by decide) (by decide) (by decide)]) (fun c _ => by rw [hR1 11 (by decide) (by decide) (by decide)]) (fun c _ => by simp only [lnB, hR1 21 (by decide) (by decide) (by decide)]) (fun c _ => by simp only [alB, hR1 20 (by decide) (by decide) (by decide)]) f _ _ (fun c hc => (grp_sub hc).1)
                have hI8 : upd x.1 40 (nI (u + (grp a (lnB a) m (i 0) q (-1)).length)) 8 = i 8 := by rw [upd_ne _ _ (by decide)]; exact hI 8 (by decide)
                have hQ2 : cmL (upd x.1 40 (nI (u + (grp a (lnB a) m (i 0) q (-1)).length)) 8) (lsOf (rowput x.2.1 u (grp a (lnB a) m (i 0) q (-1))) x.2.2 (r + (sumP n g.length k))) (ents ((hs.drop (sumP n g.length k)).take (partK n g.length k)) (shareF (rowput x.2.1 u (grp a (lnB a) m (i 0) q (-1))) (alB (rowput x.2.1 u (grp a (lnB a) m (i 0) q (-1)))) (lnB (rowput x.2.1 u (grp a (lnB a) m (i 0) q (-1)))) m (upd x.1 40 (nI (u + (grp a (lnB a) m (i 0) q (-1)).length)) 0) f (grp a (lnB a) m (i 0) q (-1)) (partK n g.length k))) = (cmL (i 8) (lsOf a ch r) (ents hs (shK a (alB a) (lnB a) m (i 0) f g n (k + 1)))) := by
                  rw [hsf, hls, hI8, shK_s, ents_app, cmL_app2, hSKl, ents_take _ _ _ (Nat.le_of_eq (by rw [← hBdead]; exact hBl)), hBdead]
                rw [hQ2] at y4 y5 y6 y7
                dsimp only [Option.toList, List.append, List.nil_append, List.cons_append, Nat.add_zero, Nat.reduceAdd]
                refine x_aload_n (pc := 128) O dX8_shares_128 rfl rfl ?_
                refine x_iload (pc := 129) O dX8_shares_129 rfl ?_
                refine v_put (pc := 131) O dX8_shares_131 fpX8_158 rfl rfl ?_
                refine x_lv O [some (.ref o), some (.int (nI fr)), some (.int (nI n)), some (.int (nI b)), some (.int (nI g.length)), some (.int (nI (fr + (sumP n g.length k)))), some (.int (nI (k))), some (.int (nI (partK n g.length k))), none, none, none] ⟨rfl, rfl, rfl, rfl, rfl, rfl, rfl, rfl, trivial⟩ ?_
                refine tail134 (upd y.1 40 (nI u), y.2.1, y.2.2) ⟨fun j hj => ?_, fun j k1 k2 k3 => ?_, fun j hj => ?_, y4, y5, y6, ?_⟩
                · show upd y.1 40 (nI u) j = i j
                  by_cases e : j = 40
                  · subst e; rw [upd_eq, hu]
                  · rw [upd_ne _ _ e, y1 j hj, upd_ne _ _ e]; exact hI j hj
                · show y.2.1 j = a j
                  rw [y2 j k1 k2 k3]; exact hR1 j k1 k2 k3
                · show y.2.1 39 j = a 39 j
                  rw [y3 j (by omega), rowput_out _ _ _ hj]; exact hx.2.2.1 j hj
                · show upd y.1 40 (nI u) 28 = _
                  rw [upd_ne _ _ (by decide)]; exact y7
            · have hal9 : alB a q = true := by simp [alB, c57]
              refine x_iconst (v := nI 0) (pc := 60) O dX8_shares_60 (by decide) ?_
              refine x_istore (pc := 61) O dX8_shares_61 (by decide) rfl ?_
              have hBalive : shB a (alB a) (lnB a) m (i 0) f g n k = List.replicate (partK n g.length k) q := by
                unfold shB
                rw [if_neg hpt0, ← hq, if_pos hal9]
              have loop2 : ∀ s, s ≤ partK n g.length k → ∀ y, SIq i a u (cmL (i 8) (lsOf a ch r) (ents hs ((shK a (alB a) (lnB a) m (i 0) f g n k) ++ List.replicate s q))) y → J (RV E o d y.1 y.2.1 y.2.2) (ccost r ((sumP n g.length k) + s)) (scost r ((sumP n g.length k) + s)) 63 [some (.ref o), some (.int (nI fr)), some (.int (nI n)), some (.int (nI b)), some (.int (nI g.length)), some (.int (nI (fr + (sumP n g.length k)))), some (.int (nI (k))), some (.int (nI (partK n g.length k))), some (.int (nI q)), some (.int (nI s)), none] [] := by
                refine up_ind (Φ := fun s => ∀ y, SIq i a u (cmL (i 8) (lsOf a ch r) (ents hs ((shK a (alB a) (lnB a) m (i 0) f g n k) ++ List.replicate s q))) y → J (RV E o d y.1 y.2.1 y.2.2) (ccost r ((sumP n g.length k) + s)) (scost r ((sumP n g.length k) + s)) 63 [some (.ref o), some (.int (nI fr)), some (.int (nI n)), some (.int (nI b)), some (.int (nI g.length)), some (.int (nI (fr + (sumP n g.length k)))), some (.int (nI (k))), some (.int (nI (partK n g.length k))), some (.int (nI q)), some (.int (nI s)), none] []) (partK n g.length k) (fun s hs1 ih2 y hy => ?_)
                refine x_iload (pc := 63) O dX8_shares_63 rfl ?_
                refine x_iload (pc := 65) O dX8_shares_65 rfl ?_
                refine x_icmp_ge (pc := 67) O 93 dX8_shares_67 (by decide) (fun c67 => ?_) (fun c67 => ?_)
                · refine x_goto (pc := 93) O 134 dX8_shares_93 (by decide) ?_
                  have hs2 : s = partK n g.length k := by
                    rw [nI_leI (by omega) (by omega)] at c67
                    omega
                  refine x_lv O [some (.ref o), some (.int (nI fr)), some (.int (nI n)), some (.int (nI b)), some (.int (nI g.length)), some (.int (nI (fr + (sumP n g.length k)))), some (.int (nI (k))), some (.int (nI (partK n g.length k))), none, none, none] ⟨rfl, rfl, rfl, rfl, rfl, rfl, rfl, rfl, trivial⟩ ?_
                  rw [hs2, ← sumP_s]
                  refine tail134 y ?_
                  rw [shK_s, hBalive, ← hs2]
                  exact hy
                · have hs3 : s < partK n g.length k := by
                    rw [nI_leI (by omega) (by omega)] at c67
                    omega
                  have hsn : (sumP n g.length k) + s < n := by omega
                  have hent : cmL (i 8) (lsOf a ch r) (ents hs ((shK a (alB a) (lnB a) m (i 0) f g n k) ++ List.replicate (s + 1) q)) = cm1 (i 8) (cmL (i 8) (lsOf a ch r) (ents hs ((shK a (alB a) (lnB a) m (i 0) f g n k) ++ List.replicate s q))) (hs.getD ((sumP n g.length k) + s) 0, nI q, 2) := by
                    rw [List.replicate_succ', ← List.append_assoc, ents_app, ents_one, cmL_app, drop_head, List.length_append, List.length_replicate, hSKl]
                  refine x_aload_n (pc := 70) O dX8_shares_70 rfl rfl ?_
                  refine x_aload_n (pc := 71) O dX8_shares_71 rfl rfl ?_
                  refine v_get (pc := 72) O dX8_shares_72 fdX8_92 rfl rfl ?_
                  refine x_iload (pc := 75) O dX8_shares_75 rfl ?_
                  refine x_iload (pc := 77) O dX8_shares_77 rfl ?_
                  refine x_iadd (pc := 79) O dX8_shares_79 ?_
                  rw [nI_add]
                  refine v_aldv (k := 43) (v := nI (hs.getD ((sumP n g.length k) + s) 0)) (pc := 80) O dX8_shares_80 rfl rfl rfl rfl (by show _ < 12; omega) (by rw [hy.2.1 43 (by decide) (by decide) (by decide), Nat.add_assoc]; exact hheap _ hsn) ?_
                  refine x_iload (pc := 81) O dX8_shares_81 rfl ?_
                  refine x_iconst (v := 2) (pc := 83) O dX8_shares_83 (by decide) ?_
                  have hc0 := cost_add r ((sumP n g.length k) + s) 1
                  have hc1 := cost_le r (k := (sumP n g.length k) + s + 1) (t := n) (by omega)
                  refine x_callV (pc := 84) (rest := []) (ci := 8) O (c_X8_comes l E o d y.1 y.2.1 y.2.2 (hs.getD ((sumP n g.length k) + s) 0) (nI q) 2 (r := r + ((sumP n g.length k) + s)) (hh120 _ hsn) (by rw [hy.2.2.2.2.2.2, cmL_n, ents_len, List.length_append, List.length_replicate, hSKl]; rfl) (by omega)) dX8_shares_84 cbX8_95 im_yX8_comes se_yX8_comes rfl v_recv rfl rfl (Nat.le_of_ble_eq_true rfl) ⟨by simp only [rmX]; omega, by simp only [rmX]; omega⟩ ⟨Nat.le_trans (Nat.le_of_eq hc0.1) hc1.1, Nat.le_trans (Nat.le_of_eq hc0.2) hc1.2⟩ (fun _ => ?_)
                  refine x_widen O (ce' := ccost r ((sumP n g.length k) + (s + 1))) (sl' := scost r ((sumP n g.length k) + (s + 1))) (Nat.le_of_eq hc0.1) (Nat.le_of_eq hc0.2) ?_
                  dsimp only [Option.toList, List.append, List.nil_append, List.cons_append, Nat.add_zero, Nat.reduceAdd]
                  refine x_iinc (v := nI (s + 1)) (pc := 87) O dX8_shares_87 rfl (nI_succ s).symm rfl ?_
                  refine x_goto (pc := 90) O 63 dX8_shares_90 (by decide) ?_
                  exact ih2 (by omega) (_, _, _) (by rw [hent]; exact hy.come _ _ _)
              refine loop2 0 (Nat.zero_le _) x ?_
              rw [List.replicate_zero, List.append_nil]
              exact hx
        refine x_iload_n (pc := 13) O dX8_shares_13 rfl ?_
        refine x_iload (pc := 14) O dX8_shares_14 rfl ?_
        refine x_idiv (pc := 16) O dX8_shares_16 (nI_ne0 hg0 (by omega)) ?_
        rw [pk_div (by omega) hg0 (by omega)]
        refine x_iload (pc := 17) O dX8_shares_17 rfl ?_
        refine x_iload_n (pc := 19) O dX8_shares_19 rfl ?_
        refine x_iload (pc := 20) O dX8_shares_20 rfl ?_
        refine x_irem (pc := 22) O dX8_shares_22 (nI_ne0 hg0 (by omega)) ?_
        rw [pk_rem (by omega) hg0 (by omega)]
        refine x_icmp_ge (pc := 23) O 30 dX8_shares_23 (by decide) (fun c23 => ?_) (fun c23 => ?_)
        · refine x_iconst (v := nI 0) (pc := 30) O dX8_shares_30 (by decide) ?_
          refine x_iadd (pc := 31) O dX8_shares_31 ?_
          rw [nI_leI (by omega) (by omega)] at c23
          rw [nI_add, show n / g.length + 0 = partK n g.length k from by unfold partK; rw [if_neg (by omega)]]
          exact tail32
        · refine x_iconst (v := nI 1) (pc := 26) O dX8_shares_26 (by decide) ?_
          refine x_goto (pc := 27) O 31 dX8_shares_27 (by decide) ?_
          refine x_iadd (pc := 31) O dX8_shares_31 ?_
          rw [nI_leI (by omega) (by omega)] at c23
          rw [nI_add, show n / g.length + 1 = partK n g.length k from by unfold partK; rw [if_pos (by omega)]]
          exact tail32
    refine x_iload_n (pc := 0) O dX8_shares_0 rfl ?_
    refine x_istore (pc := 1) O dX8_shares_1 (by decide) rfl ?_
    refine x_iconst (v := nI 0) (pc := 3) O dX8_shares_3 (by decide) ?_
    refine x_istore (pc := 4) O dX8_shares_4 (by decide) rfl ?_
    have h0 := loop 0 (Nat.zero_le _) (i, a, ch) ⟨fun _ _ => rfl, fun _ _ _ _ => rfl, fun _ _ => rfl, rfl, rfl, rfl, hr⟩
    rw [sumP_0, (ccost_0 r).1, (ccost_0 r).2] at h0
    exact h0
