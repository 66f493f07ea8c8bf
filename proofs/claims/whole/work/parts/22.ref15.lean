/-! ===== REF 15: passes ===== -/
theorem lnOk_lasts {a : Ar} {al : Nat → Bool} {m : Nat} {ord : Int32} (hm : m ≤ 60) (hsx : ∀ c, c < m → a 9 c = 0 ∨ a 9 c = 1) : lnOk a al (lasts a al m) m ord := by
  intro q hq hl
  rcases (lasts_iff a al hm hq).mp hl with h | ⟨c, c1, c2, c3, c4⟩
  · exact Or.inl h
  · right
    intro hg
    have hk : ∀ s, a 9 c = s → c ∈ kids a (lasts a al m) q (-1) s m := fun s hs => kids_mem.mpr ⟨c2, nI_nm1 (by omega), hs, c3, c4⟩
    unfold grp at hg
    dsimp only at hg
    split at hg
    · rename_i h0
      rcases hsx c c2 with h | h
      · have := hk 0 h; rw [h0] at this; simp at this
      · have := hk 1 h; rw [hg] at this; simp at this
    · split at hg
      · simp at hg
      · rename_i h0 _; exact h0 hg
theorem fstG_ln {a : Ar} {ln : Nat → Bool} {ord : Int32} {m p : Nat} : ∀ q ∈ fstG a ln m ord p, ln q = true := by
  intro q hq
  unfold fstG at hq
  dsimp only at hq
  (repeat' split at hq) <;> first | exact (grp_sub hq).2.1 | simp at hq
/-- to whom n strips pass: the heirs, or the lord -/
def passE (a : Ar) (m : Nat) (ord : Int32) (al : Nat → Bool) (p : Nat) (hs : List Nat) (n : Nat) : List (Nat × Int32 × Int32) :=
  if fstG a (lasts a al m) m ord p = [] then (hs.take n).map (fun s => (s, -1, 5)) else ents hs (shareF a al (lasts a al m) m ord 60 (fstG a (lasts a al m) m ord p) n)
def PIq (i : Nat → Int32) (a : Ar) (q : Ls) (x : (Nat → Int32) × Ar × (Nat → List Rt)) : Prop := (∀ k, k ≠ 28 → k ≠ 40 → x.1 k = i k) ∧ (∀ k, k ≠ 21 → k ≠ 29 → k ≠ 30 → k ≠ 39 → x.2.1 k = a k) ∧ x.2.1 29 = q.1 ∧ x.2.1 30 = q.2.1 ∧ x.2.2 = q.2.2.1 ∧ x.1 28 = nI q.2.2.2
theorem PIq.come {i : Nat → Int32} {a : Ar} {q : Ls} {x : (Nat → Int32) × Ar × (Nat → List Rt)} (h : PIq i a q x) (s : Nat) (who how : Int32) : PIq i a (cm1 (i 8) q (s, who, how)) (upd x.1 28 (x.1 28 + 1), up2 (up2 x.2.1 29 s who) 30 s (-1), va_up x.2.2 s ((who, how, x.1 8) :: x.2.2 s)) := by
  obtain ⟨h1, h2, h3, h4, h5, h6⟩ := h
  refine ⟨fun k hk k2 => by show upd x.1 28 (x.1 28 + 1) k = _; rw [upd_ne _ _ hk]; exact h1 k hk k2, fun k k0 k1 k2 k3 => by show up2 (up2 x.2.1 29 s who) 30 s (-1) k = _; rw [up2_ne _ _ _ k2, up2_ne _ _ _ k1]; exact h2 k k0 k1 k2 k3, ?_, ?_, ?_, ?_⟩
  · show up2 (up2 x.2.1 29 s who) 30 s (-1) 29 = upd q.1 s who
    rw [up2_ne _ _ _ (by decide), up2_eq, h3]
  · show up2 (up2 x.2.1 29 s who) 30 s (-1) 30 = upd q.2.1 s (-1)
    rw [up2_eq, up2_ne _ _ _ (by decide), h4]
  · show va_up x.2.2 s _ = va_up q.2.2.1 s _
    rw [h5, h1 8 (by decide) (by decide)]
  · show upd x.1 28 (x.1 28 + 1) 28 = nI (q.2.2.2 + 1)
    rw [upd_eq, h6, ← nI_succ]
set_option maxRecDepth 100000 in
set_option maxHeartbeats 4000000 in
theorem c_X8_passes (l : Launch) (E : En) (o : Nat) (d : Nat → Nat) (i : Nat → Int32) (a : Nat → Nat → Int32) (ch : Nat → List Rt) (p fr n r : Nat) (hs : List Nat) {m : Nat} (hm : i 22 = nI m) (h60 : m ≤ 60) (hal : ∀ p, p < 60 → a 20 p = 0 ∨ a 20 p = 1) (hfa : ∀ p, p < m → ¬ a 10 p = -1 → ∃ f, f < 60 ∧ a 10 p = nI f) (hkin : kinOk a m) (hsx : ∀ c, c < m → a 9 c = 0 ∨ a 9 c = 1) (hp : p < m) (hheap : ∀ t, t < n → a 43 (fr + t) = nI (hs.getD t 0)) (hh120 : ∀ t, t < n → hs.getD t 0 < 120) (hhl : n ≤ hs.length) (hfr : fr + n ≤ 12) (hr : i 28 = nI r) (hr2 : r + n ≤ 61560) : Mt l E yX8_passes cX8_passes 6 none (rmX 63 1879 (ccost r n) (scost r n)) [.ref o, .int (nI p), .int (nI fr), .int (nI (fr + n))] (RV E o d i a ch) (fun _ : (Nat → Int32) × Ar × (Nat → List Rt) => none) (fun x h => PIq i a (cmL (i 8) (lsOf a ch r) (passE a m (i 0) (alB a) p hs n)) x ∧ RV E o d x.1 x.2.1 x.2.2 h) := by
  refine Mt_of (by decide +kernel) (Nat.le_of_ble_eq_true rfl) (fun J O => ?_)
  show J _ 0 0 0 [some (.ref o), some (.int (nI p)), some (.int (nI fr)), some (.int (nI (fr + n))), none, none] []
  refine x_aload_n (pc := 0) O dX8_passes_0 rfl rfl ?_
  refine x_callV (pc := 1) (rest := []) (ci := 8) O (c_X8_lines l E o d i a ch hm h60 hal) dX8_passes_1 cbX8_174 im_yX8_lines se_yX8_lines rfl v_recv rfl rfl (Nat.le_of_ble_eq_true rfl) ⟨Nat.le_of_ble_eq_true rfl, Nat.le_of_ble_eq_true rfl⟩ ⟨Nat.zero_le _, Nat.zero_le _⟩ (fun B => x_pure O (fun hB => ?_))
  obtain ⟨hB1, hB2⟩ := hB
  have hln : ∀ c, c < m → lnB B c = lasts a (alB a) m c := fun c hc => Bool.eq_iff_iff.mpr (hB2 c hc)
  dsimp only [Option.toList, List.append, List.nil_append, List.cons_append, Nat.add_zero, Nat.reduceAdd]
  refine x_aload_n (pc := 4) O dX8_passes_4 rfl rfl ?_
  refine x_iconst (v := nI 0) (pc := 5) O dX8_passes_5 (by decide) ?_
  refine v_put (pc := 6) O dX8_passes_6 fpX8_158 rfl rfl ?_
  refine x_aload_n (pc := 9) O dX8_passes_9 rfl rfl ?_
  refine x_iload_n (pc := 10) O dX8_passes_10 rfl ?_
  refine x_callV (pc := 11) (rest := []) (ci := 8) O (c_X8_first l E o d (upd i 40 (nI 0)) B ch p (m := m) (by rw [upd_ne _ _ (by decide)]; exact hm) h60 (upd_eq _ _ _) (by omega) (by rw [hB1 10 (by decide)]; exact hfa p hp)) dX8_passes_11 cbX8_177 im_yX8_first se_yX8_first rfl v_recv rfl rfl (Nat.le_of_ble_eq_true rfl) ⟨Nat.le_of_ble_eq_true rfl, Nat.le_of_ble_eq_true rfl⟩ ⟨Nat.zero_le _, Nat.zero_le _⟩ (fun _ => ?_)
  have hGe : fstG B (lnB B) m (upd i 40 (nI 0) 0) p = fstG a (lasts a (alB a) m) m (i 0) p := by
    rw [upd_ne _ _ (by decide)]
    exact fstG_congr hp (fun c _ => by rw [hB1 9 (by decide)]) (fun c _ => by rw [hB1 10 (by decide)]) (fun c _ => by rw [hB1 11 (by decide)]) hln
  rw [hGe]
  obtain ⟨G, hG⟩ : ∃ G, G = fstG a (lasts a (alB a) m) m (i 0) p := ⟨_, rfl⟩
  rw [← hG]
  have hgl : G.length ≤ 60 := by rw [hG]; exact fstG_len h60
  rw [show upd (upd i 40 (nI 0)) 40 (nI (0 + G.length)) = upd i 40 (nI (0 + G.length)) from upd_upd _ _ _ _]
  have hR1 : ∀ k, k ≠ 21 → k ≠ 39 → rowput B 0 G k = a k := fun k k1 k2 => by rw [rowput_ne _ _ _ k2]; exact hB1 k k1
  dsimp only [Option.toList, List.append, List.nil_append, List.cons_append, Nat.add_zero, Nat.reduceAdd]
  refine x_istore (pc := 14) O dX8_passes_14 (by decide) rfl ?_
  refine x_iload (pc := 16) O dX8_passes_16 rfl ?_
  refine x_if_le (pc := 18) O 35 dX8_passes_18 (by decide) (fun c18 => ?_) (fun c18 => ?_)
  · refine x_iload_n (pc := 35) O dX8_passes_35 rfl ?_
    refine x_istore (pc := 36) O dX8_passes_36 (by decide) rfl ?_
    have hG0 : G = [] := by
      rw [show (0 : Int32) = nI 0 from rfl, nI_leI (by omega) (by decide)] at c18
      exact List.length_eq_zero_iff.mp (by omega)
    have loop : ∀ k, k ≤ n → ∀ x, PIq i a (cmL (i 8) (lsOf a ch r) ((hs.take k).map (fun s => (s, (-1 : Int32), (5 : Int32))))) x → J (RV E o d x.1 x.2.1 x.2.2) (ccost r k) (scost r k) 38 [some (.ref o), some (.int (nI p)), some (.int (nI fr)), some (.int (nI (fr + n))), some (.int (nI G.length)), some (.int (nI (fr + k)))] [] := by
      refine up_ind (Φ := fun k => ∀ x, PIq i a (cmL (i 8) (lsOf a ch r) ((hs.take k).map (fun s => (s, (-1 : Int32), (5 : Int32))))) x → J (RV E o d x.1 x.2.1 x.2.2) (ccost r k) (scost r k) 38 [some (.ref o), some (.int (nI p)), some (.int (nI fr)), some (.int (nI (fr + n))), some (.int (nI G.length)), some (.int (nI (fr + k)))] []) n (fun k hk ih x hx => ?_)
      refine x_iload (pc := 38) O dX8_passes_38 rfl ?_
      refine x_iload_n (pc := 40) O dX8_passes_40 rfl ?_
      refine x_icmp_ge (pc := 41) O 63 dX8_passes_41 (by decide) (fun c41 => ?_) (fun c41 => ?_)
      · have hk2 : k = n := by
          rw [nI_leI (by omega) (by omega)] at c41
          omega
        subst hk2
        refine x_ret (v := none) (pc := 63) O dX8_passes_63 rfl trivial ⟨Nat.le_refl _, Nat.le_refl _, x, rfl, fun h hh => ⟨?_, hh⟩⟩
        unfold passE
        rw [← hG, if_pos hG0]
        exact hx
      · have hk3 : k < n := by
          rw [nI_leI (by omega) (by omega)] at c41
          omega
        have hk4 : k < hs.length := by omega
        refine x_aload_n (pc := 44) O dX8_passes_44 rfl rfl ?_
        refine x_aload_n (pc := 45) O dX8_passes_45 rfl rfl ?_
        refine v_get (pc := 46) O dX8_passes_46 fdX8_92 rfl rfl ?_
        refine x_iload (pc := 49) O dX8_passes_49 rfl ?_
        refine v_aldv (k := 43) (v := nI (hs.getD k 0)) (pc := 51) O dX8_passes_51 rfl rfl rfl rfl (by show _ < 12; omega) (by rw [hx.2.1 43 (by decide) (by decide) (by decide) (by decide)]; exact hheap k hk3) ?_
        refine x_iconst (v := (-1)) (pc := 52) O dX8_passes_52 (by decide) ?_
        refine x_iconst (v := 5) (pc := 53) O dX8_passes_53 (by decide) ?_
        have hc0 := cost_add r k 1
        have hc1 := cost_le r (k := k + 1) (t := n) (by omega)
        refine x_callV (pc := 54) (rest := []) (ci := 8) O (c_X8_comes l E o d x.1 x.2.1 x.2.2 (hs.getD k 0) (-1) 5 (r := r + k) (hh120 k hk3) (by rw [hx.2.2.2.2.2, cmL_n, take_map_len _ _ _ (by omega)]; rfl) (by omega)) dX8_passes_54 cbX8_95 im_yX8_comes se_yX8_comes rfl v_recv rfl rfl (Nat.le_of_ble_eq_true rfl) ⟨Nat.le_of_ble_eq_true rfl, Nat.le_of_ble_eq_true rfl⟩ ⟨Nat.le_trans (Nat.le_of_eq hc0.1) hc1.1, Nat.le_trans (Nat.le_of_eq hc0.2) hc1.2⟩ (fun _ => ?_)
        refine x_widen O (ce' := ccost r (k + 1)) (sl' := scost r (k + 1)) (Nat.le_of_eq hc0.1) (Nat.le_of_eq hc0.2) ?_
        dsimp only [Option.toList, List.append, List.nil_append, List.cons_append, Nat.add_zero, Nat.reduceAdd]
        refine x_iinc (v := nI (fr + (k + 1))) (pc := 57) O dX8_passes_57 rfl (nI_succ (fr + k)).symm rfl ?_
        refine x_goto (pc := 60) O 38 dX8_passes_60 (by decide) ?_
        exact ih (by omega) (_, _, _) (by rw [take_map_s hs (-1) 5 hk4, cmL_app]; exact hx.come _ _ _)
    have h0 := loop 0 (Nat.zero_le _) (upd i 40 (nI (0 + G.length)), rowput B 0 G, ch) ⟨fun k k1 k2 => upd_ne _ _ k2, fun k k0 k1 k2 k3 => hR1 k k0 k3, hR1 29 (by decide) (by decide), hR1 30 (by decide) (by decide), rfl, by show upd i 40 (nI (0 + G.length)) 28 = _; rw [upd_ne _ _ (by decide)]; exact hr⟩
    rw [(ccost_0 r).1, (ccost_0 r).2] at h0
    exact h0
  · refine x_aload_n (pc := 21) O dX8_passes_21 rfl rfl ?_
    refine x_iload_n (pc := 22) O dX8_passes_22 rfl ?_
    refine x_iload_n (pc := 23) O dX8_passes_23 rfl ?_
    refine x_iload_n (pc := 24) O dX8_passes_24 rfl ?_
    refine x_isub (pc := 25) O dX8_passes_25 ?_
    rw [pk_sub (by omega), show fr + n - fr = n by omega]
    refine x_iconst (v := nI 0) (pc := 26) O dX8_passes_26 (by decide) ?_
    refine x_iload (pc := 27) O dX8_passes_27 rfl ?_
    have hG0 : ¬ G = [] := fun z => c18 (by rw [z]; decide)
    refine x_callV (pc := 29) (rest := []) (ci := 8) O (c_X8_shares l E o d 60 (upd i 40 (nI (0 + G.length))) (rowput B 0 G) ch m 0 (0 + G.length) fr n r G hs (by rw [upd_ne _ _ (by decide)]; exact hm) h60 (upd_eq _ _ _) (by omega) (fun t ht => rowput_get _ _ _ ht) (fun q hq => ⟨by rw [hG] at hq; exact fstG_lt q hq, by omega, ?_⟩) (Nat.le_refl _) (fun t ht => by rw [hR1 43 (by decide) (by decide)]; exact hheap t ht) hh120 hfr ?_ ?_ (by rw [upd_ne _ _ (by decide)]; exact hr) hr2 hG0) dX8_passes_29 cbX8_181 im_yX8_shares se_yX8_shares rfl v_recv rfl rfl (Nat.le_of_ble_eq_true rfl) ⟨Nat.le_of_ble_eq_true rfl, Nat.le_of_ble_eq_true rfl⟩ ⟨Nat.le_of_eq (Nat.zero_add _), Nat.le_of_eq (Nat.zero_add _)⟩ (fun y => x_pure O (fun hy => ?_))
    · have hqm : q < m := by rw [hG] at hq; exact fstG_lt q hq
      have h1 := hln q hqm
      have h2 : lasts a (alB a) m q = true := by rw [hG] at hq; exact fstG_ln q hq
      have h3 : lnB (rowput B 0 G) q = lnB B q := by simp only [lnB, rowput_ne _ _ _ (show (21 : Nat) ≠ 39 by decide)]
      rw [h3, h1]
      exact h2
    · intro c hc hl
      have h1 : lnB (rowput B 0 G) c = lasts a (alB a) m c := by rw [← hln c hc]; simp only [lnB, rowput_ne _ _ _ (show (21 : Nat) ≠ 39 by decide)]
      have e9 := grp_congr (a := a) (A := rowput B 0 G) (ln := lasts a (alB a) m) (ln' := lnB (rowput B 0 G)) (of := c) (but := -1) (ord := i 0) (m := m) (fun c _ => by rw [hR1 9 (by decide) (by decide)]) (fun c _ => by rw [hR1 10 (by decide) (by decide)]) (fun c _ => by rw [hR1 11 (by decide) (by decide)]) (fun c hc => by rw [← hln c hc]; simp only [lnB, rowput_ne _ _ _ (show (21 : Nat) ≠ 39 by decide)])
      rw [upd_ne _ _ (by decide), e9]
      rcases lnOk_lasts (a := a) (al := alB a) (ord := i 0) h60 hsx c hc (by rw [← h1]; exact hl) with h | h
      · left
        simp only [alB, hR1 20 (by decide) (by decide)] at h ⊢
        exact h
      · exact Or.inr h
    · intro c e hc he9 hch
      simp only [chd, hR1 10 (by decide) (by decide), hR1 11 (by decide) (by decide)] at hch
      exact hkin c e hc he9 hch
    have hsf : shareF (rowput B 0 G) (alB (rowput B 0 G)) (lnB (rowput B 0 G)) m (upd i 40 (nI (0 + G.length)) 0) 60 G n = shareF a (alB a) (lasts a (alB a) m) m (i 0) 60 G n := by
      rw [upd_ne _ _ (by decide)]
      exact shareF_congr (fun c _ => by rw [hR1 9 (by decide) (by decide)]) (fun c _ => by rw [hR1 10 (by decide) (by decide)]) (fun c _ => by rw [hR1 11 (by decide) (by decide)]) (fun c hc => by rw [← hln c hc]; simp only [lnB, rowput_ne _ _ _ (show (21 : Nat) ≠ 39 by decide)]) (fun c _ => by simp only [alB, hR1 20 (by decide) (by decide)]) 60 G n (fun q hq => by rw [hG] at hq; exact fstG_lt q hq)
    rw [hsf, upd_ne _ _ (by decide), show lsOf (rowput B 0 G) ch r = lsOf a ch r from by unfold lsOf; rw [hR1 29 (by decide) (by decide), hR1 30 (by decide) (by decide)]] at hy
    obtain ⟨y1, y2, y3, y4, y5, y6, y7⟩ := hy
    dsimp only [Option.toList, List.append, List.nil_append, List.cons_append, Nat.add_zero, Nat.reduceAdd]
    refine x_goto (pc := 32) O 63 dX8_passes_32 (by decide) ?_
    refine x_ret (v := none) (pc := 63) O dX8_passes_63 rfl trivial ⟨Nat.le_of_eq (Nat.zero_add _), Nat.le_of_eq (Nat.zero_add _), y, rfl, fun h hh => ⟨?_, hh⟩⟩
    unfold passE
    rw [← hG, if_neg hG0]
    refine ⟨fun k k1 k2 => by rw [y1 k k1, upd_ne _ _ k2], fun k k0 k1 k2 k3 => by rw [y2 k k1 k2 k3]; exact hR1 k k0 k3, y4, y5, y6, y7⟩
