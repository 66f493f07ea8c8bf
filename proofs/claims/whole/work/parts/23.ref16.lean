/-! ===== REF 16: widowPasses ===== -/
theorem passE_congr {a A : Ar} {al al' : Nat → Bool} {ord : Int32} {m p : Nat} (hm : m ≤ 60) (hp : p < m) (h9 : ∀ c, c < m → A 9 c = a 9 c) (h10 : ∀ c, c < m → A 10 c = a 10 c) (h11 : ∀ c, c < m → A 11 c = a 11 c) (hal : ∀ c, c < m → al' c = al c) (hs : List Nat) (n : Nat) : passE A m ord al' p hs n = passE a m ord al p hs n := by
  have hl : ∀ c, c < m → lasts A al' m c = lasts a al m c := fun c hc => lasts_congr h10 h11 hal hc
  unfold passE
  rw [fstG_congr hp h9 h10 h11 hl, shareF_congr h9 h10 h11 hl hal 60 _ n fstG_lt]
def wdB (q : Ls) (p : Int32) (k s : Nat) : Bool := decide (q.1 s = p ∧ q.2.1 s = nI k)
/-- what of one holding passes on: the widow's parts that p holds, giver by giver -/
def wpF (now : Int32) (a : Ar) (m : Nat) (ord : Int32) (al : Nat → Bool) (p : Int32) (g : Nat) (q : Ls) : Nat → Ls × Nat
  | 0 => (q, 0)
  | k + 1 =>
    let w := wpF now a m ord al p g q k
    let L := pkL (wdB w.1 p k) g 12
    if L = [] then w else (cmL now w.1 (passE a m ord al k L L.length), w.2 + L.length)
theorem wpF_mono (now : Int32) (a : Ar) (m : Nat) (ord : Int32) (al : Nat → Bool) (p : Int32) (g : Nat) (q : Ls) (k : Nat) : ∀ t, (wpF now a m ord al p g q k).2 ≤ (wpF now a m ord al p g q (k + t)).2
  | 0 => Nat.le_refl _
  | t + 1 => by
    have h := wpF_mono now a m ord al p g q k t
    rw [← Nat.add_assoc]
    simp only [wpF]
    split
    · exact h
    · simp only []
      omega
theorem passE_len {a : Ar} {al : Nat → Bool} {ord : Int32} {m p : Nat} (hm : m ≤ 60) (hsx : ∀ c, c < m → a 9 c = 0 ∨ a 9 c = 1) (hkin : kinOk a m) (hs : List Nat) : (passE a m ord al p hs hs.length).length = hs.length := by
  unfold passE
  split
  · simp
  · rename_i h
    rw [ents_len, shareF_len hm (lnOk_lasts hm hsx) hkin 60 _ _ h (fun q hq => ⟨fstG_lt q hq, by omega, fstG_ln q hq⟩)]
theorem wpF_n {now : Int32} {a : Ar} {m : Nat} {ord : Int32} {al : Nat → Bool} {p : Int32} {g : Nat} {q : Ls} (hm : m ≤ 60) (hsx : ∀ c, c < m → a 9 c = 0 ∨ a 9 c = 1) (hkin : kinOk a m) : ∀ k, (wpF now a m ord al p g q k).1.2.2.2 = q.2.2.2 + (wpF now a m ord al p g q k).2
  | 0 => rfl
  | k + 1 => by
    have h := wpF_n (now := now) (ord := ord) (al := al) (p := p) (g := g) (q := q) hm hsx hkin k
    simp only [wpF]
    split
    · exact h
    · simp only []
      rw [cmL_n, passE_len hm hsx hkin, h]
      omega
def WIq (i : Nat → Int32) (a : Ar) (q : Ls) (x : (Nat → Int32) × Ar × (Nat → List Rt)) : Prop := (∀ k, k ≠ 28 → k ≠ 40 → x.1 k = i k) ∧ (∀ k, k ≠ 21 → k ≠ 29 → k ≠ 30 → k ≠ 39 → k ≠ 43 → x.2.1 k = a k) ∧ x.2.1 29 = q.1 ∧ x.2.1 30 = q.2.1 ∧ x.2.2 = q.2.2.1 ∧ x.1 28 = nI q.2.2.2
set_option maxRecDepth 100000 in
set_option maxHeartbeats 4000000 in
theorem c_X8_widowPasses (l : Launch) (E : En) (o : Nat) (d : Nat → Nat) (i : Nat → Int32) (a : Nat → Nat → Int32) (ch : Nat → List Rt) (p : Int32) (g r : Nat) {m : Nat} (hm : i 22 = nI m) (h60 : m ≤ 60) (hal : ∀ p, p < 60 → a 20 p = 0 ∨ a 20 p = 1) (hfa : ∀ p, p < m → ¬ a 10 p = -1 → ∃ f, f < 60 ∧ a 10 p = nI f) (hkin : kinOk a m) (hsx : ∀ c, c < m → a 9 c = 0 ∨ a 9 c = 1) (hg : g < 10) (hr : i 28 = nI r) (hr2 : r + (wpF (i 8) a m (i 0) (alB a) p g (lsOf a ch r) m).2 ≤ 61560) : Mt l E yX8_widowPasses cX8_widowPasses 7 (some .int) (rmX 64 1904 (ccost r (wpF (i 8) a m (i 0) (alB a) p g (lsOf a ch r) m).2) (scost r (wpF (i 8) a m (i 0) (alB a) p g (lsOf a ch r) m).2)) [.ref o, .int p, .int (nI g)] (RV E o d i a ch) (fun _ : (Nat → Int32) × Ar × (Nat → List Rt) => some (.int (nI (wpF (i 8) a m (i 0) (alB a) p g (lsOf a ch r) m).2))) (fun x h => WIq i a (wpF (i 8) a m (i 0) (alB a) p g (lsOf a ch r) m).1 x ∧ RV E o d x.1 x.2.1 x.2.2 h) := by
  refine Mt_of (by decide +kernel) (Nat.le_of_ble_eq_true rfl) (fun J O => ?_)
  show J _ 0 0 0 [some (.ref o), some (.int p), some (.int (nI g)), none, none, none, none] []
  have loop : ∀ k, k ≤ m → ∀ x, WIq i a (wpF (i 8) a m (i 0) (alB a) p g (lsOf a ch r) k).1 x → J (RV E o d x.1 x.2.1 x.2.2) (ccost r (wpF (i 8) a m (i 0) (alB a) p g (lsOf a ch r) k).2) (scost r (wpF (i 8) a m (i 0) (alB a) p g (lsOf a ch r) k).2) 5 [some (.ref o), some (.int p), some (.int (nI g)), some (.int (nI ((wpF (i 8) a m (i 0) (alB a) p g (lsOf a ch r) k).2))), some (.int (nI (k))), none, none] [] := by
    refine up_ind (Φ := fun k => ∀ x, WIq i a (wpF (i 8) a m (i 0) (alB a) p g (lsOf a ch r) k).1 x → J (RV E o d x.1 x.2.1 x.2.2) (ccost r (wpF (i 8) a m (i 0) (alB a) p g (lsOf a ch r) k).2) (scost r (wpF (i 8) a m (i 0) (alB a) p g (lsOf a ch r) k).2) 5 [some (.ref o), some (.int p), some (.int (nI g)), some (.int (nI ((wpF (i 8) a m (i 0) (alB a) p g (lsOf a ch r) k).2))), some (.int (nI (k))), none, none] []) m (fun k hk ih x hx => ?_)
    refine x_iload (pc := 5) O dX8_widowPasses_5 rfl ?_
    refine x_aload_n (pc := 7) O dX8_widowPasses_7 rfl rfl ?_
    refine v_get (pc := 8) O dX8_widowPasses_8 fdX8_99 rfl rfl ?_
    refine x_icmp_ge (pc := 11) O 103 dX8_widowPasses_11 (by decide) (fun c11 => ?_) (fun c11 => ?_)
    · refine x_iload_n (pc := 103) O dX8_widowPasses_103 rfl ?_
      have hk2 : k = m := by
        rw [hx.1 22 (by decide) (by decide), hm, nI_leI (by omega) (by omega)] at c11
        omega
      subst hk2
      exact x_ret (v := some (.int _)) (pc := 104) O dX8_widowPasses_104 rfl rfl ⟨Nat.le_refl _, Nat.le_refl _, x, rfl, fun h hh => ⟨hx, hh⟩⟩
    · have hk3 : k < m := by
        rw [hx.1 22 (by decide) (by decide), hm, nI_leI (by omega) (by omega)] at c11
        omega
      have hlw := pkL_len (wdB (wpF (i 8) a m (i 0) (alB a) p g (lsOf a ch r) k).1 p k) g 12
      refine x_iconst (v := nI 0) (pc := 14) O dX8_widowPasses_14 (by decide) ?_
      refine x_istore (pc := 15) O dX8_widowPasses_15 (by decide) rfl ?_
      refine x_bipush (v := nI 12) (pc := 17) O dX8_widowPasses_17 (by decide) ?_
      refine x_iload_n (pc := 19) O dX8_widowPasses_19 rfl ?_
      refine x_imul (pc := 20) O dX8_widowPasses_20 ?_
      rw [show nI 12 * nI g = nI (12 * g + 0) from pk_mul 12 g]
      refine x_istore (pc := 21) O dX8_widowPasses_21 (by decide) rfl ?_
      have tail78 : J (RV E o d x.1 (hpput x.2.1 (pkL (wdB (wpF (i 8) a m (i 0) (alB a) p g (lsOf a ch r) k).1 p k) g 12)) x.2.2) (ccost r (wpF (i 8) a m (i 0) (alB a) p g (lsOf a ch r) k).2) (scost r (wpF (i 8) a m (i 0) (alB a) p g (lsOf a ch r) k).2) 78 [some (.ref o), some (.int p), some (.int (nI g)), some (.int (nI ((wpF (i 8) a m (i 0) (alB a) p g (lsOf a ch r) k).2))), some (.int (nI (k))), some (.int (nI (pkL (wdB (wpF (i 8) a m (i 0) (alB a) p g (lsOf a ch r) k).1 p k) g 12).length)), some (.int (nI (12 * g + 12)))] [] := by
        refine x_iload (pc := 78) O dX8_widowPasses_78 rfl ?_
        refine x_if_le (pc := 80) O 92 dX8_widowPasses_80 (by decide) (fun c80 => ?_) (fun c80 => ?_)
        · refine x_iload_n (pc := 92) O dX8_widowPasses_92 rfl ?_
          refine x_iload (pc := 93) O dX8_widowPasses_93 rfl ?_
          refine x_iadd (pc := 95) O dX8_widowPasses_95 ?_
          rw [nI_add]
          refine x_istore_n (pc := 96) O dX8_widowPasses_96 (by decide) rfl ?_
          refine x_iinc (v := nI (k + 1)) (pc := 97) O dX8_widowPasses_97 rfl (nI_succ k).symm rfl ?_
          refine x_goto (pc := 100) O 5 dX8_widowPasses_100 (by decide) ?_
          have hL0 : (pkL (wdB (wpF (i 8) a m (i 0) (alB a) p g (lsOf a ch r) k).1 p k) g 12) = [] := by
            rw [show (0 : Int32) = nI 0 from rfl, nI_leI (by omega) (by decide)] at c80
            exact List.length_eq_zero_iff.mp (by omega)
          have hW : (wpF (i 8) a m (i 0) (alB a) p g (lsOf a ch r) (k + 1)) = (wpF (i 8) a m (i 0) (alB a) p g (lsOf a ch r) k) := by
            simp only [wpF]
            rw [if_pos hL0]
          rw [hW] at ih
          rw [hL0, hpput_nil]
          rw [show (wpF (i 8) a m (i 0) (alB a) p g (lsOf a ch r) k).2 + ([] : List Nat).length = (wpF (i 8) a m (i 0) (alB a) p g (lsOf a ch r) k).2 from rfl]
          refine x_lv O [some (.ref o), some (.int p), some (.int (nI g)), some (.int (nI ((wpF (i 8) a m (i 0) (alB a) p g (lsOf a ch r) k).2))), some (.int (nI (k + 1))), none, none] ⟨rfl, rfl, rfl, rfl, rfl, trivial⟩ ?_
          exact ih (by omega) x hx
        · refine x_aload_n (pc := 83) O dX8_widowPasses_83 rfl rfl ?_
          refine x_iload (pc := 84) O dX8_widowPasses_84 rfl ?_
          refine x_iconst (v := nI 0) (pc := 86) O dX8_widowPasses_86 (by decide) ?_
          refine x_iload (pc := 87) O dX8_widowPasses_87 rfl ?_
          have hL0 : ¬ (pkL (wdB (wpF (i 8) a m (i 0) (alB a) p g (lsOf a ch r) k).1 p k) g 12) = [] := fun z => c80 (by rw [z]; decide)
          have hW : (wpF (i 8) a m (i 0) (alB a) p g (lsOf a ch r) (k + 1)) = (cmL (i 8) (wpF (i 8) a m (i 0) (alB a) p g (lsOf a ch r) k).1 (passE a m (i 0) (alB a) k (pkL (wdB (wpF (i 8) a m (i 0) (alB a) p g (lsOf a ch r) k).1 p k) g 12) (pkL (wdB (wpF (i 8) a m (i 0) (alB a) p g (lsOf a ch r) k).1 p k) g 12).length), (wpF (i 8) a m (i 0) (alB a) p g (lsOf a ch r) k).2 + (pkL (wdB (wpF (i 8) a m (i 0) (alB a) p g (lsOf a ch r) k).1 p k) g 12).length) := by
            simp only [wpF]
            rw [if_neg hL0]
          have hmono := wpF_mono (i 8) a m (i 0) (alB a) p g (lsOf a ch r) (k + 1) (m - (k + 1))
          rw [show k + 1 + (m - (k + 1)) = m by omega, hW] at hmono
          simp only [] at hmono
          have hR1 : ∀ j, j ≠ 21 → j ≠ 29 → j ≠ 30 → j ≠ 39 → j ≠ 43 → hpput x.2.1 (pkL (wdB (wpF (i 8) a m (i 0) (alB a) p g (lsOf a ch r) k).1 p k) g 12) j = a j := fun j k0 k1 k2 k3 k4 => by rw [hpput_ne _ _ k4]; exact hx.2.1 j k0 k1 k2 k3 k4
          have hc0 := cost_add r (wpF (i 8) a m (i 0) (alB a) p g (lsOf a ch r) k).2 (pkL (wdB (wpF (i 8) a m (i 0) (alB a) p g (lsOf a ch r) k).1 p k) g 12).length
          have hc1 := cost_le r (k := (wpF (i 8) a m (i 0) (alB a) p g (lsOf a ch r) k).2 + (pkL (wdB (wpF (i 8) a m (i 0) (alB a) p g (lsOf a ch r) k).1 p k) g 12).length) hmono
          rw [show nI (pkL (wdB (wpF (i 8) a m (i 0) (alB a) p g (lsOf a ch r) k).1 p k) g 12).length = nI (0 + (pkL (wdB (wpF (i 8) a m (i 0) (alB a) p g (lsOf a ch r) k).1 p k) g 12).length) from by rw [Nat.zero_add]]
          refine x_callV (pc := 89) (rest := []) (ci := 8) O (c_X8_passes l E o d x.1 (hpput x.2.1 (pkL (wdB (wpF (i 8) a m (i 0) (alB a) p g (lsOf a ch r) k).1 p k) g 12)) x.2.2 k 0 (pkL (wdB (wpF (i 8) a m (i 0) (alB a) p g (lsOf a ch r) k).1 p k) g 12).length (r + (wpF (i 8) a m (i 0) (alB a) p g (lsOf a ch r) k).2) (pkL (wdB (wpF (i 8) a m (i 0) (alB a) p g (lsOf a ch r) k).1 p k) g 12) (m := m) (by rw [hx.1 22 (by decide) (by decide)]; exact hm) h60 (by rw [hR1 20 (by decide) (by decide) (by decide) (by decide) (by decide)]; exact hal) (by rw [hR1 10 (by decide) (by decide) (by decide) (by decide) (by decide)]; exact hfa) ?_ (by rw [hR1 9 (by decide) (by decide) (by decide) (by decide) (by decide)]; exact hsx) hk3 (fun t ht => by rw [Nat.zero_add]; exact hpput_get _ _ ht) (fun t ht => by have := (pkL_mem (getD_mem ht)).1; omega) (Nat.le_refl _) (by omega) (by rw [hx.2.2.2.2.2, wpF_n h60 hsx hkin]; rfl) (by omega)) dX8_widowPasses_89 cbX8_185 im_yX8_passes se_yX8_passes rfl v_recv rfl rfl (Nat.le_of_ble_eq_true rfl) ⟨Nat.le_of_ble_eq_true rfl, Nat.le_of_ble_eq_true rfl⟩ ⟨Nat.le_trans (Nat.le_of_eq hc0.1) hc1.1, Nat.le_trans (Nat.le_of_eq hc0.2) hc1.2⟩ (fun y => x_pure O (fun hy => ?_))
          · intro c e hc he9 hch
            simp only [chd, hR1 10 (by decide) (by decide) (by decide) (by decide) (by decide), hR1 11 (by decide) (by decide) (by decide) (by decide) (by decide)] at hch
            exact hkin c e hc he9 hch
          rw [hx.1 8 (by decide) (by decide), hx.1 0 (by decide) (by decide), passE_congr (a := a) (al := alB a) h60 hk3 (fun c _ => by rw [hR1 9 (by decide) (by decide) (by decide) (by decide) (by decide)]) (fun c _ => by rw [hR1 10 (by decide) (by decide) (by decide) (by decide) (by decide)]) (fun c _ => by rw [hR1 11 (by decide) (by decide) (by decide) (by decide) (by decide)]) (fun c _ => by simp only [alB, hR1 20 (by decide) (by decide) (by decide) (by decide) (by decide)]), show lsOf (hpput x.2.1 (pkL (wdB (wpF (i 8) a m (i 0) (alB a) p g (lsOf a ch r) k).1 p k) g 12)) x.2.2 (r + (wpF (i 8) a m (i 0) (alB a) p g (lsOf a ch r) k).2) = (wpF (i 8) a m (i 0) (alB a) p g (lsOf a ch r) k).1 from by
            refine Prod.ext ?_ (Prod.ext ?_ (Prod.ext ?_ ?_))
            · show hpput x.2.1 (pkL (wdB (wpF (i 8) a m (i 0) (alB a) p g (lsOf a ch r) k).1 p k) g 12) 29 = _
              rw [hpput_ne _ _ (by decide)]; exact hx.2.2.1
            · show hpput x.2.1 (pkL (wdB (wpF (i 8) a m (i 0) (alB a) p g (lsOf a ch r) k).1 p k) g 12) 30 = _
              rw [hpput_ne _ _ (by decide)]; exact hx.2.2.2.1
            · exact hx.2.2.2.2.1
            · rw [wpF_n h60 hsx hkin]; rfl] at hy
          obtain ⟨y1, y2, y3, y4, y5, y6⟩ := hy
          refine x_widen O (ce' := ccost r ((wpF (i 8) a m (i 0) (alB a) p g (lsOf a ch r) k).2 + (pkL (wdB (wpF (i 8) a m (i 0) (alB a) p g (lsOf a ch r) k).1 p k) g 12).length)) (sl' := scost r ((wpF (i 8) a m (i 0) (alB a) p g (lsOf a ch r) k).2 + (pkL (wdB (wpF (i 8) a m (i 0) (alB a) p g (lsOf a ch r) k).1 p k) g 12).length)) (Nat.le_of_eq hc0.1) (Nat.le_of_eq hc0.2) ?_
          rw [show nI (0 + (pkL (wdB (wpF (i 8) a m (i 0) (alB a) p g (lsOf a ch r) k).1 p k) g 12).length) = nI (pkL (wdB (wpF (i 8) a m (i 0) (alB a) p g (lsOf a ch r) k).1 p k) g 12).length from by rw [Nat.zero_add]]
          dsimp only [Option.toList, List.append, List.nil_append, List.cons_append, Nat.add_zero, Nat.reduceAdd]
          refine x_iload_n (pc := 92) O dX8_widowPasses_92 rfl ?_
          refine x_iload (pc := 93) O dX8_widowPasses_93 rfl ?_
          refine x_iadd (pc := 95) O dX8_widowPasses_95 ?_
          rw [nI_add]
          refine x_istore_n (pc := 96) O dX8_widowPasses_96 (by decide) rfl ?_
          refine x_iinc (v := nI (k + 1)) (pc := 97) O dX8_widowPasses_97 rfl (nI_succ k).symm rfl ?_
          refine x_goto (pc := 100) O 5 dX8_widowPasses_100 (by decide) ?_
          refine x_lv O [some (.ref o), some (.int p), some (.int (nI g)), some (.int (nI ((wpF (i 8) a m (i 0) (alB a) p g (lsOf a ch r) k).2 + (pkL (wdB (wpF (i 8) a m (i 0) (alB a) p g (lsOf a ch r) k).1 p k) g 12).length))), some (.int (nI (k + 1))), none, none] ⟨rfl, rfl, rfl, rfl, rfl, trivial⟩ ?_
          rw [hW] at ih
          exact ih (by omega) y ⟨fun j k1 k2 => by rw [y1 j k1 k2]; exact hx.1 j k1 k2, fun j k0 k1 k2 k3 k4 => by rw [y2 j k0 k1 k2 k3]; exact hR1 j k0 k1 k2 k3 k4, y3, y4, y5, y6⟩
      have loop2 : ∀ j, j ≤ 12 → J (RV E o d x.1 (hpput x.2.1 (pkL (wdB (wpF (i 8) a m (i 0) (alB a) p g (lsOf a ch r) k).1 p k) g j)) x.2.2) (ccost r (wpF (i 8) a m (i 0) (alB a) p g (lsOf a ch r) k).2) (scost r (wpF (i 8) a m (i 0) (alB a) p g (lsOf a ch r) k).2) 23 [some (.ref o), some (.int p), some (.int (nI g)), some (.int (nI ((wpF (i 8) a m (i 0) (alB a) p g (lsOf a ch r) k).2))), some (.int (nI (k))), some (.int (nI (pkL (wdB (wpF (i 8) a m (i 0) (alB a) p g (lsOf a ch r) k).1 p k) g j).length)), some (.int (nI (12 * g + j)))] [] := by
        refine up_ind (Φ := fun j => J (RV E o d x.1 (hpput x.2.1 (pkL (wdB (wpF (i 8) a m (i 0) (alB a) p g (lsOf a ch r) k).1 p k) g j)) x.2.2) (ccost r (wpF (i 8) a m (i 0) (alB a) p g (lsOf a ch r) k).2) (scost r (wpF (i 8) a m (i 0) (alB a) p g (lsOf a ch r) k).2) 23 [some (.ref o), some (.int p), some (.int (nI g)), some (.int (nI ((wpF (i 8) a m (i 0) (alB a) p g (lsOf a ch r) k).2))), some (.int (nI (k))), some (.int (nI (pkL (wdB (wpF (i 8) a m (i 0) (alB a) p g (lsOf a ch r) k).1 p k) g j).length)), some (.int (nI (12 * g + j)))] []) 12 (fun j hj ih2 => ?_)
        refine x_iload (pc := 23) O dX8_widowPasses_23 rfl ?_
        refine x_bipush (v := nI 12) (pc := 25) O dX8_widowPasses_25 (by decide) ?_
        refine x_iload_n (pc := 27) O dX8_widowPasses_27 rfl ?_
        refine x_iconst (v := 1) (pc := 28) O dX8_widowPasses_28 (by decide) ?_
        refine x_iadd (pc := 29) O dX8_widowPasses_29 ?_
        refine x_imul (pc := 30) O dX8_widowPasses_30 ?_
        rw [m12]
        refine x_icmp_ge (pc := 31) O 78 dX8_widowPasses_31 (by decide) (fun c31 => ?_) (fun c31 => ?_)
        · have hj2 : j = 12 := by
            rw [nI_leI (by omega) (by omega)] at c31
            omega
          subst hj2
          exact tail78
        · have hj3 : j < 12 := by
            rw [nI_leI (by omega) (by omega)] at c31
            omega
          have hll := pkL_len (wdB (wpF (i 8) a m (i 0) (alB a) p g (lsOf a ch r) k).1 p k) g j
          refine x_aload_n (pc := 34) O dX8_widowPasses_34 rfl rfl ?_
          refine v_get (pc := 35) O dX8_widowPasses_35 fdX8_62 rfl rfl ?_
          refine x_iload (pc := 38) O dX8_widowPasses_38 rfl ?_
          refine v_aldv (k := 29) (v := (wpF (i 8) a m (i 0) (alB a) p g (lsOf a ch r) k).1.1 (12 * g + j)) (pc := 40) O dX8_widowPasses_40 rfl rfl rfl rfl (by show _ < 120; omega) (by rw [hpput_ne _ _ (by decide), hx.2.2.1]) ?_
          refine x_iload_n (pc := 41) O dX8_widowPasses_41 rfl ?_
          refine x_icmp_ne (pc := 42) O 72 dX8_widowPasses_42 (by decide) (fun c42 => ?_) (fun c42 => ?_)
          · refine x_iinc (v := nI (12 * g + (j + 1))) (pc := 72) O dX8_widowPasses_72 rfl (nI_succ (12 * g + j)).symm rfl ?_
            refine x_goto (pc := 75) O 23 dX8_widowPasses_75 (by decide) ?_
            have hL : (pkL (wdB (wpF (i 8) a m (i 0) (alB a) p g (lsOf a ch r) k).1 p k) g (j + 1)) = (pkL (wdB (wpF (i 8) a m (i 0) (alB a) p g (lsOf a ch r) k).1 p k) g j) := pkL_f (by simp only [wdB, decide_eq_true_eq]; exact fun z => c42 z.1)
            rw [hL] at ih2
            exact ih2 (by omega)
          · refine x_aload_n (pc := 45) O dX8_widowPasses_45 rfl rfl ?_
            refine v_get (pc := 46) O dX8_widowPasses_46 fdX8_65 rfl rfl ?_
            refine x_iload (pc := 49) O dX8_widowPasses_49 rfl ?_
            refine v_aldv (k := 30) (v := (wpF (i 8) a m (i 0) (alB a) p g (lsOf a ch r) k).1.2.1 (12 * g + j)) (pc := 51) O dX8_widowPasses_51 rfl rfl rfl rfl (by show _ < 120; omega) (by rw [hpput_ne _ _ (by decide), hx.2.2.2.1]) ?_
            refine x_iload (pc := 52) O dX8_widowPasses_52 rfl ?_
            refine x_icmp_eq (pc := 54) O 60 dX8_widowPasses_54 (by decide) (fun c54 => ?_) (fun c54 => ?_)
            · refine x_aload_n (pc := 60) O dX8_widowPasses_60 rfl rfl ?_
              refine v_get (pc := 61) O dX8_widowPasses_61 fdX8_92 rfl rfl ?_
              refine x_iload (pc := 64) O dX8_widowPasses_64 rfl ?_
              refine x_iload (pc := 66) O dX8_widowPasses_66 rfl ?_
              refine v_ast (k := 43) (pc := 68) O dX8_widowPasses_68 rfl rfl rfl rfl (by show _ < 12; omega) ?_
              refine x_iinc (v := nI ((pkL (wdB (wpF (i 8) a m (i 0) (alB a) p g (lsOf a ch r) k).1 p k) g j).length + 1)) (pc := 69) O dX8_widowPasses_69 rfl (nI_succ _).symm rfl ?_
              refine x_iinc (v := nI (12 * g + (j + 1))) (pc := 72) O dX8_widowPasses_72 rfl (nI_succ (12 * g + j)).symm rfl ?_
              refine x_goto (pc := 75) O 23 dX8_widowPasses_75 (by decide) ?_
              have hL : (pkL (wdB (wpF (i 8) a m (i 0) (alB a) p g (lsOf a ch r) k).1 p k) g (j + 1)) = (pkL (wdB (wpF (i 8) a m (i 0) (alB a) p g (lsOf a ch r) k).1 p k) g j) ++ [12 * g + j] := pkL_t (by simp only [wdB, decide_eq_true_eq]; exact ⟨c42, c54⟩)
              rw [hL, ← hpput_app, List.length_append] at ih2
              exact ih2 (by omega)
            · refine x_goto (pc := 57) O 72 dX8_widowPasses_57 (by decide) ?_
              refine x_iinc (v := nI (12 * g + (j + 1))) (pc := 72) O dX8_widowPasses_72 rfl (nI_succ (12 * g + j)).symm rfl ?_
              refine x_goto (pc := 75) O 23 dX8_widowPasses_75 (by decide) ?_
              have hL : (pkL (wdB (wpF (i 8) a m (i 0) (alB a) p g (lsOf a ch r) k).1 p k) g (j + 1)) = (pkL (wdB (wpF (i 8) a m (i 0) (alB a) p g (lsOf a ch r) k).1 p k) g j) := pkL_f (by simp only [wdB, decide_eq_true_eq]; exact fun z => c54 z.2)
              rw [hL] at ih2
              exact ih2 (by omega)
      have h0 := loop2 0 (by omega)
      rw [show (pkL (wdB (wpF (i 8) a m (i 0) (alB a) p g (lsOf a ch r) k).1 p k) g 0) = [] from rfl, hpput_nil] at h0
      exact h0
  refine x_iconst (v := nI 0) (pc := 0) O dX8_widowPasses_0 (by decide) ?_
  refine x_istore_n (pc := 1) O dX8_widowPasses_1 (by decide) rfl ?_
  refine x_iconst (v := nI 0) (pc := 2) O dX8_widowPasses_2 (by decide) ?_
  refine x_istore (pc := 3) O dX8_widowPasses_3 (by decide) rfl ?_
  have h0 := loop 0 (Nat.zero_le _) (i, a, ch) ⟨fun _ _ _ => rfl, fun _ _ _ _ _ _ => rfl, rfl, rfl, rfl, hr⟩
  rw [show (wpF (i 8) a m (i 0) (alB a) p g (lsOf a ch r) 0).2 = 0 from rfl, (ccost_0 r).1, (ccost_0 r).2] at h0
  exact h0
