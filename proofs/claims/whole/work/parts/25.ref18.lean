/-! ===== REF 18: die ===== -/
def cmw1 (now : Int32) (w p : Int32) (q : Ls) (s : Nat) : Ls := (upd q.1 s w, upd (upd q.2.1 s (-1)) s p, va_up q.2.2.1 s ((w, 3, now) :: q.2.2.1 s), q.2.2.2 + 1)
def cmwL (now : Int32) (w p : Int32) (q : Ls) (L : List Nat) : Ls := L.foldl (cmw1 now w p) q
theorem cmwL_s (now : Int32) (w p : Int32) (q : Ls) (L : List Nat) {k : Nat} (hk : k < L.length) : cmwL now w p q (L.take (k + 1)) = cmw1 now w p (cmwL now w p q (L.take k)) (L.getD k 0) := by
  have : L.getD k 0 = L[k] := by simp [List.getD, hk]
  unfold cmwL
  rw [List.take_succ_eq_append_getElem hk, List.foldl_append, this]
  rfl
theorem cmwL_n (now : Int32) (w p : Int32) : ∀ (L : List Nat) (q : Ls), (cmwL now w p q L).2.2.2 = q.2.2.2 + L.length
  | [], q => rfl
  | s :: L, q => by
    show (cmwL now w p (cmw1 now w p q s) L).2.2.2 = _
    rw [cmwL_n now w p L]
    show q.2.2.2 + 1 + L.length = q.2.2.2 + (L.length + 1)
    omega
def ownQ (q : Ls) (p : Int32) (s : Nat) : Bool := decide (q.1 s = p ∧ q.2.1 s = -1)
def dyP (w : Int32) (wd n : Nat) : Nat := if w = -1 then 0 else n * wd / 12
theorem dyP_le (w : Int32) {wd n : Nat} (h : wd ≤ 12) : dyP w wd n ≤ n := by
  unfold dyP
  split
  · omega
  · have : n * wd ≤ n * 12 := Nat.mul_le_mul_left n h
    omega
/-- the strips of one holding that the dead held of their own: the widow's part, then the heirs' -/
def dy1 (now : Int32) (a : Ar) (m : Nat) (ord : Int32) (al : Nat → Bool) (j : Nat) (w : Int32) (wd h : Nat) (q : Ls) : Ls :=
  let L := pkL (ownQ q (nI j)) h 12
  let q1 := cmwL now w (nI j) q (L.take (dyP w wd L.length))
  if L.length ≤ dyP w wd L.length then q1 else cmL now q1 (passE a m ord al j (L.drop (dyP w wd L.length)) (L.length - dyP w wd L.length))
def dyF (now : Int32) (a : Ar) (m : Nat) (ord : Int32) (al : Nat → Bool) (j : Nat) (w : Int32) (wd : Nat) (hr o0 : Int32) (q : Ls) : Nat → Ls × Nat × Int32
  | 0 => (q, 0, o0)
  | h + 1 =>
    let v := dyF now a m ord al j w wd hr o0 q h
    let L := pkL (ownQ v.1 (nI j)) h 12
    let x := wpF now a m ord al (nI j) h (dy1 now a m ord al j w wd h v.1) m
    (x.1, v.2.1 + (L.length + x.2), if L.length = 0 then v.2.2 else v.2.2 + hr)
theorem dy1_n {now : Int32} {a : Ar} {m : Nat} {ord : Int32} {al : Nat → Bool} {j : Nat} {w : Int32} {wd h : Nat} {q : Ls} (hm : m ≤ 60) (hsx : ∀ c, c < m → a 9 c = 0 ∨ a 9 c = 1) (hkin : kinOk a m) (hwd : wd ≤ 12) : (dy1 now a m ord al j w wd h q).2.2.2 = q.2.2.2 + (pkL (ownQ q (nI j)) h 12).length := by
  have hle := dyP_le w (wd := wd) (n := (pkL (ownQ q (nI j)) h 12).length) hwd
  unfold dy1
  dsimp only
  split
  · rw [cmwL_n, List.length_take]; omega
  · have e := passE_len (a := a) (al := al) (ord := ord) (m := m) (p := j) hm hsx hkin ((pkL (ownQ q (nI j)) h 12).drop (dyP w wd (pkL (ownQ q (nI j)) h 12).length))
    rw [List.length_drop] at e
    rw [cmL_n, cmwL_n, e, List.length_take]
    omega
theorem dyF_n {now : Int32} {a : Ar} {m : Nat} {ord : Int32} {al : Nat → Bool} {j : Nat} {w : Int32} {wd : Nat} {hr o0 : Int32} {q : Ls} (hm : m ≤ 60) (hsx : ∀ c, c < m → a 9 c = 0 ∨ a 9 c = 1) (hkin : kinOk a m) (hwd : wd ≤ 12) : ∀ h, (dyF now a m ord al j w wd hr o0 q h).1.2.2.2 = q.2.2.2 + (dyF now a m ord al j w wd hr o0 q h).2.1
  | 0 => rfl
  | h + 1 => by
    have e := dyF_n (now := now) (ord := ord) (al := al) (j := j) (w := w) (hr := hr) (o0 := o0) (q := q) hm hsx hkin hwd h
    simp only [dyF]
    rw [wpF_n hm hsx hkin, dy1_n hm hsx hkin hwd, e]
    omega
theorem dyF_mono (now : Int32) (a : Ar) (m : Nat) (ord : Int32) (al : Nat → Bool) (j : Nat) (w : Int32) (wd : Nat) (hr o0 : Int32) (q : Ls) (h : Nat) : ∀ t, (dyF now a m ord al j w wd hr o0 q h).2.1 ≤ (dyF now a m ord al j w wd hr o0 q (h + t)).2.1
  | 0 => Nat.le_refl _
  | t + 1 => by
    have e := dyF_mono now a m ord al j w wd hr o0 q h t
    rw [← Nat.add_assoc]
    simp only [dyF]
    omega
theorem up2_id {a : Ar} {k j : Nat} {v : Int32} (h : a k j = v) : up2 a k j v = a := by
  funext q
  by_cases e : q = k
  · subst e; rw [up2_eq]; exact upd_id h
  · rw [up2_ne _ _ _ e]
def dyN (i : Nat → Int32) (a : Ar) (ch : Nat → List Rt) (m r wd : Nat) (p : Int32) : Nat := if lvP i a p then (dyF (i 8) a m (i 0) (alx a p.toNatClampNeg) p.toNatClampNeg (a 12 p.toNatClampNeg) wd (i 2) (a 14 p.toNatClampNeg) (lsOf a ch r) 10).2.1 else 0
def dyQ (i : Nat → Int32) (a : Ar) (ch : Nat → List Rt) (m r wd : Nat) (p : Int32) : Ls := if lvP i a p then (dyF (i 8) a m (i 0) (alx a p.toNatClampNeg) p.toNatClampNeg (a 12 p.toNatClampNeg) wd (i 2) (a 14 p.toNatClampNeg) (lsOf a ch r) 10).1 else lsOf a ch r
def dyA (i : Nat → Int32) (a : Ar) (ch : Nat → List Rt) (m r wd : Nat) (p : Int32) : Ar := if lvP i a p then
    (let j := p.toNatClampNeg
     let b := up2 (up2 a 20 j 0) 14 j (dyF (i 8) a m (i 0) (alx a j) j (a 12 j) wd (i 2) (a 14 j) (lsOf a ch r) 10).2.2
     up2 (if a 12 j = -1 then b else up2 b 12 (a 12 j).toNatClampNeg (-1)) 12 j (-1)) else a
def dyV (i : Nat → Int32) (a : Ar) (ch : Nat → List Rt) (m r wd : Nat) (p : Int32) : Int32 := if lvP i a p then nI (dyN i a ch m r wd p) else -1
set_option maxRecDepth 100000 in
set_option maxHeartbeats 4000000 in
theorem c_X8_die (l : Launch) (E : En) (o : Nat) (d : Nat → Nat) (i : Nat → Int32) (a : Nat → Nat → Int32) (ch : Nat → List Rt) (p : Int32) (r : Nat) {m : Nat} (hm : i 22 = nI m) (h60 : m ≤ 60) (hal : ∀ p, p < 60 → a 20 p = 0 ∨ a 20 p = 1) (hfa : ∀ p, p < m → ¬ a 10 p = -1 → ∃ f, f < 60 ∧ a 10 p = nI f) (hkin : kinOk a m) (hsx : ∀ c, c < m → a 9 c = 0 ∨ a 9 c = 1) (hsp : ∀ p, p < m → ¬ a 12 p = -1 → ∃ f, f < 60 ∧ a 12 p = nI f) {wd : Nat} (hwd : i 1 = nI wd) (hwd12 : wd ≤ 12) (hr : i 28 = nI r) (hr2 : r + dyN i a ch m r wd p ≤ 61560) : Mt l E yX8_die cX8_die 8 (some .int) (rmX 65 1930 (ccost r (dyN i a ch m r wd p)) (scost r (dyN i a ch m r wd p))) [.ref o, .int p] (RV E o d i a ch) (fun _ : (Nat → Int32) × Ar × (Nat → List Rt) => some (.int (dyV i a ch m r wd p))) (fun x h => WIq i (dyA i a ch m r wd p) (dyQ i a ch m r wd p) x ∧ RV E o d x.1 x.2.1 x.2.2 h) := by
  refine Mt_of (by decide +kernel) (Nat.le_of_ble_eq_true rfl) (fun J O => ?_)
  show J _ 0 0 0 [some (.ref o), some (.int p), none, none, none, none, none, none] []
  refine x_aload_n (pc := 0) O dX8_die_0 rfl rfl ?_
  refine x_iload_n (pc := 1) O dX8_die_1 rfl ?_
  refine x_callV (pc := 2) (rest := _) (ci := 8) O (c_X8_lives l E _ _ _ _ _ _ hm h60) dX8_die_2 cbX8_188 im_yX8_lives se_yX8_lives rfl v_recv rfl rfl (Nat.le_of_ble_eq_true rfl) ⟨Nat.le_of_ble_eq_true rfl, Nat.le_of_ble_eq_true rfl⟩ ⟨Nat.zero_le _, Nat.zero_le _⟩ (fun _ => ?_)
  dsimp only [Option.toList, List.append, List.nil_append, List.cons_append, Nat.add_zero, Nat.reduceAdd]
  refine x_if_ne (pc := 5) O 10 dX8_die_5 (by decide) (fun c5 => ?_) (fun c5 => ?_)
  · have hp0 := in_nat hm (by omega) (b2i_n0 c5).1
    obtain ⟨j, hjm, rfl⟩ : ∃ j, j < m ∧ p = nI j := ⟨_, hp0.2, hp0.1⟩
    have hC : lvP i a (nI j) := b2i_n0 c5
    have hN : dyN i a ch m r wd (nI j) = (dyF (i 8) a m (i 0) (alx a j) j (a 12 j) wd (i 2) (a 14 j) (lsOf a ch r) 10).2.1 := by
      unfold dyN
      rw [if_pos hC, nI_clamp (by omega)]
    have hr3 : r + (dyF (i 8) a m (i 0) (alx a j) j (a 12 j) wd (i 2) (a 14 j) (lsOf a ch r) 10).2.1 ≤ 61560 := by rw [← hN]; exact hr2
    have hal1 : ∀ q, q < 60 → up2 a 20 j 0 20 q = 0 ∨ up2 a 20 j 0 20 q = 1 := fun q hq => by
      rw [up2_eq]
      by_cases e : q = j
      · subst e; rw [upd_eq]; exact Or.inl rfl
      · rw [upd_ne _ _ e]; exact hal q hq
    have loop : ∀ h, h ≤ 10 → ∀ x, WIq i (up2 (up2 a 20 j 0) 14 j (dyF (i 8) a m (i 0) (alx a j) j (a 12 j) wd (i 2) (a 14 j) (lsOf a ch r) h).2.2) (dyF (i 8) a m (i 0) (alx a j) j (a 12 j) wd (i 2) (a 14 j) (lsOf a ch r) h).1 x → J (RV E o d x.1 x.2.1 x.2.2) (ccost r (dyF (i 8) a m (i 0) (alx a j) j (a 12 j) wd (i 2) (a 14 j) (lsOf a ch r) h).2.1) (scost r (dyF (i 8) a m (i 0) (alx a j) j (a 12 j) wd (i 2) (a 14 j) (lsOf a ch r) h).2.1) 29 [some (.ref o), some (.int (nI j)), some (.int (a 12 j)), some (.int (nI (dyF (i 8) a m (i 0) (alx a j) j (a 12 j) wd (i 2) (a 14 j) (lsOf a ch r) h).2.1)), some (.int (nI (h))), none, none, none] [] := by
      refine up_ind (Φ := fun h => ∀ x, WIq i (up2 (up2 a 20 j 0) 14 j (dyF (i 8) a m (i 0) (alx a j) j (a 12 j) wd (i 2) (a 14 j) (lsOf a ch r) h).2.2) (dyF (i 8) a m (i 0) (alx a j) j (a 12 j) wd (i 2) (a 14 j) (lsOf a ch r) h).1 x → J (RV E o d x.1 x.2.1 x.2.2) (ccost r (dyF (i 8) a m (i 0) (alx a j) j (a 12 j) wd (i 2) (a 14 j) (lsOf a ch r) h).2.1) (scost r (dyF (i 8) a m (i 0) (alx a j) j (a 12 j) wd (i 2) (a 14 j) (lsOf a ch r) h).2.1) 29 [some (.ref o), some (.int (nI j)), some (.int (a 12 j)), some (.int (nI (dyF (i 8) a m (i 0) (alx a j) j (a 12 j) wd (i 2) (a 14 j) (lsOf a ch r) h).2.1)), some (.int (nI (h))), none, none, none] []) 10 (fun h hh ih x hx => ?_)
      refine x_iload (pc := 29) O dX8_die_29 rfl ?_
      refine x_bipush (v := nI 10) (pc := 31) O dX8_die_31 (by decide) ?_
      refine x_icmp_ge (pc := 33) O 161 dX8_die_33 (by decide) (fun c33 => ?_) (fun c33 => ?_)
      · have hk2 : h = 10 := by
          rw [nI_leI (by omega) (by omega)] at c33
          omega
        subst hk2
        refine x_iload_n (pc := 161) O dX8_die_161 rfl ?_
        refine x_iconst (v := (-1)) (pc := 162) O dX8_die_162 (by decide) ?_
        refine x_icmp_eq (pc := 163) O 173 dX8_die_163 (by decide) (fun c163 => ?_) (fun c163 => ?_)
        · refine x_aload_n (pc := 173) O dX8_die_173 rfl rfl ?_
          refine v_get (pc := 174) O dX8_die_174 fdX8_19 rfl rfl ?_
          refine x_iload_n (pc := 177) O dX8_die_177 rfl ?_
          refine x_iconst (v := (-1)) (pc := 178) O dX8_die_178 (by decide) ?_
          refine v_ast (k := 12) (pc := 179) O dX8_die_179 rfl rfl rfl rfl (by show _ < 60; omega) ?_
          refine x_iload_n (pc := 180) O dX8_die_180 rfl ?_
          refine x_ret (v := some (.int _)) (pc := 181) O dX8_die_181 rfl rfl ⟨by rw [hN]; exact Nat.le_refl _, by rw [hN]; exact Nat.le_refl _, (x.1, up2 x.2.1 12 j (-1), x.2.2), congrArg (fun z => some (Value.int z)) (by unfold dyV; rw [if_pos hC, hN]), fun h hh => ⟨?_, hh⟩⟩
          unfold dyQ dyA
          rw [if_pos hC, if_pos hC, nI_clamp (by omega)]
          dsimp only
          rw [if_pos c163]
          refine ⟨hx.1, fun k k0 k1 k2 k3 k4 => ?_, ?_, ?_, hx.2.2.2.2.1, hx.2.2.2.2.2⟩
          · show (up2 x.2.1 12 j (-1)) k = _
            by_cases e : k = 12
            · subst e
              rw [up2_eq, up2_eq, hx.2.1 12 (by decide) (by decide) (by decide) (by decide) (by decide)]
            · rw [up2_ne _ _ _ e, up2_ne _ _ _ e]; exact hx.2.1 k k0 k1 k2 k3 k4
          · show (up2 x.2.1 12 j (-1)) 29 = _
            rw [up2_ne _ _ _ (by decide)]; exact hx.2.2.1
          · show (up2 x.2.1 12 j (-1)) 30 = _
            rw [up2_ne _ _ _ (by decide)]; exact hx.2.2.2.1
        · obtain ⟨wn, hwn, hw0⟩ := hsp j hjm c163
          have hw : a 12 j = nI (a 12 j).toNatClampNeg ∧ (a 12 j).toNatClampNeg < 60 := by
            rw [hw0, nI_clamp (by omega)]
            exact ⟨rfl, hwn⟩
          refine x_aload_n (pc := 166) O dX8_die_166 rfl rfl ?_
          refine v_get (pc := 167) O dX8_die_167 fdX8_19 rfl rfl ?_
          refine x_iload_n (pc := 170) O dX8_die_170 rfl ?_
          refine x_iconst (v := (-1)) (pc := 171) O dX8_die_171 (by decide) ?_
          refine v_ast (k := 12) (pc := 172) O dX8_die_172 rfl rfl rfl hw.1 (by show _ < 60; omega) ?_
          refine x_aload_n (pc := 173) O dX8_die_173 rfl rfl ?_
          refine v_get (pc := 174) O dX8_die_174 fdX8_19 rfl rfl ?_
          refine x_iload_n (pc := 177) O dX8_die_177 rfl ?_
          refine x_iconst (v := (-1)) (pc := 178) O dX8_die_178 (by decide) ?_
          refine v_ast (k := 12) (pc := 179) O dX8_die_179 rfl rfl rfl rfl (by show _ < 60; omega) ?_
          refine x_iload_n (pc := 180) O dX8_die_180 rfl ?_
          refine x_ret (v := some (.int _)) (pc := 181) O dX8_die_181 rfl rfl ⟨by rw [hN]; exact Nat.le_refl _, by rw [hN]; exact Nat.le_refl _, (x.1, up2 (up2 x.2.1 12 (a 12 j).toNatClampNeg (-1)) 12 j (-1), x.2.2), congrArg (fun z => some (Value.int z)) (by unfold dyV; rw [if_pos hC, hN]), fun h hh => ⟨?_, hh⟩⟩
          unfold dyQ dyA
          rw [if_pos hC, if_pos hC, nI_clamp (by omega)]
          dsimp only
          rw [if_neg c163]
          refine ⟨hx.1, fun k k0 k1 k2 k3 k4 => ?_, ?_, ?_, hx.2.2.2.2.1, hx.2.2.2.2.2⟩
          · show (up2 (up2 x.2.1 12 (a 12 j).toNatClampNeg (-1)) 12 j (-1)) k = _
            by_cases e : k = 12
            · subst e
              rw [up2_eq, up2_eq, up2_eq, up2_eq, hx.2.1 12 (by decide) (by decide) (by decide) (by decide) (by decide)]
            · rw [up2_ne _ _ _ e, up2_ne _ _ _ e, up2_ne _ _ _ e, up2_ne _ _ _ e]; exact hx.2.1 k k0 k1 k2 k3 k4
          · show (up2 (up2 x.2.1 12 (a 12 j).toNatClampNeg (-1)) 12 j (-1)) 29 = _
            rw [up2_ne _ _ _ (by decide), up2_ne _ _ _ (by decide)]; exact hx.2.2.1
          · show (up2 (up2 x.2.1 12 (a 12 j).toNatClampNeg (-1)) 12 j (-1)) 30 = _
            rw [up2_ne _ _ _ (by decide), up2_ne _ _ _ (by decide)]; exact hx.2.2.2.1
      · have hh10 : h < 10 := by
          rw [nI_leI (by omega) (by omega)] at c33
          omega
        have hDn : (dyF (i 8) a m (i 0) (alx a j) j (a 12 j) wd (i 2) (a 14 j) (lsOf a ch r) h).2.1 + (pkL (ownQ (dyF (i 8) a m (i 0) (alx a j) j (a 12 j) wd (i 2) (a 14 j) (lsOf a ch r) h).1 (nI j)) h 12).length + (wpF (i 8) a m (i 0) (alx a j) (nI j) h (dy1 (i 8) a m (i 0) (alx a j) j (a 12 j) wd h (dyF (i 8) a m (i 0) (alx a j) j (a 12 j) wd (i 2) (a 14 j) (lsOf a ch r) h).1) m).2 = (dyF (i 8) a m (i 0) (alx a j) j (a 12 j) wd (i 2) (a 14 j) (lsOf a ch r) (h + 1)).2.1 := by
          show (dyF (i 8) a m (i 0) (alx a j) j (a 12 j) wd (i 2) (a 14 j) (lsOf a ch r) h).2.1 + (pkL (ownQ (dyF (i 8) a m (i 0) (alx a j) j (a 12 j) wd (i 2) (a 14 j) (lsOf a ch r) h).1 (nI j)) h 12).length + (wpF (i 8) a m (i 0) (alx a j) (nI j) h (dy1 (i 8) a m (i 0) (alx a j) j (a 12 j) wd h (dyF (i 8) a m (i 0) (alx a j) j (a 12 j) wd (i 2) (a 14 j) (lsOf a ch r) h).1) m).2 = (dyF (i 8) a m (i 0) (alx a j) j (a 12 j) wd (i 2) (a 14 j) (lsOf a ch r) h).2.1 + ((pkL (ownQ (dyF (i 8) a m (i 0) (alx a j) j (a 12 j) wd (i 2) (a 14 j) (lsOf a ch r) h).1 (nI j)) h 12).length + (wpF (i 8) a m (i 0) (alx a j) (nI j) h (dy1 (i 8) a m (i 0) (alx a j) j (a 12 j) wd h (dyF (i 8) a m (i 0) (alx a j) j (a 12 j) wd (i 2) (a 14 j) (lsOf a ch r) h).1) m).2)
          omega
        have hmono := dyF_mono (i 8) a m (i 0) (alx a j) j (a 12 j) wd (i 2) (a 14 j) (lsOf a ch r) (h + 1) (10 - (h + 1))
        rw [show h + 1 + (10 - (h + 1)) = 10 by omega, ← hDn] at hmono
        have tail142 : ∀ v : (Nat → Int32) × Ar × (Nat → List Rt), (∀ k, k ≠ 28 → k ≠ 40 → v.1 k = i k) → (∀ k, k ≠ 21 → k ≠ 29 → k ≠ 30 → k ≠ 39 → k ≠ 43 → v.2.1 k = (up2 (up2 a 20 j 0) 14 j (dyF (i 8) a m (i 0) (alx a j) j (a 12 j) wd (i 2) (a 14 j) (lsOf a ch r) (h + 1)).2.2) k) → v.2.1 29 = (dy1 (i 8) a m (i 0) (alx a j) j (a 12 j) wd h (dyF (i 8) a m (i 0) (alx a j) j (a 12 j) wd (i 2) (a 14 j) (lsOf a ch r) h).1).1 → v.2.1 30 = (dy1 (i 8) a m (i 0) (alx a j) j (a 12 j) wd h (dyF (i 8) a m (i 0) (alx a j) j (a 12 j) wd (i 2) (a 14 j) (lsOf a ch r) h).1).2.1 → v.2.2 = (dy1 (i 8) a m (i 0) (alx a j) j (a 12 j) wd h (dyF (i 8) a m (i 0) (alx a j) j (a 12 j) wd (i 2) (a 14 j) (lsOf a ch r) h).1).2.2.1 → v.1 28 = nI (dy1 (i 8) a m (i 0) (alx a j) j (a 12 j) wd h (dyF (i 8) a m (i 0) (alx a j) j (a 12 j) wd (i 2) (a 14 j) (lsOf a ch r) h).1).2.2.2 → ∀ l7 : Option Value, J (RV E o d v.1 v.2.1 v.2.2) (ccost r ((dyF (i 8) a m (i 0) (alx a j) j (a 12 j) wd (i 2) (a 14 j) (lsOf a ch r) h).2.1 + (pkL (ownQ (dyF (i 8) a m (i 0) (alx a j) j (a 12 j) wd (i 2) (a 14 j) (lsOf a ch r) h).1 (nI j)) h 12).length)) (scost r ((dyF (i 8) a m (i 0) (alx a j) j (a 12 j) wd (i 2) (a 14 j) (lsOf a ch r) h).2.1 + (pkL (ownQ (dyF (i 8) a m (i 0) (alx a j) j (a 12 j) wd (i 2) (a 14 j) (lsOf a ch r) h).1 (nI j)) h 12).length)) 142 [some (.ref o), some (.int (nI j)), some (.int (a 12 j)), some (.int (nI (dyF (i 8) a m (i 0) (alx a j) j (a 12 j) wd (i 2) (a 14 j) (lsOf a ch r) h).2.1)), some (.int (nI (h))), some (.int (nI (pkL (ownQ (dyF (i 8) a m (i 0) (alx a j) j (a 12 j) wd (i 2) (a 14 j) (lsOf a ch r) h).1 (nI j)) h 12).length)), some (.int (nI (dyP (a 12 j) wd (pkL (ownQ (dyF (i 8) a m (i 0) (alx a j) j (a 12 j) wd (i 2) (a 14 j) (lsOf a ch r) h).1 (nI j)) h 12).length))), l7] [] := by
          intro v v1 v2 v3 v4 v5 v6 l7
          have hs8 : v.1 8 = i 8 := v1 8 (by decide) (by decide)
          have hs0 : v.1 0 = i 0 := v1 0 (by decide) (by decide)
          have hs22 : v.1 22 = nI m := by rw [v1 22 (by decide) (by decide)]; exact hm
          have hsk : ∀ k, k ≠ 21 → k ≠ 29 → k ≠ 30 → k ≠ 39 → k ≠ 43 → k ≠ 20 → k ≠ 14 → v.2.1 k = a k := fun k k0 k1 k2 k3 k4 k5 k6 => by rw [v2 k k0 k1 k2 k3 k4, up2_ne _ _ _ k6, up2_ne _ _ _ k5]
          have hs20 : v.2.1 20 = up2 a 20 j 0 20 := by rw [v2 20 (by decide) (by decide) (by decide) (by decide) (by decide), up2_ne _ _ _ (by decide)]
          have hD1n : (dy1 (i 8) a m (i 0) (alx a j) j (a 12 j) wd h (dyF (i 8) a m (i 0) (alx a j) j (a 12 j) wd (i 2) (a 14 j) (lsOf a ch r) h).1).2.2.2 = r + ((dyF (i 8) a m (i 0) (alx a j) j (a 12 j) wd (i 2) (a 14 j) (lsOf a ch r) h).2.1 + (pkL (ownQ (dyF (i 8) a m (i 0) (alx a j) j (a 12 j) wd (i 2) (a 14 j) (lsOf a ch r) h).1 (nI j)) h 12).length) := by rw [dy1_n h60 hsx hkin hwd12, dyF_n h60 hsx hkin hwd12]; show r + (dyF (i 8) a m (i 0) (alx a j) j (a 12 j) wd (i 2) (a 14 j) (lsOf a ch r) h).2.1 + (pkL (ownQ (dyF (i 8) a m (i 0) (alx a j) j (a 12 j) wd (i 2) (a 14 j) (lsOf a ch r) h).1 (nI j)) h 12).length = _; omega
          have hsl : lsOf v.2.1 v.2.2 (r + ((dyF (i 8) a m (i 0) (alx a j) j (a 12 j) wd (i 2) (a 14 j) (lsOf a ch r) h).2.1 + (pkL (ownQ (dyF (i 8) a m (i 0) (alx a j) j (a 12 j) wd (i 2) (a 14 j) (lsOf a ch r) h).1 (nI j)) h 12).length)) = (dy1 (i 8) a m (i 0) (alx a j) j (a 12 j) wd h (dyF (i 8) a m (i 0) (alx a j) j (a 12 j) wd (i 2) (a 14 j) (lsOf a ch r) h).1) := Prod.ext v3 (Prod.ext v4 (Prod.ext v5 hD1n.symm))
          have hs28 : v.1 28 = nI (r + ((dyF (i 8) a m (i 0) (alx a j) j (a 12 j) wd (i 2) (a 14 j) (lsOf a ch r) h).2.1 + (pkL (ownQ (dyF (i 8) a m (i 0) (alx a j) j (a 12 j) wd (i 2) (a 14 j) (lsOf a ch r) h).1 (nI j)) h 12).length)) := by rw [v6, hD1n]
          refine x_iload_n (pc := 142) O dX8_die_142 rfl ?_
          refine x_iload (pc := 143) O dX8_die_143 rfl ?_
          refine x_aload_n (pc := 145) O dX8_die_145 rfl rfl ?_
          refine x_iload_n (pc := 146) O dX8_die_146 rfl ?_
          refine x_iload (pc := 147) O dX8_die_147 rfl ?_
          have hcc : wpF (v.1 8) v.2.1 m (v.1 0) (alB v.2.1) (nI j) h (lsOf v.2.1 v.2.2 (r + ((dyF (i 8) a m (i 0) (alx a j) j (a 12 j) wd (i 2) (a 14 j) (lsOf a ch r) h).2.1 + (pkL (ownQ (dyF (i 8) a m (i 0) (alx a j) j (a 12 j) wd (i 2) (a 14 j) (lsOf a ch r) h).1 (nI j)) h 12).length))) m = (wpF (i 8) a m (i 0) (alx a j) (nI j) h (dy1 (i 8) a m (i 0) (alx a j) j (a 12 j) wd h (dyF (i 8) a m (i 0) (alx a j) j (a 12 j) wd (i 2) (a 14 j) (lsOf a ch r) h).1) m) := by
            rw [hs8, hs0, hsl]
            exact wpF_congr h60 (fun c _ => by rw [hsk 9 (by decide) (by decide) (by decide) (by decide) (by decide) (by decide) (by decide) ]) (fun c _ => by rw [hsk 10 (by decide) (by decide) (by decide) (by decide) (by decide) (by decide) (by decide) ]) (fun c _ => by rw [hsk 11 (by decide) (by decide) (by decide) (by decide) (by decide) (by decide) (by decide) ]) (fun c _ => by rw [← alx_up a j c]; simp only [alB, hs20]) m (Nat.le_refl m)
          have hca := cost_add r ((dyF (i 8) a m (i 0) (alx a j) j (a 12 j) wd (i 2) (a 14 j) (lsOf a ch r) h).2.1 + (pkL (ownQ (dyF (i 8) a m (i 0) (alx a j) j (a 12 j) wd (i 2) (a 14 j) (lsOf a ch r) h).1 (nI j)) h 12).length) (wpF (i 8) a m (i 0) (alx a j) (nI j) h (dy1 (i 8) a m (i 0) (alx a j) j (a 12 j) wd h (dyF (i 8) a m (i 0) (alx a j) j (a 12 j) wd (i 2) (a 14 j) (lsOf a ch r) h).1) m).2
          have hcb := cost_le r (k := (dyF (i 8) a m (i 0) (alx a j) j (a 12 j) wd (i 2) (a 14 j) (lsOf a ch r) h).2.1 + (pkL (ownQ (dyF (i 8) a m (i 0) (alx a j) j (a 12 j) wd (i 2) (a 14 j) (lsOf a ch r) h).1 (nI j)) h 12).length + (wpF (i 8) a m (i 0) (alx a j) (nI j) h (dy1 (i 8) a m (i 0) (alx a j) j (a 12 j) wd h (dyF (i 8) a m (i 0) (alx a j) j (a 12 j) wd (i 2) (a 14 j) (lsOf a ch r) h).1) m).2) (t := (dyF (i 8) a m (i 0) (alx a j) j (a 12 j) wd (i 2) (a 14 j) (lsOf a ch r) 10).2.1) (by omega)
          have hM := c_X8_widowPasses l E o d v.1 v.2.1 v.2.2 (nI j) h (r + ((dyF (i 8) a m (i 0) (alx a j) j (a 12 j) wd (i 2) (a 14 j) (lsOf a ch r) h).2.1 + (pkL (ownQ (dyF (i 8) a m (i 0) (alx a j) j (a 12 j) wd (i 2) (a 14 j) (lsOf a ch r) h).1 (nI j)) h 12).length)) (m := m) hs22 h60 (by rw [hs20]; exact hal1) (by rw [hsk 10 (by decide) (by decide) (by decide) (by decide) (by decide) (by decide) (by decide) ]; exact hfa) (fun c e hc he9 hch => hkin c e hc he9 (by
            simp only [chd, hsk 10 (by decide) (by decide) (by decide) (by decide) (by decide) (by decide) (by decide) , hsk 11 (by decide) (by decide) (by decide) (by decide) (by decide) (by decide) (by decide) ] at hch
            exact hch)) (by rw [hsk 9 (by decide) (by decide) (by decide) (by decide) (by decide) (by decide) (by decide) ]; exact hsx) hh10 hs28 (by rw [hcc]; omega)
          rw [hcc] at hM
          refine x_callV (pc := 149) (rest := _) (ci := 8) O hM dX8_die_149 cbX8_191 im_yX8_widowPasses se_yX8_widowPasses rfl v_recv rfl rfl (Nat.le_of_ble_eq_true rfl) ⟨Nat.le_of_ble_eq_true rfl, Nat.le_of_ble_eq_true rfl⟩ ⟨by rw [hN]; exact Nat.le_trans (Nat.le_of_eq hca.1) hcb.1, by rw [hN]; exact Nat.le_trans (Nat.le_of_eq hca.2) hcb.2⟩ (fun z => x_pure O (fun hz => ?_))
          refine x_widen O (ce' := ccost r (dyF (i 8) a m (i 0) (alx a j) j (a 12 j) wd (i 2) (a 14 j) (lsOf a ch r) (h + 1)).2.1) (sl' := scost r (dyF (i 8) a m (i 0) (alx a j) j (a 12 j) wd (i 2) (a 14 j) (lsOf a ch r) (h + 1)).2.1) (Nat.le_of_eq (by rw [hca.1, hDn])) (Nat.le_of_eq (by rw [hca.2, hDn])) ?_
          dsimp only [Option.toList, List.append, List.nil_append, List.cons_append, Nat.add_zero, Nat.reduceAdd]
          refine x_iadd (pc := 152) O dX8_die_152 ?_
          rw [nI_add]
          refine x_iadd (pc := 153) O dX8_die_153 ?_
          rw [nI_add, show (dyF (i 8) a m (i 0) (alx a j) j (a 12 j) wd (i 2) (a 14 j) (lsOf a ch r) h).2.1 + ((pkL (ownQ (dyF (i 8) a m (i 0) (alx a j) j (a 12 j) wd (i 2) (a 14 j) (lsOf a ch r) h).1 (nI j)) h 12).length + (wpF (i 8) a m (i 0) (alx a j) (nI j) h (dy1 (i 8) a m (i 0) (alx a j) j (a 12 j) wd h (dyF (i 8) a m (i 0) (alx a j) j (a 12 j) wd (i 2) (a 14 j) (lsOf a ch r) h).1) m).2) = (dyF (i 8) a m (i 0) (alx a j) j (a 12 j) wd (i 2) (a 14 j) (lsOf a ch r) (h + 1)).2.1 from rfl]
          refine x_istore_n (pc := 154) O dX8_die_154 (by decide) rfl ?_
          refine x_iinc (v := nI (h + 1)) (pc := 155) O dX8_die_155 rfl (nI_succ h).symm rfl ?_
          refine x_goto (pc := 158) O 29 dX8_die_158 (by decide) ?_
          refine x_lv O [some (.ref o), some (.int (nI j)), some (.int (a 12 j)), some (.int (nI (dyF (i 8) a m (i 0) (alx a j) j (a 12 j) wd (i 2) (a 14 j) (lsOf a ch r) (h + 1)).2.1)), some (.int (nI (h + 1))), none, none, none] ⟨rfl, rfl, rfl, rfl, rfl, trivial⟩ ?_
          exact ih (by omega) z ⟨fun k k1 k2 => by rw [hz.1 k k1 k2]; exact v1 k k1 k2, fun k k0 k1 k2 k3 k4 => by rw [hz.2.1 k k0 k1 k2 k3 k4]; exact v2 k k0 k1 k2 k3 k4, hz.2.2⟩
        have hll := pkL_len (ownQ (dyF (i 8) a m (i 0) (alx a j) j (a 12 j) wd (i 2) (a 14 j) (lsOf a ch r) h).1 (nI j)) h 12
        have hpl := dyP_le (a 12 j) (wd := wd) (n := (pkL (ownQ (dyF (i 8) a m (i 0) (alx a j) j (a 12 j) wd (i 2) (a 14 j) (lsOf a ch r) h).1 (nI j)) h 12).length) hwd12
        have tail108 : ∀ y : (Nat → Int32) × Ar × (Nat → List Rt), LsIs x.1 (hpput x.2.1 (pkL (ownQ (dyF (i 8) a m (i 0) (alx a j) j (a 12 j) wd (i 2) (a 14 j) (lsOf a ch r) h).1 (nI j)) h 12)) (cmwL (i 8) (a 12 j) (nI j) (dyF (i 8) a m (i 0) (alx a j) j (a 12 j) wd (i 2) (a 14 j) (lsOf a ch r) h).1 ((pkL (ownQ (dyF (i 8) a m (i 0) (alx a j) j (a 12 j) wd (i 2) (a 14 j) (lsOf a ch r) h).1 (nI j)) h 12).take (dyP (a 12 j) wd (pkL (ownQ (dyF (i 8) a m (i 0) (alx a j) j (a 12 j) wd (i 2) (a 14 j) (lsOf a ch r) h).1 (nI j)) h 12).length))) y → ∀ l7 : Option Value, J (RV E o d y.1 y.2.1 y.2.2) (ccost r ((dyF (i 8) a m (i 0) (alx a j) j (a 12 j) wd (i 2) (a 14 j) (lsOf a ch r) h).2.1 + (dyP (a 12 j) wd (pkL (ownQ (dyF (i 8) a m (i 0) (alx a j) j (a 12 j) wd (i 2) (a 14 j) (lsOf a ch r) h).1 (nI j)) h 12).length))) (scost r ((dyF (i 8) a m (i 0) (alx a j) j (a 12 j) wd (i 2) (a 14 j) (lsOf a ch r) h).2.1 + (dyP (a 12 j) wd (pkL (ownQ (dyF (i 8) a m (i 0) (alx a j) j (a 12 j) wd (i 2) (a 14 j) (lsOf a ch r) h).1 (nI j)) h 12).length))) 108 [some (.ref o), some (.int (nI j)), some (.int (a 12 j)), some (.int (nI (dyF (i 8) a m (i 0) (alx a j) j (a 12 j) wd (i 2) (a 14 j) (lsOf a ch r) h).2.1)), some (.int (nI (h))), some (.int (nI (pkL (ownQ (dyF (i 8) a m (i 0) (alx a j) j (a 12 j) wd (i 2) (a 14 j) (lsOf a ch r) h).1 (nI j)) h 12).length)), some (.int (nI (dyP (a 12 j) wd (pkL (ownQ (dyF (i 8) a m (i 0) (alx a j) j (a 12 j) wd (i 2) (a 14 j) (lsOf a ch r) h).1 (nI j)) h 12).length))), l7] [] := by
          intro y hy l7
          refine x_iload (pc := 108) O dX8_die_108 rfl ?_
          refine x_iload (pc := 110) O dX8_die_110 rfl ?_
          refine x_icmp_le (pc := 112) O 124 dX8_die_112 (by decide) (fun c112 => ?_) (fun c112 => ?_)
          · have hpe : (dyP (a 12 j) wd (pkL (ownQ (dyF (i 8) a m (i 0) (alx a j) j (a 12 j) wd (i 2) (a 14 j) (lsOf a ch r) h).1 (nI j)) h 12).length) = (pkL (ownQ (dyF (i 8) a m (i 0) (alx a j) j (a 12 j) wd (i 2) (a 14 j) (lsOf a ch r) h).1 (nI j)) h 12).length := by
              rw [nI_leI (by omega) (by omega)] at c112
              omega
            have hDe : (dy1 (i 8) a m (i 0) (alx a j) j (a 12 j) wd h (dyF (i 8) a m (i 0) (alx a j) j (a 12 j) wd (i 2) (a 14 j) (lsOf a ch r) h).1) = (cmwL (i 8) (a 12 j) (nI j) (dyF (i 8) a m (i 0) (alx a j) j (a 12 j) wd (i 2) (a 14 j) (lsOf a ch r) h).1 ((pkL (ownQ (dyF (i 8) a m (i 0) (alx a j) j (a 12 j) wd (i 2) (a 14 j) (lsOf a ch r) h).1 (nI j)) h 12).take (dyP (a 12 j) wd (pkL (ownQ (dyF (i 8) a m (i 0) (alx a j) j (a 12 j) wd (i 2) (a 14 j) (lsOf a ch r) h).1 (nI j)) h 12).length))) := if_pos (Nat.le_of_eq hpe.symm)
            have ya : ∀ k, k ≠ 28 → k ≠ 40 → y.1 k = i k := fun k k1 k2 => by rw [hy.1 k k1]; exact hx.1 k k1 k2
            have yb : ∀ k, k ≠ 21 → k ≠ 29 → k ≠ 30 → k ≠ 39 → k ≠ 43 → y.2.1 k = (up2 (up2 a 20 j 0) 14 j (dyF (i 8) a m (i 0) (alx a j) j (a 12 j) wd (i 2) (a 14 j) (lsOf a ch r) h).2.2) k := fun k k0 k1 k2 k3 k4 => by rw [hy.2.1 k k1 k2, hpput_ne _ _ k4]; exact hx.2.1 k k0 k1 k2 k3 k4
            have y3 : y.2.1 29 = (dy1 (i 8) a m (i 0) (alx a j) j (a 12 j) wd h (dyF (i 8) a m (i 0) (alx a j) j (a 12 j) wd (i 2) (a 14 j) (lsOf a ch r) h).1).1 := by rw [hDe]; exact hy.2.2.1
            have y4 : y.2.1 30 = (dy1 (i 8) a m (i 0) (alx a j) j (a 12 j) wd h (dyF (i 8) a m (i 0) (alx a j) j (a 12 j) wd (i 2) (a 14 j) (lsOf a ch r) h).1).2.1 := by rw [hDe]; exact hy.2.2.2.1
            have y5 : y.2.2 = (dy1 (i 8) a m (i 0) (alx a j) j (a 12 j) wd h (dyF (i 8) a m (i 0) (alx a j) j (a 12 j) wd (i 2) (a 14 j) (lsOf a ch r) h).1).2.2.1 := by rw [hDe]; exact hy.2.2.2.2.1
            have y6 : y.1 28 = nI (dy1 (i 8) a m (i 0) (alx a j) j (a 12 j) wd h (dyF (i 8) a m (i 0) (alx a j) j (a 12 j) wd (i 2) (a 14 j) (lsOf a ch r) h).1).2.2.2 := by rw [hDe]; exact hy.2.2.2.2.2
            refine x_widen O (ce' := ccost r ((dyF (i 8) a m (i 0) (alx a j) j (a 12 j) wd (i 2) (a 14 j) (lsOf a ch r) h).2.1 + (pkL (ownQ (dyF (i 8) a m (i 0) (alx a j) j (a 12 j) wd (i 2) (a 14 j) (lsOf a ch r) h).1 (nI j)) h 12).length)) (sl' := scost r ((dyF (i 8) a m (i 0) (alx a j) j (a 12 j) wd (i 2) (a 14 j) (lsOf a ch r) h).2.1 + (pkL (ownQ (dyF (i 8) a m (i 0) (alx a j) j (a 12 j) wd (i 2) (a 14 j) (lsOf a ch r) h).1 (nI j)) h 12).length)) (Nat.le_of_eq (by rw [hpe])) (Nat.le_of_eq (by rw [hpe])) ?_
            refine x_iload (pc := 124) O dX8_die_124 rfl ?_
            refine x_if_le (pc := 126) O 142 dX8_die_126 (by decide) (fun c126 => ?_) (fun c126 => ?_)
            · have hO : (dyF (i 8) a m (i 0) (alx a j) j (a 12 j) wd (i 2) (a 14 j) (lsOf a ch r) (h + 1)).2.2 = (dyF (i 8) a m (i 0) (alx a j) j (a 12 j) wd (i 2) (a 14 j) (lsOf a ch r) h).2.2 := if_pos (by rw [show (0 : Int32) = nI 0 from rfl, nI_leI (by omega) (by decide)] at c126; omega)
              exact tail142 y ya (fun k k0 k1 k2 k3 k4 => by rw [hO]; exact yb k k0 k1 k2 k3 k4) y3 y4 y5 y6 _
            · refine x_aload_n (pc := 129) O dX8_die_129 rfl rfl ?_
              refine v_get (pc := 130) O dX8_die_130 fdX8_25 rfl rfl ?_
              refine x_iload_n (pc := 133) O dX8_die_133 rfl ?_
              refine x_dup2 (pc := 134) O dX8_die_134 rfl rfl ?_
              refine v_aldv (k := 14) (v := (dyF (i 8) a m (i 0) (alx a j) j (a 12 j) wd (i 2) (a 14 j) (lsOf a ch r) h).2.2) (pc := 135) O dX8_die_135 rfl rfl rfl rfl (by show _ < 60; omega) (by rw [yb 14 (by decide) (by decide) (by decide) (by decide) (by decide), up2_eq, upd_eq]) ?_
              refine x_aload_n (pc := 136) O dX8_die_136 rfl rfl ?_
              refine v_get (pc := 137) O dX8_die_137 fdX8_142 rfl rfl ?_
              rw [ya 2 (by decide) (by decide)]
              refine x_iadd (pc := 140) O dX8_die_140 ?_
              refine v_ast (k := 14) (pc := 141) O dX8_die_141 rfl rfl rfl rfl (by show _ < 60; omega) ?_
              have hO : (dyF (i 8) a m (i 0) (alx a j) j (a 12 j) wd (i 2) (a 14 j) (lsOf a ch r) (h + 1)).2.2 = (dyF (i 8) a m (i 0) (alx a j) j (a 12 j) wd (i 2) (a 14 j) (lsOf a ch r) h).2.2 + i 2 := if_neg (fun e => c126 (by rw [e]; decide))
              refine tail142 (y.1, up2 y.2.1 14 j ((dyF (i 8) a m (i 0) (alx a j) j (a 12 j) wd (i 2) (a 14 j) (lsOf a ch r) h).2.2 + i 2), y.2.2) ya (fun k k0 k1 k2 k3 k4 => ?_) ?_ ?_ y5 y6 _
              · show up2 y.2.1 14 j ((dyF (i 8) a m (i 0) (alx a j) j (a 12 j) wd (i 2) (a 14 j) (lsOf a ch r) h).2.2 + i 2) k = _
                rw [hO]
                by_cases e : k = 14
                · subst e
                  rw [up2_eq, up2_eq, yb 14 (by decide) (by decide) (by decide) (by decide) (by decide), up2_eq]
                  funext q
                  by_cases e2 : q = j
                  · subst e2; rw [upd_eq, upd_eq]
                  · rw [upd_ne _ _ e2, upd_ne _ _ e2, upd_ne _ _ e2]
                · rw [up2_ne _ _ _ e, yb k k0 k1 k2 k3 k4, up2_ne _ _ _ e, up2_ne _ _ _ e]
              · show up2 y.2.1 14 j ((dyF (i 8) a m (i 0) (alx a j) j (a 12 j) wd (i 2) (a 14 j) (lsOf a ch r) h).2.2 + i 2) 29 = _
                rw [up2_ne _ _ _ (by decide)]; exact y3
              · show up2 y.2.1 14 j ((dyF (i 8) a m (i 0) (alx a j) j (a 12 j) wd (i 2) (a 14 j) (lsOf a ch r) h).2.2 + i 2) 30 = _
                rw [up2_ne _ _ _ (by decide)]; exact y4
          · refine x_aload_n (pc := 115) O dX8_die_115 rfl rfl ?_
            refine x_iload_n (pc := 116) O dX8_die_116 rfl ?_
            refine x_iload (pc := 117) O dX8_die_117 rfl ?_
            refine x_iload (pc := 119) O dX8_die_119 rfl ?_
            have hlt : (dyP (a 12 j) wd (pkL (ownQ (dyF (i 8) a m (i 0) (alx a j) j (a 12 j) wd (i 2) (a 14 j) (lsOf a ch r) h).1 (nI j)) h 12).length) < (pkL (ownQ (dyF (i 8) a m (i 0) (alx a j) j (a 12 j) wd (i 2) (a 14 j) (lsOf a ch r) h).1 (nI j)) h 12).length := by
              rw [nI_leI (by omega) (by omega)] at c112
              omega
            have hDe : (dy1 (i 8) a m (i 0) (alx a j) j (a 12 j) wd h (dyF (i 8) a m (i 0) (alx a j) j (a 12 j) wd (i 2) (a 14 j) (lsOf a ch r) h).1) = cmL (i 8) (cmwL (i 8) (a 12 j) (nI j) (dyF (i 8) a m (i 0) (alx a j) j (a 12 j) wd (i 2) (a 14 j) (lsOf a ch r) h).1 ((pkL (ownQ (dyF (i 8) a m (i 0) (alx a j) j (a 12 j) wd (i 2) (a 14 j) (lsOf a ch r) h).1 (nI j)) h 12).take (dyP (a 12 j) wd (pkL (ownQ (dyF (i 8) a m (i 0) (alx a j) j (a 12 j) wd (i 2) (a 14 j) (lsOf a ch r) h).1 (nI j)) h 12).length))) (passE a m (i 0) (alx a j) j ((pkL (ownQ (dyF (i 8) a m (i 0) (alx a j) j (a 12 j) wd (i 2) (a 14 j) (lsOf a ch r) h).1 (nI j)) h 12).drop (dyP (a 12 j) wd (pkL (ownQ (dyF (i 8) a m (i 0) (alx a j) j (a 12 j) wd (i 2) (a 14 j) (lsOf a ch r) h).1 (nI j)) h 12).length)) ((pkL (ownQ (dyF (i 8) a m (i 0) (alx a j) j (a 12 j) wd (i 2) (a 14 j) (lsOf a ch r) h).1 (nI j)) h 12).length - (dyP (a 12 j) wd (pkL (ownQ (dyF (i 8) a m (i 0) (alx a j) j (a 12 j) wd (i 2) (a 14 j) (lsOf a ch r) h).1 (nI j)) h 12).length))) := if_neg (by omega)
            have yb : ∀ k, k ≠ 21 → k ≠ 29 → k ≠ 30 → k ≠ 39 → k ≠ 43 → y.2.1 k = (up2 (up2 a 20 j 0) 14 j (dyF (i 8) a m (i 0) (alx a j) j (a 12 j) wd (i 2) (a 14 j) (lsOf a ch r) h).2.2) k := fun k k0 k1 k2 k3 k4 => by rw [hy.2.1 k k1 k2, hpput_ne _ _ k4]; exact hx.2.1 k k0 k1 k2 k3 k4
            have hsk : ∀ k, k ≠ 21 → k ≠ 29 → k ≠ 30 → k ≠ 39 → k ≠ 43 → k ≠ 20 → k ≠ 14 → y.2.1 k = a k := fun k k0 k1 k2 k3 k4 k5 k6 => by rw [yb k k0 k1 k2 k3 k4, up2_ne _ _ _ k6, up2_ne _ _ _ k5]
            have hs20 : y.2.1 20 = up2 a 20 j 0 20 := by rw [yb 20 (by decide) (by decide) (by decide) (by decide) (by decide), up2_ne _ _ _ (by decide)]
            have hq1n : (cmwL (i 8) (a 12 j) (nI j) (dyF (i 8) a m (i 0) (alx a j) j (a 12 j) wd (i 2) (a 14 j) (lsOf a ch r) h).1 ((pkL (ownQ (dyF (i 8) a m (i 0) (alx a j) j (a 12 j) wd (i 2) (a 14 j) (lsOf a ch r) h).1 (nI j)) h 12).take (dyP (a 12 j) wd (pkL (ownQ (dyF (i 8) a m (i 0) (alx a j) j (a 12 j) wd (i 2) (a 14 j) (lsOf a ch r) h).1 (nI j)) h 12).length))).2.2.2 = r + ((dyF (i 8) a m (i 0) (alx a j) j (a 12 j) wd (i 2) (a 14 j) (lsOf a ch r) h).2.1 + (dyP (a 12 j) wd (pkL (ownQ (dyF (i 8) a m (i 0) (alx a j) j (a 12 j) wd (i 2) (a 14 j) (lsOf a ch r) h).1 (nI j)) h 12).length)) := by
              rw [cmwL_n, dyF_n h60 hsx hkin hwd12, List.length_take, Nat.min_eq_left (by omega)]
              show r + (dyF (i 8) a m (i 0) (alx a j) j (a 12 j) wd (i 2) (a 14 j) (lsOf a ch r) h).2.1 + (dyP (a 12 j) wd (pkL (ownQ (dyF (i 8) a m (i 0) (alx a j) j (a 12 j) wd (i 2) (a 14 j) (lsOf a ch r) h).1 (nI j)) h 12).length) = _
              omega
            have hca := cost_add r ((dyF (i 8) a m (i 0) (alx a j) j (a 12 j) wd (i 2) (a 14 j) (lsOf a ch r) h).2.1 + (dyP (a 12 j) wd (pkL (ownQ (dyF (i 8) a m (i 0) (alx a j) j (a 12 j) wd (i 2) (a 14 j) (lsOf a ch r) h).1 (nI j)) h 12).length)) ((pkL (ownQ (dyF (i 8) a m (i 0) (alx a j) j (a 12 j) wd (i 2) (a 14 j) (lsOf a ch r) h).1 (nI j)) h 12).length - (dyP (a 12 j) wd (pkL (ownQ (dyF (i 8) a m (i 0) (alx a j) j (a 12 j) wd (i 2) (a 14 j) (lsOf a ch r) h).1 (nI j)) h 12).length))
            have hcb := cost_le r (k := (dyF (i 8) a m (i 0) (alx a j) j (a 12 j) wd (i 2) (a 14 j) (lsOf a ch r) h).2.1 + (dyP (a 12 j) wd (pkL (ownQ (dyF (i 8) a m (i 0) (alx a j) j (a 12 j) wd (i 2) (a 14 j) (lsOf a ch r) h).1 (nI j)) h 12).length) + ((pkL (ownQ (dyF (i 8) a m (i 0) (alx a j) j (a 12 j) wd (i 2) (a 14 j) (lsOf a ch r) h).1 (nI j)) h 12).length - (dyP (a 12 j) wd (pkL (ownQ (dyF (i 8) a m (i 0) (alx a j) j (a 12 j) wd (i 2) (a 14 j) (lsOf a ch r) h).1 (nI j)) h 12).length))) (t := (dyF (i 8) a m (i 0) (alx a j) j (a 12 j) wd (i 2) (a 14 j) (lsOf a ch r) 10).2.1) (by omega)
            rw [show nI (pkL (ownQ (dyF (i 8) a m (i 0) (alx a j) j (a 12 j) wd (i 2) (a 14 j) (lsOf a ch r) h).1 (nI j)) h 12).length = nI ((dyP (a 12 j) wd (pkL (ownQ (dyF (i 8) a m (i 0) (alx a j) j (a 12 j) wd (i 2) (a 14 j) (lsOf a ch r) h).1 (nI j)) h 12).length) + ((pkL (ownQ (dyF (i 8) a m (i 0) (alx a j) j (a 12 j) wd (i 2) (a 14 j) (lsOf a ch r) h).1 (nI j)) h 12).length - (dyP (a 12 j) wd (pkL (ownQ (dyF (i 8) a m (i 0) (alx a j) j (a 12 j) wd (i 2) (a 14 j) (lsOf a ch r) h).1 (nI j)) h 12).length))) from by congr 1; omega]
            refine x_callV (pc := 121) (rest := []) (ci := 8) O (c_X8_passes l E o d y.1 y.2.1 y.2.2 j (dyP (a 12 j) wd (pkL (ownQ (dyF (i 8) a m (i 0) (alx a j) j (a 12 j) wd (i 2) (a 14 j) (lsOf a ch r) h).1 (nI j)) h 12).length) ((pkL (ownQ (dyF (i 8) a m (i 0) (alx a j) j (a 12 j) wd (i 2) (a 14 j) (lsOf a ch r) h).1 (nI j)) h 12).length - (dyP (a 12 j) wd (pkL (ownQ (dyF (i 8) a m (i 0) (alx a j) j (a 12 j) wd (i 2) (a 14 j) (lsOf a ch r) h).1 (nI j)) h 12).length)) (r + ((dyF (i 8) a m (i 0) (alx a j) j (a 12 j) wd (i 2) (a 14 j) (lsOf a ch r) h).2.1 + (dyP (a 12 j) wd (pkL (ownQ (dyF (i 8) a m (i 0) (alx a j) j (a 12 j) wd (i 2) (a 14 j) (lsOf a ch r) h).1 (nI j)) h 12).length))) ((pkL (ownQ (dyF (i 8) a m (i 0) (alx a j) j (a 12 j) wd (i 2) (a 14 j) (lsOf a ch r) h).1 (nI j)) h 12).drop (dyP (a 12 j) wd (pkL (ownQ (dyF (i 8) a m (i 0) (alx a j) j (a 12 j) wd (i 2) (a 14 j) (lsOf a ch r) h).1 (nI j)) h 12).length)) (m := m) (by rw [hy.1 22 (by decide), hx.1 22 (by decide) (by decide)]; exact hm) h60 (by rw [hs20]; exact hal1) (by rw [hsk 10 (by decide) (by decide) (by decide) (by decide) (by decide) (by decide) (by decide) ]; exact hfa) (fun c e hc he9 hch => hkin c e hc he9 (by
              simp only [chd, hsk 10 (by decide) (by decide) (by decide) (by decide) (by decide) (by decide) (by decide) , hsk 11 (by decide) (by decide) (by decide) (by decide) (by decide) (by decide) (by decide) ] at hch
              exact hch)) (by rw [hsk 9 (by decide) (by decide) (by decide) (by decide) (by decide) (by decide) (by decide) ]; exact hsx) hjm (fun t ht => by rw [hy.2.1 43 (by decide) (by decide), hpput_get _ _ (by omega), List.getD_eq_getElem?_getD, List.getD_eq_getElem?_getD, List.getElem?_drop]) (fun t ht => by
              rw [List.getD_eq_getElem?_getD, List.getElem?_drop, ← List.getD_eq_getElem?_getD]
              have := (pkL_mem (getD_mem (l := (pkL (ownQ (dyF (i 8) a m (i 0) (alx a j) j (a 12 j) wd (i 2) (a 14 j) (lsOf a ch r) h).1 (nI j)) h 12)) (k := (dyP (a 12 j) wd (pkL (ownQ (dyF (i 8) a m (i 0) (alx a j) j (a 12 j) wd (i 2) (a 14 j) (lsOf a ch r) h).1 (nI j)) h 12).length) + t) (by omega))).1
              omega) (by rw [List.length_drop]; exact Nat.le_refl _) (by omega) (by rw [hy.2.2.2.2.2, hq1n]) (by omega)) dX8_die_121 cbX8_185 im_yX8_passes se_yX8_passes rfl v_recv rfl rfl (Nat.le_of_ble_eq_true rfl) ⟨Nat.le_of_ble_eq_true rfl, Nat.le_of_ble_eq_true rfl⟩ ⟨by rw [hN]; exact Nat.le_trans (Nat.le_of_eq hca.1) hcb.1, by rw [hN]; exact Nat.le_trans (Nat.le_of_eq hca.2) hcb.2⟩ (fun z => x_pure O (fun hz => ?_))
            rw [hy.1 8 (by decide), hx.1 8 (by decide) (by decide), hy.1 0 (by decide), hx.1 0 (by decide) (by decide), passE_congr (a := a) (al := alx a j) h60 hjm (fun c _ => by rw [hsk 9 (by decide) (by decide) (by decide) (by decide) (by decide) (by decide) (by decide) ]) (fun c _ => by rw [hsk 10 (by decide) (by decide) (by decide) (by decide) (by decide) (by decide) (by decide) ]) (fun c _ => by rw [hsk 11 (by decide) (by decide) (by decide) (by decide) (by decide) (by decide) (by decide) ]) (fun c _ => by rw [← alx_up a j c]; simp only [alB, hs20]), show lsOf y.2.1 y.2.2 (r + ((dyF (i 8) a m (i 0) (alx a j) j (a 12 j) wd (i 2) (a 14 j) (lsOf a ch r) h).2.1 + (dyP (a 12 j) wd (pkL (ownQ (dyF (i 8) a m (i 0) (alx a j) j (a 12 j) wd (i 2) (a 14 j) (lsOf a ch r) h).1 (nI j)) h 12).length))) = (cmwL (i 8) (a 12 j) (nI j) (dyF (i 8) a m (i 0) (alx a j) j (a 12 j) wd (i 2) (a 14 j) (lsOf a ch r) h).1 ((pkL (ownQ (dyF (i 8) a m (i 0) (alx a j) j (a 12 j) wd (i 2) (a 14 j) (lsOf a ch r) h).1 (nI j)) h 12).take (dyP (a 12 j) wd (pkL (ownQ (dyF (i 8) a m (i 0) (alx a j) j (a 12 j) wd (i 2) (a 14 j) (lsOf a ch r) h).1 (nI j)) h 12).length))) from Prod.ext hy.2.2.1 (Prod.ext hy.2.2.2.1 (Prod.ext hy.2.2.2.2.1 hq1n.symm)), ← hDe] at hz
            obtain ⟨z1, z2, z3, z4, z5, z6⟩ := hz
            have za : ∀ k, k ≠ 28 → k ≠ 40 → z.1 k = i k := fun k k1 k2 => by rw [z1 k k1 k2, hy.1 k k1]; exact hx.1 k k1 k2
            have zb : ∀ k, k ≠ 21 → k ≠ 29 → k ≠ 30 → k ≠ 39 → k ≠ 43 → z.2.1 k = (up2 (up2 a 20 j 0) 14 j (dyF (i 8) a m (i 0) (alx a j) j (a 12 j) wd (i 2) (a 14 j) (lsOf a ch r) h).2.2) k := fun k k0 k1 k2 k3 k4 => by rw [z2 k k0 k1 k2 k3]; exact yb k k0 k1 k2 k3 k4
            refine x_widen O (ce' := ccost r ((dyF (i 8) a m (i 0) (alx a j) j (a 12 j) wd (i 2) (a 14 j) (lsOf a ch r) h).2.1 + (pkL (ownQ (dyF (i 8) a m (i 0) (alx a j) j (a 12 j) wd (i 2) (a 14 j) (lsOf a ch r) h).1 (nI j)) h 12).length)) (sl' := scost r ((dyF (i 8) a m (i 0) (alx a j) j (a 12 j) wd (i 2) (a 14 j) (lsOf a ch r) h).2.1 + (pkL (ownQ (dyF (i 8) a m (i 0) (alx a j) j (a 12 j) wd (i 2) (a 14 j) (lsOf a ch r) h).1 (nI j)) h 12).length)) (Nat.le_of_eq (by rw [hca.1]; congr 1; omega)) (Nat.le_of_eq (by rw [hca.2]; congr 1; omega)) ?_
            rw [show nI ((dyP (a 12 j) wd (pkL (ownQ (dyF (i 8) a m (i 0) (alx a j) j (a 12 j) wd (i 2) (a 14 j) (lsOf a ch r) h).1 (nI j)) h 12).length) + ((pkL (ownQ (dyF (i 8) a m (i 0) (alx a j) j (a 12 j) wd (i 2) (a 14 j) (lsOf a ch r) h).1 (nI j)) h 12).length - (dyP (a 12 j) wd (pkL (ownQ (dyF (i 8) a m (i 0) (alx a j) j (a 12 j) wd (i 2) (a 14 j) (lsOf a ch r) h).1 (nI j)) h 12).length))) = nI (pkL (ownQ (dyF (i 8) a m (i 0) (alx a j) j (a 12 j) wd (i 2) (a 14 j) (lsOf a ch r) h).1 (nI j)) h 12).length from by congr 1; omega]
            dsimp only [Option.toList, List.append, List.nil_append, List.cons_append, Nat.add_zero, Nat.reduceAdd]
            refine x_iload (pc := 124) O dX8_die_124 rfl ?_
            refine x_if_le (pc := 126) O 142 dX8_die_126 (by decide) (fun c126 => ?_) (fun c126 => ?_)
            · have hO : (dyF (i 8) a m (i 0) (alx a j) j (a 12 j) wd (i 2) (a 14 j) (lsOf a ch r) (h + 1)).2.2 = (dyF (i 8) a m (i 0) (alx a j) j (a 12 j) wd (i 2) (a 14 j) (lsOf a ch r) h).2.2 := if_pos (by rw [show (0 : Int32) = nI 0 from rfl, nI_leI (by omega) (by decide)] at c126; omega)
              exact tail142 z za (fun k k0 k1 k2 k3 k4 => by rw [hO]; exact zb k k0 k1 k2 k3 k4) z3 z4 z5 z6 _
            · refine x_aload_n (pc := 129) O dX8_die_129 rfl rfl ?_
              refine v_get (pc := 130) O dX8_die_130 fdX8_25 rfl rfl ?_
              refine x_iload_n (pc := 133) O dX8_die_133 rfl ?_
              refine x_dup2 (pc := 134) O dX8_die_134 rfl rfl ?_
              refine v_aldv (k := 14) (v := (dyF (i 8) a m (i 0) (alx a j) j (a 12 j) wd (i 2) (a 14 j) (lsOf a ch r) h).2.2) (pc := 135) O dX8_die_135 rfl rfl rfl rfl (by show _ < 60; omega) (by rw [zb 14 (by decide) (by decide) (by decide) (by decide) (by decide), up2_eq, upd_eq]) ?_
              refine x_aload_n (pc := 136) O dX8_die_136 rfl rfl ?_
              refine v_get (pc := 137) O dX8_die_137 fdX8_142 rfl rfl ?_
              rw [za 2 (by decide) (by decide)]
              refine x_iadd (pc := 140) O dX8_die_140 ?_
              refine v_ast (k := 14) (pc := 141) O dX8_die_141 rfl rfl rfl rfl (by show _ < 60; omega) ?_
              have hO : (dyF (i 8) a m (i 0) (alx a j) j (a 12 j) wd (i 2) (a 14 j) (lsOf a ch r) (h + 1)).2.2 = (dyF (i 8) a m (i 0) (alx a j) j (a 12 j) wd (i 2) (a 14 j) (lsOf a ch r) h).2.2 + i 2 := if_neg (fun e => c126 (by rw [e]; decide))
              refine tail142 (z.1, up2 z.2.1 14 j ((dyF (i 8) a m (i 0) (alx a j) j (a 12 j) wd (i 2) (a 14 j) (lsOf a ch r) h).2.2 + i 2), z.2.2) za (fun k k0 k1 k2 k3 k4 => ?_) ?_ ?_ z5 z6 _
              · show up2 z.2.1 14 j ((dyF (i 8) a m (i 0) (alx a j) j (a 12 j) wd (i 2) (a 14 j) (lsOf a ch r) h).2.2 + i 2) k = _
                rw [hO]
                by_cases e : k = 14
                · subst e
                  rw [up2_eq, up2_eq, zb 14 (by decide) (by decide) (by decide) (by decide) (by decide), up2_eq]
                  funext q
                  by_cases e2 : q = j
                  · subst e2; rw [upd_eq, upd_eq]
                  · rw [upd_ne _ _ e2, upd_ne _ _ e2, upd_ne _ _ e2]
                · rw [up2_ne _ _ _ e, zb k k0 k1 k2 k3 k4, up2_ne _ _ _ e, up2_ne _ _ _ e]
              · show up2 z.2.1 14 j ((dyF (i 8) a m (i 0) (alx a j) j (a 12 j) wd (i 2) (a 14 j) (lsOf a ch r) h).2.2 + i 2) 29 = _
                rw [up2_ne _ _ _ (by decide)]; exact z3
              · show up2 z.2.1 14 j ((dyF (i 8) a m (i 0) (alx a j) j (a 12 j) wd (i 2) (a 14 j) (lsOf a ch r) h).2.2 + i 2) 30 = _
                rw [up2_ne _ _ _ (by decide)]; exact z4
        have loop2 : ∀ k, k ≤ (dyP (a 12 j) wd (pkL (ownQ (dyF (i 8) a m (i 0) (alx a j) j (a 12 j) wd (i 2) (a 14 j) (lsOf a ch r) h).1 (nI j)) h 12).length) → ∀ y, LsIs x.1 (hpput x.2.1 (pkL (ownQ (dyF (i 8) a m (i 0) (alx a j) j (a 12 j) wd (i 2) (a 14 j) (lsOf a ch r) h).1 (nI j)) h 12)) (cmwL (i 8) (a 12 j) (nI j) (dyF (i 8) a m (i 0) (alx a j) j (a 12 j) wd (i 2) (a 14 j) (lsOf a ch r) h).1 ((pkL (ownQ (dyF (i 8) a m (i 0) (alx a j) j (a 12 j) wd (i 2) (a 14 j) (lsOf a ch r) h).1 (nI j)) h 12).take k)) y → J (RV E o d y.1 y.2.1 y.2.2) (ccost r ((dyF (i 8) a m (i 0) (alx a j) j (a 12 j) wd (i 2) (a 14 j) (lsOf a ch r) h).2.1 + k)) (scost r ((dyF (i 8) a m (i 0) (alx a j) j (a 12 j) wd (i 2) (a 14 j) (lsOf a ch r) h).2.1 + k)) 69 [some (.ref o), some (.int (nI j)), some (.int (a 12 j)), some (.int (nI (dyF (i 8) a m (i 0) (alx a j) j (a 12 j) wd (i 2) (a 14 j) (lsOf a ch r) h).2.1)), some (.int (nI (h))), some (.int (nI (pkL (ownQ (dyF (i 8) a m (i 0) (alx a j) j (a 12 j) wd (i 2) (a 14 j) (lsOf a ch r) h).1 (nI j)) h 12).length)), some (.int (nI (dyP (a 12 j) wd (pkL (ownQ (dyF (i 8) a m (i 0) (alx a j) j (a 12 j) wd (i 2) (a 14 j) (lsOf a ch r) h).1 (nI j)) h 12).length))), some (.int (nI k))] [] := by
          refine up_ind (Φ := fun k => ∀ y, LsIs x.1 (hpput x.2.1 (pkL (ownQ (dyF (i 8) a m (i 0) (alx a j) j (a 12 j) wd (i 2) (a 14 j) (lsOf a ch r) h).1 (nI j)) h 12)) (cmwL (i 8) (a 12 j) (nI j) (dyF (i 8) a m (i 0) (alx a j) j (a 12 j) wd (i 2) (a 14 j) (lsOf a ch r) h).1 ((pkL (ownQ (dyF (i 8) a m (i 0) (alx a j) j (a 12 j) wd (i 2) (a 14 j) (lsOf a ch r) h).1 (nI j)) h 12).take k)) y → J (RV E o d y.1 y.2.1 y.2.2) (ccost r ((dyF (i 8) a m (i 0) (alx a j) j (a 12 j) wd (i 2) (a 14 j) (lsOf a ch r) h).2.1 + k)) (scost r ((dyF (i 8) a m (i 0) (alx a j) j (a 12 j) wd (i 2) (a 14 j) (lsOf a ch r) h).2.1 + k)) 69 [some (.ref o), some (.int (nI j)), some (.int (a 12 j)), some (.int (nI (dyF (i 8) a m (i 0) (alx a j) j (a 12 j) wd (i 2) (a 14 j) (lsOf a ch r) h).2.1)), some (.int (nI (h))), some (.int (nI (pkL (ownQ (dyF (i 8) a m (i 0) (alx a j) j (a 12 j) wd (i 2) (a 14 j) (lsOf a ch r) h).1 (nI j)) h 12).length)), some (.int (nI (dyP (a 12 j) wd (pkL (ownQ (dyF (i 8) a m (i 0) (alx a j) j (a 12 j) wd (i 2) (a 14 j) (lsOf a ch r) h).1 (nI j)) h 12).length))), some (.int (nI k))] []) (dyP (a 12 j) wd (pkL (ownQ (dyF (i 8) a m (i 0) (alx a j) j (a 12 j) wd (i 2) (a 14 j) (lsOf a ch r) h).1 (nI j)) h 12).length) (fun k hk ih2 y hy => ?_)
          refine x_iload (pc := 69) O dX8_die_69 rfl ?_
          refine x_iload (pc := 71) O dX8_die_71 rfl ?_
          refine x_icmp_ge (pc := 73) O 108 dX8_die_73 (by decide) (fun c73 => ?_) (fun c73 => ?_)
          · have hk2 : k = (dyP (a 12 j) wd (pkL (ownQ (dyF (i 8) a m (i 0) (alx a j) j (a 12 j) wd (i 2) (a 14 j) (lsOf a ch r) h).1 (nI j)) h 12).length) := by
              rw [nI_leI (by omega) (by omega)] at c73
              omega
            subst hk2
            exact tail108 y hy _
          · have hk3 : k < (dyP (a 12 j) wd (pkL (ownQ (dyF (i 8) a m (i 0) (alx a j) j (a 12 j) wd (i 2) (a 14 j) (lsOf a ch r) h).1 (nI j)) h 12).length) := by
              rw [nI_leI (by omega) (by omega)] at c73
              omega
            have hk4 : k < (pkL (ownQ (dyF (i 8) a m (i 0) (alx a j) j (a 12 j) wd (i 2) (a 14 j) (lsOf a ch r) h).1 (nI j)) h 12).length := by omega
            have hs4 : (pkL (ownQ (dyF (i 8) a m (i 0) (alx a j) j (a 12 j) wd (i 2) (a 14 j) (lsOf a ch r) h).1 (nI j)) h 12).getD k 0 < 120 := by
              have := (pkL_mem (getD_mem hk4)).1
              omega
            refine x_aload_n (pc := 76) O dX8_die_76 rfl rfl ?_
            refine x_aload_n (pc := 77) O dX8_die_77 rfl rfl ?_
            refine v_get (pc := 78) O dX8_die_78 fdX8_92 rfl rfl ?_
            refine x_iload (pc := 81) O dX8_die_81 rfl ?_
            refine v_aldv (k := 43) (v := nI ((pkL (ownQ (dyF (i 8) a m (i 0) (alx a j) j (a 12 j) wd (i 2) (a 14 j) (lsOf a ch r) h).1 (nI j)) h 12).getD k 0)) (pc := 83) O dX8_die_83 rfl rfl rfl rfl (by show _ < 12; omega) (by rw [hy.2.1 43 (by decide) (by decide)]; exact hpput_get _ _ hk4) ?_
            refine x_iload_n (pc := 84) O dX8_die_84 rfl ?_
            refine x_iconst (v := 3) (pc := 85) O dX8_die_85 (by decide) ?_
            have hca := cost_add r ((dyF (i 8) a m (i 0) (alx a j) j (a 12 j) wd (i 2) (a 14 j) (lsOf a ch r) h).2.1 + k) 1
            have hcb := cost_le r (k := (dyF (i 8) a m (i 0) (alx a j) j (a 12 j) wd (i 2) (a 14 j) (lsOf a ch r) h).2.1 + k + 1) (t := (dyF (i 8) a m (i 0) (alx a j) j (a 12 j) wd (i 2) (a 14 j) (lsOf a ch r) 10).2.1) (by omega)
            refine x_callV (pc := 86) (rest := []) (ci := 8) O (c_X8_comes l E o d y.1 y.2.1 y.2.2 ((pkL (ownQ (dyF (i 8) a m (i 0) (alx a j) j (a 12 j) wd (i 2) (a 14 j) (lsOf a ch r) h).1 (nI j)) h 12).getD k 0) (a 12 j) 3 (r := r + ((dyF (i 8) a m (i 0) (alx a j) j (a 12 j) wd (i 2) (a 14 j) (lsOf a ch r) h).2.1 + k)) hs4 (by
              rw [hy.2.2.2.2.2, cmwL_n, dyF_n h60 hsx hkin hwd12, List.length_take, Nat.min_eq_left (by omega)]
              show nI (r + (dyF (i 8) a m (i 0) (alx a j) j (a 12 j) wd (i 2) (a 14 j) (lsOf a ch r) h).2.1 + k) = _
              rw [Nat.add_assoc]) (by omega)) dX8_die_86 cbX8_95 im_yX8_comes se_yX8_comes rfl v_recv rfl rfl (Nat.le_of_ble_eq_true rfl) ⟨Nat.le_of_ble_eq_true rfl, Nat.le_of_ble_eq_true rfl⟩ ⟨by rw [hN]; exact Nat.le_trans (Nat.le_of_eq hca.1) hcb.1, by rw [hN]; exact Nat.le_trans (Nat.le_of_eq hca.2) hcb.2⟩ (fun _ => ?_)
            refine x_widen O (ce' := ccost r ((dyF (i 8) a m (i 0) (alx a j) j (a 12 j) wd (i 2) (a 14 j) (lsOf a ch r) h).2.1 + (k + 1))) (sl' := scost r ((dyF (i 8) a m (i 0) (alx a j) j (a 12 j) wd (i 2) (a 14 j) (lsOf a ch r) h).2.1 + (k + 1))) (Nat.le_of_eq hca.1) (Nat.le_of_eq hca.2) ?_
            dsimp only [Option.toList, List.append, List.nil_append, List.cons_append, Nat.add_zero, Nat.reduceAdd]
            refine x_aload_n (pc := 89) O dX8_die_89 rfl rfl ?_
            refine v_get (pc := 90) O dX8_die_90 fdX8_65 rfl rfl ?_
            refine x_aload_n (pc := 93) O dX8_die_93 rfl rfl ?_
            refine v_get (pc := 94) O dX8_die_94 fdX8_92 rfl rfl ?_
            refine x_iload (pc := 97) O dX8_die_97 rfl ?_
            refine v_aldv (k := 43) (v := nI ((pkL (ownQ (dyF (i 8) a m (i 0) (alx a j) j (a 12 j) wd (i 2) (a 14 j) (lsOf a ch r) h).1 (nI j)) h 12).getD k 0)) (pc := 99) O dX8_die_99 rfl rfl rfl rfl (by show _ < 12; omega) (by rw [up2_ne _ _ _ (by decide), up2_ne _ _ _ (by decide), hy.2.1 43 (by decide) (by decide)]; exact hpput_get _ _ hk4) ?_
            refine x_iload_n (pc := 100) O dX8_die_100 rfl ?_
            refine v_ast (k := 30) (pc := 101) O dX8_die_101 rfl rfl rfl rfl (by show _ < 120; omega) ?_
            refine x_iinc (v := nI (k + 1)) (pc := 102) O dX8_die_102 rfl (nI_succ k).symm rfl ?_
            refine x_goto (pc := 105) O 69 dX8_die_105 (by decide) ?_
            refine ih2 (by omega) (_, _, _) ?_
            rw [cmwL_s _ _ _ _ _ hk4]
            have hc := hy.come ((pkL (ownQ (dyF (i 8) a m (i 0) (alx a j) j (a 12 j) wd (i 2) (a 14 j) (lsOf a ch r) h).1 (nI j)) h 12).getD k 0) (a 12 j) 3
            rw [hx.1 8 (by decide) (by decide)] at hc
            obtain ⟨g1, g2, g3, g4, g5, g6⟩ := hc
            refine ⟨g1, fun q q1 q2 => ?_, ?_, ?_, g5, g6⟩
            · show up2 (up2 (up2 y.2.1 29 ((pkL (ownQ (dyF (i 8) a m (i 0) (alx a j) j (a 12 j) wd (i 2) (a 14 j) (lsOf a ch r) h).1 (nI j)) h 12).getD k 0) (a 12 j)) 30 ((pkL (ownQ (dyF (i 8) a m (i 0) (alx a j) j (a 12 j) wd (i 2) (a 14 j) (lsOf a ch r) h).1 (nI j)) h 12).getD k 0) (-1)) 30 ((pkL (ownQ (dyF (i 8) a m (i 0) (alx a j) j (a 12 j) wd (i 2) (a 14 j) (lsOf a ch r) h).1 (nI j)) h 12).getD k 0) (nI j) q = _
              rw [up2_ne _ _ _ q2]; exact g2 q q1 q2
            · show up2 (up2 (up2 y.2.1 29 ((pkL (ownQ (dyF (i 8) a m (i 0) (alx a j) j (a 12 j) wd (i 2) (a 14 j) (lsOf a ch r) h).1 (nI j)) h 12).getD k 0) (a 12 j)) 30 ((pkL (ownQ (dyF (i 8) a m (i 0) (alx a j) j (a 12 j) wd (i 2) (a 14 j) (lsOf a ch r) h).1 (nI j)) h 12).getD k 0) (-1)) 30 ((pkL (ownQ (dyF (i 8) a m (i 0) (alx a j) j (a 12 j) wd (i 2) (a 14 j) (lsOf a ch r) h).1 (nI j)) h 12).getD k 0) (nI j) 29 = _
              rw [up2_ne _ _ _ (by decide)]; exact g3
            · show up2 (up2 (up2 y.2.1 29 ((pkL (ownQ (dyF (i 8) a m (i 0) (alx a j) j (a 12 j) wd (i 2) (a 14 j) (lsOf a ch r) h).1 (nI j)) h 12).getD k 0) (a 12 j)) 30 ((pkL (ownQ (dyF (i 8) a m (i 0) (alx a j) j (a 12 j) wd (i 2) (a 14 j) (lsOf a ch r) h).1 (nI j)) h 12).getD k 0) (-1)) 30 ((pkL (ownQ (dyF (i 8) a m (i 0) (alx a j) j (a 12 j) wd (i 2) (a 14 j) (lsOf a ch r) h).1 (nI j)) h 12).getD k 0) (nI j) 30 = upd (upd (cmwL (i 8) (a 12 j) (nI j) (dyF (i 8) a m (i 0) (alx a j) j (a 12 j) wd (i 2) (a 14 j) (lsOf a ch r) h).1 ((pkL (ownQ (dyF (i 8) a m (i 0) (alx a j) j (a 12 j) wd (i 2) (a 14 j) (lsOf a ch r) h).1 (nI j)) h 12).take k)).2.1 ((pkL (ownQ (dyF (i 8) a m (i 0) (alx a j) j (a 12 j) wd (i 2) (a 14 j) (lsOf a ch r) h).1 (nI j)) h 12).getD k 0) (-1)) ((pkL (ownQ (dyF (i 8) a m (i 0) (alx a j) j (a 12 j) wd (i 2) (a 14 j) (lsOf a ch r) h).1 (nI j)) h 12).getD k 0) (nI j)
              rw [up2_eq, up2_eq, up2_ne _ _ _ (by decide), hy.2.2.2.1]
        have tail64 : J (RV E o d x.1 (hpput x.2.1 (pkL (ownQ (dyF (i 8) a m (i 0) (alx a j) j (a 12 j) wd (i 2) (a 14 j) (lsOf a ch r) h).1 (nI j)) h 12)) x.2.2) (ccost r (dyF (i 8) a m (i 0) (alx a j) j (a 12 j) wd (i 2) (a 14 j) (lsOf a ch r) h).2.1) (scost r (dyF (i 8) a m (i 0) (alx a j) j (a 12 j) wd (i 2) (a 14 j) (lsOf a ch r) h).2.1) 64 [some (.ref o), some (.int (nI j)), some (.int (a 12 j)), some (.int (nI (dyF (i 8) a m (i 0) (alx a j) j (a 12 j) wd (i 2) (a 14 j) (lsOf a ch r) h).2.1)), some (.int (nI (h))), some (.int (nI (pkL (ownQ (dyF (i 8) a m (i 0) (alx a j) j (a 12 j) wd (i 2) (a 14 j) (lsOf a ch r) h).1 (nI j)) h 12).length)), none, none] [.int (nI (dyP (a 12 j) wd (pkL (ownQ (dyF (i 8) a m (i 0) (alx a j) j (a 12 j) wd (i 2) (a 14 j) (lsOf a ch r) h).1 (nI j)) h 12).length))] := by
          refine x_istore (pc := 64) O dX8_die_64 (by decide) rfl ?_
          refine x_iconst (v := nI 0) (pc := 66) O dX8_die_66 (by decide) ?_
          refine x_istore (pc := 67) O dX8_die_67 (by decide) rfl ?_
          have h0 := loop2 0 (Nat.zero_le _) (x.1, hpput x.2.1 (pkL (ownQ (dyF (i 8) a m (i 0) (alx a j) j (a 12 j) wd (i 2) (a 14 j) (lsOf a ch r) h).1 (nI j)) h 12), x.2.2) ⟨fun _ _ => rfl, fun _ _ _ => rfl, (hpput_ne (k := 29) x.2.1 (pkL (ownQ (dyF (i 8) a m (i 0) (alx a j) j (a 12 j) wd (i 2) (a 14 j) (lsOf a ch r) h).1 (nI j)) h 12) (by decide)).trans hx.2.2.1, (hpput_ne (k := 30) x.2.1 (pkL (ownQ (dyF (i 8) a m (i 0) (alx a j) j (a 12 j) wd (i 2) (a 14 j) (lsOf a ch r) h).1 (nI j)) h 12) (by decide)).trans hx.2.2.2.1, hx.2.2.2.2.1, hx.2.2.2.2.2⟩
          exact h0
        refine x_aload_n (pc := 36) O dX8_die_36 rfl rfl ?_
        refine x_iload_n (pc := 37) O dX8_die_37 rfl ?_
        refine x_iload (pc := 38) O dX8_die_38 rfl ?_
        have hcx := cost_le r (k := (dyF (i 8) a m (i 0) (alx a j) j (a 12 j) wd (i 2) (a 14 j) (lsOf a ch r) h).2.1) (t := (dyF (i 8) a m (i 0) (alx a j) j (a 12 j) wd (i 2) (a 14 j) (lsOf a ch r) 10).2.1) (by omega)
        refine x_callV (pc := 40) (rest := []) (ci := 8) O (c_X8_own l E o d x.1 x.2.1 x.2.2 (nI j) h hh10) dX8_die_40 cbX8_194 im_yX8_own se_yX8_own rfl v_recv rfl rfl (Nat.le_of_ble_eq_true rfl) ⟨Nat.le_of_ble_eq_true rfl, Nat.le_of_ble_eq_true rfl⟩ ⟨by rw [hN]; exact hcx.1, by rw [hN]; exact hcx.2⟩ (fun _ => ?_)
        rw [show ownB x.2.1 (nI j) = ownQ (dyF (i 8) a m (i 0) (alx a j) j (a 12 j) wd (i 2) (a 14 j) (lsOf a ch r) h).1 (nI j) from by funext s; simp only [ownB, ownQ, hx.2.2.1, hx.2.2.2.1]]
        dsimp only [Option.toList, List.append, List.nil_append, List.cons_append, Nat.add_zero, Nat.reduceAdd]
        refine x_istore (pc := 43) O dX8_die_43 (by decide) rfl ?_
        refine x_iload_n (pc := 45) O dX8_die_45 rfl ?_
        refine x_iconst (v := (-1)) (pc := 46) O dX8_die_46 (by decide) ?_
        refine x_icmp_ne (pc := 47) O 54 dX8_die_47 (by decide) (fun c47 => ?_) (fun c47 => ?_)
        · have hp0 : (dyP (a 12 j) wd (pkL (ownQ (dyF (i 8) a m (i 0) (alx a j) j (a 12 j) wd (i 2) (a 14 j) (lsOf a ch r) h).1 (nI j)) h 12).length) = (pkL (ownQ (dyF (i 8) a m (i 0) (alx a j) j (a 12 j) wd (i 2) (a 14 j) (lsOf a ch r) h).1 (nI j)) h 12).length * wd / 12 := if_neg c47
          refine x_iload (pc := 54) O dX8_die_54 rfl ?_
          refine x_aload_n (pc := 56) O dX8_die_56 rfl rfl ?_
          refine v_get (pc := 57) O dX8_die_57 fdX8_133 rfl rfl ?_
          refine x_imul (pc := 60) O dX8_die_60 ?_
          rw [hx.1 1 (by decide) (by decide), hwd, pk_mul]
          refine x_bipush (v := nI 12) (pc := 61) O dX8_die_61 (by decide) ?_
          refine x_idiv (pc := 63) O dX8_die_63 (by decide) ?_
          rw [pk_div (by have : (pkL (ownQ (dyF (i 8) a m (i 0) (alx a j) j (a 12 j) wd (i 2) (a 14 j) (lsOf a ch r) h).1 (nI j)) h 12).length * wd ≤ 12 * 12 := Nat.mul_le_mul (by omega) hwd12
                         omega) (by decide) (by decide), ← hp0]
          exact tail64
        · have hp0 : (dyP (a 12 j) wd (pkL (ownQ (dyF (i 8) a m (i 0) (alx a j) j (a 12 j) wd (i 2) (a 14 j) (lsOf a ch r) h).1 (nI j)) h 12).length) = 0 := if_pos c47
          rw [hp0] at tail64
          refine x_iconst (v := nI 0) (pc := 50) O dX8_die_50 (by decide) ?_
          refine x_goto (pc := 51) O 64 dX8_die_51 (by decide) ?_
          exact tail64
    refine x_aload_n (pc := 10) O dX8_die_10 rfl rfl ?_
    refine v_get (pc := 11) O dX8_die_11 fdX8_43 rfl rfl ?_
    refine x_iload_n (pc := 14) O dX8_die_14 rfl ?_
    refine x_iconst (v := 0) (pc := 15) O dX8_die_15 (by decide) ?_
    refine v_zst (k := 20) (pc := 16) O dX8_die_16 rfl rfl (by omega) rfl ?_
    refine x_aload_n (pc := 17) O dX8_die_17 rfl rfl ?_
    refine v_get (pc := 18) O dX8_die_18 fdX8_19 rfl rfl ?_
    refine x_iload_n (pc := 21) O dX8_die_21 rfl ?_
    refine v_aldv (k := 12) (v := a 12 j) (pc := 22) O dX8_die_22 rfl rfl rfl rfl (by show _ < 60; omega) (by simp [up2, upd]) ?_
    refine x_istore_n (pc := 23) O dX8_die_23 (by decide) rfl ?_
    refine x_iconst (v := nI 0) (pc := 24) O dX8_die_24 (by decide) ?_
    refine x_istore_n (pc := 25) O dX8_die_25 (by decide) rfl ?_
    refine x_iconst (v := nI 0) (pc := 26) O dX8_die_26 (by decide) ?_
    refine x_istore (pc := 27) O dX8_die_27 (by decide) rfl ?_
    have h0 := loop 0 (Nat.zero_le _) (i, up2 a 20 j 0, ch) ⟨fun _ _ _ => rfl, fun k _ _ _ _ _ => by rw [show (dyF (i 8) a m (i 0) (alx a j) j (a 12 j) wd (i 2) (a 14 j) (lsOf a ch r) 0).2.2 = a 14 j from rfl, up2_id (a := up2 a 20 j 0) (k := 14) (j := j) (by rw [up2_ne _ _ _ (by decide)])], up2_ne (k := 20) (k' := 29) a j 0 (by decide), up2_ne (k := 20) (k' := 30) a j 0 (by decide), rfl, hr⟩
    rw [show (dyF (i 8) a m (i 0) (alx a j) j (a 12 j) wd (i 2) (a 14 j) (lsOf a ch r) 0).2.1 = 0 from rfl, (ccost_0 r).1, (ccost_0 r).2] at h0
    exact h0
  · refine x_iconst (v := (-1)) (pc := 8) O dX8_die_8 (by decide) ?_
    have hC : ¬ lvP i a p := b2i_z c5
    refine x_ret (v := some (.int _)) (pc := 9) O dX8_die_9 rfl rfl ⟨Nat.zero_le _, Nat.zero_le _, (i, a, ch), congrArg (fun z => some (Value.int z)) (by unfold dyV; rw [if_neg hC]), fun h hh => ⟨?_, hh⟩⟩
    unfold dyQ dyA
    rw [if_neg hC, if_neg hC]
    exact ⟨fun _ _ _ => rfl, fun _ _ _ _ _ _ => rfl, rfl, rfl, rfl, hr⟩
