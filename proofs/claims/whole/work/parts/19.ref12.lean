/-! ===== REF 12: own, moves, grant, rod ===== -/
def hpput (a : Ar) (L : List Nat) : Ar := fun k => if k = 43 then (fun j => if j < L.length then nI (L.getD j 0) else a 43 j) else a k
theorem hpput_ne (a : Ar) (L : List Nat) {k : Nat} (h : k ≠ 43) : hpput a L k = a k := by simp [hpput, h]
theorem hpput_nil (a : Ar) : hpput a [] = a := by
  funext k j
  by_cases h : k = 43
  · subst h; simp [hpput]
  · simp [hpput, h]
theorem hpput_get (a : Ar) (L : List Nat) {t : Nat} (h : t < L.length) : hpput a L 43 t = nI (L.getD t 0) := by simp only [hpput, if_true, if_pos h]
theorem hpput_app (a : Ar) (L : List Nat) (c : Nat) : up2 (hpput a L) 43 L.length (nI c) = hpput a (L ++ [c]) := by
  funext k j
  by_cases h : k = 43
  · subst h
    rw [up2_eq]
    by_cases hj : j = L.length
    · subst hj; rw [upd_eq]; simp [hpput, List.getD]
    · rw [upd_ne _ _ hj]
      simp only [hpput, if_true, List.length_append, List.length_singleton]
      by_cases h2 : j < L.length
      · rw [if_pos h2, if_pos (by omega)]
        simp only [List.getD]
        rw [List.getElem?_append_left h2]
      · rw [if_neg h2, if_neg (by omega)]
  · rw [up2_ne _ _ _ h, hpput_ne _ _ h, hpput_ne _ _ h]
def pkL (pr : Nat → Bool) (g k : Nat) : List Nat := ((List.range k).map (fun t => 12 * g + t)).filter pr
theorem pkL_t {pr : Nat → Bool} {g k : Nat} (h : pr (12 * g + k) = true) : pkL pr g (k + 1) = pkL pr g k ++ [12 * g + k] := by simp [pkL, List.range_succ, List.filter_append, h]
theorem pkL_f {pr : Nat → Bool} {g k : Nat} (h : ¬ pr (12 * g + k) = true) : pkL pr g (k + 1) = pkL pr g k := by simp [pkL, List.range_succ, List.filter_append, h]
theorem pkL_len (pr : Nat → Bool) (g k : Nat) : (pkL pr g k).length ≤ k := by
  have := List.length_filter_le pr ((List.range k).map (fun t => 12 * g + t))
  simpa [pkL] using this
theorem pkL_mem {pr : Nat → Bool} {g k s : Nat} (h : s ∈ pkL pr g k) : (12 * g ≤ s ∧ s < 12 * g + k) ∧ pr s = true := by
  simp only [pkL, List.mem_filter, List.mem_map, List.mem_range] at h
  obtain ⟨⟨t, ht, rfl⟩, h2⟩ := h
  exact ⟨⟨by omega, by omega⟩, h2⟩
def ownB (a : Ar) (p : Int32) (s : Nat) : Bool := decide (a 29 s = p ∧ a 30 s = -1)
theorem m12 (g : Nat) : nI 12 * (nI g + 1) = nI (12 * g + 12) := by
  rw [show nI g + 1 = nI (g + 1) from (nI_succ g).symm, pk_mul]
  congr 1
abbrev Ls : Type := (Nat → Int32) × (Nat → Int32) × (Nat → List Rt) × Nat
def cm1 (now : Int32) (q : Ls) (e : Nat × Int32 × Int32) : Ls := (upd q.1 e.1 e.2.1, upd q.2.1 e.1 (-1), va_up q.2.2.1 e.1 ((e.2.1, e.2.2, now) :: q.2.2.1 e.1), q.2.2.2 + 1)
def cmL (now : Int32) (q : Ls) (l : List (Nat × Int32 × Int32)) : Ls := l.foldl (cm1 now) q
theorem cmL_app (now : Int32) (q : Ls) (l : List (Nat × Int32 × Int32)) (e : Nat × Int32 × Int32) : cmL now q (l ++ [e]) = cm1 now (cmL now q l) e := by simp [cmL]
theorem cmL_app2 (now : Int32) (q : Ls) (l l2 : List (Nat × Int32 × Int32)) : cmL now q (l ++ l2) = cmL now (cmL now q l) l2 := by simp [cmL]
theorem cmL_n (now : Int32) : ∀ (l : List (Nat × Int32 × Int32)) (q : Ls), (cmL now q l).2.2.2 = q.2.2.2 + l.length
  | [], q => rfl
  | e :: r, q => by
    show (cmL now (cm1 now q e) r).2.2.2 = _
    rw [cmL_n now r]
    show q.2.2.2 + 1 + r.length = q.2.2.2 + (r.length + 1)
    omega
def lsOf (a : Ar) (ch : Nat → List Rt) (r : Nat) : Ls := (a 29, a 30, ch, r)
/-- how the state stands behind some comings: all but the land's own rows as before (and the scratch rows) -/
def LsIs (i : Nat → Int32) (B : Ar) (q : Ls) (x : (Nat → Int32) × Ar × (Nat → List Rt)) : Prop := (∀ k, k ≠ 28 → x.1 k = i k) ∧ (∀ k, k ≠ 29 → k ≠ 30 → x.2.1 k = B k) ∧ x.2.1 29 = q.1 ∧ x.2.1 30 = q.2.1 ∧ x.2.2 = q.2.2.1 ∧ x.1 28 = nI q.2.2.2
theorem LsIs.come {i : Nat → Int32} {B : Ar} {q : Ls} {x : (Nat → Int32) × Ar × (Nat → List Rt)} (h : LsIs i B q x) (s : Nat) (who how : Int32) : LsIs i B (cm1 (i 8) q (s, who, how)) (upd x.1 28 (x.1 28 + 1), up2 (up2 x.2.1 29 s who) 30 s (-1), va_up x.2.2 s ((who, how, x.1 8) :: x.2.2 s)) := by
  obtain ⟨h1, h2, h3, h4, h5, h6⟩ := h
  refine ⟨fun k hk => by show upd x.1 28 (x.1 28 + 1) k = _; rw [upd_ne _ _ hk]; exact h1 k hk, fun k k1 k2 => by show up2 (up2 x.2.1 29 s who) 30 s (-1) k = _; rw [up2_ne _ _ _ k2, up2_ne _ _ _ k1]; exact h2 k k1 k2, ?_, ?_, ?_, ?_⟩
  · show up2 (up2 x.2.1 29 s who) 30 s (-1) 29 = upd q.1 s who
    rw [up2_ne _ _ _ (by decide), up2_eq, h3]
  · show up2 (up2 x.2.1 29 s who) 30 s (-1) 30 = upd q.2.1 s (-1)
    rw [up2_eq, up2_ne _ _ _ (by decide), h4]
  · show va_up x.2.2 s _ = va_up q.2.2.1 s _
    rw [h5, h1 8 (by decide)]
  · show upd x.1 28 (x.1 28 + 1) 28 = nI (q.2.2.2 + 1)
    rw [upd_eq, h6, ← nI_succ]
theorem cap_m (r : Nat) : cap r % 64 = 0 := by unfold cap; (repeat' split) <;> rfl
abbrev ccost (r t : Nat) : Nat := (cap (r + t) - cap r) / 64
abbrev scost (r t : Nat) : Nat := 8 * (cap (r + t) - cap r)
theorem cost_add (r k t : Nat) : ccost r k + ccost (r + k) t = ccost r (k + t) ∧ scost r k + scost (r + k) t = scost r (k + t) := by
  have h1 := cap_mono (r := r) (q := r + k) (by omega)
  have h2 := cap_mono (r := r + k) (q := r + k + t) (by omega)
  have m1 := cap_m r
  have m2 := cap_m (r + k)
  have m3 := cap_m (r + k + t)
  unfold ccost scost
  rw [← Nat.add_assoc]
  constructor <;> omega
theorem cost_le (r : Nat) {k t : Nat} (h : k ≤ t) : ccost r k ≤ ccost r t ∧ scost r k ≤ scost r t := by
  have h1 := cap_mono (r := r) (q := r + k) (by omega)
  have h2 := cap_mono (r := r + k) (q := r + t) (by omega)
  unfold ccost scost
  constructor <;> omega
set_option maxRecDepth 100000 in
set_option maxHeartbeats 4000000 in
theorem c_X8_own (l : Launch) (E : En) (o : Nat) (d : Nat → Nat) (i : Nat → Int32) (a : Nat → Nat → Int32) (ch : Nat → List Rt) (p : Int32) (g : Nat) (hg : g < 10) : Mt l E yX8_own cX8_own 5 (some .int) (rmX 0 0 0 0) [.ref o, .int p, .int (nI g)] (RV E o d i a ch) (fun _ : Unit => some (.int (nI (pkL (ownB a p) g 12).length))) (fun _ => RV E o d i (hpput a (pkL (ownB a p) g 12)) ch) := by
  refine Mt_of (by decide +kernel) (Nat.le_of_ble_eq_true rfl) (fun J O => ?_)
  show J _ 0 0 0 [some (.ref o), some (.int p), some (.int (nI g)), none, none] []
  have loop : ∀ k, k ≤ 12 → J (RV E o d i (hpput a (pkL (ownB a p) g k)) ch) 0 0 8 [some (.ref o), some (.int p), some (.int (nI g)), some (.int (nI (pkL (ownB a p) g k).length)), some (.int (nI (12 * g + k)))] [] := by
    refine up_ind 12 (fun k hk ih => ?_)
    refine x_iload (pc := 8) O dX8_own_8 rfl ?_
    refine x_bipush (v := nI 12) (pc := 10) O dX8_own_10 (by decide) ?_
    refine x_iload_n (pc := 12) O dX8_own_12 rfl ?_
    refine x_iconst (v := 1) (pc := 13) O dX8_own_13 (by decide) ?_
    refine x_iadd (pc := 14) O dX8_own_14 ?_
    refine x_imul (pc := 15) O dX8_own_15 ?_
    rw [m12]
    refine x_icmp_ge (pc := 16) O 61 dX8_own_16 (by decide) (fun c16 => ?_) (fun c16 => ?_)
    · refine x_iload_n (pc := 61) O dX8_own_61 rfl ?_
      have hk2 : k = 12 := by
        rw [nI_leI (by omega) (by omega)] at c16
        omega
      subst hk2
      exact x_ret (v := some (.int _)) (pc := 62) O dX8_own_62 rfl (rfl) ⟨Nat.le_refl _, Nat.le_refl _, (), rfl, fun h hh => hh⟩
    · have hk3 : k < 12 := by
        rw [nI_leI (by omega) (by omega)] at c16
        omega
      have hll := pkL_len (ownB a p) g k
      refine x_aload_n (pc := 19) O dX8_own_19 rfl rfl ?_
      refine v_get (pc := 20) O dX8_own_20 fdX8_62 rfl rfl ?_
      refine x_iload (pc := 23) O dX8_own_23 rfl ?_
      refine v_aldv (k := 29) (v := a 29 (12 * g + k)) (pc := 25) O dX8_own_25 rfl rfl rfl rfl (by show _ < 120; omega) (by rw [hpput_ne _ _ (by decide)]) ?_
      refine x_iload_n (pc := 26) O dX8_own_26 rfl ?_
      refine x_icmp_ne (pc := 27) O 55 dX8_own_27 (by decide) (fun c27 => ?_) (fun c27 => ?_)
      · refine x_iinc (v := nI (12 * g + (k + 1))) (pc := 55) O dX8_own_55 rfl (nI_succ (12 * g + k)).symm rfl ?_
        refine x_goto (pc := 58) O 8 dX8_own_58 (by decide) ?_
        have hL : pkL (ownB a p) g (k + 1) = pkL (ownB a p) g k := pkL_f (by simp only [ownB, decide_eq_true_eq]; exact fun z => c27 z.1)
        rw [hL] at ih
        exact ih (by omega)
      · refine x_aload_n (pc := 30) O dX8_own_30 rfl rfl ?_
        refine v_get (pc := 31) O dX8_own_31 fdX8_65 rfl rfl ?_
        refine x_iload (pc := 34) O dX8_own_34 rfl ?_
        refine v_aldv (k := 30) (v := a 30 (12 * g + k)) (pc := 36) O dX8_own_36 rfl rfl rfl rfl (by show _ < 120; omega) (by rw [hpput_ne _ _ (by decide)]) ?_
        refine x_iconst (v := (-1)) (pc := 37) O dX8_own_37 (by decide) ?_
        refine x_icmp_eq (pc := 38) O 44 dX8_own_38 (by decide) (fun c38 => ?_) (fun c38 => ?_)
        · refine x_aload_n (pc := 44) O dX8_own_44 rfl rfl ?_
          refine v_get (pc := 45) O dX8_own_45 fdX8_92 rfl rfl ?_
          refine x_iload_n (pc := 48) O dX8_own_48 rfl ?_
          refine x_iload (pc := 49) O dX8_own_49 rfl ?_
          refine v_ast (k := 43) (pc := 51) O dX8_own_51 rfl rfl rfl rfl (by show _ < 12; omega) ?_
          refine x_iinc (v := nI ((pkL (ownB a p) g k).length + 1)) (pc := 52) O dX8_own_52 rfl (nI_succ _).symm rfl ?_
          refine x_iinc (v := nI (12 * g + (k + 1))) (pc := 55) O dX8_own_55 rfl (nI_succ (12 * g + k)).symm rfl ?_
          refine x_goto (pc := 58) O 8 dX8_own_58 (by decide) ?_
          have hL : pkL (ownB a p) g (k + 1) = pkL (ownB a p) g k ++ [12 * g + k] := pkL_t (by simp only [ownB, decide_eq_true_eq]; exact ⟨c27, c38⟩)
          rw [hL, ← hpput_app, List.length_append] at ih
          exact ih (by omega)
        · refine x_goto (pc := 41) O 55 dX8_own_41 (by decide) ?_
          refine x_iinc (v := nI (12 * g + (k + 1))) (pc := 55) O dX8_own_55 rfl (nI_succ (12 * g + k)).symm rfl ?_
          refine x_goto (pc := 58) O 8 dX8_own_58 (by decide) ?_
          have hL : pkL (ownB a p) g (k + 1) = pkL (ownB a p) g k := pkL_f (by simp only [ownB, decide_eq_true_eq]; exact fun z => c38 z.2)
          rw [hL] at ih
          exact ih (by omega)
  refine x_iconst (v := nI 0) (pc := 0) O dX8_own_0 (by decide) ?_
  refine x_istore_n (pc := 1) O dX8_own_1 (by decide) rfl ?_
  refine x_bipush (v := nI 12) (pc := 2) O dX8_own_2 (by decide) ?_
  refine x_iload_n (pc := 4) O dX8_own_4 rfl ?_
  refine x_imul (pc := 5) O dX8_own_5 ?_
  rw [show nI 12 * nI g = nI (12 * g + 0) from pk_mul 12 g]
  refine x_istore (pc := 6) O dX8_own_6 (by decide) rfl ?_
  have h0 := loop 0 (by omega)
  rw [show pkL (ownB a p) g 0 = [] from rfl, hpput_nil] at h0
  exact h0
abbrev mvC (a : Ar) (hd n fr : Int32) : Prop := (0 ≤ hd ∧ hd ≤ 9) ∧ 1 ≤ n ∧ n ≤ nI (pkL (ownB a fr) hd.toNatClampNeg 12).length
def mvN (a : Ar) (hd n fr : Int32) : Nat := if mvC a hd n fr then n.toNatClampNeg else 0
def mvE (a : Ar) (hd n fr to how : Int32) : List (Nat × Int32 × Int32) := ((pkL (ownB a fr) hd.toNatClampNeg 12).take (mvN a hd n fr)).map (fun s => (s, to, how))
theorem mvE_len (a : Ar) (hd n fr to how : Int32) : (mvE a hd n fr to how).length = mvN a hd n fr := by
  unfold mvE
  rw [List.length_map, List.length_take]
  unfold mvN
  split
  · rename_i h
    obtain ⟨h1, h2, h3⟩ := h
    have hl := pkL_len (ownB a fr) hd.toNatClampNeg 12
    obtain ⟨j, hj, rfl⟩ := nI_of (x := n) (Int32.not_lt.mpr (Int32.le_trans (by decide) h2))
    rw [nI_leI hj (by omega)] at h3
    rw [nI_clamp hj]
    omega
  · simp
theorem take_map_s (L : List Nat) (to how : Int32) {k : Nat} (hk : k < L.length) : (L.take (k + 1)).map (fun s => (s, to, how)) = (L.take k).map (fun s => (s, to, how)) ++ [(L.getD k 0, to, how)] := by
  rw [List.take_succ_eq_append_getElem hk, List.map_append]
  simp [List.getD, hk]
theorem take_map_len (L : List Nat) (to how : Int32) {k : Nat} (hk : k ≤ L.length) : ((L.take k).map (fun s => (s, to, how))).length = k := by
  rw [List.length_map, List.length_take]
  omega
def mvQ (i : Nat → Int32) (a : Ar) (q : Ls) (x : (Nat → Int32) × Ar × (Nat → List Rt)) : Prop := ∃ L, LsIs i (hpput a L) q x
set_option maxRecDepth 100000 in
set_option maxHeartbeats 4000000 in
theorem c_X8_moves (l : Launch) (E : En) (o : Nat) (d : Nat → Nat) (i : Nat → Int32) (a : Nat → Nat → Int32) (ch : Nat → List Rt) (hd n fr to how : Int32) {r : Nat} (hr : i 28 = nI r) (hr2 : r + 12 ≤ 61560) : Mt l E yX8_moves cX8_moves 8 (some .boolean) (rmX 2 45 (ccost r (mvN a hd n fr)) (scost r (mvN a hd n fr))) [.ref o, .int hd, .int n, .int fr, .int to, .int how] (RV E o d i a ch) (fun _ : (Nat → Int32) × Ar × (Nat → List Rt) => some (.int (b2i (mvC a hd n fr)))) (fun x h => mvQ i a (cmL (i 8) (lsOf a ch r) (mvE a hd n fr to how)) x ∧ RV E o d x.1 x.2.1 x.2.2 h) := by
  refine Mt_of (by decide +kernel) (Nat.le_of_ble_eq_true rfl) (fun J O => ?_)
  show J _ 0 0 0 [some (.ref o), some (.int hd), some (.int n), some (.int fr), some (.int to), some (.int how), none, none] []
  refine x_iload_n (pc := 0) O dX8_moves_0 rfl ?_
  refine x_iconst (v := 0) (pc := 1) O dX8_moves_1 (by decide) ?_
  refine x_bipush (v := 9) (pc := 2) O dX8_moves_2 (by decide) ?_
  refine x_callS (pc := 4) (rest := _) O (c_X8_in l E _ _ _ _) dX8_moves_4 cbX8_103 sm_yX8_in rfl rfl (Nat.le_of_ble_eq_true rfl) ⟨Nat.le_of_ble_eq_true rfl, Nat.le_of_ble_eq_true rfl⟩ ⟨Nat.zero_le _, Nat.zero_le _⟩ (fun _ => ?_)
  dsimp only [Option.toList, List.append, List.nil_append, List.cons_append, Nat.add_zero, Nat.reduceAdd]
  refine x_if_ne (pc := 7) O 12 dX8_moves_7 (by decide) (fun c7 => ?_) (fun c7 => ?_)
  · have hg := in_nat (m := 10) (x := nI 10) (p := hd) rfl (by decide) ⟨(b2i_n0 c7).1, by rw [show nI 10 - 1 = 9 from by decide]; exact (b2i_n0 c7).2⟩
    obtain ⟨g, hg10, rfl⟩ : ∃ g, g < 10 ∧ hd = nI g := ⟨_, hg.2, hg.1⟩
    have hll := pkL_len (ownB a fr) g 12
    refine x_aload_n (pc := 12) O dX8_moves_12 rfl rfl ?_
    refine x_iload_n (pc := 13) O dX8_moves_13 rfl ?_
    refine x_iload_n (pc := 14) O dX8_moves_14 rfl ?_
    refine x_callV (pc := 15) (rest := _) (ci := 8) O (c_X8_own l E o d i a ch fr g hg10) dX8_moves_15 cbX8_194 im_yX8_own se_yX8_own rfl v_recv rfl rfl (Nat.le_of_ble_eq_true rfl) ⟨Nat.le_of_ble_eq_true rfl, Nat.le_of_ble_eq_true rfl⟩ ⟨Nat.zero_le _, Nat.zero_le _⟩ (fun _ => ?_)
    dsimp only [Option.toList, List.append, List.nil_append, List.cons_append, Nat.add_zero, Nat.reduceAdd]
    refine x_istore (pc := 18) O dX8_moves_18 (by decide) rfl ?_
    refine x_iload_n (pc := 20) O dX8_moves_20 rfl ?_
    refine x_iconst (v := 1) (pc := 21) O dX8_moves_21 (by decide) ?_
    refine x_iload (pc := 22) O dX8_moves_22 rfl ?_
    refine x_callS (pc := 24) (rest := _) O (c_X8_in l E _ _ _ _) dX8_moves_24 cbX8_103 sm_yX8_in rfl rfl (Nat.le_of_ble_eq_true rfl) ⟨Nat.le_of_ble_eq_true rfl, Nat.le_of_ble_eq_true rfl⟩ ⟨Nat.zero_le _, Nat.zero_le _⟩ (fun _ => ?_)
    dsimp only [Option.toList, List.append, List.nil_append, List.cons_append, Nat.add_zero, Nat.reduceAdd]
    refine x_if_ne (pc := 27) O 32 dX8_moves_27 (by decide) (fun c27 => ?_) (fun c27 => ?_)
    · refine x_iconst (v := nI 0) (pc := 32) O dX8_moves_32 (by decide) ?_
      refine x_istore (pc := 33) O dX8_moves_33 (by decide) rfl ?_
      obtain ⟨nn, hnn, rfl⟩ := nI_of (x := n) (Int32.not_lt.mpr (Int32.le_trans (by decide) (b2i_n0 c27).1))
      have hnl : nn ≤ (pkL (ownB a fr) g 12).length := by
        have z := (b2i_n0 c27).2
        rw [nI_leI hnn (by omega)] at z
        exact z
      have hc9 : mvC a (nI g) (nI nn) fr := ⟨b2i_n0 c7, (b2i_n0 c27).1, by rw [nI_clamp (by omega)]; exact (b2i_n0 c27).2⟩
      have hN : mvN a (nI g) (nI nn) fr = nn := by unfold mvN; rw [if_pos hc9, nI_clamp hnn]
      have loop : ∀ k, k ≤ nn → ∀ x, LsIs i (hpput a (pkL (ownB a fr) g 12)) (cmL (i 8) (lsOf a ch r) (((pkL (ownB a fr) g 12).take k).map (fun s => (s, to, how)))) x → J (RV E o d x.1 x.2.1 x.2.2) (ccost r k) (scost r k) 35 [some (.ref o), some (.int (nI g)), some (.int (nI nn)), some (.int fr), some (.int to), some (.int how), some (.int (nI (pkL (ownB a fr) g 12).length)), some (.int (nI k))] [] := by
        refine up_ind (Φ := fun k => ∀ x, LsIs i (hpput a (pkL (ownB a fr) g 12)) (cmL (i 8) (lsOf a ch r) (((pkL (ownB a fr) g 12).take k).map (fun s => (s, to, how)))) x → J (RV E o d x.1 x.2.1 x.2.2) (ccost r k) (scost r k) 35 [some (.ref o), some (.int (nI g)), some (.int (nI nn)), some (.int fr), some (.int to), some (.int how), some (.int (nI (pkL (ownB a fr) g 12).length)), some (.int (nI k))] []) nn (fun k hk ih x hx => ?_)
        refine x_iload (pc := 35) O dX8_moves_35 rfl ?_
        refine x_iload_n (pc := 37) O dX8_moves_37 rfl ?_
        refine x_icmp_ge (pc := 38) O 62 dX8_moves_38 (by decide) (fun c38 => ?_) (fun c38 => ?_)
        · refine x_iconst (v := 1) (pc := 62) O dX8_moves_62 (by decide) ?_
          have hk2 : k = nn := by
            rw [nI_leI (by omega) (by omega)] at c38
            omega
          subst hk2
          refine x_ret (v := some (.int _)) (pc := 63) O dX8_moves_63 rfl rfl ⟨by rw [hN]; exact Nat.le_refl _, by rw [hN]; exact Nat.le_refl _, x, congrArg (fun z => some (Value.int z)) (b2i_t hc9).symm, fun h hh => ⟨⟨(pkL (ownB a fr) g 12), ?_⟩, hh⟩⟩
          unfold mvE
          rw [hN, nI_clamp (by omega)]
          exact hx
        · have hk3 : k < nn := by
            rw [nI_leI (by omega) (by omega)] at c38
            omega
          have hk4 : k < (pkL (ownB a fr) g 12).length := by omega
          have hs4 : (pkL (ownB a fr) g 12).getD k 0 < 120 := by
            have hm : (pkL (ownB a fr) g 12).getD k 0 ∈ (pkL (ownB a fr) g 12) := by
              rw [List.getD_eq_getElem?_getD, List.getElem?_eq_getElem hk4]; exact List.getElem_mem _
            have := (pkL_mem hm).1
            omega
          refine x_aload_n (pc := 41) O dX8_moves_41 rfl rfl ?_
          refine x_aload_n (pc := 42) O dX8_moves_42 rfl rfl ?_
          refine v_get (pc := 43) O dX8_moves_43 fdX8_92 rfl rfl ?_
          refine x_iload (pc := 46) O dX8_moves_46 rfl ?_
          refine v_aldv (k := 43) (v := nI ((pkL (ownB a fr) g 12).getD k 0)) (pc := 48) O dX8_moves_48 rfl rfl rfl rfl (by show _ < 12; omega) (by rw [hx.2.1 43 (by decide) (by decide)]; exact hpput_get _ _ hk4) ?_
          refine x_iload (pc := 49) O dX8_moves_49 rfl ?_
          refine x_iload (pc := 51) O dX8_moves_51 rfl ?_
          have hc0 := cost_add r k 1
          have hc1 := cost_le r (k := k + 1) (t := nn) (by omega)
          refine x_callV (pc := 53) (rest := []) (ci := 8) O (c_X8_comes l E o d x.1 x.2.1 x.2.2 ((pkL (ownB a fr) g 12).getD k 0) to how (r := r + k) hs4 (by rw [hx.2.2.2.2.2, cmL_n, take_map_len _ _ _ (by omega)]; rfl) (by omega)) dX8_moves_53 cbX8_95 im_yX8_comes se_yX8_comes rfl v_recv rfl rfl (Nat.le_of_ble_eq_true rfl) ⟨Nat.le_of_ble_eq_true rfl, Nat.le_of_ble_eq_true rfl⟩ ⟨by rw [hN]; exact Nat.le_trans (Nat.le_of_eq hc0.1) hc1.1, by rw [hN]; exact Nat.le_trans (Nat.le_of_eq hc0.2) hc1.2⟩ (fun _ => ?_)
          refine x_widen O (ce' := ccost r (k + 1)) (sl' := scost r (k + 1)) (Nat.le_of_eq hc0.1) (Nat.le_of_eq hc0.2) ?_
          dsimp only [Option.toList, List.append, List.nil_append, List.cons_append, Nat.add_zero, Nat.reduceAdd]
          refine x_iinc (v := nI (k + 1)) (pc := 56) O dX8_moves_56 rfl (nI_succ k).symm rfl ?_
          refine x_goto (pc := 59) O 35 dX8_moves_59 (by decide) ?_
          exact ih (by omega) (_, _, _) (by rw [take_map_s (pkL (ownB a fr) g 12) to how hk4, cmL_app]; exact hx.come _ _ _)
      refine x_widen O (ce' := ccost r 0) (sl' := scost r 0) (Nat.zero_le _) (Nat.zero_le _) ?_
      exact loop 0 (Nat.zero_le _) (i, (hpput a (pkL (ownB a fr) g 12)), ch) ⟨fun _ _ => rfl, fun _ _ _ => rfl, hpput_ne (k := 29) a (pkL (ownB a fr) g 12) (by decide), hpput_ne (k := 30) a (pkL (ownB a fr) g 12) (by decide), rfl, hr⟩
    · refine x_iconst (v := 0) (pc := 30) O dX8_moves_30 (by decide) ?_
      have hc9 : ¬ mvC a (nI g) n fr := fun z => b2i_z c27 (by have z2 := z.2; rw [nI_clamp (by omega)] at z2; exact z2)
      have hN : mvN a (nI g) n fr = 0 := if_neg hc9
      refine x_ret (v := some (.int _)) (pc := 31) O dX8_moves_31 rfl rfl ⟨Nat.zero_le _, Nat.zero_le _, (i, (hpput a (pkL (ownB a fr) g 12)), ch), congrArg (fun z => some (Value.int z)) (b2i_f hc9).symm, fun h hh => ⟨⟨(pkL (ownB a fr) g 12), ⟨fun _ _ => rfl, fun _ _ _ => rfl, ?_⟩⟩, hh⟩⟩
      unfold mvE
      rw [hN]
      exact ⟨hpput_ne (k := 29) a (pkL (ownB a fr) g 12) (by decide), hpput_ne (k := 30) a (pkL (ownB a fr) g 12) (by decide), rfl, hr⟩
  · refine x_iconst (v := 0) (pc := 10) O dX8_moves_10 (by decide) ?_
    have hc9 : ¬ mvC a hd n fr := fun z => b2i_z c7 z.1
    have hN : mvN a hd n fr = 0 := if_neg hc9
    refine x_ret (v := some (.int _)) (pc := 11) O dX8_moves_11 rfl rfl ⟨Nat.zero_le _, Nat.zero_le _, (i, a, ch), congrArg (fun z => some (Value.int z)) (b2i_f hc9).symm, fun h hh => ⟨⟨[], ⟨fun _ _ => rfl, fun _ _ _ => (congrFun (hpput_nil a) _).symm, ?_⟩⟩, hh⟩⟩
    unfold mvE
    rw [hN]
    exact ⟨rfl, rfl, rfl, hr⟩
def grN (i : Nat → Int32) (a : Ar) (hd n p : Int32) : Nat := if lvP i a p then mvN a hd n (-1) else 0
def grE (i : Nat → Int32) (a : Ar) (hd n p : Int32) : List (Nat × Int32 × Int32) := if lvP i a p then mvE a hd n (-1) p 1 else []
set_option maxRecDepth 100000 in
set_option maxHeartbeats 4000000 in
theorem c_X8_grant (l : Launch) (E : En) (o : Nat) (d : Nat → Nat) (i : Nat → Int32) (a : Nat → Nat → Int32) (ch : Nat → List Rt) (hd n p : Int32) {m : Nat} (hm : i 22 = nI m) (h60 : m ≤ 60) {r : Nat} (hr : i 28 = nI r) (hr2 : r + 12 ≤ 61560) : Mt l E yX8_grant cX8_grant 4 (some .boolean) (rmX 3 72 (ccost r (grN i a hd n p)) (scost r (grN i a hd n p))) [.ref o, .int hd, .int n, .int p] (RV E o d i a ch) (fun _ : (Nat → Int32) × Ar × (Nat → List Rt) => some (.int (b2i (lvP i a p ∧ mvC a hd n (-1))))) (fun x h => mvQ i a (cmL (i 8) (lsOf a ch r) (grE i a hd n p)) x ∧ RV E o d x.1 x.2.1 x.2.2 h) := by
  refine Mt_of (by decide +kernel) (Nat.le_of_ble_eq_true rfl) (fun J O => ?_)
  show J _ 0 0 0 [some (.ref o), some (.int hd), some (.int n), some (.int p)] []
  refine x_aload_n (pc := 0) O dX8_grant_0 rfl rfl ?_
  refine x_iload_n (pc := 1) O dX8_grant_1 rfl ?_
  refine x_callV (pc := 2) (rest := _) (ci := 8) O (c_X8_lives l E _ _ _ _ _ _ hm h60) dX8_grant_2 cbX8_188 im_yX8_lives se_yX8_lives rfl v_recv rfl rfl (Nat.le_of_ble_eq_true rfl) ⟨Nat.le_of_ble_eq_true rfl, Nat.le_of_ble_eq_true rfl⟩ ⟨Nat.zero_le _, Nat.zero_le _⟩ (fun _ => ?_)
  dsimp only [Option.toList, List.append, List.nil_append, List.cons_append, Nat.add_zero, Nat.reduceAdd]
  refine x_if_eq (pc := 5) O 24 dX8_grant_5 (by decide) (fun c5 => ?_) (fun c5 => ?_)
  · refine x_iconst (v := 0) (pc := 24) O dX8_grant_24 (by decide) ?_
    have hc8 : ¬ lvP i a p := b2i_z c5
    refine x_ret (v := some (.int _)) (pc := 25) O dX8_grant_25 rfl rfl ⟨Nat.zero_le _, Nat.zero_le _, (i, a, ch), congrArg (fun z => some (Value.int z)) (b2i_f (fun z => hc8 z.1)).symm, fun h hh => ⟨?_, hh⟩⟩
    unfold grE
    rw [if_neg hc8]
    exact ⟨[], fun _ _ => rfl, fun _ _ _ => (congrFun (hpput_nil a) _).symm, rfl, rfl, rfl, hr⟩
  · refine x_aload_n (pc := 8) O dX8_grant_8 rfl rfl ?_
    refine x_iload_n (pc := 9) O dX8_grant_9 rfl ?_
    refine x_iload_n (pc := 10) O dX8_grant_10 rfl ?_
    refine x_iconst (v := (-1)) (pc := 11) O dX8_grant_11 (by decide) ?_
    refine x_iload_n (pc := 12) O dX8_grant_12 rfl ?_
    refine x_iconst (v := 1) (pc := 13) O dX8_grant_13 (by decide) ?_
    refine x_callV (pc := 14) (rest := _) (ci := 8) O (c_X8_moves l E o d i a ch hd n (-1) p 1 hr hr2) dX8_grant_14 cbX8_197 im_yX8_moves se_yX8_moves rfl v_recv rfl rfl (Nat.le_of_ble_eq_true rfl) ⟨Nat.le_of_ble_eq_true rfl, Nat.le_of_ble_eq_true rfl⟩ ⟨by rw [Nat.zero_add, show grN i a hd n p = mvN a hd n (-1) from if_pos (b2i_n0 c5)]; exact Nat.le_refl _, by rw [Nat.zero_add, show grN i a hd n p = mvN a hd n (-1) from if_pos (b2i_n0 c5)]; exact Nat.le_refl _⟩ (fun x => x_pure O (fun hx => ?_))
    rw [Nat.zero_add, Nat.zero_add]
    dsimp only [Option.toList, List.append, List.nil_append, List.cons_append, Nat.add_zero, Nat.reduceAdd]
    refine x_if_eq (pc := 17) O 24 dX8_grant_17 (by decide) (fun c17 => ?_) (fun c17 => ?_)
    · refine x_iconst (v := 0) (pc := 24) O dX8_grant_24 (by decide) ?_
      refine x_ret (v := some (.int _)) (pc := 25) O dX8_grant_25 rfl rfl ⟨Nat.le_of_eq (by show _ = ccost r (grN i a hd n p); unfold grN; rw [if_pos (b2i_n0 c5)]), Nat.le_of_eq (by show _ = scost r (grN i a hd n p); unfold grN; rw [if_pos (b2i_n0 c5)]), x, congrArg (fun z => some (Value.int z)) (b2i_f (fun z => b2i_z c17 z.2)).symm, fun h hh => ⟨?_, hh⟩⟩
      unfold grE
      rw [if_pos (b2i_n0 c5)]
      exact hx
    · refine x_iconst (v := 1) (pc := 20) O dX8_grant_20 (by decide) ?_
      refine x_goto (pc := 21) O 25 dX8_grant_21 (by decide) ?_
      refine x_ret (v := some (.int _)) (pc := 25) O dX8_grant_25 rfl rfl ⟨Nat.le_of_eq (by show _ = ccost r (grN i a hd n p); unfold grN; rw [if_pos (b2i_n0 c5)]), Nat.le_of_eq (by show _ = scost r (grN i a hd n p); unfold grN; rw [if_pos (b2i_n0 c5)]), x, congrArg (fun z => some (Value.int z)) (b2i_t ⟨b2i_n0 c5, b2i_n0 c17⟩).symm, fun h hh => ⟨?_, hh⟩⟩
      unfold grE
      rw [if_pos (b2i_n0 c5)]
      exact hx
abbrev rdP (i : Nat → Int32) (a : Ar) (fr to : Int32) : Prop := lvP i a fr ∧ lvP i a to ∧ ¬ fr = to
def rdN (i : Nat → Int32) (a : Ar) (hd n fr to : Int32) : Nat := if rdP i a fr to then mvN a hd n fr else 0
def rdE (i : Nat → Int32) (a : Ar) (hd n fr to : Int32) : List (Nat × Int32 × Int32) := if rdP i a fr to then mvE a hd n fr to 4 else []
def rdO (i : Nat → Int32) (a : Ar) (hd n fr to : Int32) : Ar := if rdP i a fr to ∧ mvC a hd n fr then up2 a 14 to.toNatClampNeg (a 14 to.toNatClampNeg + n * i 3) else a
set_option maxRecDepth 100000 in
set_option maxHeartbeats 4000000 in
theorem c_X8_rod (l : Launch) (E : En) (o : Nat) (d : Nat → Nat) (i : Nat → Int32) (a : Nat → Nat → Int32) (ch : Nat → List Rt) (hd n fr to : Int32) {m : Nat} (hm : i 22 = nI m) (h60 : m ≤ 60) {r : Nat} (hr : i 28 = nI r) (hr2 : r + 12 ≤ 61560) : Mt l E yX8_rod cX8_rod 5 (some .boolean) (rmX 3 72 (ccost r (rdN i a hd n fr to)) (scost r (rdN i a hd n fr to))) [.ref o, .int hd, .int n, .int fr, .int to] (RV E o d i a ch) (fun _ : (Nat → Int32) × Ar × (Nat → List Rt) => some (.int (b2i (rdP i a fr to ∧ mvC a hd n fr)))) (fun x h => mvQ i (rdO i a hd n fr to) (cmL (i 8) (lsOf a ch r) (rdE i a hd n fr to)) x ∧ RV E o d x.1 x.2.1 x.2.2 h) := by
  refine Mt_of (by decide +kernel) (Nat.le_of_ble_eq_true rfl) (fun J O => ?_)
  show J _ 0 0 0 [some (.ref o), some (.int hd), some (.int n), some (.int fr), some (.int to)] []
  refine x_aload_n (pc := 0) O dX8_rod_0 rfl rfl ?_
  refine x_iload_n (pc := 1) O dX8_rod_1 rfl ?_
  refine x_callV (pc := 2) (rest := _) (ci := 8) O (c_X8_lives l E _ _ _ _ _ _ hm h60) dX8_rod_2 cbX8_188 im_yX8_lives se_yX8_lives rfl v_recv rfl rfl (Nat.le_of_ble_eq_true rfl) ⟨Nat.le_of_ble_eq_true rfl, Nat.le_of_ble_eq_true rfl⟩ ⟨Nat.zero_le _, Nat.zero_le _⟩ (fun _ => ?_)
  dsimp only [Option.toList, List.append, List.nil_append, List.cons_append, Nat.add_zero, Nat.reduceAdd]
  refine x_if_eq (pc := 5) O 36 dX8_rod_5 (by decide) (fun c5 => ?_) (fun c5 => ?_)
  · refine x_iconst (v := 0) (pc := 36) O dX8_rod_36 (by decide) ?_
    have hc8 : ¬ rdP i a fr to := fun z => b2i_z c5 z.1
    refine x_ret (v := some (.int _)) (pc := 37) O dX8_rod_37 rfl rfl ⟨Nat.zero_le _, Nat.zero_le _, (i, a, ch), congrArg (fun z => some (Value.int z)) (b2i_f (fun z => hc8 z.1)).symm, fun h hh => ⟨?_, hh⟩⟩
    unfold rdE rdO
    rw [if_neg hc8, if_neg (fun z => hc8 z.1)]
    exact ⟨[], fun _ _ => rfl, fun _ _ _ => (congrFun (hpput_nil a) _).symm, rfl, rfl, rfl, hr⟩
  · refine x_aload_n (pc := 8) O dX8_rod_8 rfl rfl ?_
    refine x_iload (pc := 9) O dX8_rod_9 rfl ?_
    refine x_callV (pc := 11) (rest := _) (ci := 8) O (c_X8_lives l E _ _ _ _ _ _ hm h60) dX8_rod_11 cbX8_188 im_yX8_lives se_yX8_lives rfl v_recv rfl rfl (Nat.le_of_ble_eq_true rfl) ⟨Nat.le_of_ble_eq_true rfl, Nat.le_of_ble_eq_true rfl⟩ ⟨Nat.zero_le _, Nat.zero_le _⟩ (fun _ => ?_)
    dsimp only [Option.toList, List.append, List.nil_append, List.cons_append, Nat.add_zero, Nat.reduceAdd]
    refine x_if_eq (pc := 14) O 36 dX8_rod_14 (by decide) (fun c14 => ?_) (fun c14 => ?_)
    · refine x_iconst (v := 0) (pc := 36) O dX8_rod_36 (by decide) ?_
      have hc8 : ¬ rdP i a fr to := fun z => b2i_z c14 z.2.1
      refine x_ret (v := some (.int _)) (pc := 37) O dX8_rod_37 rfl rfl ⟨Nat.zero_le _, Nat.zero_le _, (i, a, ch), congrArg (fun z => some (Value.int z)) (b2i_f (fun z => hc8 z.1)).symm, fun h hh => ⟨?_, hh⟩⟩
      unfold rdE rdO
      rw [if_neg hc8, if_neg (fun z => hc8 z.1)]
      exact ⟨[], fun _ _ => rfl, fun _ _ _ => (congrFun (hpput_nil a) _).symm, rfl, rfl, rfl, hr⟩
    · refine x_iload_n (pc := 17) O dX8_rod_17 rfl ?_
      refine x_iload (pc := 18) O dX8_rod_18 rfl ?_
      refine x_icmp_eq (pc := 20) O 36 dX8_rod_20 (by decide) (fun c20 => ?_) (fun c20 => ?_)
      · refine x_iconst (v := 0) (pc := 36) O dX8_rod_36 (by decide) ?_
        have hc8 : ¬ rdP i a fr to := fun z => z.2.2 c20
        refine x_ret (v := some (.int _)) (pc := 37) O dX8_rod_37 rfl rfl ⟨Nat.zero_le _, Nat.zero_le _, (i, a, ch), congrArg (fun z => some (Value.int z)) (b2i_f (fun z => hc8 z.1)).symm, fun h hh => ⟨?_, hh⟩⟩
        unfold rdE rdO
        rw [if_neg hc8, if_neg (fun z => hc8 z.1)]
        exact ⟨[], fun _ _ => rfl, fun _ _ _ => (congrFun (hpput_nil a) _).symm, rfl, rfl, rfl, hr⟩
      · have hc8 : rdP i a fr to := ⟨b2i_n0 c5, b2i_n0 c14, c20⟩
        have hto := in_nat hm (by omega) (b2i_n0 c14).1
        refine x_aload_n (pc := 23) O dX8_rod_23 rfl rfl ?_
        refine x_iload_n (pc := 24) O dX8_rod_24 rfl ?_
        refine x_iload_n (pc := 25) O dX8_rod_25 rfl ?_
        refine x_iload_n (pc := 26) O dX8_rod_26 rfl ?_
        refine x_iload (pc := 27) O dX8_rod_27 rfl ?_
        refine x_iconst (v := 4) (pc := 29) O dX8_rod_29 (by decide) ?_
        refine x_callV (pc := 30) (rest := _) (ci := 8) O (c_X8_moves l E o d i a ch hd n fr to 4 hr hr2) dX8_rod_30 cbX8_197 im_yX8_moves se_yX8_moves rfl v_recv rfl rfl (Nat.le_of_ble_eq_true rfl) ⟨Nat.le_of_ble_eq_true rfl, Nat.le_of_ble_eq_true rfl⟩ ⟨by rw [Nat.zero_add, show rdN i a hd n fr to = mvN a hd n fr from if_pos hc8]; exact Nat.le_refl _, by rw [Nat.zero_add, show rdN i a hd n fr to = mvN a hd n fr from if_pos hc8]; exact Nat.le_refl _⟩ (fun x => x_pure O (fun hx => ?_))
        rw [Nat.zero_add, Nat.zero_add]
        dsimp only [Option.toList, List.append, List.nil_append, List.cons_append, Nat.add_zero, Nat.reduceAdd]
        refine x_if_ne (pc := 33) O 38 dX8_rod_33 (by decide) (fun c33 => ?_) (fun c33 => ?_)
        · have hx14 : x.2.1 14 = a 14 := by
            obtain ⟨L, -, q2, -⟩ := hx
            rw [q2 14 (by decide) (by decide), hpput_ne _ _ (by decide)]
          have hx3 : x.1 3 = i 3 := by
            obtain ⟨L, q1, -⟩ := hx
            exact q1 3 (by decide)
          refine x_aload_n (pc := 38) O dX8_rod_38 rfl rfl ?_
          refine v_get (pc := 39) O dX8_rod_39 fdX8_25 rfl rfl ?_
          refine x_iload (pc := 42) O dX8_rod_42 rfl ?_
          refine x_dup2 (pc := 44) O dX8_rod_44 rfl rfl ?_
          refine v_aldv (k := 14) (v := a 14 to.toNatClampNeg) (pc := 45) O dX8_rod_45 rfl rfl rfl hto.1 (by show _ < 60; omega) (by rw [hx14]) ?_
          refine x_iload_n (pc := 46) O dX8_rod_46 rfl ?_
          refine x_aload_n (pc := 47) O dX8_rod_47 rfl rfl ?_
          refine v_get (pc := 48) O dX8_rod_48 fdX8_145 rfl rfl ?_
          rw [hx3]
          refine x_imul (pc := 51) O dX8_rod_51 ?_
          refine x_iadd (pc := 52) O dX8_rod_52 ?_
          refine v_ast (k := 14) (pc := 53) O dX8_rod_53 rfl rfl rfl hto.1 (by show _ < 60; omega) ?_
          refine x_iconst (v := 1) (pc := 54) O dX8_rod_54 (by decide) ?_
          refine x_ret (v := some (.int _)) (pc := 55) O dX8_rod_55 rfl rfl ⟨Nat.le_of_eq (by show _ = ccost r (rdN i a hd n fr to); unfold rdN; rw [if_pos hc8]), Nat.le_of_eq (by show _ = scost r (rdN i a hd n fr to); unfold rdN; rw [if_pos hc8]), (x.1, up2 x.2.1 14 to.toNatClampNeg (a 14 to.toNatClampNeg + n * i 3), x.2.2), congrArg (fun z => some (Value.int z)) (b2i_t ⟨hc8, b2i_n0 c33⟩).symm, fun h hh => ⟨?_, hh⟩⟩
          unfold rdE rdO
          rw [if_pos hc8, if_pos ⟨hc8, b2i_n0 c33⟩]
          obtain ⟨L, q1, q2, q3, q4, q5, q6⟩ := hx
          refine ⟨L, q1, fun k k1 k2 => ?_, ?_, ?_, q5, q6⟩
          · show up2 x.2.1 14 to.toNatClampNeg (a 14 to.toNatClampNeg + n * i 3) k = hpput (up2 a 14 to.toNatClampNeg (a 14 to.toNatClampNeg + n * i 3)) L k
            by_cases e : k = 14
            · subst e
              rw [up2_eq, hpput_ne _ _ (by decide), up2_eq, q2 14 (by decide) (by decide), hpput_ne _ _ (by decide)]
            · rw [up2_ne _ _ _ e, q2 k k1 k2]
              by_cases e2 : k = 43
              · subst e2
                unfold hpput
                rw [if_pos rfl, if_pos rfl, up2_ne _ _ _ e]
              · rw [hpput_ne _ _ e2, hpput_ne _ _ e2, up2_ne _ _ _ e]
          · show up2 x.2.1 14 to.toNatClampNeg (a 14 to.toNatClampNeg + n * i 3) 29 = _
            rw [up2_ne _ _ _ (by decide)]; exact q3
          · show up2 x.2.1 14 to.toNatClampNeg (a 14 to.toNatClampNeg + n * i 3) 30 = _
            rw [up2_ne _ _ _ (by decide)]; exact q4
        · refine x_iconst (v := 0) (pc := 36) O dX8_rod_36 (by decide) ?_
          refine x_ret (v := some (.int _)) (pc := 37) O dX8_rod_37 rfl rfl ⟨Nat.le_of_eq (by show _ = ccost r (rdN i a hd n fr to); unfold rdN; rw [if_pos hc8]), Nat.le_of_eq (by show _ = scost r (rdN i a hd n fr to); unfold rdN; rw [if_pos hc8]), x, congrArg (fun z => some (Value.int z)) (b2i_f (fun z => b2i_z c33 z.2)).symm, fun h hh => ⟨?_, hh⟩⟩
          unfold rdE rdO
          rw [if_pos hc8, if_neg (fun z => b2i_z c33 z.2)]
          exact hx
