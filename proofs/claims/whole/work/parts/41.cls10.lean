/-! ===== CLS 10: a right more; bringPicked ===== -/
theorem chC_congr {v v' : Nat → Nat → Int32} {rn rn' : Nat → Option Nat} {n : Nat} (hv : ∀ k, k < n → v' k = v k) (hr : ∀ k, k < n → rn' k = rn k) (hd : ∀ k k2, rn k = some k2 → k2 < k) : ∀ f k, k < n → chC v' rn' f k = chC v rn f k
  | 0, _, _ => rfl
  | f + 1, k, hk => by
    simp only [chC]
    rw [hv k hk, hr k hk]
    cases h : rn k with
    | none => rfl
    | some k2 =>
      have := hd k k2 h
      show _ :: chC v' rn' f k2 = _ :: chC v rn f k2
      rw [chC_congr hv hr hd f k2 (by omega)]
theorem chC_fuel {v : Nat → Nat → Int32} {rn : Nat → Option Nat} (hd : ∀ k k2, rn k = some k2 → k2 < k) : ∀ n f k, k ≤ n → k < f → chC v rn f k = chC v rn (k + 1) k
  | 0, f, k, hk, hf => by
    obtain ⟨f, rfl⟩ : ∃ f2, f = f2 + 1 := ⟨f - 1, by omega⟩
    have : k = 0 := by omega
    subst this
    simp only [chC]
    cases h : rn 0 with
    | none => rfl
    | some k2 => have := hd 0 k2 h; omega
  | n + 1, f, k, hk, hf => by
    obtain ⟨f, rfl⟩ : ∃ f2, f = f2 + 1 := ⟨f - 1, by omega⟩
    simp only [chC]
    cases h : rn k with
    | none => rfl
    | some k2 =>
      have := hd k k2 h
      show _ :: chC v rn f k2 = _ :: chC v rn k k2
      rw [chC_fuel hd n f k2 (by omega) (by omega), chC_fuel hd n k k2 (by omega) (by omega)]
def rgV (w how day : Int32) : Nat → Int32 := fun k => if k = 0 then w else if k = 1 then how else day
def hidR (y : Hid) (q s : Nat) (w how day : Int32) : Hid := (va_up y.1 y.2.2.1 q, va_up y.2.1 y.2.2.1 (rgV w how day), y.2.2.1 + 1, va_up y.2.2.2.1 s y.2.2.1, va_up y.2.2.2.2 y.2.2.1 (some (y.2.2.2.1 s)))
theorem CRel.more {y : Hid} {ch : Nat → List Rt} (h : CRel y ch) {s : Nat} (hs : s < 120) (q : Nat) (w how day : Int32) : CRel (hidR y q s w how day) (va_up ch s ((w, how, day) :: ch s)) := by
  obtain ⟨h1, h2, h3⟩ := h
  have hd2 : ∀ k k2, va_up y.2.2.2.2 y.2.2.1 (some (y.2.2.2.1 s)) k = some k2 → k2 < k := fun k k2 e => by
    by_cases c : k = y.2.2.1
    · subst c
      rw [va_up_self] at e
      cases e
      exact h1 s hs
    · rw [va_up_ne _ _ c] at e; exact h2 k k2 e
  have hcg : ∀ f k, k < y.2.2.1 → chC (va_up y.2.1 y.2.2.1 (rgV w how day)) (va_up y.2.2.2.2 y.2.2.1 (some (y.2.2.2.1 s))) f k = chC y.2.1 y.2.2.2.2 f k := chC_congr (fun k hk => va_up_ne _ _ (by omega)) (fun k hk => va_up_ne _ _ (by omega)) h2
  refine ⟨fun s' hs' => ?_, hd2, fun s' hs' => ?_⟩
  · show va_up y.2.2.2.1 s y.2.2.1 s' < y.2.2.1 + 1
    by_cases c : s' = s
    · subst c; rw [va_up_self]; omega
    · rw [va_up_ne _ _ c]; have := h1 s' hs'; omega
  · show va_up ch s ((w, how, day) :: ch s) s' = chC (va_up y.2.1 y.2.2.1 (rgV w how day)) (va_up y.2.2.2.2 y.2.2.1 (some (y.2.2.2.1 s))) (va_up y.2.2.2.1 s y.2.2.1 s' + 1) (va_up y.2.2.2.1 s y.2.2.1 s')
    by_cases c : s' = s
    · subst c
      rw [va_up_self, va_up_self]
      have hlt := h1 s' hs
      simp only [chC]
      rw [va_up_self, va_up_self]
      show _ = _ :: chC _ _ y.2.2.1 (y.2.2.2.1 s')
      rw [hcg _ _ hlt, chC_fuel h2 _ _ _ (Nat.le_refl _) hlt, ← h3 s' hs]
      rfl
    · rw [va_up_ne _ _ c, va_up_ne _ _ c, hcg _ _ (h1 s' hs'), ← h3 s' hs']
theorem CW.addR {E : En} {adr : Nat → Nat → Nat} {V : Nat → Nat → Nat → Int32} {VL : Nat → Nat → Nat → Int64} {m ns : Nat} {ch : Nat → List Rt} {h : HF} {y : Hid} {q s : Nat} {w how day : Int32} (hy : CRel y ch) (hs : s < 120) (H : Nq (CW E (mrg adr y.1) (mrg V y.2.1) VL m ns y.2.2.1 y.2.2.2.1 y.2.2.2.2) q (.inr (5, [.int w, .int how, .int day, .ref (mrg adr y.1 3 (y.2.2.2.1 s))])) h) : CV E adr V VL m ns (va_up ch s ((w, how, day) :: ch s)) (hset h (mrg adr y.1 0 11) (.inl (E.2 3, 120, .inr (.inr (.inr (.inr (va_up (fun s => if s < 120 then some (mrg adr y.1 3 (y.2.2.2.1 s)) else none) s (some q)))))))) := by
  obtain ⟨h0, H, h2, rfl⟩ := H
  refine ⟨hidR y q s w how day, hy.more hs q w how day, ?_⟩
  have hlt := hy.1 s hs
  refine CW.grow 3 y.2.2.1 q _ 0 11 _ H h2 (fun t n hk hn => ⟨?_, ?_⟩) ?_ (by simp [okC, hidR]) rfl rfl (fun z => absurd z.1 (by decide)) ?_ (fun t n hk hn hn2 => ?_) ?_
  · rcases okC_in hk with ⟨rfl, ho⟩ | ⟨rfl, ho⟩ | ⟨rfl, ho⟩ | ⟨rfl, ho⟩ <;> simp [okC] <;> first | exact ho | (have := fun z => hn ⟨rfl, z⟩; simp only [hidR] at ho; omega)
  · by_cases e3 : t = 3
    · subst e3; rw [mrg_3, mrg_3]; exact va_up_ne _ _ (fun z => hn ⟨rfl, z⟩)
    · rw [mrg_ne _ _ _ e3, mrg_ne _ _ _ e3]
  · rw [mrg_3]; exact va_up_self _ _ _
  · show Sum.inl _ = Sum.inl _
    congr 7
    funext p
    by_cases hp : p = s
    · subst hp
      simp only [va_up, if_true]
      rw [if_pos hs]
      show some q = some (mrg adr (va_up y.1 y.2.2.1 q) 3 (va_up y.2.2.2.1 p y.2.2.1 p))
      rw [mrg_3, va_up_self, va_up_self]
    · rw [va_up_ne _ _ hp]
      by_cases hp2 : p < 120
      · rw [if_pos hp2, if_pos hp2]
        show some (mrg adr y.1 3 (y.2.2.2.1 p)) = some (mrg adr (va_up y.1 y.2.2.1 q) 3 (va_up y.2.2.2.1 s y.2.2.1 p))
        have := hy.1 p hp2
        rw [mrg_3, mrg_3, va_up_ne _ _ hp, va_up_ne _ _ (by omega)]
      · rw [if_neg hp2, if_neg hp2]
  · rcases okC_in hk with ⟨rfl, ho⟩ | ⟨rfl, ho⟩ | ⟨rfl, ho⟩ | ⟨rfl, ho⟩
    · rcases okS_t n ho with rfl | rfl | rfl | rfl | rfl | rfl | rfl | rfl | rfl | rfl | rfl <;> first | rfl | exact absurd ⟨rfl, rfl⟩ hn | exact absurd ⟨rfl, rfl⟩ hn2
    · rfl
    · rfl
    · have hne : n ≠ y.2.2.1 := fun z => hn ⟨rfl, z⟩
      have hlt2 : n < y.2.2.1 := by simp only [hidR] at ho; omega
      show cellC E (mrg adr (va_up y.1 y.2.2.1 q)) (mrg V (va_up y.2.1 y.2.2.1 (rgV w how day)) 3 n) _ m ns _ (va_up y.2.2.2.2 y.2.2.1 (some (y.2.2.2.1 s))) 3 n = cellC E (mrg adr y.1) (mrg V y.2.1 3 n) _ m ns _ y.2.2.2.2 3 n
      rw [mrg_3, mrg_3, va_up_ne _ _ hne]
      show Sum.inr (5, [_, _, _, va_rf ((va_up y.2.2.2.2 y.2.2.1 (some (y.2.2.2.1 s)) n).map (mrg adr (va_up y.1 y.2.2.1 q) 3))]) = Sum.inr (5, [_, _, _, va_rf ((y.2.2.2.2 n).map (mrg adr y.1 3))])
      rw [va_up_ne _ _ hne]
      cases hr : y.2.2.2.2 n with
      | none => rfl
      | some k2 =>
        have := hy.2.1 n k2 hr
        show Sum.inr (5, [_, _, _, va_rf (some (mrg adr (va_up y.1 y.2.2.1 q) 3 k2))]) = Sum.inr (5, [_, _, _, va_rf (some (mrg adr y.1 3 k2))])
        rw [mrg_3, mrg_3, va_up_ne _ _ (by omega)]
  · show _ = cellC E (mrg adr (va_up y.1 y.2.2.1 q)) (mrg V (va_up y.2.1 y.2.2.1 (rgV w how day)) 3 y.2.2.1) _ m ns _ (va_up y.2.2.2.2 y.2.2.1 (some (y.2.2.2.1 s))) 3 y.2.2.1
    rw [show mrg V (va_up y.2.1 y.2.2.1 (rgV w how day)) 3 y.2.2.1 = rgV w how day from by rw [mrg_3, va_up_self]]
    show _ = Sum.inr (5, [_, _, _, va_rf ((va_up y.2.2.2.2 y.2.2.1 (some (y.2.2.2.1 s)) y.2.2.1).map (mrg adr (va_up y.1 y.2.2.1 q) 3))])
    rw [va_up_self]
    show _ = Sum.inr (5, [_, _, _, va_rf (some (mrg adr (va_up y.1 y.2.2.1 q) 3 (y.2.2.2.1 s)))])
    rw [mrg_3, mrg_3, va_up_ne _ _ (by omega)]
    rfl
theorem cv_addR {l : Launch} {E : En} {cc : ByteArray} {own nm : String} {nL : Nat} {R : Room} {ret : Option FieldType} {Fn : Ft} {J : Jt} (O : Ok l E cc own nm nL R ret Fn J) {pc : Nat} {adr : Nat → Nat → Nat} {V : Nat → Nat → Nat → Int32} {VL : Nat → Nat → Nat → Int64} {m ns : Nat} {ch : Nat → List Rt} {y : Hid} {q s : Nat} {w how day : Int32} {ce sl : Nat} {lv : LV} {st : List Value} (dd : decode cc pc = .ok (.aastore, 1)) (hy : CRel y ch) (hs : s < 120) (kk : J (CV E adr V VL m ns (va_up ch s ((w, how, day) :: ch s))) ce sl (pc + 1) lv st) : J (Nq (CW E (mrg adr y.1) (mrg V y.2.1) VL m ns y.2.2.1 y.2.2.2.1 y.2.2.2.2) q (.inr (5, [.int w, .int how, .int day, .ref (mrg adr y.1 3 (y.2.2.2.1 s))]))) ce sl pc lv (.ref q :: .int (nI s) :: .ref (mrg adr y.1 0 11) :: st) := by
  refine x_aast (t0 := 3) (ci := 5) (r := (RX5, TX5, 4)) O dd rfl rfl (fun h H => ⟨120, (fun s => if s < 120 then some (mrg adr y.1 3 (y.2.2.2.1 s)) else none), _, ?_, H.at, ?_, ?_⟩) kk
  · obtain ⟨h0, H, h2, rfl⟩ := H
    exact (H.more h2).1.1 0 11 rfl
  · intro h9
    rw [nI_clamp (by omega)] at h9
    rcases h9 with h9 | h9
    · exact nI_pos (by omega) h9
    · omega
  · rw [nI_clamp (by omega)]; exact CW.addR hy hs H
def clL (now : Int32) (ch : Nat → List Rt) (l : List (Nat × Int32 × Int32)) : Nat → List Rt := l.foldl (fun c e => va_up c e.1 ((e.2.1, e.2.2, now) :: c e.1)) ch
theorem clL_app (now : Int32) (ch : Nat → List Rt) (l : List (Nat × Int32 × Int32)) (e : Nat × Int32 × Int32) : clL now ch (l ++ [e]) = va_up (clL now ch l) e.1 ((e.2.1, e.2.2, now) :: clL now ch l e.1) := by simp [clL]
theorem clL_app2 (now : Int32) (ch : Nat → List Rt) (l l2 : List (Nat × Int32 × Int32)) : clL now ch (l ++ l2) = clL now (clL now ch l) l2 := by simp [clL]
theorem take_step {l : List Nat} {fr k : Nat} (hf : fr ≤ k) (hk : k < l.length) : (l.take (k + 1)).drop fr = (l.take k).drop fr ++ [l.getD k 0] := by
  rw [List.take_succ_eq_append_getElem hk, List.drop_append]
  have : fr - (l.take k).length = 0 := by simp; omega
  rw [this]
  simp [List.getD, hk]
set_option maxRecDepth 100000 in
set_option maxHeartbeats 4000000 in
theorem c_X2_bringPicked (l : Launch) (E : En) (adr : Nat → Nat → Nat) (V : Nat → Nat → Nat → Int32) (VL : Nat → Nat → Nat → Int64) (m ns : Nat) (ch : Nat → List Rt) (L : List Nat) (fr t r : Nat) (w how day : Int32) (hL : V 0 2 3 = nI L.length) (hP : ∀ t, t < L.length → V 0 13 t = nI (L.getD t 0)) (hl12 : L.length ≤ 12) (h120 : ∀ s ∈ L, s < 120) (hfr : fr ≤ t) (ht : t ≤ L.length) (hr : V 0 2 1 = nI r) (hr2 : r + (t - fr) ≤ 61560) : Mt l E yX2_bringPicked cX2_bringPicked 9 none (rmX 2 48 (t - fr) (4 * (t - fr))) [.ref (adr 0 2), .int (nI fr), .int (nI t), .int w, .int how, .int day] (CV E adr V VL m ns ch) (fun _ : Unit => none) (fun _ => CV E adr (up3 V 0 2 1 (nI (r + (t - fr)))) VL m ns (clL day ch (((L.take t).drop fr).map (fun s => (s, w, how))))) := by
  refine Mt_of (by decide +kernel) (Nat.le_of_ble_eq_true rfl) (fun J O => ?_)
  show J _ 0 0 0 [some (.ref (adr 0 2)), some (.int (nI fr)), some (.int (nI t)), some (.int w), some (.int how), some (.int day), none, none, none] []
  have loop : ∀ k, k ≤ t → fr ≤ k → J (CV E adr (up3 V 0 2 1 (nI (r + (k - fr)))) VL m ns (clL day ch (((L.take k).drop fr).map (fun s => (s, w, how))))) (k - fr) (4 * (k - fr)) 7 [some (.ref (adr 0 2)), some (.int (nI fr)), some (.int (nI t)), some (.int w), some (.int how), some (.int day), some (.int (nI k)), none, none] [] := by
    refine up_ind (Φ := fun k => fr ≤ k → J (CV E adr (up3 V 0 2 1 (nI (r + (k - fr)))) VL m ns (clL day ch (((L.take k).drop fr).map (fun s => (s, w, how))))) (k - fr) (4 * (k - fr)) 7 [some (.ref (adr 0 2)), some (.int (nI fr)), some (.int (nI t)), some (.int w), some (.int how), some (.int day), some (.int (nI k)), none, none] []) t (fun k hk ih hfk => ?_)
    refine x_iload (pc := 7) O dX2_bringPicked_7 rfl ?_
    refine x_iload_n (pc := 9) O dX2_bringPicked_9 rfl ?_
    refine x_icmp_ge (pc := 10) O 100 dX2_bringPicked_10 (by decide) (fun c10 => ?_) (fun c10 => ?_)
    · have hk3 : k = t := by
        rw [nI_leI (by omega) (by omega)] at c10
        omega
      subst hk3
      exact x_ret (v := none) (pc := 100) O dX2_bringPicked_100 rfl trivial ⟨Nat.le_refl _, Nat.le_refl _, (), rfl, fun h hh => hh⟩
    · have hk3 : k < t := by
        rw [nI_leI (by omega) (by omega)] at c10
        omega
      have hs3 : L.getD k 0 < 120 := h120 _ (getD_mem (by omega))
      refine x_iload (pc := 13) O dX2_bringPicked_13 rfl ?_
      refine x_aload_n (pc := 15) O dX2_bringPicked_15 rfl rfl ?_
      refine cv_get (t := 0) (n := 2) (pc := 16) O dX2_bringPicked_16 fdX2_28 rfl rfl rfl ?_
      rw [show (up3 V 0 2 1 (nI (r + (k - fr)))) 0 2 3 = nI L.length from by rw [up3_eq, va_up_ne _ _ (by decide)]; exact hL]
      refine x_icmp_ge (pc := 19) O 100 dX2_bringPicked_19 (by decide) (fun c19 => ?_) (fun c19 => ?_)
      · exact absurd c19 (by rw [nI_leI (by omega) (by omega)]; omega)
      · refine x_iload (pc := 22) O dX2_bringPicked_22 rfl ?_
        refine x_aload_n (pc := 24) O dX2_bringPicked_24 rfl rfl ?_
        refine cv_get (t := 0) (n := 2) (pc := 25) O dX2_bringPicked_25 fdX2_21 rfl rfl rfl ?_
        refine cv_alen (n := 13) (pc := 28) O dX2_bringPicked_28 (by decide) ?_
        rw [show arrN 13 = 12 from rfl]
        refine x_icmp_ge (pc := 29) O 100 dX2_bringPicked_29 (by decide) (fun c29 => ?_) (fun c29 => ?_)
        · exact absurd c29 (by rw [nI_leI (by omega) (by omega)]; omega)
        · refine x_aload_n (pc := 32) O dX2_bringPicked_32 rfl rfl ?_
          refine cv_get (t := 0) (n := 2) (pc := 33) O dX2_bringPicked_33 fdX2_21 rfl rfl rfl ?_
          refine x_iload (pc := 36) O dX2_bringPicked_36 rfl ?_
          refine cv_ald (n := 13) (pc := 38) O dX2_bringPicked_38 (by decide) rfl (by show _ < 12; omega) (by omega) ?_
          rw [show (up3 V 0 2 1 (nI (r + (k - fr)))) 0 13 k = nI (L.getD k 0) from by rw [up3_ne _ _ _ (fun z => absurd z.2 (by decide))]; exact hP k (by omega)]
          refine x_istore (pc := 39) O dX2_bringPicked_39 (by decide) rfl ?_
          refine cv_open O (fun y hy => ?_)
          refine x_aload_n (pc := 41) O dX2_bringPicked_41 rfl rfl ?_
          refine x_iload (pc := 42) O dX2_bringPicked_42 rfl ?_
          show J _ _ _ _ _ (.int (nI (L.getD k 0)) :: .ref (mrg adr y.1 0 2) :: [])
          refine x_callV (pc := 44) (rest := []) (ci := 2) O (c_X2_find l E _ _ _ _ _ _ _ _ (L.getD k 0) hs3) dX2_bringPicked_44 cbX2_31 im_yX2_find se_yX2_find rfl (c_recv (t := 0) (n := 2) rfl rfl) rfl rfl (Nat.le_of_ble_eq_true rfl) ⟨Nat.le_of_ble_eq_true rfl, Nat.le_of_ble_eq_true rfl⟩ ⟨by simp only [rmX]; omega, by simp only [rmX]; omega⟩ (fun _ => ?_)
          dsimp only [Option.toList, List.append, List.nil_append, List.cons_append, Nat.add_zero, Nat.reduceAdd]
          refine x_astore (pc := 47) O dX2_bringPicked_47 (by decide) rfl rfl ?_
          refine x_aload (pc := 49) O dX2_bringPicked_49 rfl rfl ?_
          refine x_ifnull (pc := 51) O dX2_bringPicked_51 ?_
          refine x_aload_n (pc := 54) O dX2_bringPicked_54 rfl rfl ?_
          show J _ _ _ _ _ (.ref (mrg adr y.1 0 2) :: [])
          refine c_get (t := 0) (n := 2) (pc := 55) O dX2_bringPicked_55 fdX2_17 rfl rfl rfl ?_
          show J _ _ _ _ _ (.int ((up3 V 0 2 1 (nI (r + (k - fr)))) 0 2 1) :: [])
          rw [show (up3 V 0 2 1 (nI (r + (k - fr)))) 0 2 1 = nI (r + (k - fr)) from by rw [up3_eq, va_up_self]]
          refine x_ldc (pc := 58) O dX2_bringPicked_58 cnX2_47 ?_
          refine x_icmp_ge (pc := 60) O 94 dX2_bringPicked_60 (by decide) (fun c60 => absurd c60 (by show ¬ nI 61560 ≤ _; rw [nI_leI (by omega) (by omega)]; omega)) (fun c60 => ?_)
          refine x_aload_n (pc := 63) O dX2_bringPicked_63 rfl rfl ?_
          show J _ _ _ _ _ (.ref (mrg adr y.1 0 2) :: [])
          refine c_get (t := 0) (n := 2) (pc := 64) O dX2_bringPicked_64 fdX2_11 rfl rfl rfl ?_
          refine x_iload (pc := 67) O dX2_bringPicked_67 rfl ?_
          refine x_new (P' := CW E (mrg adr y.1) (mrg (up3 V 0 2 1 (nI (r + (k - fr)))) y.2.1) VL m ns y.2.2.1 y.2.2.2.1 y.2.2.2.2) (ci := 5) (N := 4) (fs := [.int 0, .int 0, .int 0, .null]) (pc := 69) O tyX5 dX2_bringPicked_69 rfl inlX5 tyX5_ok clX2_9 in_RX5 ini_RX5 hfsX5 (by simp only [rmX]; omega) (by simp only [rmX]; omega) (fun q => ?_)
          show J (Nq (CW E (mrg adr y.1) (mrg (up3 V 0 2 1 (nI (r + (k - fr)))) y.2.1) VL m ns y.2.2.1 y.2.2.2.1 y.2.2.2.2) q (.inr (5, [.int 0, .int 0, .int 0, .null]))) _ _ _ _ _
          refine x_dup (pc := 72) O dX2_bringPicked_72 rfl ?_
          refine x_iload_n (pc := 73) O dX2_bringPicked_73 rfl ?_
          refine x_iload (pc := 74) O dX2_bringPicked_74 rfl ?_
          refine x_iload (pc := 76) O dX2_bringPicked_76 rfl ?_
          refine x_aload (pc := 78) O dX2_bringPicked_78 rfl rfl ?_
          refine x_callI (pc := 80) (rest := [.ref q, .int (nI (L.getD k 0)), .ref (mrg adr y.1 0 11)]) O (c_X5_init l E _ q w how day _) rfl dX2_bringPicked_80 cbX2_25 im_yX5_init rfl rfl (Nat.le_of_ble_eq_true rfl) ⟨Nat.le_of_ble_eq_true rfl, Nat.le_of_ble_eq_true rfl⟩ ⟨by simp only [rmX]; omega, by simp only [rmX]; omega⟩ (fun _ => ?_)
          dsimp only [Option.toList, List.append, List.nil_append, List.cons_append, Nat.add_zero, Nat.reduceAdd]
          refine cv_addR (pc := 83) O dX2_bringPicked_83 hy hs3 ?_
          refine x_aload_n (pc := 84) O dX2_bringPicked_84 rfl rfl ?_
          refine x_dup (pc := 85) O dX2_bringPicked_85 rfl ?_
          refine cv_get (t := 0) (n := 2) (pc := 86) O dX2_bringPicked_86 fdX2_17 rfl rfl rfl ?_
          rw [show (up3 V 0 2 1 (nI (r + (k - fr)))) 0 2 1 = nI (r + (k - fr)) from by rw [up3_eq, va_up_self]]
          refine x_iconst (v := 1) (pc := 89) O dX2_bringPicked_89 (by decide) ?_
          refine x_iadd (pc := 90) O dX2_bringPicked_90 ?_
          refine cv_put (t := 0) (n := 2) (pc := 91) O dX2_bringPicked_91 fpX2_17 rfl rfl rfl rfl (Nat.le_of_ble_eq_true rfl) rfl ?_
          refine x_iinc (v := nI (k + 1)) (pc := 94) O dX2_bringPicked_94 rfl (nI_succ k).symm rfl ?_
          refine x_goto (pc := 97) O 7 dX2_bringPicked_97 (by decide) ?_
          refine x_lv O [some (.ref (adr 0 2)), some (.int (nI fr)), some (.int (nI t)), some (.int w), some (.int how), some (.int day), some (.int (nI (k + 1))), none, none] ⟨rfl, rfl, rfl, rfl, rfl, rfl, rfl, trivial⟩ ?_
          rw [up3_up3, ← nI_succ, show r + (k - fr) + 1 = r + (k + 1 - fr) by omega]
          rw [show va_up (clL day ch (((L.take k).drop fr).map (fun s => (s, w, how)))) (L.getD k 0) ((w, how, day) :: clL day ch (((L.take k).drop fr).map (fun s => (s, w, how))) (L.getD k 0)) = clL day ch (((L.take (k + 1)).drop fr).map (fun s => (s, w, how))) from by rw [take_step hfk (by omega), List.map_append, List.map_singleton, clL_app]]
          exact x_widen O (by omega) (by omega) (ih (by omega) (by omega))
  refine x_iload_n (pc := 0) O dX2_bringPicked_0 rfl ?_
  refine x_iconst (v := 0) (pc := 1) O dX2_bringPicked_1 (by decide) ?_
  refine x_max (pc := 2) O dX2_bringPicked_2 mx_X2_41 (Nat.le_of_ble_eq_true rfl) (Nat.le_of_ble_eq_true rfl) (by simp only [rmX]; omega) (by simp only [rmX]; omega) ?_
  rw [show (if nI fr < 0 then (0 : Int32) else nI fr) = nI fr from if_neg (nI_pos (by omega))]
  refine x_istore (pc := 5) O dX2_bringPicked_5 (by decide) rfl ?_
  have h0 := loop fr hfr (Nat.le_refl _)
  rw [Nat.sub_self, Nat.add_zero, up3_id hr, show (((L.take fr).drop fr).map (fun s => (s, w, how))) = [] from by simp] at h0
  exact h0
