/-! ===== CLS 18: constructors ===== -/
def Cs (l : va_W) : HP := fun h => (∀ p ∈ l, h p.1 = some p.2) ∧ (l.map (fun p => p.1)).Nodup
theorem Cs.in {l : va_W} {h : HF} {k a : Nat} {e : va_E} (H : Cs l h) (hk : l[k]? = some (a, e)) : h a = some e := H.1 (a, e) (List.mem_of_getElem? hk)
theorem Cs.add {l : va_W} {h : HF} {q : Nat} (e : va_E) (H : Cs l h) (hq : h q = none) : Cs ((q, e) :: l) (hset h q e) := by
  have hne : ∀ p ∈ l, p.1 ≠ q := fun p hp z => by
    have := H.1 p hp
    rw [z, hq] at this; cases this
  refine ⟨fun p hp => ?_, ?_⟩
  · rcases List.mem_cons.mp hp with rfl | hp
    · exact hset_same _ _ _
    · rw [hset_ne _ _ (hne p hp)]; exact H.1 p hp
  · rw [List.map_cons, List.nodup_cons]
    refine ⟨fun z => ?_, H.2⟩
    obtain ⟨p, hp, hpq⟩ := List.mem_map.mp z
    exact hne p hp hpq
theorem Cs.set {l : va_W} {h : HF} {k a : Nat} {e : va_E} (e' : va_E) (H : Cs l h) (hk : l[k]? = some (a, e)) : Cs (l.set k (a, e')) (hset h a e') := by
  have hl : k < l.length := (List.getElem?_eq_some_iff.mp hk).1
  have hmap : (l.set k (a, e')).map (fun p => p.1) = l.map (fun p => p.1) := by
    apply List.ext_getElem?
    intro i
    rw [List.getElem?_map, List.getElem?_map, List.getElem?_set]
    split
    · rename_i z
      subst z
      rw [hk]; rfl
    · rfl
  refine ⟨fun p hp => ?_, by rw [hmap]; exact H.2⟩
  obtain ⟨i, hi⟩ := List.getElem?_of_mem hp
  rw [List.getElem?_set] at hi
  split at hi
  · rename_i z
    cases hi
    exact hset_same _ _ _
  · rename_i z
    have hia : p.1 ≠ a := fun y => by
      have h1 : (l.map (fun p => p.1))[k]? = some a := by rw [List.getElem?_map, hk]; rfl
      have h2 : (l.map (fun p => p.1))[i]? = some a := by rw [List.getElem?_map, hi]; exact congrArg some y
      exact z ((List.getElem?_inj (by rw [List.length_map]; exact hl) H.2).mp (h1.trans h2.symm))
    rw [hset_ne _ _ hia]
    exact H.1 p (List.mem_of_getElem? hi)
theorem cs_put {l : Launch} {E : En} {cc : ByteArray} {own nm : String} {nL : Nat} {R : Room} {ret : Option FieldType} {Fn : Ft} {J : Jt} (O : Ok l E cc own nm nL R ret Fn J) {pc index ci kf a : Nat} {ty : FieldType} {fs : List Value} {v : Value} {l0 : va_W} {ce sl : Nat} {lv : LV} {st : List Value} (k : Nat) (d : decode cc pc = .ok (.putfield index, 3)) (hl : FP own index ci kf ty false) (hn : narrow ty v = v) (hfit : fits ty v = true) (hk : l0[k]? = some (a, .inr (ci, fs))) (hf : kf < fs.length) (kk : J (Cs (l0.set k (a, .inr (ci, fs.set kf v)))) ce sl (pc + 3) lv st) : J (Cs l0) ce sl pc lv (v :: .ref a :: st) :=
  x_put O d hl hn hfit (fun h H => ⟨fs, H.in hk, hf, H.set _ hk⟩) kk
theorem cs_putF {l : Launch} {E : En} {cc : ByteArray} {own nm : String} {nL : Nat} {R : Room} {ret : Option FieldType} {Fn : Ft} {J : Jt} (O : Ok l E cc own nm nL R ret Fn J) {pc index ci kf a : Nat} {ty : FieldType} {fs : List Value} {v : Value} {l0 : va_W} {ce sl : Nat} {lv : LV} {st : List Value} (k : Nat) (hi : nm = "<init>") (d : decode cc pc = .ok (.putfield index, 3)) (hl : FP own index ci kf ty true) (hn : narrow ty v = v) (hfit : fits ty v = true) (hk : l0[k]? = some (a, .inr (ci, fs))) (hf : kf < fs.length) (kk : J (Cs (l0.set k (a, .inr (ci, fs.set kf v)))) ce sl (pc + 3) lv st) : J (Cs l0) ce sl pc lv (v :: .ref a :: st) :=
  x_putF O hi d hl hn hfit (fun h H => ⟨fs, H.in hk, hf, H.set _ hk⟩) kk
theorem cs_get {l : Launch} {E : En} {cc : ByteArray} {own nm : String} {nL : Nat} {R : Room} {ret : Option FieldType} {Fn : Ft} {J : Jt} (O : Ok l E cc own nm nL R ret Fn J) {pc index ci kf a : Nat} {fs : List Value} {v : Value} {l0 : va_W} {ce sl : Nat} {lv : LV} {st : List Value} (k : Nat) (d : decode cc pc = .ok (.getfield index, 3)) (hl : FD own index ci kf) (hk : l0[k]? = some (a, .inr (ci, fs))) (hv : fs[kf]? = some v) (kk : J (Cs l0) ce sl (pc + 3) lv (v :: st)) : J (Cs l0) ce sl pc lv (.ref a :: st) :=
  x_get O d hl (fun h H => ⟨fs, H.in hk, hv⟩) kk
theorem cs_new {l : Launch} {E : En} {cc : ByteArray} {own nm : String} {nL : Nat} {R : Room} {ret : Option FieldType} {Fn : Ft} {J : Jt} (O : Ok l E cc own nm nL R ret Fn J) {pc q : Nat} {e : va_E} {l0 : va_W} {ce sl : Nat} {lv : LV} {st : List Value} (kk : J (Cs ((q, e) :: l0)) ce sl pc lv st) : J (fun h => ∃ h0, Cs l0 h0 ∧ h0 q = none ∧ h = hset h0 q e) ce sl pc lv st :=
  x_imp O (fun h ⟨h0, h1, h2, h3⟩ => by rw [h3]; exact h1.add _ h2) kk
set_option maxRecDepth 100000 in
set_option maxHeartbeats 1000000 in
theorem c_X3_init (l : Launch) (E : En) (q : Nat) (t0 : va_W) : Mt l E yX3_init cX3_init 1 none (rmX 1 24 1 60) [.ref q] (Cs ((q, .inr (3, [.null, .int 0])) :: t0)) (fun _ : Nat => none) (fun qa => Cs ((qa, Sum.inl (E.2 2, 60, Sum.inr (Sum.inr (Sum.inr (Sum.inr (fun _ => none)))))) :: (q, .inr (3, [.ref qa, .int 0])) :: t0)) := by
  refine Mt_of (by decide +kernel) (Nat.le_of_ble_eq_true rfl) (fun J O => ?_)
  show J _ 0 0 0 [some (.ref q)] []
  refine x_aload_n (pc := 0) O dX3_init_0 rfl rfl ?_
  refine x_obj (pc := 1) O dX3_init_1 oi_X3_3 (Nat.le_of_ble_eq_true rfl) (Nat.le_of_ble_eq_true rfl) ?_
  refine x_aload_n (pc := 4) O dX3_init_4 rfl rfl ?_
  refine x_bipush (v := 60) (pc := 5) O dX3_init_5 (by decide) ?_
  refine x_newq (N := 60) (t0 := 2) (C := "ManorRolls$Person") (pc := 7) O dX3_init_7 rfl (fun U hU => hU.2.1) clX3_9 (by decide) (by decide) (by decide) (Nat.le_of_ble_eq_true rfl) (Nat.le_of_ble_eq_true rfl) (fun qa => ?_)
  refine cs_new O ?_
  refine cs_putF (pc := 10) O 1 rfl dX3_init_10 fpX3_11 rfl rfl rfl (Nat.le_of_ble_eq_true rfl) ?_
  dsimp only [List.set]
  exact x_ret (v := none) (pc := 13) O dX3_init_13 rfl trivial ⟨Nat.le_refl _, Nat.le_refl _, qa, rfl, fun h hh => hh⟩
set_option maxRecDepth 100000 in
set_option maxHeartbeats 1000000 in
theorem c_X1_init (l : Launch) (E : En) (q b : Nat) (t0 : va_W) : Mt l E yX1_init cX1_init 2 none (rmX 1 24 2 52) [.ref q, .ref b] (Cs ((q, .inr (1, [.null, .int 0, .null, .null, .int 0, .long 0, .long 0])) :: t0)) (fun _ : Nat × Nat => none) (fun x => Cs ((x.2, Sum.inl (E.2 0, 12, Sum.inl (fun _ => 0))) :: (x.1, Sum.inl (E.2 0, 40, Sum.inl (fun _ => 0))) :: (q, .inr (1, [.ref x.1, .int 0, .ref x.2, .ref b, .int 0, .long 0, .long 0])) :: t0)) := by
  refine Mt_of (by decide +kernel) (Nat.le_of_ble_eq_true rfl) (fun J O => ?_)
  show J _ 0 0 0 [some (.ref q), some (.ref b)] []
  refine x_aload_n (pc := 0) O dX1_init_0 rfl rfl ?_
  refine x_obj (pc := 1) O dX1_init_1 oi_X1_3 (Nat.le_of_ble_eq_true rfl) (Nat.le_of_ble_eq_true rfl) ?_
  refine x_aload_n (pc := 4) O dX1_init_4 rfl rfl ?_
  refine x_bipush (v := 40) (pc := 5) O dX1_init_5 (by decide) ?_
  refine x_newi (N := 40) (pc := 7) O dX1_init_7 (by decide) (by decide) (by decide) (Nat.le_of_ble_eq_true rfl) (Nat.le_of_ble_eq_true rfl) (fun ql => ?_)
  refine cs_new O ?_
  refine cs_putF (pc := 9) O 1 rfl dX1_init_9 fpX1_9 rfl rfl rfl (Nat.le_of_ble_eq_true rfl) ?_
  dsimp only [List.set]
  refine x_aload_n (pc := 12) O dX1_init_12 rfl rfl ?_
  refine x_bipush (v := 12) (pc := 13) O dX1_init_13 (by decide) ?_
  refine x_newi (N := 12) (pc := 15) O dX1_init_15 (by decide) (by decide) (by decide) (Nat.le_of_ble_eq_true rfl) (Nat.le_of_ble_eq_true rfl) (fun qt => ?_)
  refine cs_new O ?_
  refine cs_putF (pc := 17) O 2 rfl dX1_init_17 fpX1_15 rfl rfl rfl (Nat.le_of_ble_eq_true rfl) ?_
  dsimp only [List.set]
  refine x_aload_n (pc := 20) O dX1_init_20 rfl rfl ?_
  refine x_aload_n (pc := 21) O dX1_init_21 rfl rfl ?_
  refine cs_putF (pc := 22) O 2 rfl dX1_init_22 fpX1_18 rfl rfl rfl (Nat.le_of_ble_eq_true rfl) ?_
  dsimp only [List.set]
  exact x_ret (v := none) (pc := 25) O dX1_init_25 rfl trivial ⟨Nat.le_refl _, Nat.le_refl _, (ql, qt), rfl, fun h hh => hh⟩
set_option maxRecDepth 100000 in
set_option maxHeartbeats 1000000 in
theorem c_X2_init (l : Launch) (E : En) (q : Nat) (t0 : va_W) : Mt l E yX2_init cX2_init 3 none (rmX 2 48 3 136) [.ref q] (Cs ((q, .inr (2, [.null, .int 0, .null, .int 0])) :: t0)) (fun _ : Nat × Nat × Nat => none) (fun x => Cs ((x.2.2, .inr (5, [.int (-1), .int 0, .int 0, .null])) :: (x.2.1, Sum.inl (E.2 0, 12, Sum.inl (fun _ => 0))) :: (x.1, Sum.inl (E.2 3, 120, Sum.inr (Sum.inr (Sum.inr (Sum.inr ((fun s => if s < 120 then some x.2.2 else none))))))) :: (q, .inr (2, [.ref x.1, .int 120, .ref x.2.1, .int 0])) :: t0)) := by
  refine Mt_of (by decide +kernel) (Nat.le_of_ble_eq_true rfl) (fun J O => ?_)
  show J _ 0 0 0 [some (.ref q), none, none] []
  refine x_aload_n (pc := 0) O dX2_init_0 rfl rfl ?_
  refine x_obj (pc := 1) O dX2_init_1 oi_X2_3 (Nat.le_of_ble_eq_true rfl) (Nat.le_of_ble_eq_true rfl) ?_
  refine x_aload_n (pc := 4) O dX2_init_4 rfl rfl ?_
  refine x_bipush (v := 120) (pc := 5) O dX2_init_5 (by decide) ?_
  refine x_newq (N := 120) (t0 := 3) (C := "ManorRolls$Right") (pc := 7) O dX2_init_7 rfl (fun U hU => hU.2.2.1) clX2_9 (by decide) (by decide) (by decide) (Nat.le_of_ble_eq_true rfl) (Nat.le_of_ble_eq_true rfl) (fun qn => ?_)
  refine cs_new O ?_
  refine cs_putF (pc := 10) O 1 rfl dX2_init_10 fpX2_11 rfl rfl rfl (Nat.le_of_ble_eq_true rfl) ?_
  dsimp only [List.set]
  refine x_aload_n (pc := 13) O dX2_init_13 rfl rfl ?_
  refine x_bipush (v := 120) (pc := 14) O dX2_init_14 (by decide) ?_
  refine cs_put (pc := 16) O 1 dX2_init_16 fpX2_17 rfl rfl rfl (Nat.le_of_ble_eq_true rfl) ?_
  dsimp only [List.set]
  refine x_aload_n (pc := 19) O dX2_init_19 rfl rfl ?_
  refine x_bipush (v := 12) (pc := 20) O dX2_init_20 (by decide) ?_
  refine x_newi (N := 12) (pc := 22) O dX2_init_22 (by decide) (by decide) (by decide) (Nat.le_of_ble_eq_true rfl) (Nat.le_of_ble_eq_true rfl) (fun qp => ?_)
  refine cs_new O ?_
  refine cs_putF (pc := 24) O 2 rfl dX2_init_24 fpX2_21 rfl rfl rfl (Nat.le_of_ble_eq_true rfl) ?_
  dsimp only [List.set]
  refine x_new (P' := Cs ((qp, Sum.inl (E.2 0, 12, Sum.inl (fun _ => 0))) :: (qn, Sum.inl (E.2 3, 120, Sum.inr (Sum.inr (Sum.inr (Sum.inr (fun _ => none)))))) :: (q, .inr (2, [.ref qn, .int 120, .ref qp, .int 0])) :: t0)) (ci := 5) (N := 4) (fs := [.int 0, .int 0, .int 0, .null]) (pc := 27) O tyX5 dX2_init_27 rfl inlX5 tyX5_ok clX2_9 in_RX5 ini_RX5 hfsX5 (Nat.le_of_ble_eq_true rfl) (Nat.le_of_ble_eq_true rfl) (fun r0 => ?_)
  show J (Nq (Cs _) r0 (.inr (5, [.int 0, .int 0, .int 0, .null]))) _ _ _ _ _
  refine x_dup (pc := 30) O dX2_init_30 rfl ?_
  refine x_iconst (v := (-1)) (pc := 31) O dX2_init_31 (by decide) ?_
  refine x_iconst (v := 0) (pc := 32) O dX2_init_32 (by decide) ?_
  refine x_iconst (v := 0) (pc := 33) O dX2_init_33 (by decide) ?_
  refine x_null (pc := 34) O dX2_init_34 ?_
  refine x_callI (pc := 35) (rest := [.ref r0]) O (c_X5_init0 l E _ r0 (-1) 0 0) rfl dX2_init_35 cbX2_25 im_yX5_init rfl rfl (Nat.le_of_ble_eq_true rfl) ⟨Nat.le_of_ble_eq_true rfl, Nat.le_of_ble_eq_true rfl⟩ ⟨Nat.le_of_ble_eq_true rfl, Nat.le_of_ble_eq_true rfl⟩ (fun _ => ?_)
  dsimp only [Option.toList, List.append, List.nil_append, List.cons_append, Nat.add_zero, Nat.reduceAdd]
  refine cs_new O ?_
  refine x_astore_n (pc := 38) O dX2_init_38 (by decide) rfl rfl ?_
  refine x_iconst (v := nI 0) (pc := 39) O dX2_init_39 (by decide) ?_
  refine x_istore_n (pc := 40) O dX2_init_40 (by decide) rfl ?_
  have loop : ∀ k, k ≤ 120 → J (Cs ((r0, .inr (5, [.int (-1), .int 0, .int 0, .null])) :: (qp, Sum.inl (E.2 0, 12, Sum.inl (fun _ => 0))) :: (qn, Sum.inl (E.2 3, 120, Sum.inr (Sum.inr (Sum.inr (Sum.inr ((fun s => if s < k then some r0 else none))))))) :: (q, .inr (2, [.ref qn, .int 120, .ref qp, .int 0])) :: t0)) 3 136 41 [some (.ref q), some (.ref r0), some (.int (nI k))] [] := by
    refine up_ind (Φ := fun k => J (Cs ((r0, .inr (5, [.int (-1), .int 0, .int 0, .null])) :: (qp, Sum.inl (E.2 0, 12, Sum.inl (fun _ => 0))) :: (qn, Sum.inl (E.2 3, 120, Sum.inr (Sum.inr (Sum.inr (Sum.inr ((fun s => if s < k then some r0 else none))))))) :: (q, .inr (2, [.ref qn, .int 120, .ref qp, .int 0])) :: t0)) 3 136 41 [some (.ref q), some (.ref r0), some (.int (nI k))] []) 120 (fun k hk ih => ?_)
    refine x_iload_n (pc := 41) O dX2_init_41 rfl ?_
    refine x_bipush (v := nI 120) (pc := 42) O dX2_init_42 (by decide) ?_
    refine x_icmp_ge (pc := 44) O 60 dX2_init_44 (by decide) (fun c44 => ?_) (fun c44 => ?_)
    · have hk3 : k = 120 := by
        rw [nI_leI (by omega) (by omega)] at c44
        omega
      subst hk3
      exact x_ret (v := none) (pc := 60) O dX2_init_60 rfl trivial ⟨Nat.le_refl _, Nat.le_refl _, (qn, qp, r0), rfl, fun h hh => hh⟩
    · have hk3 : k < 120 := by
        rw [nI_leI (by omega) (by omega)] at c44
        omega
      refine x_aload_n (pc := 47) O dX2_init_47 rfl rfl ?_
      refine cs_get (pc := 48) O 3 dX2_init_48 fdX2_11 rfl rfl ?_
      refine x_iload_n (pc := 51) O dX2_init_51 rfl ?_
      refine x_aload_n (pc := 52) O dX2_init_52 rfl rfl ?_
      refine x_aast (t0 := 3) (ci := 5) (r := (RX5, TX5, 4)) (P' := Cs ((r0, .inr (5, [.int (-1), .int 0, .int 0, .null])) :: (qp, Sum.inl (E.2 0, 12, Sum.inl (fun _ => 0))) :: (qn, Sum.inl (E.2 3, 120, Sum.inr (Sum.inr (Sum.inr (Sum.inr ((fun s => if s < (k + 1) then some r0 else none))))))) :: (q, .inr (2, [.ref qn, .int 120, .ref qp, .int 0])) :: t0)) O dX2_init_53 rfl rfl (fun h H => ⟨120, (fun s => if s < k then some r0 else none), [.int (-1), .int 0, .int 0, .null], H.in (k := 2) rfl, H.in (k := 0) rfl, ?_, ?_⟩) ?_
      · intro h9
        rw [nI_clamp (by omega)] at h9
        rcases h9 with h9 | h9
        · exact nI_pos (by omega) h9
        · omega
      · rw [nI_clamp (by omega)]
        have e : va_up (fun s => if s < k then some r0 else none) k (some r0) = (fun s => if s < (k + 1) then some r0 else none) := by
          funext s
          by_cases c : s = k
          · subst c; rw [va_up_self, if_pos (by omega)]
          · rw [va_up_ne _ _ c]
            by_cases c2 : s < k
            · rw [if_pos c2, if_pos (by omega)]
            · rw [if_neg c2, if_neg (by omega)]
        rw [e]
        exact H.set (k := 2) _ rfl
      refine x_iinc (v := nI (k + 1)) (pc := 54) O dX2_init_54 rfl (nI_succ k).symm rfl ?_
      refine x_goto (pc := 57) O 41 dX2_init_57 (by decide) ?_
      refine x_lv O [some (.ref q), some (.ref r0), some (.int (nI (k + 1)))] ⟨rfl, rfl, rfl, trivial⟩ ?_
      exact ih (by omega)
  have h0 := loop 0 (Nat.zero_le _)
  rw [show (fun s => if s < 0 then some r0 else none) = (fun _ => none) from by funext s; rw [if_neg (by omega)]] at h0
  exact h0
