/-! ===== CLS 4: new cells ===== -/
theorem nq_put {l : Launch} {E : En} {cc : ByteArray} {own nm : String} {nL : Nat} {R : Room} {ret : Option FieldType} {Fn : Ft} {J : Jt} (O : Ok l E cc own nm nL R ret Fn J) {pc index ci k q : Nat} {ty : FieldType} {fs : List Value} {v : Value} {P : HP} {ce sl : Nat} {lv : LV} {st : List Value} (d : decode cc pc = .ok (.putfield index, 3)) (hl : FP own index ci k ty false) (hn : narrow ty v = v) (hfit : fits ty v = true) (hk : k < fs.length) (kk : J (Nq P q (.inr (ci, fs.set k v))) ce sl (pc + 3) lv st) : J (Nq P q (.inr (ci, fs))) ce sl pc lv (v :: .ref q :: st) :=
  x_put O d hl hn hfit (fun h H => ⟨fs, H.at, hk, H.set⟩) kk
theorem nq_putF {l : Launch} {E : En} {cc : ByteArray} {own nm : String} {nL : Nat} {R : Room} {ret : Option FieldType} {Fn : Ft} {J : Jt} (O : Ok l E cc own nm nL R ret Fn J) {pc index ci k q : Nat} {ty : FieldType} {fs : List Value} {v : Value} {P : HP} {ce sl : Nat} {lv : LV} {st : List Value} (hi : nm = "<init>") (d : decode cc pc = .ok (.putfield index, 3)) (hl : FP own index ci k ty true) (hn : narrow ty v = v) (hfit : fits ty v = true) (hk : k < fs.length) (kk : J (Nq P q (.inr (ci, fs.set k v))) ce sl (pc + 3) lv st) : J (Nq P q (.inr (ci, fs))) ce sl pc lv (v :: .ref q :: st) :=
  x_putF O hi d hl hn hfit (fun h H => ⟨fs, H.at, hk, H.set⟩) kk
theorem nq_get {l : Launch} {E : En} {cc : ByteArray} {own nm : String} {nL : Nat} {R : Room} {ret : Option FieldType} {Fn : Ft} {J : Jt} (O : Ok l E cc own nm nL R ret Fn J) {pc index ci k q : Nat} {fs : List Value} {v : Value} {P : HP} {ce sl : Nat} {lv : LV} {st : List Value} (d : decode cc pc = .ok (.getfield index, 3)) (hl : FD own index ci k) (hv : fs[k]? = some v) (kk : J (Nq P q (.inr (ci, fs))) ce sl (pc + 3) lv (v :: st)) : J (Nq P q (.inr (ci, fs))) ce sl pc lv (.ref q :: st) :=
  x_get O d hl (fun h H => ⟨fs, H.at, hv⟩) kk
theorem CW.grow {E : En} {adr adr' : Nat → Nat → Nat} {V V' : Nat → Nat → Nat → Int32} {VL VL' : Nat → Nat → Nat → Int64} {m m' ns ns' nr nr' : Nat} {hd hd' : Nat → Nat} {rn rn' : Nat → Option Nat} {h : HF} (T N q : Nat) (e : va_E) (tb nb : Nat) (eb : va_E) (H : CW E adr V VL m ns nr hd rn h) (hq : h q = none)
    (hold : ∀ t n, okC m' ns' nr' t n = true → ¬ (t = T ∧ n = N) → okC m ns nr t n = true ∧ adr' t n = adr t n) (hT : adr' T N = q) (hTok : okC m' ns' nr' T N = true) (hb : okC m ns nr tb nb = true) (hb' : okC m' ns' nr' tb nb = true) (hbT : ¬ (tb = T ∧ nb = N)) (heb : eb = cellC E adr' (V' tb nb) (VL' tb nb) m' ns' hd' rn' tb nb)
    (hcell : ∀ t n, okC m' ns' nr' t n = true → ¬ (t = T ∧ n = N) → ¬ (t = tb ∧ n = nb) → cellC E adr' (V' t n) (VL' t n) m' ns' hd' rn' t n = cellC E adr (V t n) (VL t n) m ns hd rn t n) (he : e = cellC E adr' (V' T N) (VL' T N) m' ns' hd' rn' T N) : CW E adr' V' VL' m' ns' nr' hd' rn' (hset (hset h q e) (adr tb nb) eb) := by
  have hne := (H.more (e := e) hq).2
  refine ⟨fun t n hk => ?_, fun t n t' n' hk hk' hx => ?_⟩
  · by_cases c1 : t = T ∧ n = N
    · obtain ⟨rfl, rfl⟩ := c1
      rw [hT, hset_ne _ _ (fun z => hne _ _ hb z.symm), hset_same, he]
    · obtain ⟨k1, k2⟩ := hold t n hk c1
      by_cases c2 : t = tb ∧ n = nb
      · obtain ⟨rfl, rfl⟩ := c2
        rw [k2, hset_same, heb]
      · rw [k2, hset_ne _ _ (fun z => c2 (H.2 _ _ _ _ k1 hb z)), hset_ne _ _ (hne _ _ k1), H.1 _ _ k1, hcell t n hk c1 c2]
  · by_cases c1 : t = T ∧ n = N
    · by_cases c2 : t' = T ∧ n' = N
      · exact ⟨c1.1.trans c2.1.symm, c1.2.trans c2.2.symm⟩
      · obtain ⟨k1, k2⟩ := hold t' n' hk' c2
        rw [c1.1, c1.2, hT, k2] at hx
        exact absurd hx.symm (hne _ _ k1)
    · obtain ⟨k1, k2⟩ := hold t n hk c1
      by_cases c2 : t' = T ∧ n' = N
      · rw [c2.1, c2.2, hT, k2] at hx
        exact absurd hx (hne _ _ k1)
      · obtain ⟨k3, k4⟩ := hold t' n' hk' c2
        rw [k2, k4] at hx
        exact H.2 _ _ _ _ k1 k3 hx
def cuV (what dues : Int32) : Nat → Int32 := fun k => if k = 0 then what / 100000 else if k = 1 then rem (what / 1000) 100 else if k = 2 then rem (what / 100) 10 else if k = 3 then rem (what / 10) 10 else if k = 4 then dues / 10000 else if k = 5 then rem (dues / 100) 100 else rem dues 100
def npV (sx f g day : Int32) : Nat → Int32 := fun k => if k = 0 then sx else if k = 1 then f else if k = 2 then g else if k = 3 then day else if k = 4 then 1 else if k = 5 then -1 else 0
def nsV (p q u : Int32) : Nat → Int32 := fun k => if k = 0 then p else if k = 1 then q else if k = 2 then u else 0
abbrev fs0 (v : Nat → Int32) : List Value := [.int (v 0), .int (v 1), .int (v 2), .int (v 3), .int (v 4), .int (v 5), .int (v 6)]
abbrev fs4 (v : Nat → Int32) (x : Nat → Int64) : List Value := [.int (v 0), .int (v 1), .int (v 2), .int (v 3), .int (v 4), .int (v 5), .int (v 6), .int (v 7), .int (v 8), .int (v 9), .int (v 10), .int (v 11), .long (x 12), .long (x 13)]
theorem okS_t (n : Nat) (h : okS n = true) : n = 0 ∨ n = 1 ∨ n = 2 ∨ n = 3 ∨ n = 7 ∨ n = 10 ∨ n = 11 ∨ n = 12 ∨ n = 13 ∨ n = 14 ∨ n = 15 := by
  simp only [okS, Bool.or_eq_true, beq_iff_eq] at h
  omega
theorem okC_in {m ns nr t n : Nat} (h : okC m ns nr t n = true) : (t = 0 ∧ okS n = true) ∨ (t = 1 ∧ n < m) ∨ (t = 2 ∧ n < ns) ∨ (t = 3 ∧ n < nr) := by
  rcases t with _ | _ | _ | _ | t <;> simp [okC] at h ⊢ <;> exact h
theorem CV.cust {E : En} {adr : Nat → Nat → Nat} {V : Nat → Nat → Nat → Int32} {VL : Nat → Nat → Nat → Int64} {m ns : Nat} {ch : Nat → List Rt} {h : HF} {q : Nat} {v : Nat → Int32} (H : Nq (CV E adr V VL m ns ch) q (.inr (0, fs0 v)) h) : ∃ fs, h (adr 0 7) = some (.inr (7, fs)) ∧ 1 < fs.length ∧ CV E (up0 adr 0 0 q) (up0 V 0 0 v) VL m ns ch (hset h (adr 0 7) (.inr (7, fs.set 1 (.ref q)))) := by
  have H7 := H.drop.cell (t := 0) (n := 7) rfl rfl
  refine ⟨_, H7, (Nat.le_of_ble_eq_true rfl), ?_⟩
  obtain ⟨h0, ⟨y, hy, H⟩, h2, rfl⟩ := H
  refine ⟨y, hy, ?_⟩
  show CW E _ _ _ _ _ _ _ _ (hset (hset h0 q _) (mrg adr y.1 0 7) _)
  refine CW.grow 0 0 q _ 0 7 _ H h2 (fun t n hk hn => ⟨hk, ?_⟩) ?_ rfl rfl rfl (by decide) rfl (fun t n hk hn hn2 => ?_) rfl
  · by_cases e3 : t = 3
    · subst e3; rw [mrg_3, mrg_3]
    · rw [mrg_ne _ _ _ e3, mrg_ne _ _ _ e3, up0_ne _ _ hn]
  · rw [mrg_ne _ _ _ (by decide), up0_eq]
  · rcases okC_in hk with ⟨rfl, ho⟩ | ⟨rfl, ho⟩ | ⟨rfl, ho⟩ | ⟨rfl, ho⟩
    · rcases okS_t n ho with rfl | rfl | rfl | rfl | rfl | rfl | rfl | rfl | rfl | rfl | rfl <;> first | rfl | exact absurd ⟨rfl, rfl⟩ hn | exact absurd ⟨rfl, rfl⟩ hn2
    · rfl
    · rfl
    · rfl
theorem CV.addP {E : En} {adr : Nat → Nat → Nat} {V : Nat → Nat → Nat → Int32} {VL : Nat → Nat → Nat → Int64} {m ns : Nat} {ch : Nat → List Rt} {h : HF} {q : Nat} {v : Nat → Int32} {x : Nat → Int64} (H : Nq (CV E adr V VL m ns ch) q (.inr (4, fs4 v x)) h) : CV E (up0 adr 1 m q) (up0 V 1 m v) (up0 VL 1 m x) (m + 1) ns ch (hset h (adr 0 10) (.inl (E.2 2, 60, .inr (.inr (.inr (.inr (va_up (fun p => if p < m then some (adr 1 p) else none) m (some q)))))))) := by
  obtain ⟨h0, ⟨y, hy, H⟩, h2, rfl⟩ := H
  refine ⟨y, hy, ?_⟩
  show CW E _ _ _ _ _ _ _ _ (hset (hset h0 q _) (mrg adr y.1 0 10) _)
  refine CW.grow 1 m q _ 0 10 _ H h2 (fun t n hk hn => ⟨?_, ?_⟩) ?_ (by simp [okC]) rfl rfl (fun z => absurd z.1 (by decide)) ?_ (fun t n hk hn hn2 => ?_) ?_
  · rcases okC_in hk with ⟨rfl, ho⟩ | ⟨rfl, ho⟩ | ⟨rfl, ho⟩ | ⟨rfl, ho⟩ <;> simp [okC] <;> first | exact ho | (have := fun z => hn ⟨rfl, z⟩; omega)
  · by_cases e3 : t = 3
    · subst e3; rw [mrg_3, mrg_3]
    · rw [mrg_ne _ _ _ e3, mrg_ne _ _ _ e3, up0_ne _ _ hn]
  · rw [mrg_ne _ _ _ (by decide), up0_eq]
  · show Sum.inl _ = Sum.inl _
    congr 7
    funext p
    by_cases hp : p = m
    · subst hp
      simp only [va_up, if_true]
      rw [if_pos (Nat.lt_succ_self _)]
      show some q = some (mrg (up0 adr 1 _ q) y.1 1 _)
      rw [mrg_ne _ _ _ (by decide), up0_eq]
    · simp only [va_up, if_neg hp]
      by_cases hp2 : p < m
      · rw [if_pos hp2, if_pos (by omega)]
        show some (adr 1 p) = some (mrg (up0 adr 1 m q) y.1 1 p)
        rw [mrg_ne _ _ _ (by decide), up0_ne _ _ (fun z => hp z.2)]
      · rw [if_neg hp2, if_neg (by omega)]
  · rcases okC_in hk with ⟨rfl, ho⟩ | ⟨rfl, ho⟩ | ⟨rfl, ho⟩ | ⟨rfl, ho⟩
    · rcases okS_t n ho with rfl | rfl | rfl | rfl | rfl | rfl | rfl | rfl | rfl | rfl | rfl <;> first | rfl | exact absurd ⟨rfl, rfl⟩ hn | exact absurd ⟨rfl, rfl⟩ hn2
    · show cellC E _ (mrg (up0 V 1 m v) y.2.1 1 n) (up0 VL 1 m x 1 n) _ _ _ _ 1 n = cellC E _ (mrg V y.2.1 1 n) _ _ _ _ _ 1 n
      rw [mrg_ne _ _ _ (by decide), mrg_ne _ _ _ (by decide), up0_ne _ _ hn, up0_ne _ _ hn]
      rfl
    · rfl
    · rfl
  · show _ = cellC E _ (mrg (up0 V 1 m v) y.2.1 1 m) (up0 VL 1 m x 1 m) _ _ _ _ 1 m
    rw [mrg_ne _ _ _ (by decide), up0_eq, up0_eq]
    rfl
theorem CV.addS {E : En} {adr : Nat → Nat → Nat} {V : Nat → Nat → Nat → Int32} {VL : Nat → Nat → Nat → Int64} {m ns : Nat} {ch : Nat → List Rt} {h : HF} {q : Nat} {v : Nat → Int32} (H : Nq (CV E adr V VL m ns ch) q (.inr (6, fs0 v)) h) : CV E (up0 adr 2 ns q) (up0 V 2 ns v) VL m (ns + 1) ch (hset h (adr 0 12) (.inl (E.2 4, 40, .inr (.inr (.inr (.inr (va_up (fun p => if p < ns then some (adr 2 p) else none) ns (some q)))))))) := by
  obtain ⟨h0, ⟨y, hy, H⟩, h2, rfl⟩ := H
  refine ⟨y, hy, ?_⟩
  show CW E _ _ _ _ _ _ _ _ (hset (hset h0 q _) (mrg adr y.1 0 12) _)
  refine CW.grow 2 ns q _ 0 12 _ H h2 (fun t n hk hn => ⟨?_, ?_⟩) ?_ (by simp [okC]) rfl rfl (fun z => absurd z.1 (by decide)) ?_ (fun t n hk hn hn2 => ?_) ?_
  · rcases okC_in hk with ⟨rfl, ho⟩ | ⟨rfl, ho⟩ | ⟨rfl, ho⟩ | ⟨rfl, ho⟩ <;> simp [okC] <;> first | exact ho | (have := fun z => hn ⟨rfl, z⟩; omega)
  · by_cases e3 : t = 3
    · subst e3; rw [mrg_3, mrg_3]
    · rw [mrg_ne _ _ _ e3, mrg_ne _ _ _ e3, up0_ne _ _ hn]
  · rw [mrg_ne _ _ _ (by decide), up0_eq]
  · show Sum.inl _ = Sum.inl _
    congr 7
    funext p
    by_cases hp : p = ns
    · subst hp
      simp only [va_up, if_true]
      rw [if_pos (Nat.lt_succ_self _)]
      show some q = some (mrg (up0 adr 2 _ q) y.1 2 _)
      rw [mrg_ne _ _ _ (by decide), up0_eq]
    · simp only [va_up, if_neg hp]
      by_cases hp2 : p < ns
      · rw [if_pos hp2, if_pos (by omega)]
        show some (adr 2 p) = some (mrg (up0 adr 2 ns q) y.1 2 p)
        rw [mrg_ne _ _ _ (by decide), up0_ne _ _ (fun z => hp z.2)]
      · rw [if_neg hp2, if_neg (by omega)]
  · rcases okC_in hk with ⟨rfl, ho⟩ | ⟨rfl, ho⟩ | ⟨rfl, ho⟩ | ⟨rfl, ho⟩
    · rcases okS_t n ho with rfl | rfl | rfl | rfl | rfl | rfl | rfl | rfl | rfl | rfl | rfl <;> first | rfl | exact absurd ⟨rfl, rfl⟩ hn | exact absurd ⟨rfl, rfl⟩ hn2
    · rfl
    · show cellC E _ (mrg (up0 V 2 ns v) y.2.1 2 n) _ _ _ _ _ 2 n = cellC E _ (mrg V y.2.1 2 n) _ _ _ _ _ 2 n
      rw [mrg_ne _ _ _ (by decide), mrg_ne _ _ _ (by decide), up0_ne _ _ hn]
      rfl
    · rfl
  · show _ = cellC E _ (mrg (up0 V 2 ns v) y.2.1 2 ns) _ _ _ _ _ 2 ns
    rw [mrg_ne _ _ _ (by decide), up0_eq]
    rfl
set_option maxRecDepth 100000 in
set_option maxHeartbeats 4000000 in
theorem c_X0_init (l : Launch) (E : En) (P : HP) (q : Nat) (what dues : Int32)  : Mt l E yX0_init cX0_init 3 none (rmX 1 24 0 0) [.ref q, .int what, .int dues] (Nq P q (.inr (0, [.int 0, .int 0, .int 0, .int 0, .int 0, .int 0, .int 0]))) (fun _ : Unit => none) (fun _ => Nq P q (.inr (0, fs0 (cuV what dues)))) := by
  refine Mt_of (by decide +kernel) (Nat.le_of_ble_eq_true rfl) (fun J O => ?_)
  show J _ 0 0 0 [some (.ref q), some (.int what), some (.int dues)] []
  refine x_aload_n (pc := 0) O dX0_init_0 rfl rfl ?_
  refine x_obj (pc := 1) O dX0_init_1 oi_X0_3 (Nat.le_of_ble_eq_true rfl) (Nat.le_of_ble_eq_true rfl) ?_
  refine x_aload_n (pc := 4) O dX0_init_4 rfl rfl ?_
  refine x_iload_n (pc := 5) O dX0_init_5 rfl ?_
  refine x_ldc (pc := 6) O dX0_init_6 cnX0_9 ?_
  refine x_idiv (pc := 8) O dX0_init_8 (by decide) ?_
  refine nq_putF (pc := 9) O rfl dX0_init_9 fpX0_10 rfl rfl (Nat.le_of_ble_eq_true rfl) ?_
  refine x_aload_n (pc := 12) O dX0_init_12 rfl rfl ?_
  refine x_iload_n (pc := 13) O dX0_init_13 rfl ?_
  refine x_sipush (v := 1000) (pc := 14) O dX0_init_14 (by decide) ?_
  refine x_idiv (pc := 17) O dX0_init_17 (by decide) ?_
  refine x_bipush (v := 100) (pc := 18) O dX0_init_18 (by decide) ?_
  refine x_irem (pc := 20) O dX0_init_20 (by decide) ?_
  refine nq_putF (pc := 21) O rfl dX0_init_21 fpX0_16 rfl rfl (Nat.le_of_ble_eq_true rfl) ?_
  refine x_aload_n (pc := 24) O dX0_init_24 rfl rfl ?_
  refine x_iload_n (pc := 25) O dX0_init_25 rfl ?_
  refine x_bipush (v := 100) (pc := 26) O dX0_init_26 (by decide) ?_
  refine x_idiv (pc := 28) O dX0_init_28 (by decide) ?_
  refine x_bipush (v := 10) (pc := 29) O dX0_init_29 (by decide) ?_
  refine x_irem (pc := 31) O dX0_init_31 (by decide) ?_
  refine nq_putF (pc := 32) O rfl dX0_init_32 fpX0_19 rfl rfl (Nat.le_of_ble_eq_true rfl) ?_
  refine x_aload_n (pc := 35) O dX0_init_35 rfl rfl ?_
  refine x_iload_n (pc := 36) O dX0_init_36 rfl ?_
  refine x_bipush (v := 10) (pc := 37) O dX0_init_37 (by decide) ?_
  refine x_idiv (pc := 39) O dX0_init_39 (by decide) ?_
  refine x_bipush (v := 10) (pc := 40) O dX0_init_40 (by decide) ?_
  refine x_irem (pc := 42) O dX0_init_42 (by decide) ?_
  refine nq_putF (pc := 43) O rfl dX0_init_43 fpX0_22 rfl rfl (Nat.le_of_ble_eq_true rfl) ?_
  refine x_aload_n (pc := 46) O dX0_init_46 rfl rfl ?_
  refine x_iload_n (pc := 47) O dX0_init_47 rfl ?_
  refine x_sipush (v := 10000) (pc := 48) O dX0_init_48 (by decide) ?_
  refine x_idiv (pc := 51) O dX0_init_51 (by decide) ?_
  refine nq_putF (pc := 52) O rfl dX0_init_52 fpX0_25 rfl rfl (Nat.le_of_ble_eq_true rfl) ?_
  refine x_aload_n (pc := 55) O dX0_init_55 rfl rfl ?_
  refine x_iload_n (pc := 56) O dX0_init_56 rfl ?_
  refine x_bipush (v := 100) (pc := 57) O dX0_init_57 (by decide) ?_
  refine x_idiv (pc := 59) O dX0_init_59 (by decide) ?_
  refine x_bipush (v := 100) (pc := 60) O dX0_init_60 (by decide) ?_
  refine x_irem (pc := 62) O dX0_init_62 (by decide) ?_
  refine nq_putF (pc := 63) O rfl dX0_init_63 fpX0_28 rfl rfl (Nat.le_of_ble_eq_true rfl) ?_
  refine x_aload_n (pc := 66) O dX0_init_66 rfl rfl ?_
  refine x_iload_n (pc := 67) O dX0_init_67 rfl ?_
  refine x_bipush (v := 100) (pc := 68) O dX0_init_68 (by decide) ?_
  refine x_irem (pc := 70) O dX0_init_70 (by decide) ?_
  refine nq_putF (pc := 71) O rfl dX0_init_71 fpX0_31 rfl rfl (Nat.le_of_ble_eq_true rfl) ?_
  exact x_ret (v := none) (pc := 74) O dX0_init_74 rfl trivial ⟨Nat.le_refl _, Nat.le_refl _, (), rfl, fun h hh => hh⟩
set_option maxRecDepth 100000 in
set_option maxHeartbeats 4000000 in
theorem c_X4_init (l : Launch) (E : En) (P : HP) (q : Nat) (sx f g day : Int32)  : Mt l E yX4_init cX4_init 5 none (rmX 1 24 0 0) [.ref q, .int sx, .int f, .int g, .int day] (Nq P q (.inr (4, [.int 0, .int 0, .int 0, .int 0, .int 0, .int 0, .int 0, .int 0, .int 0, .int 0, .int 0, .int 0, .long 0, .long 0]))) (fun _ : Unit => none) (fun _ => Nq P q (.inr (4, fs4 (npV sx f g day) (fun _ => 0)))) := by
  refine Mt_of (by decide +kernel) (Nat.le_of_ble_eq_true rfl) (fun J O => ?_)
  show J _ 0 0 0 [some (.ref q), some (.int sx), some (.int f), some (.int g), some (.int day)] []
  refine x_aload_n (pc := 0) O dX4_init_0 rfl rfl ?_
  refine x_obj (pc := 1) O dX4_init_1 oi_X4_3 (Nat.le_of_ble_eq_true rfl) (Nat.le_of_ble_eq_true rfl) ?_
  refine x_aload_n (pc := 4) O dX4_init_4 rfl rfl ?_
  refine x_iload_n (pc := 5) O dX4_init_5 rfl ?_
  refine nq_putF (pc := 6) O rfl dX4_init_6 fpX4_9 rfl rfl (Nat.le_of_ble_eq_true rfl) ?_
  refine x_aload_n (pc := 9) O dX4_init_9 rfl rfl ?_
  refine x_iload_n (pc := 10) O dX4_init_10 rfl ?_
  refine nq_putF (pc := 11) O rfl dX4_init_11 fpX4_15 rfl rfl (Nat.le_of_ble_eq_true rfl) ?_
  refine x_aload_n (pc := 14) O dX4_init_14 rfl rfl ?_
  refine x_iload_n (pc := 15) O dX4_init_15 rfl ?_
  refine nq_putF (pc := 16) O rfl dX4_init_16 fpX4_18 rfl rfl (Nat.le_of_ble_eq_true rfl) ?_
  refine x_aload_n (pc := 19) O dX4_init_19 rfl rfl ?_
  refine x_iload (pc := 20) O dX4_init_20 rfl ?_
  refine nq_putF (pc := 22) O rfl dX4_init_22 fpX4_21 rfl rfl (Nat.le_of_ble_eq_true rfl) ?_
  refine x_aload_n (pc := 25) O dX4_init_25 rfl rfl ?_
  refine x_iconst (v := 1) (pc := 26) O dX4_init_26 (by decide) ?_
  refine nq_put (pc := 27) O dX4_init_27 fpX4_24 rfl rfl (Nat.le_of_ble_eq_true rfl) ?_
  refine x_aload_n (pc := 30) O dX4_init_30 rfl rfl ?_
  refine x_iconst (v := (-1)) (pc := 31) O dX4_init_31 (by decide) ?_
  refine nq_put (pc := 32) O dX4_init_32 fpX4_28 rfl rfl (Nat.le_of_ble_eq_true rfl) ?_
  exact x_ret (v := none) (pc := 35) O dX4_init_35 rfl trivial ⟨Nat.le_refl _, Nat.le_refl _, (), rfl, fun h hh => hh⟩
set_option maxRecDepth 100000 in
set_option maxHeartbeats 4000000 in
theorem c_X6_init (l : Launch) (E : En) (P : HP) (q : Nat) (p u g : Int32)  : Mt l E yX6_init cX6_init 4 none (rmX 1 24 0 0) [.ref q, .int p, .int u, .int g] (Nq P q (.inr (6, [.int 0, .int 0, .int 0, .int 0, .int 0, .int 0, .int 0]))) (fun _ : Unit => none) (fun _ => Nq P q (.inr (6, fs0 (nsV p u g)))) := by
  refine Mt_of (by decide +kernel) (Nat.le_of_ble_eq_true rfl) (fun J O => ?_)
  show J _ 0 0 0 [some (.ref q), some (.int p), some (.int u), some (.int g)] []
  refine x_aload_n (pc := 0) O dX6_init_0 rfl rfl ?_
  refine x_obj (pc := 1) O dX6_init_1 oi_X6_3 (Nat.le_of_ble_eq_true rfl) (Nat.le_of_ble_eq_true rfl) ?_
  refine x_aload_n (pc := 4) O dX6_init_4 rfl rfl ?_
  refine x_iload_n (pc := 5) O dX6_init_5 rfl ?_
  refine nq_putF (pc := 6) O rfl dX6_init_6 fpX6_9 rfl rfl (Nat.le_of_ble_eq_true rfl) ?_
  refine x_aload_n (pc := 9) O dX6_init_9 rfl rfl ?_
  refine x_iload_n (pc := 10) O dX6_init_10 rfl ?_
  refine nq_putF (pc := 11) O rfl dX6_init_11 fpX6_15 rfl rfl (Nat.le_of_ble_eq_true rfl) ?_
  refine x_aload_n (pc := 14) O dX6_init_14 rfl rfl ?_
  refine x_iload_n (pc := 15) O dX6_init_15 rfl ?_
  refine nq_putF (pc := 16) O rfl dX6_init_16 fpX6_18 rfl rfl (Nat.le_of_ble_eq_true rfl) ?_
  refine x_aload_n (pc := 19) O dX6_init_19 rfl rfl ?_
  refine x_iconst (v := 0) (pc := 20) O dX6_init_20 (by decide) ?_
  refine nq_put (pc := 21) O dX6_init_21 fpX6_21 rfl rfl (Nat.le_of_ble_eq_true rfl) ?_
  refine x_aload_n (pc := 24) O dX6_init_24 rfl rfl ?_
  refine x_iconst (v := 0) (pc := 25) O dX6_init_25 (by decide) ?_
  refine nq_put (pc := 26) O dX6_init_26 fpX6_24 rfl rfl (Nat.le_of_ble_eq_true rfl) ?_
  exact x_ret (v := none) (pc := 29) O dX6_init_29 rfl trivial ⟨Nat.le_refl _, Nat.le_refl _, (), rfl, fun h hh => hh⟩
set_option maxRecDepth 100000 in
set_option maxHeartbeats 4000000 in
theorem c_X5_init (l : Launch) (E : En) (P : HP) (q : Nat) (w how day : Int32) (b : Nat)  : Mt l E yX5_init cX5_init 5 none (rmX 1 24 0 0) [.ref q, .int w, .int how, .int day, .ref b] (Nq P q (.inr (5, [.int 0, .int 0, .int 0, .null]))) (fun _ : Unit => none) (fun _ => Nq P q (.inr (5, [.int w, .int how, .int day, .ref b]))) := by
  refine Mt_of (by decide +kernel) (Nat.le_of_ble_eq_true rfl) (fun J O => ?_)
  show J _ 0 0 0 [some (.ref q), some (.int w), some (.int how), some (.int day), some (.ref b)] []
  refine x_aload_n (pc := 0) O dX5_init_0 rfl rfl ?_
  refine x_obj (pc := 1) O dX5_init_1 oi_X5_1 (Nat.le_of_ble_eq_true rfl) (Nat.le_of_ble_eq_true rfl) ?_
  refine x_aload_n (pc := 4) O dX5_init_4 rfl rfl ?_
  refine x_iload_n (pc := 5) O dX5_init_5 rfl ?_
  refine nq_putF (pc := 6) O rfl dX5_init_6 fpX5_7 rfl rfl (Nat.le_of_ble_eq_true rfl) ?_
  refine x_aload_n (pc := 9) O dX5_init_9 rfl rfl ?_
  refine x_iload_n (pc := 10) O dX5_init_10 rfl ?_
  refine nq_putF (pc := 11) O rfl dX5_init_11 fpX5_13 rfl rfl (Nat.le_of_ble_eq_true rfl) ?_
  refine x_aload_n (pc := 14) O dX5_init_14 rfl rfl ?_
  refine x_iload_n (pc := 15) O dX5_init_15 rfl ?_
  refine nq_putF (pc := 16) O rfl dX5_init_16 fpX5_16 rfl rfl (Nat.le_of_ble_eq_true rfl) ?_
  refine x_aload_n (pc := 19) O dX5_init_19 rfl rfl ?_
  refine x_aload (pc := 20) O dX5_init_20 rfl rfl ?_
  refine nq_putF (pc := 22) O rfl dX5_init_22 fpX5_19 rfl rfl (Nat.le_of_ble_eq_true rfl) ?_
  exact x_ret (v := none) (pc := 25) O dX5_init_25 rfl trivial ⟨Nat.le_refl _, Nat.le_refl _, (), rfl, fun h hh => hh⟩
set_option maxRecDepth 100000 in
set_option maxHeartbeats 4000000 in
theorem c_X5_init0 (l : Launch) (E : En) (P : HP) (q : Nat) (w how day : Int32)  : Mt l E yX5_init cX5_init 5 none (rmX 1 24 0 0) [.ref q, .int w, .int how, .int day, .null] (Nq P q (.inr (5, [.int 0, .int 0, .int 0, .null]))) (fun _ : Unit => none) (fun _ => Nq P q (.inr (5, [.int w, .int how, .int day, .null]))) := by
  refine Mt_of (by decide +kernel) (Nat.le_of_ble_eq_true rfl) (fun J O => ?_)
  show J _ 0 0 0 [some (.ref q), some (.int w), some (.int how), some (.int day), some (.null)] []
  refine x_aload_n (pc := 0) O dX5_init_0 rfl rfl ?_
  refine x_obj (pc := 1) O dX5_init_1 oi_X5_1 (Nat.le_of_ble_eq_true rfl) (Nat.le_of_ble_eq_true rfl) ?_
  refine x_aload_n (pc := 4) O dX5_init_4 rfl rfl ?_
  refine x_iload_n (pc := 5) O dX5_init_5 rfl ?_
  refine nq_putF (pc := 6) O rfl dX5_init_6 fpX5_7 rfl rfl (Nat.le_of_ble_eq_true rfl) ?_
  refine x_aload_n (pc := 9) O dX5_init_9 rfl rfl ?_
  refine x_iload_n (pc := 10) O dX5_init_10 rfl ?_
  refine nq_putF (pc := 11) O rfl dX5_init_11 fpX5_13 rfl rfl (Nat.le_of_ble_eq_true rfl) ?_
  refine x_aload_n (pc := 14) O dX5_init_14 rfl rfl ?_
  refine x_iload_n (pc := 15) O dX5_init_15 rfl ?_
  refine nq_putF (pc := 16) O rfl dX5_init_16 fpX5_16 rfl rfl (Nat.le_of_ble_eq_true rfl) ?_
  refine x_aload_n (pc := 19) O dX5_init_19 rfl rfl ?_
  refine x_aload (pc := 20) O dX5_init_20 rfl rfl ?_
  refine nq_putF (pc := 22) O rfl dX5_init_22 fpX5_19 rfl rfl (Nat.le_of_ble_eq_true rfl) ?_
  exact x_ret (v := none) (pc := 25) O dX5_init_25 rfl trivial ⟨Nat.le_refl _, Nat.le_refl _, (), rfl, fun h hh => hh⟩
