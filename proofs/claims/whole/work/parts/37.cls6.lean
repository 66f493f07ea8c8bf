/-! ===== CLS 6: lines of heirs, leaves ===== -/
theorem cmpn {x : Int64} (h : ¬ lg_cmp x 0 = 0) : ¬ x = 0 := fun z => h ((cmp0 x).mpr z)
theorem cmpz {x : Int64} (h : lg_cmp x 0 = 0) : x = 0 := (cmp0 x).mp h
theorem bt6_and1 (x : Int64) {j : Nat} (hj : j < 64) : (x &&& ((1 : Int64) <<< ((nI j).toInt64 &&& 63))) = 0 ↔ bt6 x j = false := by
  rw [bt6_zero]
  constructor
  · intro h
    have h0 := h j
    rw [bt6_and, bt6_one hj, decide_eq_true rfl, Bool.and_true] at h0
    exact h0
  · intro h q
    rw [bt6_and, bt6_one hj]
    by_cases e : j = q
    · subst e; rw [h]; rfl
    · rw [decide_eq_false e, Bool.and_false]
theorem bit_pos : ∀ j, j < 60 → ¬ lg_cmp ((1 : Int64) <<< ((nI j).toInt64 &&& 63)) 0 ≤ 0 := by decide +kernel
theorem bit_hlf : ∀ j, j < 60 → ((1 : Int64) <<< ((nI (j + 1)).toInt64 &&& 63)) >>> ((1 : Int32).toInt64 &&& 63) = (1 : Int64) <<< ((nI j).toInt64 &&& 63) := by decide +kernel
/-- a line: its bits, and the list of its persons -/
def LNs (m : Nat) (x : Int64) (g : List Nat) : Prop := g = (List.range m).filter (bt6 x) ∧ ∀ p, m ≤ p → bt6 x p = false
theorem LNs_of {m : Nat} {x : Int64} {B : Nat → Bool} (h : ∀ c, bt6 x c = true ↔ c < m ∧ B c = true) : LNs m x ((List.range m).filter B) := by
  refine ⟨List.filter_congr (fun c hc => ?_), fun p hp => ?_⟩
  · have hc := List.mem_range.mp hc
    rw [Bool.eq_iff_iff, h c]
    exact ⟨fun z => ⟨hc, z⟩, fun z => z.2⟩
  · cases hb : bt6 x p with
    | false => rfl
    | true => have := ((h p).mp hb).1; omega
theorem LNs_0 {m : Nat} {x : Int64} {g : List Nat} (h : LNs m x g) : x = 0 ↔ g = [] := by
  obtain ⟨rfl, h2⟩ := h
  rw [bt6_zero, List.filter_eq_nil_iff]
  constructor
  · intro z a _; rw [z a]; decide
  · intro z p
    rcases Nat.lt_or_ge p m with hp | hp
    · have := z p (List.mem_range.mpr hp); simpa using this
    · exact h2 p hp
theorem LNs_z (m : Nat) : LNs m 0 [] := by
  have := LNs_of (m := m) (x := 0) (B := fun _ => false) (fun c => by rw [bt6_z]; simp)
  rw [show List.filter (fun _ => false) (List.range m) = [] from by simp] at this
  exact this
theorem LNs_mem {m : Nat} {x : Int64} {g : List Nat} (h : LNs m x g) {c : Nat} : c ∈ g ↔ c < m ∧ bt6 x c = true := by
  rw [h.1]; simp
theorem flt_one (m k : Nat) (hk : k < m) : (List.range m).filter (fun p => decide (k = p)) = [k] := by
  induction m with
  | zero => omega
  | succ m ih =>
    rw [List.range_succ, List.filter_append]
    by_cases h : k = m
    · subst h
      have : (List.range k).filter (fun p => decide (k = p)) = [] := by
        rw [List.filter_eq_nil_iff]
        intro a ha
        have := List.mem_range.mp ha
        simp; omega
      rw [this]; simp
    · rw [ih (by omega)]; simp [h]
theorem flt_head {B : Nat → Bool} {k : Nat} (hb : B k = true) (hl : ∀ j, j < k → B j = false) : ∀ m, k < m → ∃ r, (List.range m).filter B = k :: r := by
  intro m
  induction m with
  | zero => intro h; omega
  | succ m ih =>
    intro h
    rw [List.range_succ, List.filter_append]
    by_cases e : k = m
    · subst e
      have : (List.range k).filter B = [] := by
        rw [List.filter_eq_nil_iff]
        intro a ha
        rw [hl a (List.mem_range.mp ha)]; decide
      rw [this]; simp [hb]
    · obtain ⟨r, hr⟩ := ih (by omega)
      rw [hr]; exact ⟨_, rfl⟩
theorem flt_last {B : Nat → Bool} {k : Nat} (hb : B k = true) : ∀ m, k < m → (∀ j, k < j → j < m → B j = false) → ∃ r, (List.range m).filter B = r ++ [k] := by
  intro m
  induction m with
  | zero => intro h; omega
  | succ m ih =>
    intro h hl
    rw [List.range_succ, List.filter_append]
    by_cases e : k = m
    · subst e
      exact ⟨(List.range k).filter B, by simp [hb]⟩
    · obtain ⟨r, hr⟩ := ih (by omega) (fun j h1 h2 => hl j h1 (by omega))
      rw [hr]
      exact ⟨r, by simp [hl m (by omega) (by omega)]⟩
theorem top_bit (B : Nat → Bool) : ∀ m, (∃ p, p < m ∧ B p = true) → ∃ k, k < m ∧ B k = true ∧ ∀ j, k < j → j < m → B j = false := by
  intro m
  induction m with
  | zero => rintro ⟨p, hp, -⟩; omega
  | succ m ih =>
    rintro ⟨p, hp, hb⟩
    cases hm : B m with
    | true => exact ⟨m, by omega, hm, fun j h1 h2 => by omega⟩
    | false =>
      have : p ≠ m := fun z => by rw [z, hm] at hb; cases hb
      obtain ⟨k, h1, h2, h3⟩ := ih ⟨p, by omega, hb⟩
      exact ⟨k, by omega, h2, fun j g1 g2 => by
        by_cases e : j = m
        · rw [e, hm]
        · exact h3 j g1 (by omega)⟩
/-- the class's people stand as in the rows -/
def KA (V : Nat → Nat → Nat → Int32) (VL : Nat → Nat → Nat → Int64) (a : Ar) (m : Nat) : Prop := (∀ p, p < m → a 9 p = V 1 p 0 ∧ a 10 p = V 1 p 1 ∧ a 11 p = V 1 p 2 ∧ a 20 p = V 1 p 4) ∧ (∀ p c, p < m → (bt6 (VL 1 p 12) c = true ↔ c < m ∧ a 9 c = 0 ∧ chd a c p)) ∧ ∀ p c, p < m → (bt6 (VL 1 p 13) c = true ↔ c < m ∧ a 9 c = 1 ∧ chd a c p)
/-- who lives and who lasts, as bits -/
def LKd (VL : Nat → Nat → Nat → Int64) (al ln : Nat → Bool) (m : Nat) : Prop := (∀ c, bt6 (VL 0 1 5) c = true ↔ c < m ∧ al c = true) ∧ ∀ c, bt6 (VL 0 1 6) c = true ↔ c < m ∧ ln c = true
theorem kid_bits {sx ls bx : Int64} {a : Ar} {ln : Nat → Bool} {m j : Nat} {but s : Int32} (hm : m ≤ 60) (h1 : ∀ c, bt6 sx c = true ↔ c < m ∧ a 9 c = s ∧ chd a c j) (h2 : ∀ c, bt6 ls c = true ↔ c < m ∧ ln c = true) (h3 : ∀ c, c < m → (bt6 bx c = true ↔ nI c = but)) : ∀ c, bt6 (sx &&& ls &&& (bx ^^^ (-1))) c = true ↔ c < m ∧ kidB a ln j but s c = true := by
  intro c
  rw [bt6_and, bt6_and, kidB_iff]
  by_cases hc : c < m
  · rw [bt6_not _ (by omega)]
    simp only [Bool.and_eq_true, Bool.not_eq_true', h1 c, h2 c, kidP]
    have e : bt6 bx c = false ↔ ¬ nI c = but := by
      rw [← h3 c hc]; cases bt6 bx c <;> simp
    rw [e]
    constructor
    · rintro ⟨⟨⟨q1, q2, q3⟩, q4, q5⟩, q6⟩; exact ⟨hc, q6, q2, q5, q3⟩
    · rintro ⟨-, q6, q2, q5, q3⟩; exact ⟨⟨⟨hc, q2, q3⟩, hc, q5⟩, q6⟩
  · constructor
    · intro h
      simp only [Bool.and_eq_true, h1 c] at h
      exact absurd h.1.1.1 hc
    · intro h; exact absurd h.1 hc
theorem LNs_one {m k : Nat} {x : Int64} (hk : k < m) (h : ∀ p, bt6 x p = decide (k = p)) : LNs m x [k] := by
  rw [← flt_one m k hk]
  exact LNs_of (fun c => by rw [h c]; simp only [decide_eq_true_eq]; exact ⟨fun z => ⟨by omega, z⟩, fun z => z.2⟩)

set_option maxRecDepth 100000 in
set_option maxHeartbeats 4000000 in
theorem c_X1_isIn (l : Launch) (E : En) (P : HP) (x : Int64) (p : Nat) (hp : p < 64) : Mt l E yX1_isIn cX1_isIn 3 (some .boolean) (rmX 0 0 0 0) [.long x, .int (nI p)] (P) (fun _ : Unit => some (.int (b2i (bt6 x p = true)))) (fun _ => P) := by
  refine Mt_of (by decide +kernel) (Nat.le_of_ble_eq_true rfl) (fun J O => ?_)
  show J _ 0 0 0 [some (.long x), none, some (.int (nI p))] []
  refine x_lload_n (pc := 0) O dX1_isIn_0 rfl ?_
  refine x_iload_n (pc := 1) O dX1_isIn_1 rfl ?_
  refine x_lshr (pc := 2) O dX1_isIn_2 ?_
  refine x_lconst (v := 1) (pc := 3) O dX1_isIn_3 rfl ?_
  refine x_land (pc := 4) O dX1_isIn_4 ?_
  refine x_lconst (v := 0) (pc := 5) O dX1_isIn_5 rfl ?_
  refine x_lcmp (pc := 6) O dX1_isIn_6 ?_
  refine x_if_eq (pc := 7) O 14 dX1_isIn_7 (by decide) (fun c7 => ?_) (fun c7 => ?_)
  · refine x_iconst (v := 0) (pc := 14) O dX1_isIn_14 (by decide) ?_
    exact x_ret (v := some (.int _)) (pc := 15) O dX1_isIn_15 rfl (rfl) ⟨Nat.le_refl _, Nat.le_refl _, (), congrArg (fun z => some (Value.int z)) ((b2i_f (by rw [(isIn6 x hp).mp (cmpz c7)]; decide)).symm), fun h hh => hh⟩
  · refine x_iconst (v := 1) (pc := 10) O dX1_isIn_10 (by decide) ?_
    refine x_goto (pc := 11) O 15 dX1_isIn_11 (by decide) ?_
    exact x_ret (v := some (.int _)) (pc := 15) O dX1_isIn_15 rfl (rfl) ⟨Nat.le_refl _, Nat.le_refl _, (), congrArg (fun z => some (Value.int z)) ((b2i_t (by cases hb : bt6 x p with
      | true => rfl
      | false => exact absurd ((isIn6 x hp).mpr hb) (cmpn c7))).symm), fun h hh => hh⟩
set_option maxRecDepth 100000 in
set_option maxHeartbeats 4000000 in
theorem c_X1_youngestOf (l : Launch) (E : En) (P : HP) (x : Int64) (k0 : Nat) (hk0 : k0 < 60) (hk1 : bt6 x k0 = true) (hk2 : ∀ j, k0 < j → j < 60 → bt6 x j = false) : Mt l E yX1_youngestOf cX1_youngestOf 4 (some .long) (rmX 0 0 0 0) [.long x] (P) (fun _ : Unit => some (.long ((1 : Int64) <<< ((nI k0).toInt64 &&& 63)))) (fun _ => P) := by
  refine Mt_of (by decide +kernel) (Nat.le_of_ble_eq_true rfl) (fun J O => ?_)
  show J _ 0 0 0 [some (.long x), none, none, none] []
  have ystep : ∀ k, k0 ≤ k → k < 60 → (∀ k2, k = k2 + 1 → k0 ≤ k2 → k2 < 60 → J P 0 0 4 [some (.long x), none, some (.long ((1 : Int64) <<< ((nI k2).toInt64 &&& 63))), none] []) → J P 0 0 4 [some (.long x), none, some (.long ((1 : Int64) <<< ((nI k).toInt64 &&& 63))), none] [] := by
    intro k hk0 hk ihy
    refine x_lload_n (pc := 4) O dX1_youngestOf_4 rfl ?_
    refine x_lconst (v := 0) (pc := 5) O dX1_youngestOf_5 rfl ?_
    refine x_lcmp (pc := 6) O dX1_youngestOf_6 ?_
    refine x_if_le (pc := 7) O 27 dX1_youngestOf_7 (by decide) (fun c7 => ?_) (fun c7 => ?_)
    · exact absurd c7 (bit_pos k (by omega))
    · refine x_lload_n (pc := 10) O dX1_youngestOf_10 rfl ?_
      refine x_lload_n (pc := 11) O dX1_youngestOf_11 rfl ?_
      refine x_land (pc := 12) O dX1_youngestOf_12 ?_
      refine x_lconst (v := 0) (pc := 13) O dX1_youngestOf_13 rfl ?_
      refine x_lcmp (pc := 14) O dX1_youngestOf_14 ?_
      refine x_if_eq (pc := 15) O 20 dX1_youngestOf_15 (by decide) (fun c15 => ?_) (fun c15 => ?_)
      · have ek : k0 < k := by
          rcases Nat.lt_trichotomy k k0 with h | h | h
          · exact absurd h (by omega)
          · subst h; rw [(bt6_and1 x (by omega)).mp (cmpz c15)] at hk1; cases hk1
          · exact h
        obtain ⟨k2, rfl⟩ : ∃ k2, k = k2 + 1 := ⟨k - 1, by omega⟩
        refine x_lload_n (pc := 20) O dX1_youngestOf_20 rfl ?_
        refine x_iconst (v := 1) (pc := 21) O dX1_youngestOf_21 (by decide) ?_
        refine x_lshr (pc := 22) O dX1_youngestOf_22 ?_
        rw [bit_hlf k2 (by omega)]
        refine x_lstore_n (pc := 23) O dX1_youngestOf_23 (by decide) rfl ?_
        refine x_goto (pc := 24) O 4 dX1_youngestOf_24 (by decide) ?_
        exact ihy k2 rfl (by omega) (by omega)
      · refine x_lload_n (pc := 18) O dX1_youngestOf_18 rfl ?_
        have ek : k = k0 := by
          rcases Nat.lt_trichotomy k k0 with h | h | h
          · exact absurd h (by omega)
          · exact h
          · exact absurd ((bt6_and1 x (by omega)).mpr (hk2 k h (by omega))) (cmpn c15)
        subst ek
        exact x_ret (v := some (.long _)) (pc := 19) O dX1_youngestOf_19 rfl trivial ⟨Nat.le_refl _, Nat.le_refl _, (), rfl, fun h hh => hh⟩
  have loop : ∀ k, k0 ≤ k → k < 60 → J P 0 0 4 [some (.long x), none, some (.long ((1 : Int64) <<< ((nI k).toInt64 &&& 63))), none] [] := by
    refine dn_ind (Φ := fun k => k0 ≤ k → k < 60 → J P 0 0 4 [some (.long x), none, some (.long ((1 : Int64) <<< ((nI k).toInt64 &&& 63))), none] []) ?_ ?_
    · intro hk0 hk
      have ih : ∀ k2, 0 = k2 + 1 → k0 ≤ k2 → k2 < 60 → J P 0 0 4 [some (.long x), none, some (.long ((1 : Int64) <<< ((nI k2).toInt64 &&& 63))), none] [] := fun k2 z => absurd z (by omega)
      exact ystep 0 hk0 hk (fun k2 z => absurd z (by omega))
    · intro k ih hk0 hk
      exact ystep (k + 1) hk0 hk (fun k2 z h1 h2 => by have : k2 = k := by omega
                                                       subst this; exact ih h1 h2)
  refine x_ldc2 (pc := 0) O dX1_youngestOf_0 cnX1_92 ?_
  rw [show (576460752303423488 : Int64) = ((1 : Int64) <<< ((nI 59).toInt64 &&& 63)) from by decide]
  refine x_lstore_n (pc := 3) O dX1_youngestOf_3 (by decide) rfl ?_
  exact loop 59 (by omega) (by omega)
def cnt6 (x : Int64) : Nat := ((List.range 64).filter (bt6 x)).length
theorem us_k : ∀ k, k < 64 → ((nI k).toInt64.toUInt64 &&& Int64.toUInt64 63).toNat % 64 = k := by decide +kernel
theorem uN_us (x : Int64) (c : Int32) {k : Nat} (hk : k < 64) (hc : c = nI k) : uN (x.toUInt64 >>> (c.toInt64.toUInt64 &&& Int64.toUInt64 63)).toInt64 = uN x / 2 ^ k := by
  subst hc; rw [uN_shr, us_k k hk]
def bcF (x : Int64) : Int64 :=
  let i1 := x - ((x.toUInt64 >>> ((1 : Int32).toInt64.toUInt64 &&& Int64.toUInt64 63)).toInt64 &&& 6148914691236517205)
  let i2 := (i1 &&& 3689348814741910323) + ((i1.toUInt64 >>> ((2 : Int32).toInt64.toUInt64 &&& Int64.toUInt64 63)).toInt64 &&& 3689348814741910323)
  let i3 := (i2 + (i2.toUInt64 >>> ((4 : Int32).toInt64.toUInt64 &&& Int64.toUInt64 63)).toInt64) &&& 1085102592571150095
  let i4 := i3 + (i3.toUInt64 >>> ((8 : Int32).toInt64.toUInt64 &&& Int64.toUInt64 63)).toInt64
  let i5 := i4 + (i4.toUInt64 >>> ((16 : Int32).toInt64.toUInt64 &&& Int64.toUInt64 63)).toInt64
  i5 + (i5.toUInt64 >>> ((32 : Int32).toInt64.toUInt64 &&& Int64.toUInt64 63)).toInt64
theorem bcF_u (x : Int64) : uN (bcF x) = pcnt6 (uN x) := by
  obtain ⟨-, hlt, h60⟩ := pcnt6_is (uN x) (uN_lt x)
  unfold pcnt6 at hlt ⊢
  dsimp only at hlt ⊢
  unfold bcF
  dsimp only
  generalize e1 : x - ((x.toUInt64 >>> ((1 : Int32).toInt64.toUInt64 &&& Int64.toUInt64 63)).toInt64 &&& 6148914691236517205) = i1
  have u1 : uN i1 = pf1 8 (uN x) := by
    have ha : uN ((x.toUInt64 >>> ((1 : Int32).toInt64.toUInt64 &&& Int64.toUInt64 63)).toInt64 &&& 6148914691236517205) = ((uN x / 2) &&& pmk 85 8) := by
      rw [uN_and, uN_us x 1 (k := 1) (by decide) rfl]; rfl
    have hl : ((uN x / 2) &&& pmk 85 8) ≤ uN x / 2 := Nat.and_le_left
    rw [← e1, uN_sub (by rw [ha]; omega), ha]; rfl
  generalize e2 : (i1 &&& 3689348814741910323) + ((i1.toUInt64 >>> ((2 : Int32).toInt64.toUInt64 &&& Int64.toUInt64 63)).toInt64 &&& 3689348814741910323) = i2
  have u2 : uN i2 = pf2 8 (pf1 8 (uN x)) := by
    have m2 : pmk 51 8 = 3689348814741910323 := by decide
    have hl : (uN i1 &&& pmk 51 8) ≤ pmk 51 8 := Nat.and_le_right
    have hl2 : ((uN i1 / 4) &&& pmk 51 8) ≤ pmk 51 8 := Nat.and_le_right
    have ea : uN (i1 &&& 3689348814741910323) = (uN i1 &&& pmk 51 8) := by rw [uN_and]; rfl
    have eb : uN ((i1.toUInt64 >>> ((2 : Int32).toInt64.toUInt64 &&& Int64.toUInt64 63)).toInt64 &&& 3689348814741910323) = ((uN i1 / 4) &&& pmk 51 8) := by
      rw [uN_and, uN_us i1 2 (k := 2) (by decide) rfl]; rfl
    rw [← e2, uN_add, ea, eb, ← u1]
    unfold pf2
    rw [Nat.mod_eq_of_lt (by omega)]
  have b2 : uN i2 < 2 ^ 63 := by
    have m2 : pmk 51 8 = 3689348814741910323 := by decide
    have hl : (pf1 8 (uN x) &&& pmk 51 8) ≤ pmk 51 8 := Nat.and_le_right
    have hl2 : ((pf1 8 (uN x) / 4) &&& pmk 51 8) ≤ pmk 51 8 := Nat.and_le_right
    rw [u2]
    unfold pf2
    omega
  generalize e3 : (i2 + (i2.toUInt64 >>> ((4 : Int32).toInt64.toUInt64 &&& Int64.toUInt64 63)).toInt64) &&& 1085102592571150095 = i3
  have u3 : uN i3 = pf3 8 (pf2 8 (pf1 8 (uN x))) := by
    rw [← e3, uN_and, uN_add, uN_us i2 4 (k := 4) (by decide) rfl, ← u2]
    unfold pf3
    rw [Nat.mod_eq_of_lt (by omega)]; rfl
  rw [← u3] at hlt h60 ⊢
  generalize e4 : i3 + (i3.toUInt64 >>> ((8 : Int32).toInt64.toUInt64 &&& Int64.toUInt64 63)).toInt64 = i4
  have u4 : uN i4 = uN i3 + uN i3 / 256 := by
    rw [← e4, uN_add, uN_us i3 8 (k := 8) (by decide) rfl, Nat.mod_eq_of_lt (by omega)]
  rw [← u4] at hlt ⊢
  generalize e5 : i4 + (i4.toUInt64 >>> ((16 : Int32).toInt64.toUInt64 &&& Int64.toUInt64 63)).toInt64 = i5
  have u5 : uN i5 = uN i4 + uN i4 / 65536 := by
    rw [← e5, uN_add, uN_us i4 16 (k := 16) (by decide) rfl, Nat.mod_eq_of_lt (by omega)]
  rw [← u5] at hlt ⊢
  rw [uN_add, uN_us i5 32 (k := 32) (by decide) rfl, Nat.mod_eq_of_lt (by omega)]
theorem lN_uN (x : Int64) : lN (uN x) = x := by
  apply uN_inj
  show (BitVec.ofNat 64 (uN x)).toNat = uN x
  rw [BitVec.toNat_ofNat, Nat.mod_eq_of_lt (uN_lt x)]
theorem bc_is (x : Int64) : (bcF x).toInt32 &&& 127 = nI (cnt6 x) := by
  have h := (pcnt6_is (uN x) (uN_lt x)).1
  rw [pk_and _ 7 (by decide)]
  congr 1
  have e : (bcF x).toInt32 = nI (uN (bcF x)) := by
    conv => lhs; rw [← lN_uN (bcF x)]
    exact lN_i _
  have e2 : (nI (uN (bcF x))).toBitVec.toNat = uN (bcF x) % 2 ^ 32 := BitVec.toNat_ofNat _ _
  rw [e, e2, bcF_u]
  unfold cnt6
  show _ = ((List.range 64).filter (uN x).testBit).length
  omega
set_option maxRecDepth 100000 in
set_option maxHeartbeats 4000000 in
theorem c_J13_bitCount (l : Launch) (E : En) (P : HP) (x : Int64)  : Mt l E yJ13_bitCount_95d88 cJ13_bitCount_95d88 2 (some .int) (rmX 0 0 0 0) [.long x] (P) (fun _ : Unit => some (.int (nI (cnt6 x)))) (fun _ => P) := by
  refine Mt_of (by decide +kernel) (Nat.le_of_ble_eq_true rfl) (fun J O => ?_)
  show J _ 0 0 0 [some (.long x), none] []
  refine x_lload_n (pc := 0) O dJ13_bitCount_95d88_0 rfl ?_
  refine x_lload_n (pc := 1) O dJ13_bitCount_95d88_1 rfl ?_
  refine x_iconst (v := 1) (pc := 2) O dJ13_bitCount_95d88_2 (by decide) ?_
  refine x_lushr (pc := 3) O dJ13_bitCount_95d88_3 ?_
  refine x_ldc2 (pc := 4) O dJ13_bitCount_95d88_4 cnJ13_314 ?_
  refine x_land (pc := 7) O dJ13_bitCount_95d88_7 ?_
  refine x_lsub (pc := 8) O dJ13_bitCount_95d88_8 ?_
  refine x_lstore_n (pc := 9) O dJ13_bitCount_95d88_9 (by decide) rfl ?_
  refine x_lload_n (pc := 10) O dJ13_bitCount_95d88_10 rfl ?_
  refine x_ldc2 (pc := 11) O dJ13_bitCount_95d88_11 cnJ13_316 ?_
  refine x_land (pc := 14) O dJ13_bitCount_95d88_14 ?_
  refine x_lload_n (pc := 15) O dJ13_bitCount_95d88_15 rfl ?_
  refine x_iconst (v := 2) (pc := 16) O dJ13_bitCount_95d88_16 (by decide) ?_
  refine x_lushr (pc := 17) O dJ13_bitCount_95d88_17 ?_
  refine x_ldc2 (pc := 18) O dJ13_bitCount_95d88_18 cnJ13_316 ?_
  refine x_land (pc := 21) O dJ13_bitCount_95d88_21 ?_
  refine x_ladd (pc := 22) O dJ13_bitCount_95d88_22 ?_
  refine x_lstore_n (pc := 23) O dJ13_bitCount_95d88_23 (by decide) rfl ?_
  refine x_lload_n (pc := 24) O dJ13_bitCount_95d88_24 rfl ?_
  refine x_lload_n (pc := 25) O dJ13_bitCount_95d88_25 rfl ?_
  refine x_iconst (v := 4) (pc := 26) O dJ13_bitCount_95d88_26 (by decide) ?_
  refine x_lushr (pc := 27) O dJ13_bitCount_95d88_27 ?_
  refine x_ladd (pc := 28) O dJ13_bitCount_95d88_28 ?_
  refine x_ldc2 (pc := 29) O dJ13_bitCount_95d88_29 cnJ13_318 ?_
  refine x_land (pc := 32) O dJ13_bitCount_95d88_32 ?_
  refine x_lstore_n (pc := 33) O dJ13_bitCount_95d88_33 (by decide) rfl ?_
  refine x_lload_n (pc := 34) O dJ13_bitCount_95d88_34 rfl ?_
  refine x_lload_n (pc := 35) O dJ13_bitCount_95d88_35 rfl ?_
  refine x_bipush (v := 8) (pc := 36) O dJ13_bitCount_95d88_36 (by decide) ?_
  refine x_lushr (pc := 38) O dJ13_bitCount_95d88_38 ?_
  refine x_ladd (pc := 39) O dJ13_bitCount_95d88_39 ?_
  refine x_lstore_n (pc := 40) O dJ13_bitCount_95d88_40 (by decide) rfl ?_
  refine x_lload_n (pc := 41) O dJ13_bitCount_95d88_41 rfl ?_
  refine x_lload_n (pc := 42) O dJ13_bitCount_95d88_42 rfl ?_
  refine x_bipush (v := 16) (pc := 43) O dJ13_bitCount_95d88_43 (by decide) ?_
  refine x_lushr (pc := 45) O dJ13_bitCount_95d88_45 ?_
  refine x_ladd (pc := 46) O dJ13_bitCount_95d88_46 ?_
  refine x_lstore_n (pc := 47) O dJ13_bitCount_95d88_47 (by decide) rfl ?_
  refine x_lload_n (pc := 48) O dJ13_bitCount_95d88_48 rfl ?_
  refine x_lload_n (pc := 49) O dJ13_bitCount_95d88_49 rfl ?_
  refine x_bipush (v := 32) (pc := 50) O dJ13_bitCount_95d88_50 (by decide) ?_
  refine x_lushr (pc := 52) O dJ13_bitCount_95d88_52 ?_
  refine x_ladd (pc := 53) O dJ13_bitCount_95d88_53 ?_
  refine x_lstore_n (pc := 54) O dJ13_bitCount_95d88_54 (by decide) rfl ?_
  refine x_lload_n (pc := 55) O dJ13_bitCount_95d88_55 rfl ?_
  refine x_l2i (pc := 56) O dJ13_bitCount_95d88_56 ?_
  refine x_bipush (v := 127) (pc := 57) O dJ13_bitCount_95d88_57 (by decide) ?_
  refine x_iand (pc := 59) O dJ13_bitCount_95d88_59 ?_
  exact x_ret (v := some (.int _)) (pc := 60) O dJ13_bitCount_95d88_60 rfl (rfl) ⟨Nat.le_refl _, Nat.le_refl _, (), congrArg (fun z => some (Value.int z)) (bc_is x), fun h hh => hh⟩
