/-! ===== BITS of a long ===== -/
def uN (x : Int64) : Nat := x.toUInt64.toNat
theorem uN_lt (x : Int64) : uN x < 18446744073709551616 := x.toUInt64.toNat_lt
theorem uN_inj {x y : Int64} (h : uN x = uN y) : x = y := congrArg UInt64.toInt64 (UInt64.toNat_inj.mp h)
theorem uN_add (x y : Int64) : uN (x + y) = (uN x + uN y) % 18446744073709551616 := by
  show (x.toUInt64 + y.toUInt64).toNat = _
  exact UInt64.toNat_add _ _
theorem uN_sub {x y : Int64} (h : uN y ≤ uN x) : uN (x - y) = uN x - uN y := by
  have e : uN (x - y) = (18446744073709551616 - uN y + uN x) % 18446744073709551616 := by
    show (x.toUInt64 - y.toUInt64).toNat = _
    exact UInt64.toNat_sub _ _
  have h1 := uN_lt x
  have h2 := uN_lt y
  rw [e]
  omega
theorem uN_and (x y : Int64) : uN (x &&& y) = uN x &&& uN y := UInt64.toNat_and _ _
theorem uN_or6 (x y : Int64) : uN (x ||| y) = uN x ||| uN y := UInt64.toNat_or _ _
theorem uN_xor6 (x y : Int64) : uN (x ^^^ y) = uN x ^^^ uN y := UInt64.toNat_xor _ _
theorem uN_shr (x : Int64) (s : UInt64) : uN (x.toUInt64 >>> s).toInt64 = uN x / 2 ^ (s.toNat % 64) := by
  show (x.toUInt64 >>> s).toNat = _
  rw [UInt64.toNat_shiftRight, Nat.shiftRight_eq_div_pow]
  rfl
def bt6 (x : Int64) (p : Nat) : Bool := (uN x).testBit p
theorem bt6_bv (x : Int64) (p : Nat) : bt6 x p = x.toBitVec.getLsbD p := rfl
theorem bt6_and (x y : Int64) (p : Nat) : bt6 (x &&& y) p = (bt6 x p && bt6 y p) := by unfold bt6; rw [uN_and, Nat.testBit_and]
theorem bt6_or (x y : Int64) (p : Nat) : bt6 (x ||| y) p = (bt6 x p || bt6 y p) := by unfold bt6; rw [uN_or6, Nat.testBit_or]
theorem bt6_not (x : Int64) {p : Nat} (hp : p < 64) : bt6 (x ^^^ (-1)) p = !bt6 x p := by
  unfold bt6
  rw [uN_xor6, Nat.testBit_xor, show uN (-1) = 2 ^ 64 - 1 from by decide, Nat.testBit_two_pow_sub_one]
  simp [hp]
theorem bt6_big (x : Int64) {p : Nat} (hp : 64 ≤ p) : bt6 x p = false := by
  rw [bt6_bv]; exact BitVec.getLsbD_of_ge _ _ hp
theorem uN_one : ∀ c, c < 64 → uN ((1 : Int64) <<< ((nI c).toInt64 &&& 63)) = 2 ^ c := by decide +kernel
theorem bt6_one {c : Nat} (hc : c < 64) (p : Nat) : bt6 ((1 : Int64) <<< ((nI c).toInt64 &&& 63)) p = decide (c = p) := by
  unfold bt6; rw [uN_one c hc, Nat.testBit_two_pow]
theorem bt6_z (p : Nat) : bt6 0 p = false := by
  show (0 : Nat).testBit p = false
  exact Nat.zero_testBit p
theorem bt6_ext {x y : Int64} (h : ∀ p, bt6 x p = bt6 y p) : x = y := uN_inj (Nat.eq_of_testBit_eq h)
theorem bt6_zero (x : Int64) : x = 0 ↔ ∀ p, bt6 x p = false := ⟨fun h p => by rw [h]; exact bt6_z p, fun h => bt6_ext (fun p => by rw [h p, bt6_z])⟩
theorem wb_c6 : ∀ k, k < 64 → ((nI k).toInt64 &&& 63) = lN k := by decide +kernel
theorem sm64 : ∀ k, k < 64 → ((lN k).toBitVec.smod 64).toNat = k := by decide +kernel
theorem bt6_shr (x : Int64) {p q : Nat} (hp : p < 64) (hq : p + q < 64) : bt6 (x >>> ((nI p).toInt64 &&& 63)) q = bt6 x (p + q) := by
  rw [bt6_bv, bt6_bv, wb_c6 p hp, Int64.toBitVec_shiftRight]
  show (x.toBitVec.sshiftRight ((lN p).toBitVec.smod 64).toNat).getLsbD q = _
  rw [sm64 p hp, BitVec.getLsbD_sshiftRight, if_pos hq]
  have : decide (64 ≤ q) = false := decide_eq_false (by omega)
  rw [this]
  simp
theorem bt6_1 (q : Nat) : bt6 1 q = decide (0 = q) := by
  show (1 : Nat).testBit q = _
  rw [show (1 : Nat) = 2 ^ 0 from rfl, Nat.testBit_two_pow]
theorem isIn6 (x : Int64) {p : Nat} (hp : p < 64) : ((x >>> ((nI p).toInt64 &&& 63)) &&& 1) = 0 ↔ bt6 x p = false := by
  have e := bt6_shr x (p := p) (q := 0) hp (by omega)
  rw [Nat.add_zero] at e
  rw [bt6_zero]
  constructor
  · intro h
    have h0 := h 0
    rw [bt6_and, e, bt6_1] at h0
    simpa using h0
  · intro h q
    rw [bt6_and, bt6_1]
    by_cases hq : 0 = q
    · subst hq; rw [e, h]; rfl
    · rw [decide_eq_false hq, Bool.and_false]
theorem cmp0 (x : Int64) : lg_cmp x 0 = 0 ↔ x = 0 := by
  unfold lg_cmp
  constructor
  · intro h
    split at h
    · exact absurd h (by decide)
    · split at h
      · assumption
      · exact absurd h (by decide)
  · intro h
    subst h
    decide
/-- the lowest -/
theorem low6 {x : Int64} {k : Nat} (hk : bt6 x k = true) (hl : ∀ j, j < k → bt6 x j = false) (p : Nat) : bt6 (x &&& -x) p = decide (k = p) := by
  have hu := uN_lt x
  have h0 : uN x ≠ 0 := fun z => by
    unfold bt6 at hk; rw [z, Nat.zero_testBit] at hk; cases hk
  have hk64 : k < 64 := by
    rcases Nat.lt_or_ge k 64 with h | h
    · exact h
    · rw [bt6_big x h] at hk; cases hk
  have hn : uN (-x) = 2 ^ 64 - (uN x - 1 + 1) := by
    have e : uN (-x) = (18446744073709551616 - uN x) % 18446744073709551616 := by
      show (-x.toUInt64).toNat = _
      exact UInt64.toNat_neg _
    rw [e]
    have : (2 : Nat) ^ 64 = 18446744073709551616 := by decide
    omega
  by_cases hp : p < 64
  · rw [bt6_and]
    unfold bt6 at hk hl ⊢
    rw [hn, Nat.testBit_two_pow_sub_succ (by have : (2 : Nat) ^ 64 = 18446744073709551616 := by decide
                                             omega), decide_eq_true hp, Bool.true_and]
    generalize uN x = u at *
    have hz : u % 2 ^ k = 0 := by
      apply Nat.eq_of_testBit_eq
      intro j
      rw [Nat.testBit_mod_two_pow, Nat.zero_testBit]
      by_cases hj : j < k
      · rw [hl j hj, Bool.and_false]
      · rw [decide_eq_false hj, Bool.false_and]
    obtain ⟨w, hw⟩ : ∃ w, u = 2 ^ k * w := ⟨u / 2 ^ k, by rw [Nat.mul_div_cancel' (Nat.dvd_of_mod_eq_zero hz)]⟩
    have hpk : 0 < 2 ^ k := Nat.two_pow_pos k
    have hw0 : w ≠ 0 := fun z => h0 (by rw [hw, z, Nat.mul_zero])
    have hu1 : u - 1 = 2 ^ k * (w - 1) + (2 ^ k - 1) := by
      obtain ⟨v, rfl⟩ : ∃ v, w = v + 1 := ⟨w - 1, by omega⟩
      rw [hw, Nat.mul_add, Nat.mul_one, Nat.add_sub_cancel]
      omega
    have hb : ∀ j, u.testBit (k + j) = w.testBit j := fun j => by
      rw [hw]
      have := Nat.testBit_two_pow_mul_add w (show 0 < 2 ^ k from hpk) (k + j)
      rw [Nat.add_zero, if_neg (by omega), Nat.add_sub_cancel_left] at this
      exact this
    have hb1 : ∀ j, (u - 1).testBit (k + j) = (w - 1).testBit j := fun j => by
      rw [hu1, Nat.testBit_two_pow_mul_add _ (by omega), if_neg (by omega), Nat.add_sub_cancel_left]
    have hodd : w % 2 = 1 := by
      have := hb 0
      rw [Nat.add_zero, hk] at this
      rw [Nat.testBit_zero] at this
      simpa using this.symm
    rcases Nat.lt_or_ge p k with h | h
    · rw [hl p h, Bool.false_and, decide_eq_false (by omega)]
    · obtain ⟨j, rfl⟩ : ∃ j, p = k + j := ⟨p - k, by omega⟩
      rw [hb, hb1]
      rcases j with _ | j
      · rw [Nat.testBit_zero, Nat.testBit_zero, decide_eq_true hodd, decide_eq_false (by omega), decide_eq_true (by omega)]
        rfl
      · rw [Nat.testBit_succ, Nat.testBit_succ, show (w - 1) / 2 = w / 2 by omega, decide_eq_false (by omega)]
        cases (w / 2).testBit j <;> rfl
  · rw [bt6_big _ (by omega), decide_eq_false (by omega)]
/-! how many -/
theorem and8 (a b r s : Nat) (hr : r < 256) (hs : s < 256) : (256 * a + r) &&& (256 * b + s) = 256 * (a &&& b) + (r &&& s) := by
  apply Nat.eq_of_testBit_eq
  intro j
  rw [Nat.testBit_and, show (256 : Nat) = 2 ^ 8 from rfl, Nat.testBit_two_pow_mul_add a hr, Nat.testBit_two_pow_mul_add b hs, Nat.testBit_two_pow_mul_add (a &&& b) (show r &&& s < 2 ^ 8 from Nat.lt_of_le_of_lt Nat.and_le_left hr), Nat.testBit_and, Nat.testBit_and]
  split <;> rfl
def pmk (c : Nat) : Nat → Nat
  | 0 => 0
  | K + 1 => 256 * pmk c K + c
def pf1 (K x : Nat) : Nat := x - ((x / 2) &&& pmk 85 K)
def pf2 (K z : Nat) : Nat := (z &&& pmk 51 K) + ((z / 4) &&& pmk 51 K)
def pf3 (K z : Nat) : Nat := (z + z / 16) &&& pmk 15 K
def qf1 (x : Nat) : Nat := x - ((x / 2) &&& 85)
def qf2 (z : Nat) : Nat := (z &&& 51) + ((z / 4) &&& 51)
def qf3 (z : Nat) : Nat := (z + z / 16) &&& 15
theorem qm1 : ∀ c, c < 2 → ∀ b, b < 128 → (128 * c + b) &&& 85 = b &&& 85 := by decide +kernel
theorem qm2 : ∀ c, c < 4 → ∀ b, b < 64 → (64 * c + b) &&& 51 = b &&& 51 := by decide +kernel
theorem q1_lt : ∀ b, b < 256 → qf1 b < 256 := by decide +kernel
theorem q2_n : ∀ b, b < 256 → qf2 (qf1 b) < 256 ∧ qf2 (qf1 b) % 16 ≤ 4 ∧ qf2 (qf1 b) / 16 ≤ 4 := by decide +kernel
theorem q3_n : ∀ b, b < 256 → qf3 (qf2 (qf1 b)) = ((List.range 8).filter b.testBit).length ∧ qf3 (qf2 (qf1 b)) ≤ 8 := by decide +kernel
theorem qm3 : ∀ c, c < 5 → ∀ z, z < 69 → z % 16 ≤ 4 → (16 * c + z + z / 16) &&& 15 = (z + z / 16) &&& 15 := by decide +kernel
theorem pf1_s (K y B : Nat) (hB : B < 256) : pf1 (K + 1) (256 * y + B) = 256 * pf1 K y + qf1 B := by
  unfold pf1 qf1
  have e : (256 * y + B) / 2 = 256 * (y / 2) + (128 * (y % 2) + B / 2) := by omega
  show 256 * y + B - ((256 * y + B) / 2 &&& (256 * pmk 85 K + 85)) = _
  rw [e, and8 _ _ _ _ (by omega) (by decide), qm1 _ (by omega) _ (by omega)]
  have h1 : (y / 2 &&& pmk 85 K) ≤ y / 2 := Nat.and_le_left
  have h2 : (B / 2 &&& 85) ≤ B / 2 := Nat.and_le_left
  omega
theorem pf2_s (K y B : Nat) (hB : B < 256) : pf2 (K + 1) (256 * y + B) = 256 * pf2 K y + qf2 B := by
  unfold pf2 qf2
  have e : (256 * y + B) / 4 = 256 * (y / 4) + (64 * (y % 4) + B / 4) := by omega
  show (256 * y + B &&& (256 * pmk 51 K + 51)) + ((256 * y + B) / 4 &&& (256 * pmk 51 K + 51)) = _
  rw [e, and8 _ _ _ _ (by omega) (by decide), and8 _ _ _ _ (by omega) (by decide), qm2 _ (by omega) _ (by omega)]
  omega
theorem pf3_s (K y B : Nat) (hy : y % 16 ≤ 4) (hB : B % 16 ≤ 4) (hB2 : B / 16 ≤ 4) : pf3 (K + 1) (256 * y + B) = 256 * pf3 K y + qf3 B := by
  unfold pf3 qf3
  have e : 256 * y + B + (256 * y + B) / 16 = 256 * (y + y / 16) + (16 * (y % 16) + B + B / 16) := by omega
  show 256 * y + B + (256 * y + B) / 16 &&& (256 * pmk 15 K + 15) = _
  rw [e, and8 _ _ _ _ (by omega) (by decide), qm3 _ (by omega) _ (by omega) hB]
def dgs (x : Nat) : Nat → Nat
  | 0 => 0
  | K + 1 => 256 * dgs (x / 256) K + qf3 (qf2 (qf1 (x % 256)))
theorem pf_all : ∀ (K x : Nat), x < 256 ^ K → pf3 K (pf2 K (pf1 K x)) = dgs x K ∧ pf2 K (pf1 K x) % 16 ≤ 4
  | 0, x, h => by
    have : x = 0 := by simpa using h
    subst this
    exact ⟨rfl, by decide⟩
  | K + 1, x, h => by
    have hx : x = 256 * (x / 256) + x % 256 := by omega
    have hb : x % 256 < 256 := by omega
    have hy : x / 256 < 256 ^ K := by rw [Nat.pow_succ] at h; omega
    obtain ⟨i1, i2⟩ := pf_all K (x / 256) hy
    have q2 := q2_n _ hb
    have e : pf2 (K + 1) (pf1 (K + 1) x) = 256 * pf2 K (pf1 K (x / 256)) + qf2 (qf1 (x % 256)) := by
      conv => lhs; rw [hx]
      rw [pf1_s K _ _ hb, pf2_s K _ _ (q1_lt _ hb)]
    refine ⟨?_, ?_⟩
    · rw [e, pf3_s K _ _ i2 q2.2.1 q2.2.2, i1]; rfl
    · rw [e]; omega
theorem pc_s (x K : Nat) : ((List.range (8 + K)).filter x.testBit).length = qf3 (qf2 (qf1 (x % 256))) + ((List.range K).filter (x / 256).testBit).length := by
  have hb : x % 256 < 256 := by omega
  rw [List.range_add, List.filter_append, List.length_append, (q3_n _ hb).1, List.filter_map, List.length_map]
  congr 1
  · congr 1
    refine List.filter_congr (fun j hj => ?_)
    rw [show x % 256 = x % 2 ^ 8 from rfl, Nat.testBit_mod_two_pow, decide_eq_true (List.mem_range.mp hj), Bool.true_and]
  · congr 1
    refine List.filter_congr (fun j hj => ?_)
    show x.testBit (8 + j) = _
    rw [show x / 256 = x / 2 ^ 8 from rfl, Nat.testBit_div_two_pow, Nat.add_comm]
def pcnt6 (n : Nat) : Nat :=
  let i3 := pf3 8 (pf2 8 (pf1 8 n))
  let i4 := i3 + i3 / 256
  let i5 := i4 + i4 / 65536
  i5 + i5 / 4294967296
theorem pcnt6_is (n : Nat) (h : n < 18446744073709551616) : pcnt6 n % 128 = ((List.range 64).filter n.testBit).length ∧ pcnt6 n < 18446744073709551616 ∧ pf3 8 (pf2 8 (pf1 8 n)) < 2 ^ 60 := by
  have e := (pf_all 8 n (by exact h)).1
  have p0 := pc_s n 56
  have p1 := pc_s (n / 256) 48
  have p2 := pc_s (n / 256 / 256) 40
  have p3 := pc_s (n / 256 / 256 / 256) 32
  have p4 := pc_s (n / 256 / 256 / 256 / 256) 24
  have p5 := pc_s (n / 256 / 256 / 256 / 256 / 256) 16
  have p6 := pc_s (n / 256 / 256 / 256 / 256 / 256 / 256) 8
  have p7 := pc_s (n / 256 / 256 / 256 / 256 / 256 / 256 / 256) 0
  have b0 := (q3_n (n % 256) (by omega)).2
  have b1 := (q3_n (n / 256 % 256) (by omega)).2
  have b2 := (q3_n (n / 256 / 256 % 256) (by omega)).2
  have b3 := (q3_n (n / 256 / 256 / 256 % 256) (by omega)).2
  have b4 := (q3_n (n / 256 / 256 / 256 / 256 % 256) (by omega)).2
  have b5 := (q3_n (n / 256 / 256 / 256 / 256 / 256 % 256) (by omega)).2
  have b6 := (q3_n (n / 256 / 256 / 256 / 256 / 256 / 256 % 256) (by omega)).2
  have b7 := (q3_n (n / 256 / 256 / 256 / 256 / 256 / 256 / 256 % 256) (by omega)).2
  simp only [List.range_zero, List.filter_nil, List.length_nil, Nat.add_zero] at p7
  simp only [dgs] at e
  unfold pcnt6
  dsimp only
  rw [e]
  simp only [Nat.reduceAdd] at p0 p1 p2 p3 p4 p5 p6 p7
  rw [p0, p1, p2, p3, p4, p5, p6, p7]
  clear p0 p1 p2 p3 p4 p5 p6 p7 e h
  generalize qf3 (qf2 (qf1 (n / 256 / 256 / 256 / 256 / 256 / 256 / 256 % 256))) = c7 at *
  generalize qf3 (qf2 (qf1 (n / 256 / 256 / 256 / 256 / 256 / 256 % 256))) = c6 at *
  generalize qf3 (qf2 (qf1 (n / 256 / 256 / 256 / 256 / 256 % 256))) = c5 at *
  generalize qf3 (qf2 (qf1 (n / 256 / 256 / 256 / 256 % 256))) = c4 at *
  generalize qf3 (qf2 (qf1 (n / 256 / 256 / 256 % 256))) = c3 at *
  generalize qf3 (qf2 (qf1 (n / 256 / 256 % 256))) = c2 at *
  generalize qf3 (qf2 (qf1 (n / 256 % 256))) = c1 at *
  generalize qf3 (qf2 (qf1 (n % 256))) = c0 at *
  obtain ⟨r7, hr7⟩ : ∃ r, r = 256 * 0 + c7 := ⟨_, rfl⟩
  rw [← hr7]
  obtain ⟨r6, hr6⟩ : ∃ r, r = 256 * r7 + c6 := ⟨_, rfl⟩
  rw [← hr6]
  obtain ⟨r5, hr5⟩ : ∃ r, r = 256 * r6 + c5 := ⟨_, rfl⟩
  rw [← hr5]
  obtain ⟨r4, hr4⟩ : ∃ r, r = 256 * r5 + c4 := ⟨_, rfl⟩
  rw [← hr4]
  obtain ⟨r3, hr3⟩ : ∃ r, r = 256 * r4 + c3 := ⟨_, rfl⟩
  rw [← hr3]
  obtain ⟨r2, hr2⟩ : ∃ r, r = 256 * r3 + c2 := ⟨_, rfl⟩
  rw [← hr2]
  obtain ⟨r1, hr1⟩ : ∃ r, r = 256 * r2 + c1 := ⟨_, rfl⟩
  rw [← hr1]
  obtain ⟨r0, hr0⟩ : ∃ r, r = 256 * r1 + c0 := ⟨_, rfl⟩
  rw [← hr0]
  have d1 : r0 / 256 = r1 := by omega
  have d2 : (r0 + r1) / 65536 = r2 + r3 := by omega
  have d3 : (r0 + r1 + (r2 + r3)) / 4294967296 = r4 + r5 + r6 + r7 := by omega
  rw [d1, d2, d3]
  have : (2 : Nat) ^ 60 = 1152921504606846976 := by decide
  omega
