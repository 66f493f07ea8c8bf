/-! ===== SIM 2: widows' parts, a death's strips ===== -/
theorem pkC1 {ch : Nat → List Rt} {p : Int32} {s : Nat} : pkC ch p 1 s = true ↔ (hdR ch s).1 = p ∧ (hdR ch s).2.1 = 3 := by
  unfold pkC
  rw [decide_eq_true_eq]
  constructor
  · rintro ⟨h1, h2⟩
    refine ⟨h1, Classical.byContradiction fun z => ?_⟩
    rw [if_neg z] at h2; exact absurd h2 (by decide)
  · rintro ⟨h1, h2⟩
    exact ⟨h1, if_pos h2⟩
theorem pkC0 {ch : Nat → List Rt} {p : Int32} {s : Nat} : pkC ch p 0 s = true ↔ (hdR ch s).1 = p ∧ ¬ (hdR ch s).2.1 = 3 := by
  unfold pkC
  rw [decide_eq_true_eq]
  constructor
  · rintro ⟨h1, h2⟩
    refine ⟨h1, fun z => ?_⟩
    rw [if_pos z] at h2; exact absurd h2 (by decide)
  · rintro ⟨h1, h2⟩
    exact ⟨h1, if_neg h2⟩
theorem wdo_gv {c : List Rt} {k : Nat} (hk : k < 2 ^ 31) : wdo c = nI k ↔ (c.headD (0, 0, 0)).2.1 = 3 ∧ gv2 c = nI k := by
  match c with
  | [] => exact ⟨fun z => absurd z.symm (nI_nm1 hk), fun z => absurd z.1 (by decide)⟩
  | [e] => exact ⟨fun z => absurd z.symm (nI_nm1 hk), fun z => absurd z.2.symm (nI_nm1 hk)⟩
  | e1 :: e2 :: r =>
    show (if e1.2.1 = 3 then e2.1 else -1) = nI k ↔ e1.2.1 = 3 ∧ e2.1 = nI k
    by_cases h : e1.2.1 = 3
    · rw [if_pos h]; exact ⟨fun z => ⟨h, z⟩, fun z => z.2⟩
    · rw [if_neg h]; exact ⟨fun z => absurd z.symm (nI_nm1 hk), fun z => absurd z.1 h⟩
theorem wdB_is {q : Ls} {ch : Nat → List Rt} (h : LR q ch) {p : Int32} {k s : Nat} (hk : k < 2 ^ 31) (hs : s < 120) : wdB q p k s = true ↔ pkC ch p 1 s = true ∧ gv2 (ch s) = nI k := by
  obtain ⟨h1, h2, h3⟩ := h s hs
  unfold wdB
  rw [decide_eq_true_eq, h2, h3, wdo_gv hk, pkC1]
  exact ⟨fun z => ⟨⟨z.1, z.2.1⟩, z.2.2⟩, fun z => ⟨z.1.1, z.1.2, z.2⟩⟩
theorem pkL_nil {f : Nat → Bool} {g : Nat} (h : ∀ s, inH g s → ¬ f s = true) : pkL f g 12 = [] := by
  cases hL : pkL f g 12 with
  | nil => rfl
  | cons x r =>
    have hx : x ∈ pkL f g 12 := by rw [hL]; exact List.mem_cons_self
    exact absurd (pkL_in.mp hx).2 (h x (pkL_in.mp hx).1)
theorem passE_clL_pk {now : Int32} {a : Ar} {m : Nat} {ord : Int32} {al : Nat → Bool} {j : Nat} {p : Int32} {g : Nat} {ch : Nat → List Rt} (h60 : m ≤ 60) (hsx : ∀ c, c < m → a 9 c = 0 ∨ a 9 c = 1) (hkin : kinOk a m) {w : Int32} {s : Nat} (hs : inH g s) (h : pkC (clL now ch (passE a m ord al j (pkL (pkC ch p 1) g 12) (pkL (pkC ch p 1) g 12).length)) w 1 s = true) : clL now ch (passE a m ord al j (pkL (pkC ch p 1) g 12) (pkL (pkC ch p 1) g 12).length) s = ch s ∧ ¬ pkC ch p 1 s = true := by
  by_cases c : pkC ch p 1 s = true
  · exfalso
    have hm : s ∈ (passE a m ord al j (pkL (pkC ch p 1) g 12) (pkL (pkC ch p 1) g 12).length).map (fun e => e.1) := by
      rw [passE_st h60 hsx hkin (Nat.le_refl _), List.take_length]; exact pkL_in.mpr ⟨hs, c⟩
    obtain ⟨e, he, rfl⟩ := List.mem_map.mp hm
    have hin := clL_in (now := now) _ ch (by rw [passE_st h60 hsx hkin (Nat.le_refl _), List.take_length]; exact pkL_nd _ _ _) e he
    have h2 := (pkC1.mp h).2
    unfold hdR at h2
    rw [hin] at h2
    exact passE_how e he h2
  · refine ⟨clL_out _ _ (fun e he z => c ?_), c⟩
    have := passE_mem h60 hsx hkin (Nat.le_refl _) he
    rw [List.take_length, z] at this
    exact (pkL_in.mp this).2
theorem wpF_is {now : Int32} {a : Ar} {m : Nat} {ord : Int32} {al : Nat → Bool} {p : Int32} {g G : Nat} {q : Ls} {ch : Nat → List Rt} (hLR : LR q ch) (hg : g < 10) (h60 : m ≤ 60) (hsx : ∀ c, c < m → a 9 c = 0 ∨ a 9 c = 1) (hkin : kinOk a m) (hU : ∀ s, inH g s → pkC ch p 1 s = true → gv2 (ch s) = nI G ∧ G < m ∧ al G = false) : ∀ k, k ≤ m → wpF now a m ord al p g q k = if k ≤ G ∨ pkL (pkC ch p 1) g 12 = [] then (q, 0) else (cmL now q (passE a m ord al G (pkL (pkC ch p 1) g 12) (pkL (pkC ch p 1) g 12).length), (pkL (pkC ch p 1) g 12).length)
  | 0, _ => by rw [if_pos (Or.inl (Nat.zero_le _))]; rfl
  | k + 1, hk => by
    have ih := wpF_is (now := now) (ord := ord) hLR hg h60 hsx hkin hU k (by omega)
    have hne : k ≠ G → pkL (wdB q p k) g 12 = [] := fun hkG => pkL_nil (fun s hs hw => by
      obtain ⟨h1, h2⟩ := (wdB_is hLR (by omega) (by omega)).mp hw
      obtain ⟨u1, u2, u3⟩ := hU s hs h1
      rw [u1, nI_eq (by omega) (by omega)] at h2
      exact hkG h2.symm)
    have heq : k = G → pkL (wdB q p k) g 12 = pkL (pkC ch p 1) g 12 := fun hkG => pkL_congr (fun s q1 q2 => by
      rw [Bool.eq_iff_iff, wdB_is hLR (by omega) (by omega), hkG]
      exact ⟨fun z => z.1, fun z => ⟨z, (hU s ⟨q1, q2⟩ z).1⟩⟩)
    by_cases hL : pkL (pkC ch p 1) g 12 = []
    · rw [if_pos (Or.inr hL)] at ih
      rw [if_pos (Or.inr hL)]
      simp only [wpF]
      rw [ih]
      have h0 : pkL (wdB q p k) g 12 = [] := by
        by_cases hkG : k = G
        · rw [heq hkG]; exact hL
        · exact hne hkG
      show (if pkL (wdB q p k) g 12 = [] then (q, 0) else _) = _
      rw [if_pos h0]
    · rcases Nat.lt_trichotomy k G with h | h | h
      · rw [if_pos (Or.inl (by omega))] at ih
        rw [if_pos (Or.inl (by omega))]
        simp only [wpF]
        rw [ih]
        show (if pkL (wdB q p k) g 12 = [] then (q, 0) else _) = _
        rw [if_pos (hne (by omega))]
      · rw [if_pos (Or.inl (by omega))] at ih
        rw [if_neg (fun z => z.elim (by omega) hL)]
        simp only [wpF]
        rw [ih]
        show (if pkL (wdB q p k) g 12 = [] then (q, 0) else (cmL now q (passE a m ord al k (pkL (wdB q p k) g 12) (pkL (wdB q p k) g 12).length), 0 + (pkL (wdB q p k) g 12).length)) = _
        rw [heq h, if_neg hL, Nat.zero_add, h]
      · rw [if_neg (fun z => z.elim (by omega) hL)] at ih
        rw [if_neg (fun z => z.elim (by omega) hL)]
        simp only [wpF]
        rw [ih]
        have hLR2 := LR.L (now := now) (passE a m ord al G (pkL (pkC ch p 1) g 12) (pkL (pkC ch p 1) g 12).length) q ch passE_how hLR
        have h0 : pkL (wdB (cmL now q (passE a m ord al G (pkL (pkC ch p 1) g 12) (pkL (pkC ch p 1) g 12).length)) p k) g 12 = [] := pkL_nil (fun s hs hw => by
          obtain ⟨h1, h2⟩ := (wdB_is hLR2 (by omega) (by omega)).mp hw
          obtain ⟨e1, e2⟩ := passE_clL_pk h60 hsx hkin hs h1
          refine e2 (pkC1.mpr ?_)
          have := pkC1.mp h1
          unfold hdR at this ⊢
          rw [e1] at this
          exact this)
        show (if pkL (wdB (cmL now q (passE a m ord al G (pkL (pkC ch p 1) g 12) (pkL (pkC ch p 1) g 12).length)) p k) g 12 = [] then _ else _) = _
        rw [if_pos h0]
theorem wp_sim {now : Int32} {a a' : Ar} {m : Nat} {ord : Int32} {al : Nat → Bool} {p : Int32} {g G : Nat} {q : Ls} {ch : Nat → List Rt} (hLR : LR q ch) (hg : g < 10) (h60 : m ≤ 60) (hsx : ∀ c, c < m → a 9 c = 0 ∨ a 9 c = 1) (hkin : kinOk a m) (hU : ∀ s, inH g s → pkC ch p 1 s = true → gv2 (ch s) = nI G ∧ G < m ∧ al G = false) (h9 : ∀ c, c < m → a' 9 c = a 9 c) (h10 : ∀ c, c < m → a' 10 c = a 10 c) (h11 : ∀ c, c < m → a' 11 c = a 11 c) (hal : ∀ c, c < m → alB a' c = al c) : (wpF now a m ord al p g q m).2 = (pkL (pkC ch p 1) g 12).length ∧ LR (wpF now a m ord al p g q m).1 (wpS now a' m ord p ch g) := by
  have h := wpF_is (now := now) (ord := ord) hLR hg h60 hsx hkin hU m (Nat.le_refl _)
  by_cases hL : pkL (pkC ch p 1) g 12 = []
  · rw [if_pos (Or.inr hL)] at h
    rw [h]
    refine ⟨by rw [hL]; rfl, ?_⟩
    have e : wpS now a' m ord p ch g = ch := by
      unfold wpS
      try dsimp only
      rw [if_pos hL]
    rw [e]; exact hLR
  · obtain ⟨x, r, hx⟩ := List.exists_cons_of_ne_nil hL
    have hxm : x ∈ pkL (pkC ch p 1) g 12 := by rw [hx]; exact List.mem_cons_self
    obtain ⟨u1, u2, u3⟩ := hU x (pkL_in.mp hxm).1 (pkL_in.mp hxm).2
    rw [if_neg (fun z => z.elim (by omega) hL)] at h
    rw [h]
    refine ⟨rfl, ?_⟩
    have eG : wpG ch (pkL (pkC ch p 1) g 12) = G := by
      unfold wpG
      rw [hx]
      show (gv2 (ch x)).toNatClampNeg = G
      rw [u1, nI_clamp (by omega)]
    have e : wpS now a' m ord p ch g = clL now ch (passE a m ord al G (pkL (pkC ch p 1) g 12) (pkL (pkC ch p 1) g 12).length) := by
      unfold wpS
      try dsimp only
      rw [if_neg hL, eG]
      rw [passE_congr h60 u2 h9 h10 h11 (fun c hc => ?_)]
      show (alB a' c && decide (c ≠ G)) = al c
      rw [hal c hc]
      by_cases z : c = G
      · subst z; rw [u3]; rfl
      · rw [decide_eq_true z, Bool.and_true]
    rw [e]
    exact LR.L _ _ _ passE_how hLR
theorem wpS_pk {now : Int32} {a : Ar} {m : Nat} {ord p w : Int32} {ch : Nat → List Rt} {g s : Nat} (h60 : m ≤ 60) (hsx : ∀ c, c < m → a 9 c = 0 ∨ a 9 c = 1) (hkin : kinOk a m) (hs : inH g s) (h : pkC (wpS now a m ord p ch g) w 1 s = true) : wpS now a m ord p ch g s = ch s ∧ ¬ pkC ch p 1 s = true := by
  unfold wpS at h ⊢
  dsimp only at h ⊢
  by_cases hL : pkL (pkC ch p 1) g 12 = []
  · rw [if_pos hL]
    refine ⟨rfl, fun z => ?_⟩
    have : s ∈ pkL (pkC ch p 1) g 12 := pkL_in.mpr ⟨hs, z⟩
    rw [hL] at this; simp at this
  · rw [if_neg hL] at h ⊢
    exact passE_clL_pk h60 hsx hkin hs h
/-- sums over holdings -/
def smH (f : Nat → Nat) : Nat → Nat
  | 0 => 0
  | k + 1 => smH f k + f k
theorem smH_congr {f g : Nat → Nat} (h : ∀ k, f k = g k) : ∀ k, smH f k = smH g k
  | 0 => rfl
  | k + 1 => by simp only [smH]; rw [smH_congr h k, h k]
theorem smH_add (f g : Nat → Nat) : ∀ k, smH f k + smH g k = smH (fun k => f k + g k) k
  | 0 => rfl
  | k + 1 => by
    have := smH_add f g k
    simp only [smH]
    omega
theorem smH_le {f : Nat → Nat} {c : Nat} (h : ∀ k, f k ≤ c) : ∀ k, smH f k ≤ c * k
  | 0 => Nat.le_refl _
  | k + 1 => by
    have := smH_le h k
    have := h k
    simp only [smH]
    rw [Nat.mul_succ]; omega
abbrev ctP (ch : Nat → List Rt) (p b : Int32) (k : Nat) : Nat := (pkL (pkC ch p b) k 12).length
theorem wpC_ct {now : Int32} {a : Ar} {m : Nat} {ord p : Int32} {ch : Nat → List Rt} (h60 : m ≤ 60) (hsx : ∀ c, c < m → a 9 c = 0 ∨ a 9 c = 1) (hkin : kinOk a m) : ∀ k, (wpC now a m ord p ch k).2 = smH (ctP ch p 1) k
  | 0 => rfl
  | k + 1 => by
    show (wpC now a m ord p ch k).2 + (pkL (pkC (wpC now a m ord p ch k).1 p 1) k 12).length = smH (ctP ch p 1) k + (pkL (pkC ch p 1) k 12).length
    rw [wpC_ct h60 hsx hkin k, wpC_itr, pkC_congr p 1 (itr_in (wpS_loc h60 hsx hkin) ch k)]
/-- of two lots without a strip in common, in one holding -/
theorem lots12 {f1 f2 : Nat → Bool} {g : Nat} (h : ∀ s, inH g s → ¬ (f1 s = true ∧ f2 s = true)) : (pkL f1 g 12).length + (pkL f2 g 12).length ≤ 12 := by
  have key : ∀ l : List Nat, (∀ s ∈ l, inH g s) → (l.filter f1).length + (l.filter f2).length ≤ l.length := by
    intro l
    induction l with
    | nil => intro _; exact Nat.le_refl _
    | cons x r ih =>
      intro hl
      have hr := ih (fun s hs => hl s (List.mem_cons_of_mem _ hs))
      have hx := h x (hl x List.mem_cons_self)
      simp only [List.filter_cons, List.length_cons]
      by_cases c1 : f1 x = true
      · by_cases c2 : f2 x = true
        · exact absurd ⟨c1, c2⟩ hx
        · simp only [c1, c2, if_true, List.length_cons]
          simp
          omega
      · by_cases c2 : f2 x = true
        · simp only [c1, c2, if_true, List.length_cons]
          simp
          omega
        · simp only [c1, c2]
          simp
          omega
  have := key ((List.range 12).map (fun t => 12 * g + t)) (fun s hs => by
    simp only [List.mem_map, List.mem_range] at hs
    obtain ⟨t, ht, rfl⟩ := hs
    exact ⟨by omega, by omega⟩)
  simpa [pkL] using this
/-- a marriage -/
theorem mr_sim {now : Int32} {a : Ar} {m : Nat} {ord : Int32} {p w : Int32} {Gp Gw : Nat} {q : Ls} {ch : Nat → List Rt} (hLR : LR q ch) (h60 : m ≤ 60) (hsx : ∀ c, c < m → a 9 c = 0 ∨ a 9 c = 1) (hkin : kinOk a m) (hUp : ∀ s, s < 120 → pkC ch p 1 s = true → gv2 (ch s) = nI Gp ∧ Gp < m ∧ alB a Gp = false) (hUw : ∀ s, s < 120 → pkC ch w 1 s = true → gv2 (ch s) = nI Gw ∧ Gw < m ∧ alB a Gw = false) : ∀ k, k ≤ 10 → (mrF now a m ord (alB a) p w q k).2 = smH (fun k => ctP ch p 1 k + ctP (wpS now a m ord p ch k) w 1 k) k ∧ LR (mrF now a m ord (alB a) p w q k).1 (itrH (fun ch h => wpS now a m ord w (wpS now a m ord p ch h) h) ch k)
  | 0, _ => ⟨rfl, hLR⟩
  | k + 1, hk => by
    obtain ⟨i1, i2⟩ := mr_sim (now := now) (ord := ord) hLR h60 hsx hkin hUp hUw k (by omega)
    have lp := wpS_loc (now := now) (ord := ord) (p := p) h60 hsx hkin
    have lw := wpS_loc (now := now) (ord := ord) (p := w) h60 hsx hkin
    have hin := itr_in (lp.comp lw) ch k
    have hin2 : ∀ s, inH k s → wpS now a m ord p (itrH (fun ch h => wpS now a m ord w (wpS now a m ord p ch h) h) ch k) k s = wpS now a m ord p ch k s := lp.2 _ _ k hin
    obtain ⟨s1, s2⟩ := wp_sim (now := now) (a' := a) (ord := ord) (p := p) (g := k) (G := Gp) (al := alB a) i2 (by omega) h60 hsx hkin (fun s hs hpk => by
      rw [hin s hs]
      refine hUp s (by omega) ?_
      unfold pkC hdR at hpk ⊢
      rw [hin s hs] at hpk; exact hpk) (fun _ _ => rfl) (fun _ _ => rfl) (fun _ _ => rfl) (fun _ _ => rfl)
    obtain ⟨t1, t2⟩ := wp_sim (now := now) (a' := a) (ord := ord) (p := w) (g := k) (G := Gw) (al := alB a) s2 (by omega) h60 hsx hkin (fun s hs hpk => by
      obtain ⟨e1, -⟩ := wpS_pk h60 hsx hkin hs hpk
      rw [e1, hin s hs]
      refine hUw s (by omega) ?_
      unfold pkC hdR at hpk ⊢
      rw [e1, hin s hs] at hpk; exact hpk) (fun _ _ => rfl) (fun _ _ => rfl) (fun _ _ => rfl) (fun _ _ => rfl)
    refine ⟨?_, t2⟩
    show (mrF now a m ord (alB a) p w q k).2 + _ + _ = _ + (_ + _)
    rw [i1, s1, t1, pkC_congr p 1 hin, pkC_congr w 1 hin2, Nat.add_assoc]
