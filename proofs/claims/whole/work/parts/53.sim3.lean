/-! ===== SIM 3: a death ===== -/
/-- what a strip comes to, when it passes to heirs or back -/
abbrev hrW (al : Nat → Bool) (m : Nat) (now : Int32) (c c' : List Rt) : Prop := ∃ t how, c' = (t, how, now) :: c ∧ ¬ how = 3 ∧ (t = -1 ∨ ∃ q, q < m ∧ t = nI q ∧ al q = true)
theorem passE_clL_at {now : Int32} {a : Ar} {m : Nat} {ord : Int32} {al : Nat → Bool} {j : Nat} {hs : List Nat} {ch : Nat → List Rt} (h60 : m ≤ 60) (hsx : ∀ c, c < m → a 9 c = 0 ∨ a 9 c = 1) (hkin : kinOk a m) (hnd : hs.Nodup) {s : Nat} (hs1 : s ∈ hs) : hrW al m now (ch s) (clL now ch (passE a m ord al j hs hs.length) s) := by
  have hm : s ∈ (passE a m ord al j hs hs.length).map (fun e => e.1) := by
    rw [passE_st h60 hsx hkin (Nat.le_refl _), List.take_length]; exact hs1
  obtain ⟨e, he, rfl⟩ := List.mem_map.mp hm
  refine ⟨e.2.1, e.2.2, clL_in _ ch (by rw [passE_st h60 hsx hkin (Nat.le_refl _), List.take_length]; exact hnd) e he, passE_how e he, passE_who e he⟩
theorem passE_clL_no {now : Int32} {a : Ar} {m : Nat} {ord : Int32} {al : Nat → Bool} {j : Nat} {hs : List Nat} {ch : Nat → List Rt} (h60 : m ≤ 60) (hsx : ∀ c, c < m → a 9 c = 0 ∨ a 9 c = 1) (hkin : kinOk a m) {s : Nat} (hs1 : s ∉ hs) : clL now ch (passE a m ord al j hs hs.length) s = ch s :=
  clL_out _ _ (fun e he z => hs1 (by
    have := passE_mem h60 hsx hkin (Nat.le_refl _) he
    rw [List.take_length, z] at this
    exact this))
theorem wpS_at {now : Int32} {a : Ar} {m : Nat} {ord p : Int32} {ch : Nat → List Rt} {g s : Nat} (h60 : m ≤ 60) (hsx : ∀ c, c < m → a 9 c = 0 ∨ a 9 c = 1) (hkin : kinOk a m) (hs : inH g s) : (pkC ch p 1 s = true ∧ hrW (alB a) m now (ch s) (wpS now a m ord p ch g s)) ∨ (¬ pkC ch p 1 s = true ∧ wpS now a m ord p ch g s = ch s) := by
  unfold wpS
  try dsimp only
  by_cases c : pkC ch p 1 s = true
  · left
    have hm : s ∈ pkL (pkC ch p 1) g 12 := pkL_in.mpr ⟨hs, c⟩
    rw [if_neg (fun z => by rw [z] at hm; simp at hm)]
    obtain ⟨t, how, h1, h2, h3⟩ := passE_clL_at (now := now) (ord := ord) (al := alx a (wpG ch (pkL (pkC ch p 1) g 12))) (j := wpG ch (pkL (pkC ch p 1) g 12)) (ch := ch) h60 hsx hkin (pkL_nd _ _ _) hm
    refine ⟨c, t, how, h1, h2, h3.imp id (fun ⟨q, q1, q2, q3⟩ => ⟨q, q1, q2, ?_⟩)⟩
    unfold alx at q3
    rw [Bool.and_eq_true] at q3
    exact q3.1
  · right
    refine ⟨c, ?_⟩
    split
    · rfl
    · exact passE_clL_no h60 hsx hkin (fun z => c (pkL_in.mp z).2)
theorem owS_at {now : Int32} {a : Ar} {m : Nat} {ord : Int32} {j : Nat} {w : Int32} {wd : Nat} {ch : Nat → List Rt} {h s : Nat} (h60 : m ≤ 60) (hsx : ∀ c, c < m → a 9 c = 0 ∨ a 9 c = 1) (hkin : kinOk a m) (hs : inH h s) : (pkC ch (nI j) 0 s = true ∧ ((¬ w = -1 ∧ owS now a m ord j w wd ch h s = (w, 3, now) :: ch s) ∨ hrW (alx a j) m now (ch s) (owS now a m ord j w wd ch h s))) ∨ (¬ pkC ch (nI j) 0 s = true ∧ owS now a m ord j w wd ch h s = ch s) := by
  unfold owS
  try dsimp only
  generalize hd : dyP w wd (pkL (pkC ch (nI j) 0) h 12).length = d
  have hl : (pkL (pkC ch (nI j) 0) h 12).length - d = ((pkL (pkC ch (nI j) 0) h 12).drop d).length := by rw [List.length_drop]
  have hnd := pkL_nd (pkC ch (nI j) 0) h 12
  have hsp : (pkL (pkC ch (nI j) 0) h 12).take d ++ (pkL (pkC ch (nI j) 0) h 12).drop d = pkL (pkC ch (nI j) 0) h 12 := List.take_append_drop _ _
  rw [hl]
  by_cases c : pkC ch (nI j) 0 s = true
  · left
    refine ⟨c, ?_⟩
    have hm : s ∈ pkL (pkC ch (nI j) 0) h 12 := pkL_in.mpr ⟨hs, c⟩
    rw [if_neg (fun z => by rw [z] at hm; simp at hm)]
    rw [← hsp] at hm hnd
    obtain ⟨n1, n2, n3⟩ := List.nodup_append.mp hnd
    rcases List.mem_append.mp hm with hm | hm
    · left
      refine ⟨fun z => ?_, ?_⟩
      · have : d = 0 := by rw [← hd]; unfold dyP; rw [if_pos z]
        rw [this] at hm; simp at hm
      · rw [passE_clL_no h60 hsx hkin (fun z => n3 s hm s z rfl)]
        exact clL_in ((pkL (pkC ch (nI j) 0) h 12 |>.take d).map (fun s => (s, w, (3 : Int32)))) ch (by rw [List.map_map]; simpa [Function.comp_def] using n1) (s, w, 3) (List.mem_map.mpr ⟨s, hm, rfl⟩)
    · right
      have h0 := passE_clL_at (now := now) (ord := ord) (al := alx a j) (j := j) (ch := clL now ch (((pkL (pkC ch (nI j) 0) h 12).take d).map (fun s => (s, w, (3 : Int32))))) h60 hsx hkin n2 hm
      have e : clL now ch (((pkL (pkC ch (nI j) 0) h 12).take d).map (fun s => (s, w, (3 : Int32)))) s = ch s := clL_out _ _ (fun x hx z => by
        simp only [List.mem_map] at hx
        obtain ⟨y, hy, rfl⟩ := hx
        exact n3 y hy s hm z)
      rw [e] at h0
      exact h0
  · right
    refine ⟨c, ?_⟩
    split
    · rfl
    · have hn : s ∉ pkL (pkC ch (nI j) 0) h 12 := fun z => c (pkL_in.mp z).2
      rw [passE_clL_no h60 hsx hkin (fun z => hn (List.mem_of_mem_drop z))]
      exact clL_out _ _ (fun x hx z => by
        simp only [List.mem_map] at hx
        obtain ⟨y, hy, rfl⟩ := hx
        exact hn (z ▸ List.mem_of_mem_take hy))
theorem ownQ_is {q : Ls} {ch : Nat → List Rt} (h : LR q ch) {p : Int32} {s : Nat} (hs : s < 120) (hne : ¬ ch s = []) (hW : (hdR ch s).2.1 = 3 → ¬ wdo (ch s) = -1) : ownQ q p s = true ↔ pkC ch p 0 s = true := by
  obtain ⟨h1, h2, h3⟩ := h s hs
  unfold ownQ
  rw [decide_eq_true_eq, h2, h3, pkC0]
  constructor
  · rintro ⟨g1, g2⟩; exact ⟨g1, fun z => hW z g2⟩
  · rintro ⟨g1, g2⟩
    refine ⟨g1, ?_⟩
    obtain ⟨e, r, hr⟩ := List.exists_cons_of_ne_nil hne
    unfold hdR at g2
    rw [hr] at g2 ⊢
    exact wdo_n g2
theorem dy1_sim {now : Int32} {a a' : Ar} {m : Nat} {ord : Int32} {al : Nat → Bool} {j : Nat} {w : Int32} {wd h : Nat} {q : Ls} {ch : Nat → List Rt} (hLR : LR q ch) (hh : h < 10) (h60 : m ≤ 60) (hsx : ∀ c, c < m → a 9 c = 0 ∨ a 9 c = 1) (hkin : kinOk a m) (hj : j < m) (hne : ∀ s, inH h s → ¬ ch s = []) (hW : ∀ s, inH h s → (hdR ch s).2.1 = 3 → ¬ wdo (ch s) = -1) (h9 : ∀ c, c < m → a' 9 c = a 9 c) (h10 : ∀ c, c < m → a' 10 c = a 10 c) (h11 : ∀ c, c < m → a' 11 c = a 11 c) (hal : ∀ c, c < m → alx a' j c = al c) : pkL (ownQ q (nI j)) h 12 = pkL (pkC ch (nI j) 0) h 12 ∧ LR (dy1 now a m ord al j w wd h q) (owS now a' m ord j w wd ch h) := by
  have eL : pkL (ownQ q (nI j)) h 12 = pkL (pkC ch (nI j) 0) h 12 := pkL_congr (fun s q1 q2 => by
    rw [Bool.eq_iff_iff]; exact ownQ_is hLR (by omega) (hne s ⟨q1, q2⟩) (hW s ⟨q1, q2⟩))
  refine ⟨eL, ?_⟩
  unfold dy1 owS
  try dsimp only
  rw [eL]
  generalize hd : dyP w wd (pkL (pkC ch (nI j) 0) h 12).length = d
  have hLR1 := LR.wL (now := now) (w := w) (p := nI j) ((pkL (pkC ch (nI j) 0) h 12).take d) q ch ((pkL_nd _ _ _).sublist (List.take_sublist _ _)) (fun s hs => by
    have := pkL_in.mp (List.mem_of_mem_take hs)
    exact ⟨(pkC0.mp this.2).1, hne s this.1⟩) hLR
  by_cases hL : (pkL (pkC ch (nI j) 0) h 12).length ≤ d
  · rw [if_pos hL]
    by_cases h0 : pkL (pkC ch (nI j) 0) h 12 = []
    · rw [if_pos h0]
      rw [h0] at hLR1 ⊢
      rw [List.take_nil] at hLR1 ⊢
      exact hLR1
    · rw [if_neg h0]
      have e : passE a' m ord (alx a' j) j ((pkL (pkC ch (nI j) 0) h 12).drop d) ((pkL (pkC ch (nI j) 0) h 12).length - d) = [] := by
        have hz : (pkL (pkC ch (nI j) 0) h 12).length - d = 0 := by omega
        have hsx' : ∀ c, c < m → a' 9 c = 0 ∨ a' 9 c = 1 := fun c hc => by rw [h9 c hc]; exact hsx c hc
        have hkin' : kinOk a' m := fun c p hc hp9 hch => hkin c p hc hp9 (by unfold chd at hch; rw [h10 c hc, h11 c hc] at hch; exact hch)
        exact List.eq_nil_of_length_eq_zero (by rw [passE_len2 h60 hsx' hkin' (by rw [List.length_drop]; exact Nat.le_refl _)]; exact hz)
      rw [e]
      exact hLR1
  · rw [if_neg hL, if_neg (fun z => by rw [z] at hL; simp at hL), passE_congr h60 hj h9 h10 h11 hal]
    exact LR.L _ _ _ passE_how hLR1
theorem owS_pk {now : Int32} {a : Ar} {m : Nat} {ord : Int32} {j : Nat} {w : Int32} {wd : Nat} {ch : Nat → List Rt} {h s : Nat} (h60 : m ≤ 60) (hsx : ∀ c, c < m → a 9 c = 0 ∨ a 9 c = 1) (hkin : kinOk a m) (hs : inH h s) (hwj : ¬ w = nI j) (hp : pkC (owS now a m ord j w wd ch h) (nI j) 1 s = true) : owS now a m ord j w wd ch h s = ch s ∧ ¬ pkC ch (nI j) 0 s = true := by
  rcases owS_at (now := now) (ord := ord) (j := j) (w := w) (wd := wd) (ch := ch) h60 hsx hkin hs with ⟨c, h1⟩ | ⟨c, h1⟩
  · exfalso
    have hp1 := pkC1.mp hp
    unfold hdR at hp1
    rcases h1 with ⟨-, h1⟩ | ⟨t, how, h1, h2, h3⟩
    · rw [h1] at hp1; exact hwj hp1.1
    · rw [h1] at hp1; exact h2 hp1.2
  · exact ⟨h1, c⟩
theorem owC_ct {now : Int32} {a : Ar} {m : Nat} {ord : Int32} {j : Nat} {w : Int32} {wd : Nat} {hr o0 : Int32} {ch : Nat → List Rt} (h60 : m ≤ 60) (hsx : ∀ c, c < m → a 9 c = 0 ∨ a 9 c = 1) (hkin : kinOk a m) : ∀ k, (owC now a m ord j w wd hr o0 ch k).2.1 = smH (ctP ch (nI j) 0) k
  | 0 => rfl
  | k + 1 => by
    show (owC now a m ord j w wd hr o0 ch k).2.1 + (pkL (pkC (owC now a m ord j w wd hr o0 ch k).1 (nI j) 0) k 12).length = smH (ctP ch (nI j) 0) k + (pkL (pkC ch (nI j) 0) k 12).length
    rw [owC_ct h60 hsx hkin k, owC_itr, pkC_congr (nI j) 0 (itr_in (owS_loc h60 hsx hkin) ch k)]
/-- a death -/
theorem dy_sim {now : Int32} {a a' : Ar} {m : Nat} {ord : Int32} {al : Nat → Bool} {j G : Nat} {w : Int32} {wd : Nat} {hr o0 : Int32} {q : Ls} {ch : Nat → List Rt} (hLR : LR q ch) (h60 : m ≤ 60) (hsx : ∀ c, c < m → a 9 c = 0 ∨ a 9 c = 1) (hkin : kinOk a m) (hj : j < m) (hne : ∀ s, s < 120 → ¬ ch s = []) (hW : ∀ s, s < 120 → (hdR ch s).2.1 = 3 → ¬ wdo (ch s) = -1) (h9 : ∀ c, c < m → a' 9 c = a 9 c) (h10 : ∀ c, c < m → a' 10 c = a 10 c) (h11 : ∀ c, c < m → a' 11 c = a 11 c) (hal : ∀ c, c < m → alB a' c = al c) (hjd : al j = false) (hwj : ¬ w = nI j) (hU : ∀ s, s < 120 → pkC ch (nI j) 1 s = true → gv2 (ch s) = nI G ∧ G < m ∧ al G = false) : ∀ k, k ≤ 10 → ((dyF now a m ord al j w wd hr o0 q k).2.1 = smH (fun k => ctP ch (nI j) 0 k + ctP (owS now a' m ord j w wd ch k) (nI j) 1 k) k ∧ (dyF now a m ord al j w wd hr o0 q k).2.2 = (owC now a' m ord j w wd hr o0 ch k).2.2) ∧ LR (dyF now a m ord al j w wd hr o0 q k).1 (itrH (fun ch h => wpS now a' m ord (nI j) (owS now a' m ord j w wd ch h) h) ch k)
  | 0, _ => ⟨⟨rfl, rfl⟩, hLR⟩
  | k + 1, hk => by
    have hsx' : ∀ c, c < m → a' 9 c = 0 ∨ a' 9 c = 1 := fun c hc => by rw [h9 c hc]; exact hsx c hc
    have hkin' : kinOk a' m := fun c p hc hp9 hch => hkin c p hc hp9 (by unfold chd at hch; rw [h10 c hc, h11 c hc] at hch; exact hch)
    obtain ⟨⟨i1, i3⟩, i2⟩ := dy_sim (now := now) (ord := ord) (wd := wd) (hr := hr) (o0 := o0) hLR h60 hsx hkin hj hne hW h9 h10 h11 hal hjd hwj hU k (by omega)
    have lo := owS_loc (now := now) (ord := ord) (j := j) (w := w) (wd := wd) h60 hsx' hkin'
    have lw := wpS_loc (now := now) (ord := ord) (p := nI j) h60 hsx' hkin'
    have hin := itr_in (lo.comp lw) ch k
    have hin2 : ∀ s, inH k s → owS now a' m ord j w wd (itrH (fun ch h => wpS now a' m ord (nI j) (owS now a' m ord j w wd ch h) h) ch k) k s = owS now a' m ord j w wd ch k s := lo.2 _ _ k hin
    have halj : ∀ c, c < m → alx a' j c = al c := fun c hc => by
      show (alB a' c && decide (c ≠ j)) = al c
      rw [hal c hc]
      by_cases z : c = j
      · subst z; rw [hjd]; rfl
      · rw [decide_eq_true z, Bool.and_true]
    obtain ⟨s1, s2⟩ := dy1_sim (now := now) (a' := a') (ord := ord) (w := w) (wd := wd) (h := k) i2 (by omega) h60 hsx hkin hj (fun s hs => by rw [hin s hs]; exact hne s (by omega)) (fun s hs => by unfold hdR; rw [hin s hs]; exact hW s (by omega)) h9 h10 h11 halj
    obtain ⟨t1, t2⟩ := wp_sim (now := now) (a' := a') (ord := ord) (p := nI j) (g := k) (G := G) (al := al) s2 (by omega) h60 hsx hkin (fun s hs hpk => by
      obtain ⟨e1, -⟩ := owS_pk h60 hsx' hkin' hs hwj hpk
      rw [e1, hin s hs]
      refine hU s (by omega) ?_
      unfold pkC hdR at hpk ⊢
      rw [e1, hin s hs] at hpk; exact hpk) h9 h10 h11 hal
    have eL : pkL (ownQ (dyF now a m ord al j w wd hr o0 q k).1 (nI j)) k 12 = pkL (pkC ch (nI j) 0) k 12 := by rw [s1, pkC_congr (nI j) 0 hin]
    refine ⟨⟨?_, ?_⟩, t2⟩
    · show (dyF now a m ord al j w wd hr o0 q k).2.1 + (_ + _) = _ + (_ + _)
      rw [i1, eL, t1, pkC_congr (nI j) 1 hin2]
    · show (if _ then _ else _) = (if (pkL (pkC (owC now a' m ord j w wd hr o0 ch k).1 (nI j) 0) k 12).length = 0 then (owC now a' m ord j w wd hr o0 ch k).2.2 else (owC now a' m ord j w wd hr o0 ch k).2.2 + hr)
      rw [eL, i3, owC_itr, pkC_congr (nI j) 0 (itr_in lo ch k)]
