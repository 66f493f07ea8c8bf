/-! ===== SIM 1: land, pure ===== -/
def wdo (c : List Rt) : Int32 := match c with
  | e1 :: e2 :: _ => if e1.2.1 = 3 then e2.1 else -1
  | _ => -1
/-- the reference's land stands as the class's -/
def LR (q : Ls) (ch : Nat → List Rt) : Prop := ∀ s, s < 120 → q.2.2.1 s = ch s ∧ q.1 s = (hdR ch s).1 ∧ q.2.1 s = wdo (ch s)
theorem wdo_n {e : Rt} {c : List Rt} (h : ¬ e.2.1 = 3) : wdo (e :: c) = -1 := by
  cases c with
  | nil => rfl
  | cons x r => exact if_neg h
theorem LR.cm {now : Int32} {q : Ls} {ch : Nat → List Rt} {e : Nat × Int32 × Int32} (h : LR q ch) (he : ¬ e.2.2 = 3) : LR (cm1 now q e) (va_up ch e.1 ((e.2.1, e.2.2, now) :: ch e.1)) := by
  intro s hs
  obtain ⟨h1, h2, h3⟩ := h s hs
  by_cases c : s = e.1
  · subst c
    refine ⟨?_, ?_, ?_⟩
    · show va_up q.2.2.1 e.1 _ e.1 = va_up ch e.1 _ e.1
      rw [va_up_self, va_up_self, h1]
    · show upd q.1 e.1 e.2.1 e.1 = ((va_up ch e.1 _ e.1).headD (0, 0, 0)).1
      rw [upd_eq, va_up_self]; rfl
    · show upd q.2.1 e.1 (-1) e.1 = wdo (va_up ch e.1 _ e.1)
      rw [upd_eq, va_up_self]; exact (wdo_n he).symm
  · refine ⟨?_, ?_, ?_⟩
    · show va_up q.2.2.1 e.1 _ s = va_up ch e.1 _ s
      rw [va_up_ne _ _ c, va_up_ne _ _ c, h1]
    · show upd q.1 e.1 e.2.1 s = ((va_up ch e.1 _ s).headD (0, 0, 0)).1
      rw [upd_ne _ _ c, va_up_ne _ _ c]; exact h2
    · show upd q.2.1 e.1 (-1) s = wdo (va_up ch e.1 _ s)
      rw [upd_ne _ _ c, va_up_ne _ _ c]; exact h3
theorem LR.L {now : Int32} : ∀ (E : List (Nat × Int32 × Int32)) (q : Ls) (ch : Nat → List Rt), (∀ e ∈ E, ¬ e.2.2 = 3) → LR q ch → LR (cmL now q E) (clL now ch E)
  | [], _, _, _, h => h
  | e :: E, q, ch, he, h => LR.L E _ _ (fun x hx => he x (List.mem_cons_of_mem _ hx)) (h.cm (now := now) (he e List.mem_cons_self))
theorem LR.w1 {now w p : Int32} {q : Ls} {ch : Nat → List Rt} {s0 : Nat} (h : LR q ch) (hp : (hdR ch s0).1 = p) (hne : ¬ ch s0 = []) : LR (cmw1 now w p q s0) (va_up ch s0 ((w, 3, now) :: ch s0)) := by
  intro s hs
  obtain ⟨h1, h2, h3⟩ := h s hs
  by_cases c : s = s0
  · subst c
    refine ⟨?_, ?_, ?_⟩
    · show va_up q.2.2.1 s _ s = va_up ch s _ s
      rw [va_up_self, va_up_self, h1]
    · show upd q.1 s w s = ((va_up ch s _ s).headD (0, 0, 0)).1
      rw [upd_eq, va_up_self]; rfl
    · show upd (upd q.2.1 s (-1)) s p s = wdo (va_up ch s _ s)
      rw [upd_eq, va_up_self]
      obtain ⟨e, r, hr⟩ := List.exists_cons_of_ne_nil hne
      rw [hr]
      unfold hdR at hp
      rw [hr] at hp
      exact hp.symm
  · refine ⟨?_, ?_, ?_⟩
    · show va_up q.2.2.1 s0 _ s = va_up ch s0 _ s
      rw [va_up_ne _ _ c, va_up_ne _ _ c, h1]
    · show upd q.1 s0 w s = ((va_up ch s0 _ s).headD (0, 0, 0)).1
      rw [upd_ne _ _ c, va_up_ne _ _ c]; exact h2
    · show upd (upd q.2.1 s0 (-1)) s0 p s = wdo (va_up ch s0 _ s)
      rw [upd_ne _ _ c, upd_ne _ _ c, va_up_ne _ _ c]; exact h3
theorem LR.wL {now w p : Int32} : ∀ (L : List Nat) (q : Ls) (ch : Nat → List Rt), L.Nodup → (∀ s ∈ L, (hdR ch s).1 = p ∧ ¬ ch s = []) → LR q ch → LR (cmwL now w p q L) (clL now ch (L.map (fun s => (s, w, 3))))
  | [], _, _, _, _, h => h
  | s :: L, q, ch, hn, hs, h => by
    rw [List.nodup_cons] at hn
    refine LR.wL L (cmw1 now w p q s) (va_up ch s ((w, 3, now) :: ch s)) hn.2 (fun x hx => ?_) (h.w1 (hs s List.mem_cons_self).1 (hs s List.mem_cons_self).2)
    have hne : x ≠ s := fun z => hn.1 (z ▸ hx)
    have := hs x (List.mem_cons_of_mem _ hx)
    unfold hdR at this ⊢
    rw [va_up_ne _ _ hne]; exact this
theorem clL_pt {now : Int32} {s : Nat} : ∀ (E : List (Nat × Int32 × Int32)) (ch ch' : Nat → List Rt), ch s = ch' s → clL now ch E s = clL now ch' E s
  | [], _, _, h => h
  | e :: E, ch, ch', h => by
    refine clL_pt E _ _ ?_
    show va_up ch e.1 _ s = va_up ch' e.1 _ s
    by_cases c : s = e.1
    · subst c; rw [va_up_self, va_up_self, h]
    · rw [va_up_ne _ _ c, va_up_ne _ _ c, h]
theorem clL_out {now : Int32} {s : Nat} : ∀ (E : List (Nat × Int32 × Int32)) (ch : Nat → List Rt), (∀ e ∈ E, e.1 ≠ s) → clL now ch E s = ch s
  | [], _, _ => rfl
  | e :: E, ch, h => by
    show clL now (va_up ch e.1 _) E s = _
    rw [clL_out E _ (fun x hx => h x (List.mem_cons_of_mem _ hx)), va_up_ne _ _ (fun z => h e List.mem_cons_self z.symm)]
theorem clL_in {now : Int32} : ∀ (E : List (Nat × Int32 × Int32)) (ch : Nat → List Rt), (E.map (fun e => e.1)).Nodup → ∀ e ∈ E, clL now ch E e.1 = (e.2.1, e.2.2, now) :: ch e.1
  | [], _, _, e, h => by simp at h
  | x :: E, ch, hn, e, he => by
    rw [List.map_cons, List.nodup_cons] at hn
    show clL now (va_up ch x.1 _) E e.1 = _
    rcases List.mem_cons.mp he with rfl | he
    · rw [clL_out E _ (fun y hy z => hn.1 (List.mem_map.mpr ⟨y, hy, z⟩)), va_up_self]
    · rw [clL_in E _ hn.2 e he, va_up_ne _ _ (fun z => hn.1 (List.mem_map.mpr ⟨e, he, z⟩))]
theorem pkL_nd (f : Nat → Bool) (g k : Nat) : (pkL f g k).Nodup := by
  unfold pkL
  refine List.Pairwise.filter _ ?_
  refine List.Pairwise.map _ (fun a b h => ?_) List.nodup_range
  intro e
  exact h (by omega)
theorem pkL_in {f : Nat → Bool} {g k s : Nat} : s ∈ pkL f g k ↔ (12 * g ≤ s ∧ s < 12 * g + k) ∧ f s = true := by
  constructor
  · exact pkL_mem
  · rintro ⟨⟨h1, h2⟩, h3⟩
    unfold pkL
    rw [List.mem_filter]
    exact ⟨List.mem_map.mpr ⟨s - 12 * g, List.mem_range.mpr (by omega), by omega⟩, h3⟩
theorem passE_st {a : Ar} {m : Nat} {ord : Int32} {al : Nat → Bool} {j n : Nat} {hs : List Nat} (h60 : m ≤ 60) (hsx : ∀ c, c < m → a 9 c = 0 ∨ a 9 c = 1) (hkin : kinOk a m) (hn : n ≤ hs.length) : (passE a m ord al j hs n).map (fun e => e.1) = hs.take n := by
  apply List.ext_getElem?
  intro i
  rw [List.getElem?_map]
  by_cases c : i < n
  · rw [passE_at h60 hsx hkin hn c, List.getElem?_take_of_lt c, List.getElem?_eq_getElem (by omega)]
    simp [List.getD, show i < hs.length by omega]
  · rw [List.getElem?_eq_none (by rw [passE_len2 h60 hsx hkin hn]; omega), List.getElem?_eq_none (by rw [List.length_take]; omega)]
    rfl
theorem passE_mem {a : Ar} {m : Nat} {ord : Int32} {al : Nat → Bool} {j n : Nat} {hs : List Nat} (h60 : m ≤ 60) (hsx : ∀ c, c < m → a 9 c = 0 ∨ a 9 c = 1) (hkin : kinOk a m) (hn : n ≤ hs.length) {e : Nat × Int32 × Int32} (he : e ∈ passE a m ord al j hs n) : e.1 ∈ hs.take n := by
  rw [← passE_st (al := al) (ord := ord) (j := j) h60 hsx hkin hn]
  exact List.mem_map.mpr ⟨e, he, rfl⟩
theorem shareF_al {a : Ar} {al ln : Nat → Bool} {ord : Int32} {m : Nat} : ∀ f g n, ∀ x ∈ shareF a al ln m ord f g n, al x = true
  | 0, _, _, x, h => by simp [shareF] at h
  | f + 1, g, n, x, h => by
    simp only [shareF, List.mem_flatMap, List.mem_range] at h
    obtain ⟨k, hk, hx⟩ := h
    split at hx
    · simp at hx
    · split at hx
      · rename_i hal
        have := List.eq_of_mem_replicate hx
        rw [this]; exact hal
      · exact shareF_al f _ _ x hx
theorem ents_who : ∀ (T hs : List Nat), ∀ e ∈ ents hs T, ∃ q ∈ T, e.2.1 = nI q
  | [], _, e, h => by simp [ents] at h
  | q :: T, hs, e, h => by
    simp only [ents, List.mem_cons] at h
    rcases h with rfl | h
    · exact ⟨q, List.mem_cons_self, rfl⟩
    · obtain ⟨x, hx, e1⟩ := ents_who T _ e h
      exact ⟨x, List.mem_cons_of_mem _ hx, e1⟩
theorem passE_who {a : Ar} {m : Nat} {ord : Int32} {al : Nat → Bool} {j n : Nat} {hs : List Nat} : ∀ e ∈ passE a m ord al j hs n, e.2.1 = -1 ∨ ∃ q, q < m ∧ e.2.1 = nI q ∧ al q = true := by
  intro e he
  unfold passE at he
  split at he
  · simp only [List.mem_map] at he
    obtain ⟨s, -, rfl⟩ := he
    exact Or.inl rfl
  · obtain ⟨q, hq, e1⟩ := ents_who _ _ e he
    exact Or.inr ⟨q, shareF_lt 60 _ _ (fun q hq => fstG_lt q hq) q hq, e1, shareF_al 60 _ _ q hq⟩
/-! holding by holding -/
abbrev inH (h s : Nat) : Prop := 12 * h ≤ s ∧ s < 12 * h + 12
abbrev StpH : Type := (Nat → List Rt) → Nat → Nat → List Rt
def LocH (F : StpH) : Prop := (∀ ch h s, ¬ inH h s → F ch h s = ch s) ∧ ∀ ch ch' h, (∀ s, inH h s → ch s = ch' s) → ∀ s, inH h s → F ch h s = F ch' h s
def itrH (F : StpH) (ch : Nat → List Rt) : Nat → Nat → List Rt
  | 0 => ch
  | k + 1 => F (itrH F ch k) k
theorem itr_at {F : StpH} (hF : LocH F) (ch : Nat → List Rt) : ∀ k s, itrH F ch k s = if s < 12 * k then F ch (s / 12) s else ch s
  | 0, s => by simp [itrH]
  | k + 1, s => by
    show F (itrH F ch k) k s = _
    by_cases c : inH k s
    · have e : s / 12 = k := by omega
      rw [if_pos (by omega), e]
      refine hF.2 _ _ k (fun s' hs' => ?_) s c
      rw [itr_at hF ch k s', if_neg (by omega)]
    · rw [hF.1 _ _ _ c, itr_at hF ch k s]
      by_cases c2 : s < 12 * k
      · rw [if_pos c2, if_pos (by omega)]
      · rw [if_neg c2, if_neg (by omega)]
theorem LocH.comp {F G : StpH} (hF : LocH F) (hG : LocH G) : LocH (fun ch h => G (F ch h) h) :=
  ⟨fun ch h s hs => (hG.1 _ _ _ hs).trans (hF.1 _ _ _ hs), fun ch ch' h he s hs => hG.2 _ _ h (fun s' hs' => hF.2 _ _ h he s' hs') s hs⟩
theorem itr_comp {F G : StpH} (hF : LocH F) (hG : LocH G) (ch : Nat → List Rt) {s : Nat} (hs : s < 120) : itrH G (itrH F ch 10) 10 s = itrH (fun ch h => G (F ch h) h) ch 10 s := by
  rw [itr_at hG, itr_at (hF.comp hG), if_pos (by omega), if_pos (by omega)]
  refine hG.2 _ _ (s / 12) (fun s' hs' => ?_) s ⟨by omega, by omega⟩
  have e : s' / 12 = s / 12 := by omega
  rw [itr_at hF, if_pos (by omega), e]
theorem itr_in {F : StpH} (hF : LocH F) (ch : Nat → List Rt) (k : Nat) : ∀ s, inH k s → itrH F ch k s = ch s := fun s hs => by
  rw [itr_at hF, if_neg (by omega)]
theorem owC_itr {now : Int32} {a : Ar} {m : Nat} {ord : Int32} {j : Nat} {w : Int32} {wd : Nat} {hr o0 : Int32} {ch : Nat → List Rt} : ∀ k, (owC now a m ord j w wd hr o0 ch k).1 = itrH (owS now a m ord j w wd) ch k
  | 0 => rfl
  | k + 1 => by
    show owS now a m ord j w wd (owC now a m ord j w wd hr o0 ch k).1 k = owS now a m ord j w wd (itrH _ ch k) k
    rw [owC_itr k]
theorem wpC_itr {now : Int32} {a : Ar} {m : Nat} {ord p : Int32} {ch : Nat → List Rt} : ∀ k, (wpC now a m ord p ch k).1 = itrH (wpS now a m ord p) ch k
  | 0 => rfl
  | k + 1 => by
    show wpS now a m ord p (wpC now a m ord p ch k).1 k = wpS now a m ord p (itrH _ ch k) k
    rw [wpC_itr k]
theorem pkC_congr {ch ch' : Nat → List Rt} {h : Nat} (p b : Int32) (e : ∀ s, inH h s → ch s = ch' s) : pkL (pkC ch p b) h 12 = pkL (pkC ch' p b) h 12 := pkL_congr (fun s q1 q2 => by
  unfold pkC hdR
  rw [e s ⟨q1, q2⟩])
theorem wpS_loc {now : Int32} {a : Ar} {m : Nat} {ord p : Int32} (h60 : m ≤ 60) (hsx : ∀ c, c < m → a 9 c = 0 ∨ a 9 c = 1) (hkin : kinOk a m) : LocH (wpS now a m ord p) := by
  refine ⟨fun ch h s hs => ?_, fun ch ch' h he s hs => ?_⟩
  · unfold wpS
    try dsimp only
    split
    · rfl
    · refine clL_out _ _ (fun e he z => hs ?_)
      have : e.1 ∈ (passE a m ord (alx a (wpG ch (pkL (pkC ch p 1) h 12))) (wpG ch (pkL (pkC ch p 1) h 12)) (pkL (pkC ch p 1) h 12) (pkL (pkC ch p 1) h 12).length).map (fun e => e.1) := List.mem_map.mpr ⟨e, he, rfl⟩
      rw [passE_st h60 hsx hkin (Nat.le_refl _), List.take_length, z] at this
      exact (pkL_in.mp this).1
  · unfold wpS
    try dsimp only
    rw [pkC_congr p 1 he]
    split
    · exact he s hs
    · rename_i hL
      have hm : (pkL (pkC ch' p 1) h 12).headD 0 ∈ pkL (pkC ch' p 1) h 12 := by
        obtain ⟨x, r, hx⟩ := List.exists_cons_of_ne_nil hL
        rw [hx]; exact List.mem_cons_self
      have eg : wpG ch (pkL (pkC ch' p 1) h 12) = wpG ch' (pkL (pkC ch' p 1) h 12) := by
        unfold wpG
        rw [he _ (pkL_in.mp hm).1]
      rw [eg]
      exact clL_pt _ _ _ (he s hs)
theorem owS_loc {now : Int32} {a : Ar} {m : Nat} {ord : Int32} {j : Nat} {w : Int32} {wd : Nat} (h60 : m ≤ 60) (hsx : ∀ c, c < m → a 9 c = 0 ∨ a 9 c = 1) (hkin : kinOk a m) : LocH (owS now a m ord j w wd) := by
  refine ⟨fun ch h s hs => ?_, fun ch ch' h he s hs => ?_⟩
  · unfold owS
    try dsimp only
    split
    · rfl
    · rw [clL_out, clL_out]
      · intro e he z
        simp only [List.mem_map] at he
        obtain ⟨x, hx, rfl⟩ := he
        exact hs (z ▸ (pkL_in.mp (List.mem_of_mem_take hx)).1)
      · intro e he z
        have := passE_mem h60 hsx hkin (by rw [List.length_drop]; exact Nat.le_refl _) he
        rw [z] at this
        exact hs (pkL_in.mp (List.mem_of_mem_drop (List.mem_of_mem_take this))).1
  · unfold owS
    try dsimp only
    rw [pkC_congr (nI j) 0 he]
    split
    · exact he s hs
    · exact clL_pt _ _ _ (clL_pt _ _ _ (he s hs))
