/-! ===== REF 18: die ===== -/
def cmw1 (now : Int32) (w p : Int32) (q : Ls) (s : Nat) : Ls := (upd q.1 s w, upd (upd q.2.1 s (-1)) s p, va_up q.2.2.1 s ((w, 3, now) :: q.2.2.1 s), q.2.2.2 + 1)
def cmwL (now : Int32) (w p : Int32) (q : Ls) (L : List Nat) : Ls := L.foldl (cmw1 now w p) q
theorem cmwL_s (now : Int32) (w p : Int32) (q : Ls) (L : List Nat) {k : Nat} (hk : k < L.length) : cmwL now w p q (L.take (k + 1)) = cmw1 now w p (cmwL now w p q (L.take k)) (L.getD k 0) := by
  have : L.getD k 0 = L[k] := by simp [List.getD, hk]
  unfold cmwL
  rw [List.take_succ_eq_append_getElem hk, List.foldl_append, this]
  rfl
theorem cmwL_n (now : Int32) (w p : Int32) : ∀ (L : List Nat) (q : Ls), (cmwL now w p q L).2.2.2 = q.2.2.2 + L.length
  | [], q => rfl
  | s :: L, q => by
    show (cmwL now w p (cmw1 now w p q s) L).2.2.2 = _
    rw [cmwL_n now w p L]
    show q.2.2.2 + 1 + L.length = q.2.2.2 + (L.length + 1)
    omega
def ownQ (q : Ls) (p : Int32) (s : Nat) : Bool := decide (q.1 s = p ∧ q.2.1 s = -1)
def dyP (w : Int32) (wd n : Nat) : Nat := if w = -1 then 0 else n * wd / 12
theorem dyP_le (w : Int32) {wd n : Nat} (h : wd ≤ 12) : dyP w wd n ≤ n := by
  unfold dyP
  split
  · omega
  · have : n * wd ≤ n * 12 := Nat.mul_le_mul_left n h
    omega
/-- the strips of one holding that the dead held of their own: the widow's part, then the heirs' -/
def dy1 (now : Int32) (a : Ar) (m : Nat) (ord : Int32) (al : Nat → Bool) (j : Nat) (w : Int32) (wd h : Nat) (q : Ls) : Ls :=
  let L := pkL (ownQ q (nI j)) h 12
  let q1 := cmwL now w (nI j) q (L.take (dyP w wd L.length))
  if L.length ≤ dyP w wd L.length then q1 else cmL now q1 (passE a m ord al j (L.drop (dyP w wd L.length)) (L.length - dyP w wd L.length))
def dyF (now : Int32) (a : Ar) (m : Nat) (ord : Int32) (al : Nat → Bool) (j : Nat) (w : Int32) (wd : Nat) (hr o0 : Int32) (q : Ls) : Nat → Ls × Nat × Int32
  | 0 => (q, 0, o0)
  | h + 1 =>
    let v := dyF now a m ord al j w wd hr o0 q h
    let L := pkL (ownQ v.1 (nI j)) h 12
    let x := wpF now a m ord al (nI j) h (dy1 now a m ord al j w wd h v.1) m
    (x.1, v.2.1 + (L.length + x.2), if L.length = 0 then v.2.2 else v.2.2 + hr)
theorem dy1_n {now : Int32} {a : Ar} {m : Nat} {ord : Int32} {al : Nat → Bool} {j : Nat} {w : Int32} {wd h : Nat} {q : Ls} (hm : m ≤ 60) (hsx : ∀ c, c < m → a 9 c = 0 ∨ a 9 c = 1) (hkin : kinOk a m) (hwd : wd ≤ 12) : (dy1 now a m ord al j w wd h q).2.2.2 = q.2.2.2 + (pkL (ownQ q (nI j)) h 12).length := by
  have hle := dyP_le w (wd := wd) (n := (pkL (ownQ q (nI j)) h 12).length) hwd
  unfold dy1
  dsimp only
  split
  · rw [cmwL_n, List.length_take]; omega
  · have e := passE_len (a := a) (al := al) (ord := ord) (m := m) (p := j) hm hsx hkin ((pkL (ownQ q (nI j)) h 12).drop (dyP w wd (pkL (ownQ q (nI j)) h 12).length))
    rw [List.length_drop] at e
    rw [cmL_n, cmwL_n, e, List.length_take]
    omega
theorem dyF_n {now : Int32} {a : Ar} {m : Nat} {ord : Int32} {al : Nat → Bool} {j : Nat} {w : Int32} {wd : Nat} {hr o0 : Int32} {q : Ls} (hm : m ≤ 60) (hsx : ∀ c, c < m → a 9 c = 0 ∨ a 9 c = 1) (hkin : kinOk a m) (hwd : wd ≤ 12) : ∀ h, (dyF now a m ord al j w wd hr o0 q h).1.2.2.2 = q.2.2.2 + (dyF now a m ord al j w wd hr o0 q h).2.1
  | 0 => rfl
  | h + 1 => by
    have e := dyF_n (now := now) (ord := ord) (al := al) (j := j) (w := w) (hr := hr) (o0 := o0) (q := q) hm hsx hkin hwd h
    simp only [dyF]
    rw [wpF_n hm hsx hkin, dy1_n hm hsx hkin hwd, e]
    omega
theorem dyF_mono (now : Int32) (a : Ar) (m : Nat) (ord : Int32) (al : Nat → Bool) (j : Nat) (w : Int32) (wd : Nat) (hr o0 : Int32) (q : Ls) (h : Nat) : ∀ t, (dyF now a m ord al j w wd hr o0 q h).2.1 ≤ (dyF now a m ord al j w wd hr o0 q (h + t)).2.1
  | 0 => Nat.le_refl _
  | t + 1 => by
    have e := dyF_mono now a m ord al j w wd hr o0 q h t
    rw [← Nat.add_assoc]
    simp only [dyF]
    omega
theorem up2_id {a : Ar} {k j : Nat} {v : Int32} (h : a k j = v) : up2 a k j v = a := by
  funext q
  by_cases e : q = k
  · subst e; rw [up2_eq]; exact upd_id h
  · rw [up2_ne _ _ _ e]
def dyN (i : Nat → Int32) (a : Ar) (ch : Nat → List Rt) (m r wd : Nat) (p : Int32) : Nat := if lvP i a p then (dyF (i 8) a m (i 0) (alx a p.toNatClampNeg) p.toNatClampNeg (a 12 p.toNatClampNeg) wd (i 2) (a 14 p.toNatClampNeg) (lsOf a ch r) 10).2.1 else 0
def dyQ (i : Nat → Int32) (a : Ar) (ch : Nat → List Rt) (m r wd : Nat) (p : Int32) : Ls := if lvP i a p then (dyF (i 8) a m (i 0) (alx a p.toNatClampNeg) p.toNatClampNeg (a 12 p.toNatClampNeg) wd (i 2) (a 14 p.toNatClampNeg) (lsOf a ch r) 10).1 else lsOf a ch r
def dyA (i : Nat → Int32) (a : Ar) (ch : Nat → List Rt) (m r wd : Nat) (p : Int32) : Ar := if lvP i a p then
    (let j := p.toNatClampNeg
     let b := up2 (up2 a 20 j 0) 14 j (dyF (i 8) a m (i 0) (alx a j) j (a 12 j) wd (i 2) (a 14 j) (lsOf a ch r) 10).2.2
     up2 (if a 12 j = -1 then b else up2 b 12 (a 12 j).toNatClampNeg (-1)) 12 j (-1)) else a
def dyV (i : Nat → Int32) (a : Ar) (ch : Nat → List Rt) (m r wd : Nat) (p : Int32) : Int32 := if lvP i a p then nI (dyN i a ch m r wd p) else -1
