/-! ===== THE LAW 9: its start ===== -/
set_option maxRecDepth 100000 in
theorem ao_4 : Cond.arrayOver (.object "ManorRolls$Person") ∈ lw_tbl := in_tb 63 rfl
set_option maxRecDepth 100000 in
theorem ao_5 : Cond.arrayOver (.object "ManorRolls$Right") ∈ lw_tbl := in_tb 80 rfl
set_option maxRecDepth 100000 in
theorem ao_6 : Cond.arrayOver (.object "ManorRolls$Suit") ∈ lw_tbl := in_tb 154 rfl
set_option maxRecDepth 100000 in
theorem nw_27 : Cond.methodLinkNest RX7 27 yX3_init "ManorRolls" ∈ lw_tbl := in_tb 58 rfl
theorem ac_at {s : State} {A : Array Value} {ty : FieldType} (h : (Cond.arrayClass ty).before A s = true) (hty : ∀ C, ty ≠ .object C) : ∃ cA : ClassId, ArrOfT s cA ty ∧ va_RA s cA ty := by
  obtain ⟨cA, kA, comp, h1, h2, h3⟩ := Cond.arrayClass_spec h
  refine ⟨cA, fun N z => ⟨fun k h => (by cases h), kA, h2, comp, h3⟩, ?_⟩
  cases ty with
  | object C => exact absurd rfl (hty C)
  | _ => exact h1
theorem ao_at {s : State} {A : Array Value} {C : String} (h : (Cond.arrayOver (.object C)).before A s = true) : ∃ cA : ClassId, ArrOfT s cA (.object C) ∧ va_RA s cA (.object C) := by
  obtain ⟨comp, cA, kA, h1, -, h2, h3, h4⟩ := Cond.arrayOver_spec h
  exact ⟨cA, fun N z => ⟨fun k h => (by cases h), kA, h2, comp, h3⟩, kA, comp, h2, h3, h1, h4⟩
theorem ek_start {s : State} {A : Array Value} (hts : ∀ w ∈ lw_tbl, w.before A s = true) (hws : ∀ w ∈ wsL_law, w.before A s = true) : ∃ E : En, e_K E s := by
  obtain ⟨c0, i0, k0⟩ := u_known (C := RX0) (T := TX0) (N := 7) (n := 7) hws inlX0 (hws _ in_RX0)
  obtain ⟨c1, i1, k1⟩ := u_known (C := RX1) (T := TX1) (N := 7) (n := 7) hws inlX1 (hws _ in_RX1)
  obtain ⟨c2, i2, k2⟩ := u_known (C := RX2) (T := TX2) (N := 4) (n := 4) hws inlX2 (hws _ in_RX2)
  obtain ⟨c3, i3, k3⟩ := u_known (C := RX3) (T := TX3) (N := 2) (n := 2) hws inlX3 (hws _ in_RX3)
  obtain ⟨c4, i4, k4⟩ := u_known (C := RX4) (T := TX4) (N := 14) (n := 14) hws inlX4 (hws _ in_RX4)
  obtain ⟨c5, i5, k5⟩ := u_known (C := RX5) (T := TX5) (N := 4) (n := 4) hws inlX5 (hws _ in_RX5)
  obtain ⟨c6, i6, k6⟩ := u_known (C := RX6) (T := TX6) (N := 7) (n := 7) hws inlX6 (hws _ in_RX6)
  obtain ⟨c7, i7, k7⟩ := u_known (C := RX7) (T := TX7) (N := 9) (n := 9) hws inlX7 (hws _ in_RX7)
  obtain ⟨c8, i8, k8⟩ := u_known (C := RX8) (T := TX8) (N := 44) (n := 44) hws inlX8 (hws _ in_RX8)
  obtain ⟨a0, f0, g0⟩ := ac_at (hws _ ac_int) (fun C h => by cases h)
  obtain ⟨a1, f1, g1⟩ := ac_at (hws _ ac_boolean) (fun C h => by cases h)
  obtain ⟨a2, f2, g2⟩ := ao_at (hts _ ao_4)
  obtain ⟨a3, f3, g3⟩ := ao_at (hts _ ao_5)
  obtain ⟨a4, f4, g4⟩ := ao_at (hts _ ao_6)
  refine ⟨((fun k => match k with | 0 => c0 | 1 => c1 | 2 => c2 | 3 => c3 | 4 => c4 | 5 => c5 | 6 => c6 | 7 => c7 | _ => c8, fun k => match k with | 0 => i0 | 1 => i1 | 2 => i2 | 3 => i3 | 4 => i4 | 5 => i5 | 6 => i6 | 7 => i7 | _ => i8), fun k => match k with | 0 => a0 | 1 => a1 | 2 => a2 | 3 => a3 | _ => a4), ⟨?_, ?_⟩, va_AO.of (hts _ ao_4), va_AO.of (hts _ ao_5), va_AO.of (hts _ ao_6), va_Nw.of rfl (hts _ nw_27)⟩
  · intro k q hq
    match k, hq with
    | 0, hq => cases hq; exact k0
    | 1, hq => cases hq; exact k1
    | 2, hq => cases hq; exact k2
    | 3, hq => cases hq; exact k3
    | 4, hq => cases hq; exact k4
    | 5, hq => cases hq; exact k5
    | 6, hq => cases hq; exact k6
    | 7, hq => cases hq; exact k7
    | 8, hq => cases hq; exact k8
    | k + 9, hq => simp [vwCl] at hq
  · intro k q hq
    match k, hq with
    | 0, hq => cases hq; exact ⟨f0, g0⟩
    | 1, hq => cases hq; exact ⟨f1, g1⟩
    | 2, hq => cases hq; exact ⟨f2, g2⟩
    | 3, hq => cases hq; exact ⟨f3, g3⟩
    | 4, hq => cases hq; exact ⟨f4, g4⟩
    | k + 5, hq => simp [e_tys] at hq
theorem whole_start {p : Program} {e : Env} {s : State} {m : MethodId} {below : List Frame} {meth : Method} {c : Code} (l : Launch) {b L : Nat} {xs : Nat → Int32} (hL : L ≤ 3072) (hnm : meth.name = "law") (C0 : lw_At p s m meth c b L xs) : W p l e room_1 s m #[Value.ref b] below meth c s.heap [] 0 0 (lw_Z below #[Value.ref b] s) (entryFrame m ([Value.ref b] : List Value).toArray 4) := by
  have hts := C0.2.2.2.2.2.1
  have hws : ∀ w ∈ wsL_law, w.before #[Value.ref b] s = true := fun w hw => hts w (law_in w hw)
  obtain ⟨E, hK⟩ := ek_start hts hws
  rw [lg_entry_eq]
  exact law_body (law_okl l C0 hnm hws hK) hL s.heap [] _ [] (fun k q h => by simp at h) ⟨fun i j p q h => by simp at h, fun k q h => by simp at h⟩ trivial va_S.rf (ent_lvs [.ref b] 4 (Nat.le_of_ble_eq_true rfl))
