/-! ===== REF 5: lines, group, first ===== -/
theorem nar01 {x : Int32} (h : x = 0 ∨ x = 1) : vp_nar .boolean x = x := by rcases h with h | h <;> rw [h] <;> rfl
def lnI (a : Ar) (m k : Nat) (A : Ar) : Prop := (∀ q, q ≠ 21 → A q = a q) ∧ ∀ p, k ≤ p → p < m → ((A 21 p = 0 ∨ A 21 p = 1) ∧ (¬ A 21 p = 0 ↔ lasts a (alB a) m p = true))
def lnJ (a : Ar) (m k c : Nat) (A : Ar) : Prop := lnI a m (k + 1) A ∧ (A 21 k = 0 ∨ A 21 k = 1) ∧ (¬ A 21 k = 0 ↔ (alB a k = true ∨ ∃ c', k < c' ∧ c' < c ∧ lasts a (alB a) m c' = true ∧ chd a c' k))
theorem lnJ_step {a : Ar} {m k c : Nat} {A : Ar} {v : Int32} (h : lnJ a m k c A) (hc : k < c) (hcm : c < m) (hv : v = 0 ∨ v = 1) (hiff : ¬ v = 0 ↔ (¬ A 21 k = 0 ∨ (¬ A 21 c = 0 ∧ chd a c k))) : lnJ a m k (c + 1) (up2 A 21 k v) := by
  obtain ⟨⟨h1, h2⟩, h3, h4⟩ := h
  refine ⟨⟨fun q hq => by rw [up2_ne _ _ _ hq]; exact h1 q hq, fun p hp hpm => ?_⟩, ?_, ?_⟩
  · rw [up2_eq, upd_ne _ _ (by omega)]
    exact h2 p hp hpm
  · rw [up2_eq, upd_eq]; exact hv
  · rw [up2_eq, upd_eq, hiff, h4, (h2 c (by omega) hcm).2]
    constructor
    · rintro ((h | ⟨c', q1, q2, q3, q4⟩) | ⟨q1, q2⟩)
      · exact Or.inl h
      · exact Or.inr ⟨c', q1, by omega, q3, q4⟩
      · exact Or.inr ⟨c, hc, by omega, q1, q2⟩
    · rintro (h | ⟨c', q1, q2, q3, q4⟩)
      · exact Or.inl (Or.inl h)
      · by_cases e : c' = c
        · subst e; exact Or.inr ⟨q3, q4⟩
        · exact Or.inl (Or.inr ⟨c', q1, by omega, q3, q4⟩)
theorem lnJ_end {a : Ar} {m k : Nat} {A : Ar} (hm : m ≤ 60) (hk : k < m) (h : lnJ a m k m A) : lnI a m k A := by
  obtain ⟨⟨h1, h2⟩, h3, h4⟩ := h
  refine ⟨h1, fun p hp hpm => ?_⟩
  by_cases e : p = k
  · subst e
    refine ⟨h3, ?_⟩
    rw [h4, lasts_iff a (alB a) hm hk]
  · exact h2 p (by omega) hpm
theorem lnJ_start {a : Ar} {m k : Nat} {A : Ar} (h : lnI a m (k + 1) A) (hb : a 20 k = 0 ∨ a 20 k = 1) : lnJ a m k (k + 1) (up2 A 21 k (A 20 k)) := by
  obtain ⟨h1, h2⟩ := h
  have e20 : A 20 = a 20 := h1 20 (by decide)
  refine ⟨⟨fun q hq => by rw [up2_ne _ _ _ hq]; exact h1 q hq, fun p hp hpm => ?_⟩, ?_, ?_⟩
  · rw [up2_eq, upd_ne _ _ (by omega)]
    exact h2 p hp hpm
  · rw [up2_eq, upd_eq, e20]; exact hb
  · rw [up2_eq, upd_eq, e20]
    constructor
    · intro h; exact Or.inl (by simp [alB, h])
    · rintro (h | ⟨c', q1, q2, q3, q4⟩)
      · simpa [alB] using h
      · omega
set_option maxRecDepth 100000 in
set_option maxHeartbeats 4000000 in
theorem c_X8_lines (l : Launch) (E : En) (o : Nat) (d : Nat → Nat) (i : Nat → Int32) (a : Nat → Nat → Int32) (ch : Nat → List Rt) {m : Nat} (hm : i 22 = nI m) (h60 : m ≤ 60) (hal : ∀ p, p < 60 → a 20 p = 0 ∨ a 20 p = 1) : Mt l E yX8_lines cX8_lines 3 none (rmX 1 22 0 0) [.ref o] (RV E o d i a ch) (fun _ : Ar => none) (fun A h => ((∀ k, k ≠ 21 → A k = a k) ∧ ∀ p, p < m → (lnB A p = true ↔ lasts a (alB a) m p = true)) ∧ RV E o d i A ch h) := by
  refine Mt_of (by decide +kernel) (Nat.le_of_ble_eq_true rfl) (fun J O => ?_)
  show J _ 0 0 0 [some (.ref o), none, none] []
  have loop : ∀ k, k ≤ m → ∀ A, lnI a m k A → J (RV E o d i A ch) 0 0 7 [some (.ref o), some (.int (nI k - 1)), none] [] := by
    refine dn_ind (Φ := fun k => k ≤ m → ∀ A, lnI a m k A → J (RV E o d i A ch) 0 0 7 [some (.ref o), some (.int (nI k - 1)), none] []) ?_ (fun k ih hk A hA => ?_)
    · intro hk A hA
      refine x_iload_n (pc := 7) O dX8_lines_7 rfl ?_
      refine x_if_lt (pc := 8) O 85 dX8_lines_8 (by decide) (fun c8 => ?_) (fun c8 => ?_)
      · exact x_ret (v := none) (pc := 85) O dX8_lines_85 rfl trivial ⟨Nat.le_refl _, Nat.le_refl _, A, rfl, fun h hh => ⟨⟨fun k hk => hA.1 k hk, fun p hp => by have z := (hA.2 p (Nat.zero_le _) hp).2; rw [← z]; simp [lnB]⟩, hh⟩⟩
      · exact absurd (by decide) c8
    · rw [show nI (k + 1) - 1 = nI k from nI_pred k]
      refine x_iload_n (pc := 7) O dX8_lines_7 rfl ?_
      refine x_if_lt (pc := 8) O 85 dX8_lines_8 (by decide) (fun c8 => ?_) (fun c8 => ?_)
      · exact absurd c8 (nI_pos (by omega))
      · refine x_aload_n (pc := 11) O dX8_lines_11 rfl rfl ?_
        refine v_get (pc := 12) O dX8_lines_12 fdX8_47 rfl rfl ?_
        refine x_iload_n (pc := 15) O dX8_lines_15 rfl ?_
        refine x_aload_n (pc := 16) O dX8_lines_16 rfl rfl ?_
        refine v_get (pc := 17) O dX8_lines_17 fdX8_43 rfl rfl ?_
        refine x_iload_n (pc := 20) O dX8_lines_20 rfl ?_
        refine v_zld (k := 20) (pc := 21) O dX8_lines_21 rfl rfl (by omega) ?_
        refine v_zst (k := 21) (pc := 22) O dX8_lines_22 rfl rfl (by omega) (by rw [hA.1 20 (by decide)]; exact nar01 (hal k (by omega))) ?_
        refine x_iload_n (pc := 23) O dX8_lines_23 rfl ?_
        refine x_iconst (v := 1) (pc := 24) O dX8_lines_24 (by decide) ?_
        refine x_iadd (pc := 25) O dX8_lines_25 ?_
        rw [show nI k + 1 = nI (k + 1) from (nI_succ k).symm]
        refine x_istore_n (pc := 26) O dX8_lines_26 (by decide) rfl ?_
        have loop2 : ∀ c, c ≤ m → k < c → ∀ B, lnJ a m k c B → J (RV E o d i B ch) 0 0 27 [some (.ref o), some (.int (nI k)), some (.int (nI c))] [] := by
          refine up_ind (Φ := fun c => k < c → ∀ B, lnJ a m k c B → J (RV E o d i B ch) 0 0 27 [some (.ref o), some (.int (nI k)), some (.int (nI c))] []) m (fun c hc ih0 hkc B hB => ?_)
          have ih2 : c < m → ∀ B, lnJ a m k (c + 1) B → J (RV E o d i B ch) 0 0 27 [some (.ref o), some (.int (nI k)), some (.int (nI (c + 1)))] [] := fun h => ih0 h (by omega)
          refine x_iload_n (pc := 27) O dX8_lines_27 rfl ?_
          refine x_aload_n (pc := 28) O dX8_lines_28 rfl rfl ?_
          refine v_get (pc := 29) O dX8_lines_29 fdX8_99 rfl rfl ?_
          refine x_icmp_ge (pc := 32) O 79 dX8_lines_32 (by decide) (fun c32 => ?_) (fun c32 => ?_)
          · refine x_iinc (v := nI k - 1) (pc := 79) O dX8_lines_79 rfl (Int32.sub_eq_add_neg (nI k) 1).symm rfl ?_
            refine x_goto (pc := 82) O 7 dX8_lines_82 (by decide) ?_
            refine x_lv O [some (.ref o), some (.int (nI k - 1)), none] ⟨rfl, rfl, trivial⟩ ?_
            have hc2 : c = m := by
              rw [hm, nI_leI (by omega) (by omega)] at c32
              omega
            subst hc2
            exact ih (by omega) B (lnJ_end h60 (by omega) hB)
          · have hc3 : c < m := by
              rw [hm, nI_leI (by omega) (by omega)] at c32
              omega
            refine x_aload_n (pc := 35) O dX8_lines_35 rfl rfl ?_
            refine v_get (pc := 36) O dX8_lines_36 fdX8_47 rfl rfl ?_
            refine x_iload_n (pc := 39) O dX8_lines_39 rfl ?_
            refine x_aload_n (pc := 40) O dX8_lines_40 rfl rfl ?_
            refine v_get (pc := 41) O dX8_lines_41 fdX8_47 rfl rfl ?_
            refine x_iload_n (pc := 44) O dX8_lines_44 rfl ?_
            refine v_zld (k := 21) (pc := 45) O dX8_lines_45 rfl rfl (by omega) ?_
            refine x_if_ne (pc := 46) O 67 dX8_lines_46 (by decide) (fun c46 => ?_) (fun c46 => ?_)
            · refine x_iconst (v := 1) (pc := 67) O dX8_lines_67 (by decide) ?_
              refine x_goto (pc := 68) O 72 dX8_lines_68 (by decide) ?_
              refine v_zst (k := 21) (pc := 72) O dX8_lines_72 rfl rfl (by omega) rfl ?_
              refine x_iinc (v := nI (c + 1)) (pc := 73) O dX8_lines_73 rfl (nI_succ c).symm rfl ?_
              refine x_goto (pc := 76) O 27 dX8_lines_76 (by decide) ?_
              refine ih2 (by omega) _ (lnJ_step hB (by omega) hc3 (Or.inr rfl) (by simp [c46]))
            · refine x_aload_n (pc := 49) O dX8_lines_49 rfl rfl ?_
              refine v_get (pc := 50) O dX8_lines_50 fdX8_47 rfl rfl ?_
              refine x_iload_n (pc := 53) O dX8_lines_53 rfl ?_
              refine v_zld (k := 21) (pc := 54) O dX8_lines_54 rfl rfl (by omega) ?_
              refine x_if_eq (pc := 55) O 71 dX8_lines_55 (by decide) (fun c55 => ?_) (fun c55 => ?_)
              · refine x_iconst (v := 0) (pc := 71) O dX8_lines_71 (by decide) ?_
                refine v_zst (k := 21) (pc := 72) O dX8_lines_72 rfl rfl (by omega) rfl ?_
                refine x_iinc (v := nI (c + 1)) (pc := 73) O dX8_lines_73 rfl (nI_succ c).symm rfl ?_
                refine x_goto (pc := 76) O 27 dX8_lines_76 (by decide) ?_
                refine ih2 (by omega) _ (lnJ_step hB (by omega) hc3 (Or.inl rfl) (by simp only [not_true_eq_false, false_iff]; exact fun z => z.elim (fun z => z c46) (fun z => z.1 c55)))
              · refine x_aload_n (pc := 58) O dX8_lines_58 rfl rfl ?_
                refine x_iload_n (pc := 59) O dX8_lines_59 rfl ?_
                refine x_iload_n (pc := 60) O dX8_lines_60 rfl ?_
                refine x_callV (pc := 61) (rest := _) (ci := 8) O (c_X8_isChild l E _ _ _ _ _ _ _ (by omega)) dX8_lines_61 cbX8_154 im_yX8_isChild se_yX8_isChild rfl v_recv rfl rfl (Nat.le_of_ble_eq_true rfl) ⟨Nat.le_of_ble_eq_true rfl, Nat.le_of_ble_eq_true rfl⟩ ⟨Nat.le_of_ble_eq_true rfl, Nat.le_of_ble_eq_true rfl⟩ (fun _ => ?_)
                dsimp only [Option.toList, List.append, List.nil_append, List.cons_append, Nat.add_zero, Nat.reduceAdd]
                refine x_if_eq (pc := 64) O 71 dX8_lines_64 (by decide) (fun c64 => ?_) (fun c64 => ?_)
                · refine x_iconst (v := 0) (pc := 71) O dX8_lines_71 (by decide) ?_
                  refine v_zst (k := 21) (pc := 72) O dX8_lines_72 rfl rfl (by omega) rfl ?_
                  refine x_iinc (v := nI (c + 1)) (pc := 73) O dX8_lines_73 rfl (nI_succ c).symm rfl ?_
                  refine x_goto (pc := 76) O 27 dX8_lines_76 (by decide) ?_
                  refine ih2 (by omega) _ (lnJ_step hB (by omega) hc3 (Or.inl rfl) (by simp only [not_true_eq_false, false_iff]; exact fun z => z.elim (fun z => z c46) (fun z => b2i_z c64 (by rw [hB.1.1 10 (by decide), hB.1.1 11 (by decide)]; exact z.2))))
                · refine x_iconst (v := 1) (pc := 67) O dX8_lines_67 (by decide) ?_
                  refine x_goto (pc := 68) O 72 dX8_lines_68 (by decide) ?_
                  refine v_zst (k := 21) (pc := 72) O dX8_lines_72 rfl rfl (by omega) rfl ?_
                  refine x_iinc (v := nI (c + 1)) (pc := 73) O dX8_lines_73 rfl (nI_succ c).symm rfl ?_
                  refine x_goto (pc := 76) O 27 dX8_lines_76 (by decide) ?_
                  refine ih2 (by omega) _ (lnJ_step hB (by omega) hc3 (Or.inr rfl) (by refine ⟨fun _ => Or.inr ⟨c55, ?_⟩, fun _ => by decide⟩; have z := b2i_n0 c64; rw [hB.1.1 10 (by decide), hB.1.1 11 (by decide)] at z; exact z))
        exact loop2 (k + 1) (by omega) (by omega) _ (lnJ_start hA (hal k (by omega)))
  refine x_aload_n (pc := 0) O dX8_lines_0 rfl rfl ?_
  refine v_get (pc := 1) O dX8_lines_1 fdX8_99 rfl rfl ?_
  refine x_iconst (v := 1) (pc := 4) O dX8_lines_4 (by decide) ?_
  refine x_isub (pc := 5) O dX8_lines_5 ?_
  rw [hm]
  refine x_istore_n (pc := 6) O dX8_lines_6 (by decide) rfl ?_
  exact loop m (Nat.le_refl m) a ⟨fun _ _ => rfl, fun p h1 h2 => absurd h2 (by omega)⟩
