/-! ===== THE LAW 4: its loop ===== -/
theorem sw_split (v : Int32) : (v.toInt < 0 ∨ 18 < v.toInt) ∨ ∃ k : Nat, k ≤ 18 ∧ v.toInt = (k : Int) := by
  by_cases c : v.toInt < 0 ∨ 18 < v.toInt
  · exact Or.inl c
  · exact Or.inr ⟨v.toInt.toNat, by omega, by omega⟩
theorem lp_ge {L j : Nat} (hL : L ≤ 3072) (hj : 6 * j ≤ L) (h : ¬ Int32.ofNat L - Int32.ofInt 6 < nI (6 * j)) : 6 * j + 5 < L := by
  refine Nat.not_le.mp (fun c => h ?_)
  have e1 : (Int32.ofNat L).toInt = (L : Int) := nI_toInt (n := L) (by omega)
  have e2 : (nI (6 * j)).toInt = ((6 * j : Nat) : Int) := nI_toInt (by omega)
  rw [Int32.lt_iff_toInt_lt, Int32.toInt_sub, e1, e2, show (Int32.ofInt 6).toInt = 6 from rfl, Int.bmod_eq_of_le (by omega) (by omega)]
  omega
set_option maxHeartbeats 4000000 in
theorem law_loop {l : Launch} {E : En} {b L : Nat} {xs : Nat → Int32} {J : Jt} (O : Okl l E b L xs J) (hL : L ≤ 3072) (q o : Nat) : ∀ (n j : Nat), L ≤ 6 * j + 6 * n → 6 * j ≤ L → ∀ (adr : Nat → Nat → Nat) (V : VTt) (VL : VLt) (m ns : Nat) (ch : Nat → List Rt) (d : Nat → Nat) (i : Nat → Int32) (a : Ar) (cr : Nat → List Rt) (D r ce sl : Nat), adr 0 7 = q → Rel D r m ns V VL ch i a cr → 120 ≤ r → r ≤ 120 * (j + 1) → ce ≤ cB r j → sl ≤ sB r j → J (Star (CV E adr V VL m ns ch) (RV E o d i a cr)) ce sl 18 (lvL b q o j) []
  | n, j, hn, hjL, adr, V, VL, m, ns, ch, d, i, a, cr, D, r, ce, sl, hq, h, h1, h2, hce, hsl => by
    refine x_iload_n (pc := 18) (x := nI (6 * j)) O.1 dL_law_18 rfl ?_
    refine x_aload_n (pc := 19) (v := .ref b) O.1 dL_law_19 rfl rfl ?_
    refine O.2.2 20 _ _ _ _ _ dL_law_20 ?_
    refine x_bipush (pc := 21) (v := Int32.ofInt 6) O.1 dL_law_21 (by decide) ?_
    refine x_isub (pc := 23) O.1 dL_law_23 ?_
    refine x_icmp_gt (pc := 24) O.1 823 dL_law_24 (by decide) (fun c => ?_) (fun c => ?_)
    · have hB := LB (r := r) (j := j) (by omega) (by omega)
      have hB1 : cB r j + 20000 ≤ 600000 := hB.1
      have hB2 : sB r j + 2000000 ≤ 7302250 := hB.2
      refine x_iconst (pc := 823) (v := 1) O.1 dL_law_823 (by decide) ?_
      exact x_ret (v := some (.int 1)) (pc := 824) O.1 dL_law_824 rfl rfl ⟨rfl, by omega, by omega⟩
    · have hj := lp_ge hL hjL c
      subst hq
      match n, hn with
      | 0, hn => omega
      | n + 1, hn =>
        have K : LK E b (adr 0 7) o j 817 J := by
          intro adr' V' VL' m' ns' ch' d' i' a' cr' D' r' ce' sl' g1 g2 g3 g4 g5 g6
          refine x_iinc (pc := 817) (v := nI (6 * (j + 1))) O.1 dL_law_817 rfl (nI_addk (6 * j) 6) rfl ?_
          refine x_goto (pc := 820) O.1 18 dL_law_820 (by decide) ?_
          exact law_loop O hL (adr 0 7) o n (j + 1) (by omega) (by omega) adr' V' VL' m' ns' ch' d' i' a' cr' D' r' ce' sl' g1 g2 g3 g4 g5 g6
        refine L_arg0 (pc := 27) O hj hL dL_law_27 dL_law_28 dL_law_29 ?_
        refine x_bipush (pc := 30) (v := 31) O.1 dL_law_30 (by decide) ?_
        refine x_iand (pc := 32) O.1 dL_law_32 ?_
        have hU := cB_up r j
        rcases sw_split (xs (6 * j) &&& 31) with c2 | ⟨k, hk, ek⟩
        · refine x_tout (pc := 33) O.1 817 dL_law_33 c2 (by decide) ?_
          exact K _ _ _ _ _ _ _ _ _ _ _ _ _ _ rfl h h1 (by omega) (by omega) (by omega)
        · match k, hk, ek with
          | 0, _, ek => exact x_tin (pc := 33) (off := 91) O.1 124 dL_law_33 (by rw [ek]; decide) (by rw [ek]; decide) (by rw [ek]; rfl) (by decide) (law_custom O hj hL K h h1 h2 hce hsl)
          | 1, _, ek => exact x_tin (pc := 33) (off := 124) O.1 157 dL_law_33 (by rw [ek]; decide) (by rw [ek]; decide) (by rw [ek]; rfl) (by decide) (law_person O hj hL K h h1 h2 hce hsl)
          | 2, _, ek => exact x_tin (pc := 33) (off := 167) O.1 200 dL_law_33 (by rw [ek]; decide) (by rw [ek]; decide) (by rw [ek]; rfl) (by decide) (law_marry O hj hL K h h1 h2 hce hsl)
          | 3, _, ek => exact x_tin (pc := 33) (off := 200) O.1 233 dL_law_33 (by rw [ek]; decide) (by rw [ek]; decide) (by rw [ek]; rfl) (by decide) (law_die O hj hL K h h1 h2 hce hsl)
          | 4, _, ek => exact x_tin (pc := 33) (off := 223) O.1 256 dL_law_33 (by rw [ek]; decide) (by rw [ek]; decide) (by rw [ek]; rfl) (by decide) (law_grant O hj hL K h h1 h2 hce hsl)
          | 5, _, ek => exact x_tin (pc := 33) (off := 266) O.1 299 dL_law_33 (by rw [ek]; decide) (by rw [ek]; decide) (by rw [ek]; rfl) (by decide) (law_rod O hj hL K h h1 h2 hce hsl)
          | 6, _, ek => exact x_tin (pc := 33) (off := 319) O.1 352 dL_law_33 (by rw [ek]; decide) (by rw [ek]; decide) (by rw [ek]; rfl) (by decide) (law_weeks O hj hL K h h1 h2 hce hsl)
          | 7, _, ek => exact x_tin (pc := 33) (off := 342) O.1 375 dL_law_33 (by rw [ek]; decide) (by rw [ek]; decide) (by rw [ek]; rfl) (by decide) (law_sick O hj hL K h h1 h2 hce hsl)
          | 8, _, ek => exact x_tin (pc := 33) (off := 375) O.1 408 dL_law_33 (by rw [ek]; decide) (by rw [ek]; decide) (by rw [ek]; rfl) (by decide) (law_works O hj hL K h h1 h2 hce hsl)
          | 9, _, ek => exact x_tin (pc := 33) (off := 434) O.1 467 dL_law_33 (by rw [ek]; decide) (by rw [ek]; decide) (by rw [ek]; rfl) (by decide) (law_pay O hj hL K h h1 h2 hce hsl)
          | 10, _, ek => exact x_tin (pc := 33) (off := 467) O.1 500 dL_law_33 (by rw [ek]; decide) (by rw [ek]; decide) (by rw [ek]; rfl) (by decide) (law_suit O hj hL K h h1 h2 hce hsl)
          | 11, _, ek => exact x_tin (pc := 33) (off := 510) O.1 543 dL_law_33 (by rw [ek]; decide) (by rw [ek]; decide) (by rw [ek]; rfl) (by decide) (law_appear O hj hL K h h1 h2 hce hsl)
          | 12, _, ek => exact x_tin (pc := 33) (off := 543) O.1 576 dL_law_33 (by rw [ek]; decide) (by rw [ek]; decide) (by rw [ek]; rfl) (by decide) (law_court O hj hL K h h1 h2 hce hsl)
          | 13, _, ek => exact x_tin (pc := 33) (off := 556) O.1 589 dL_law_33 (by rw [ek]; decide) (by rw [ek]; decide) (by rw [ek]; rfl) (by decide) (law_holder O hj hL K h h1 h2 hce hsl)
          | 14, _, ek => exact x_tin (pc := 33) (off := 599) O.1 632 dL_law_33 (by rw [ek]; decide) (by rw [ek]; decide) (by rw [ek]; rfl) (by decide) (law_right O hj hL K h h1 h2 hce hsl)
          | 15, _, ek => exact x_tin (pc := 33) (off := 662) O.1 695 dL_law_33 (by rw [ek]; decide) (by rw [ek]; decide) (by rw [ek]; rfl) (by decide) (law_heir O hj hL K h h1 h2 hce hsl)
          | 16, _, ek => exact x_tin (pc := 33) (off := 695) O.1 728 dL_law_33 (by rw [ek]; decide) (by rw [ek]; decide) (by rw [ek]; rfl) (by decide) (law_told O hj hL K h h1 h2 hce hsl)
          | 17, _, ek => exact x_tin (pc := 33) (off := 728) O.1 761 dL_law_33 (by rw [ek]; decide) (by rw [ek]; decide) (by rw [ek]; rfl) (by decide) (law_suited O hj hL K h h1 h2 hce hsl)
          | 18, _, ek => exact x_tin (pc := 33) (off := 761) O.1 794 dL_law_33 (by rw [ek]; decide) (by rw [ek]; decide) (by rw [ek]; rfl) (by decide) (law_count O hj hL K h h1 h2 hce hsl)
          | k + 19, hk, _ => omega
