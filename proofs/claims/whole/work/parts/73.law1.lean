/-! ===== THE LAW 1: its cases ===== -/
theorem LB {r j : Nat} (hr : r ≤ 61560) (hj : j ≤ 513) : cB r j + 20000 ≤ room_1.cells ∧ sB r j + 2000000 ≤ room_1.slots := by
  have c := cost_le 120 (k := r - 120) (t := 61440) (by omega)
  have c2 : ccost 120 61440 ≤ 1100 ∧ scost 120 61440 ≤ 1000000 := by decide +kernel
  unfold cB sB
  show _ ≤ 600000 ∧ _ ≤ 7302250
  omega
theorem cB_up (r j : Nat) : cB r j + 2 = cB r (j + 1) ∧ sB r j + 14 = sB r (j + 1) := by
  unfold cB sB
  omega
theorem L_end {l : Launch} {E : En} {b L : Nat} {xs : Nat → Int32} {J : Jt} (O : Okl l E b L xs J) {pc : Nat} {off : Int} {v1 v2 : Int32} {P : HP} {ce sl : Nat} {lv : LV} (d : decode cL_law pc = .ok (.if_icmp .eq off, 3)) (ht : (pc : Int) + off = (817 : Int)) (hv : v1 = v2) (kk : J P ce sl 817 lv []) : J P ce sl pc lv [.int v2, .int v1] :=
  x_icmp_eq (st := []) O.1 817 d ht (fun _ => kk) (fun z => absurd hv z)
theorem law_custom {l : Launch} {E : En} {b L : Nat} {xs : Nat → Int32} {J : Jt} (O : Okl l E b L xs J) {o j : Nat} (hj : 6 * j + 5 < L) (hL : L ≤ 3072) {adr : Nat → Nat → Nat} {V : VTt} {VL : VLt} {m ns : Nat} {ch : Nat → List Rt} {d : Nat → Nat} {i : Nat → Int32} {a : Ar} {cr : Nat → List Rt} {D r ce sl : Nat} (K : LK E b (adr 0 7) o j 817 J) (h : Rel D r m ns V VL ch i a cr) (h1 : 120 ≤ r) (h2 : r ≤ 120 * (j + 1)) (hce : ce ≤ cB r j) (hsl : sl ≤ sB r j) : J (Star (CV E adr V VL m ns ch) (RV E o d i a cr)) ce sl 124 (lvL b (adr 0 7) o j) [] := by
  have hB := LB (r := r) (j := j) (by omega) (by omega)
  have hB2 := cB_up r j
  refine x_aload_n (pc := 124) (v := .ref (adr 0 7)) O.1 dL_law_124 rfl rfl ?_
  refine L_arg (pc := 125) (k := 1) O hj hL (by omega) dL_law_125 dL_law_126 dL_law_127 dL_law_128 dL_law_129 ?_
  refine L_arg (pc := 130) (k := 2) O hj hL (by omega) dL_law_130 dL_law_131 dL_law_132 dL_law_133 dL_law_134 ?_
  refine x_callV (pc := 135) (rest := []) (ci := 7) O.1 (Mt_frame _ (c_X7_custom l E adr V VL m ns ch (xs (6 * j + 1)) (xs (6 * j + 2)))) dL_law_135 cbL_13 im_yX7_custom se_yX7_custom rfl LS_recv rfl rfl (Nat.le_of_ble_eq_true rfl) ⟨Nat.le_of_ble_eq_true rfl, Nat.le_of_ble_eq_true rfl⟩ ⟨Nat.le_trans (by (try simp only [rmX]); omega) hB.1, Nat.le_trans (by (try simp only [rmX]); omega) hB.2⟩ (fun x1 => ?_)
  refine x_aload_n (pc := 138) (v := .ref (o)) O.1 dL_law_138 rfl rfl ?_
  refine L_arg (pc := 139) (k := 1) O hj hL (by omega) dL_law_139 dL_law_140 dL_law_141 dL_law_142 dL_law_143 ?_
  refine L_arg (pc := 144) (k := 2) O hj hL (by omega) dL_law_144 dL_law_145 dL_law_146 dL_law_147 dL_law_148 ?_
  refine x_callV (pc := 149) (rest := [.int _]) (ci := 8) O.1 (Mt_frameR _ (c_X8_custom l E o d i a cr (xs (6 * j + 1)) (xs (6 * j + 2)))) dL_law_149 cbL_17 im_yX8_custom se_yX8_custom rfl LS_recvR rfl rfl (Nat.le_of_ble_eq_true rfl) ⟨Nat.le_of_ble_eq_true rfl, Nat.le_of_ble_eq_true rfl⟩ ⟨Nat.le_trans (by (try simp only [rmX]); omega) hB.1, Nat.le_trans (by (try simp only [rmX]); omega) hB.2⟩ (fun x2 => ?_)
  by_cases hb : cuBad (xs (6 * j + 1)) (xs (6 * j + 2))
  · refine L_end (pc := 152) O dL_law_152 (by decide) (by rw [if_pos hb, if_pos hb]) ?_
    simp only [if_pos hb]
    exact K _ _ _ _ _ _ _ _ _ _ _ _ _ _ rfl h h1 (by omega) (by (try simp only [rmX]); omega) (by (try simp only [rmX]); omega)
  · refine L_end (pc := 152) O dL_law_152 (by decide) (by rw [if_neg hb, if_neg hb, h.1.2.2.2.2.2.1.1]) ?_
    simp only [if_neg hb]
    exact K _ _ _ _ _ _ _ _ _ _ _ _ _ _ (up0_ne _ _ (by decide)) (s_custom h _ _ hb) h1 (by omega) (by (try simp only [rmX]); omega) (by (try simp only [rmX]); omega)
theorem law_sick {l : Launch} {E : En} {b L : Nat} {xs : Nat → Int32} {J : Jt} (O : Okl l E b L xs J) {o j : Nat} (hj : 6 * j + 5 < L) (hL : L ≤ 3072) {adr : Nat → Nat → Nat} {V : VTt} {VL : VLt} {m ns : Nat} {ch : Nat → List Rt} {d : Nat → Nat} {i : Nat → Int32} {a : Ar} {cr : Nat → List Rt} {D r ce sl : Nat} (K : LK E b (adr 0 7) o j 817 J) (h : Rel D r m ns V VL ch i a cr) (h1 : 120 ≤ r) (h2 : r ≤ 120 * (j + 1)) (hce : ce ≤ cB r j) (hsl : sl ≤ sB r j) : J (Star (CV E adr V VL m ns ch) (RV E o d i a cr)) ce sl 375 (lvL b (adr 0 7) o j) [] := by
  have hB := LB (r := r) (j := j) (by omega) (by omega)
  have hB2 := cB_up r j
  refine x_aload_n (pc := 375) (v := .ref (adr 0 7)) O.1 dL_law_375 rfl rfl ?_
  refine L_arg (pc := 376) (k := 1) O hj hL (by omega) dL_law_376 dL_law_377 dL_law_378 dL_law_379 dL_law_380 ?_
  refine L_arg (pc := 381) (k := 2) O hj hL (by omega) dL_law_381 dL_law_382 dL_law_383 dL_law_384 dL_law_385 ?_
  refine x_callV (pc := 386) (rest := []) (ci := 7) O.1 (Mt_frame _ (c_X7_sick l E adr V VL m ns ch (xs (6 * j + 1)) (xs (6 * j + 2)) h.1.2.1.1 h.1.1.1)) dL_law_386 cbL_47 im_yX7_sick se_yX7_sick rfl LS_recv rfl rfl (Nat.le_of_ble_eq_true rfl) ⟨Nat.le_of_ble_eq_true rfl, Nat.le_of_ble_eq_true rfl⟩ ⟨Nat.le_trans (by (try simp only [rmX]); omega) hB.1, Nat.le_trans (by (try simp only [rmX]); omega) hB.2⟩ (fun x1 => ?_)
  refine x_aload_n (pc := 389) (v := .ref (o)) O.1 dL_law_389 rfl rfl ?_
  refine L_arg (pc := 390) (k := 1) O hj hL (by omega) dL_law_390 dL_law_391 dL_law_392 dL_law_393 dL_law_394 ?_
  refine L_arg (pc := 395) (k := 2) O hj hL (by omega) dL_law_395 dL_law_396 dL_law_397 dL_law_398 dL_law_399 ?_
  refine x_callV (pc := 400) (rest := [.int _]) (ci := 8) O.1 (Mt_frameR _ (c_X8_sick l E o d i a cr (xs (6 * j + 1)) (xs (6 * j + 2)) h.1.2.1.2 h.1.1.1)) dL_law_400 cbL_50 im_yX8_sick se_yX8_sick rfl LS_recvR rfl rfl (Nat.le_of_ble_eq_true rfl) ⟨Nat.le_of_ble_eq_true rfl, Nat.le_of_ble_eq_true rfl⟩ ⟨Nat.le_trans (by (try simp only [rmX]); omega) hB.1, Nat.le_trans (by (try simp only [rmX]); omega) hB.2⟩ (fun x2 => ?_)
  refine L_end (pc := 403) O dL_law_403 (by decide) (s_sick h _ _).1 ?_
  exact K _ _ _ _ _ _ _ _ _ _ _ _ _ _ rfl (s_sick h _ _).2 h1 (by omega) (by (try simp only [rmX]); omega) (by (try simp only [rmX]); omega)
theorem law_pay {l : Launch} {E : En} {b L : Nat} {xs : Nat → Int32} {J : Jt} (O : Okl l E b L xs J) {o j : Nat} (hj : 6 * j + 5 < L) (hL : L ≤ 3072) {adr : Nat → Nat → Nat} {V : VTt} {VL : VLt} {m ns : Nat} {ch : Nat → List Rt} {d : Nat → Nat} {i : Nat → Int32} {a : Ar} {cr : Nat → List Rt} {D r ce sl : Nat} (K : LK E b (adr 0 7) o j 817 J) (h : Rel D r m ns V VL ch i a cr) (h1 : 120 ≤ r) (h2 : r ≤ 120 * (j + 1)) (hce : ce ≤ cB r j) (hsl : sl ≤ sB r j) : J (Star (CV E adr V VL m ns ch) (RV E o d i a cr)) ce sl 467 (lvL b (adr 0 7) o j) [] := by
  have hB := LB (r := r) (j := j) (by omega) (by omega)
  have hB2 := cB_up r j
  refine x_aload_n (pc := 467) (v := .ref (adr 0 7)) O.1 dL_law_467 rfl rfl ?_
  refine L_arg (pc := 468) (k := 1) O hj hL (by omega) dL_law_468 dL_law_469 dL_law_470 dL_law_471 dL_law_472 ?_
  refine L_arg (pc := 473) (k := 2) O hj hL (by omega) dL_law_473 dL_law_474 dL_law_475 dL_law_476 dL_law_477 ?_
  refine x_callV (pc := 478) (rest := []) (ci := 7) O.1 (Mt_frame _ (c_X7_pay l E adr V VL m ns ch (xs (6 * j + 1)) (xs (6 * j + 2)) h.1.2.1.1 h.1.1.1)) dL_law_478 cbL_56 im_yX7_pay se_yX7_pay rfl LS_recv rfl rfl (Nat.le_of_ble_eq_true rfl) ⟨Nat.le_of_ble_eq_true rfl, Nat.le_of_ble_eq_true rfl⟩ ⟨Nat.le_trans (by (try simp only [rmX]); omega) hB.1, Nat.le_trans (by (try simp only [rmX]); omega) hB.2⟩ (fun x1 => ?_)
  refine x_aload_n (pc := 481) (v := .ref (o)) O.1 dL_law_481 rfl rfl ?_
  refine L_arg (pc := 482) (k := 1) O hj hL (by omega) dL_law_482 dL_law_483 dL_law_484 dL_law_485 dL_law_486 ?_
  refine L_arg (pc := 487) (k := 2) O hj hL (by omega) dL_law_487 dL_law_488 dL_law_489 dL_law_490 dL_law_491 ?_
  refine x_callV (pc := 492) (rest := [.int _]) (ci := 8) O.1 (Mt_frameR _ (c_X8_pay l E o d i a cr (xs (6 * j + 1)) (xs (6 * j + 2)) h.1.2.1.2 h.1.1.1)) dL_law_492 cbL_59 im_yX8_pay se_yX8_pay rfl LS_recvR rfl rfl (Nat.le_of_ble_eq_true rfl) ⟨Nat.le_of_ble_eq_true rfl, Nat.le_of_ble_eq_true rfl⟩ ⟨Nat.le_trans (by (try simp only [rmX]); omega) hB.1, Nat.le_trans (by (try simp only [rmX]); omega) hB.2⟩ (fun x2 => ?_)
  refine L_end (pc := 495) O dL_law_495 (by decide) (s_pay h _ _).1 ?_
  exact K _ _ _ _ _ _ _ _ _ _ _ _ _ _ rfl (s_pay h _ _).2 h1 (by omega) (by (try simp only [rmX]); omega) (by (try simp only [rmX]); omega)
theorem law_appear {l : Launch} {E : En} {b L : Nat} {xs : Nat → Int32} {J : Jt} (O : Okl l E b L xs J) {o j : Nat} (hj : 6 * j + 5 < L) (hL : L ≤ 3072) {adr : Nat → Nat → Nat} {V : VTt} {VL : VLt} {m ns : Nat} {ch : Nat → List Rt} {d : Nat → Nat} {i : Nat → Int32} {a : Ar} {cr : Nat → List Rt} {D r ce sl : Nat} (K : LK E b (adr 0 7) o j 817 J) (h : Rel D r m ns V VL ch i a cr) (h1 : 120 ≤ r) (h2 : r ≤ 120 * (j + 1)) (hce : ce ≤ cB r j) (hsl : sl ≤ sB r j) : J (Star (CV E adr V VL m ns ch) (RV E o d i a cr)) ce sl 543 (lvL b (adr 0 7) o j) [] := by
  have hB := LB (r := r) (j := j) (by omega) (by omega)
  have hB2 := cB_up r j
  refine x_aload_n (pc := 543) (v := .ref (adr 0 7)) O.1 dL_law_543 rfl rfl ?_
  refine L_arg (pc := 544) (k := 1) O hj hL (by omega) dL_law_544 dL_law_545 dL_law_546 dL_law_547 dL_law_548 ?_
  refine L_arg (pc := 549) (k := 2) O hj hL (by omega) dL_law_549 dL_law_550 dL_law_551 dL_law_552 dL_law_553 ?_
  refine x_callV (pc := 554) (rest := []) (ci := 7) O.1 (Mt_frame _ (c_X7_appear l E adr V VL m ns ch (xs (6 * j + 1)) (xs (6 * j + 2)) h.1.2.2.1.1 h.1.1.2.1)) dL_law_554 cbL_64 im_yX7_appear se_yX7_appear rfl LS_recv rfl rfl (Nat.le_of_ble_eq_true rfl) ⟨Nat.le_of_ble_eq_true rfl, Nat.le_of_ble_eq_true rfl⟩ ⟨Nat.le_trans (by (try simp only [rmX]); omega) hB.1, Nat.le_trans (by (try simp only [rmX]); omega) hB.2⟩ (fun x1 => ?_)
  refine x_aload_n (pc := 557) (v := .ref (o)) O.1 dL_law_557 rfl rfl ?_
  refine L_arg (pc := 558) (k := 1) O hj hL (by omega) dL_law_558 dL_law_559 dL_law_560 dL_law_561 dL_law_562 ?_
  refine L_arg (pc := 563) (k := 2) O hj hL (by omega) dL_law_563 dL_law_564 dL_law_565 dL_law_566 dL_law_567 ?_
  refine x_callV (pc := 568) (rest := [.int _]) (ci := 8) O.1 (Mt_frameR _ (c_X8_appear l E o d i a cr (xs (6 * j + 1)) (xs (6 * j + 2)) h.1.2.2.1.2 h.1.1.2.1)) dL_law_568 cbL_67 im_yX8_appear se_yX8_appear rfl LS_recvR rfl rfl (Nat.le_of_ble_eq_true rfl) ⟨Nat.le_of_ble_eq_true rfl, Nat.le_of_ble_eq_true rfl⟩ ⟨Nat.le_trans (by (try simp only [rmX]); omega) hB.1, Nat.le_trans (by (try simp only [rmX]); omega) hB.2⟩ (fun x2 => ?_)
  refine L_end (pc := 571) O dL_law_571 (by decide) (s_appear h _ _).1 ?_
  exact K _ _ _ _ _ _ _ _ _ _ _ _ _ _ rfl (s_appear h _ _).2 h1 (by omega) (by (try simp only [rmX]); omega) (by (try simp only [rmX]); omega)
theorem law_told {l : Launch} {E : En} {b L : Nat} {xs : Nat → Int32} {J : Jt} (O : Okl l E b L xs J) {o j : Nat} (hj : 6 * j + 5 < L) (hL : L ≤ 3072) {adr : Nat → Nat → Nat} {V : VTt} {VL : VLt} {m ns : Nat} {ch : Nat → List Rt} {d : Nat → Nat} {i : Nat → Int32} {a : Ar} {cr : Nat → List Rt} {D r ce sl : Nat} (K : LK E b (adr 0 7) o j 817 J) (h : Rel D r m ns V VL ch i a cr) (h1 : 120 ≤ r) (h2 : r ≤ 120 * (j + 1)) (hce : ce ≤ cB r j) (hsl : sl ≤ sB r j) : J (Star (CV E adr V VL m ns ch) (RV E o d i a cr)) ce sl 728 (lvL b (adr 0 7) o j) [] := by
  have hB := LB (r := r) (j := j) (by omega) (by omega)
  have hB2 := cB_up r j
  refine x_aload_n (pc := 728) (v := .ref (adr 0 7)) O.1 dL_law_728 rfl rfl ?_
  refine L_arg (pc := 729) (k := 1) O hj hL (by omega) dL_law_729 dL_law_730 dL_law_731 dL_law_732 dL_law_733 ?_
  refine L_arg (pc := 734) (k := 2) O hj hL (by omega) dL_law_734 dL_law_735 dL_law_736 dL_law_737 dL_law_738 ?_
  refine x_callV (pc := 739) (rest := []) (ci := 7) O.1 (Mt_frame _ (c_X7_told l E adr V VL m ns ch (xs (6 * j + 1)) (xs (6 * j + 2)) h.1.2.1.1 h.1.1.1)) dL_law_739 cbL_86 im_yX7_told se_yX7_told rfl LS_recv rfl rfl (Nat.le_of_ble_eq_true rfl) ⟨Nat.le_of_ble_eq_true rfl, Nat.le_of_ble_eq_true rfl⟩ ⟨Nat.le_trans (by (try simp only [rmX]); omega) hB.1, Nat.le_trans (by (try simp only [rmX]); omega) hB.2⟩ (fun x1 => ?_)
  refine x_aload_n (pc := 742) (v := .ref (o)) O.1 dL_law_742 rfl rfl ?_
  refine L_arg (pc := 743) (k := 1) O hj hL (by omega) dL_law_743 dL_law_744 dL_law_745 dL_law_746 dL_law_747 ?_
  refine L_arg (pc := 748) (k := 2) O hj hL (by omega) dL_law_748 dL_law_749 dL_law_750 dL_law_751 dL_law_752 ?_
  refine x_callV (pc := 753) (rest := [.int _]) (ci := 8) O.1 (Mt_frameR _ (c_X8_told l E o d i a cr (xs (6 * j + 1)) (xs (6 * j + 2)) h.1.2.1.2 h.1.1.1)) dL_law_753 cbL_89 im_yX8_told se_yX8_told rfl LS_recvR rfl rfl (Nat.le_of_ble_eq_true rfl) ⟨Nat.le_of_ble_eq_true rfl, Nat.le_of_ble_eq_true rfl⟩ ⟨Nat.le_trans (by (try simp only [rmX]); omega) hB.1, Nat.le_trans (by (try simp only [rmX]); omega) hB.2⟩ (fun x2 => ?_)
  refine L_end (pc := 756) O dL_law_756 (by decide) (s_told h _ _) ?_
  exact K _ _ _ _ _ _ _ _ _ _ _ _ _ _ rfl h h1 (by omega) (by (try simp only [rmX]); omega) (by (try simp only [rmX]); omega)
theorem law_suited {l : Launch} {E : En} {b L : Nat} {xs : Nat → Int32} {J : Jt} (O : Okl l E b L xs J) {o j : Nat} (hj : 6 * j + 5 < L) (hL : L ≤ 3072) {adr : Nat → Nat → Nat} {V : VTt} {VL : VLt} {m ns : Nat} {ch : Nat → List Rt} {d : Nat → Nat} {i : Nat → Int32} {a : Ar} {cr : Nat → List Rt} {D r ce sl : Nat} (K : LK E b (adr 0 7) o j 817 J) (h : Rel D r m ns V VL ch i a cr) (h1 : 120 ≤ r) (h2 : r ≤ 120 * (j + 1)) (hce : ce ≤ cB r j) (hsl : sl ≤ sB r j) : J (Star (CV E adr V VL m ns ch) (RV E o d i a cr)) ce sl 761 (lvL b (adr 0 7) o j) [] := by
  have hB := LB (r := r) (j := j) (by omega) (by omega)
  have hB2 := cB_up r j
  refine x_aload_n (pc := 761) (v := .ref (adr 0 7)) O.1 dL_law_761 rfl rfl ?_
  refine L_arg (pc := 762) (k := 1) O hj hL (by omega) dL_law_762 dL_law_763 dL_law_764 dL_law_765 dL_law_766 ?_
  refine L_arg (pc := 767) (k := 2) O hj hL (by omega) dL_law_767 dL_law_768 dL_law_769 dL_law_770 dL_law_771 ?_
  refine x_callV (pc := 772) (rest := []) (ci := 7) O.1 (Mt_frame _ (c_X7_suited l E adr V VL m ns ch (xs (6 * j + 1)) (xs (6 * j + 2)) h.1.2.2.1.1 h.1.1.2.1)) dL_law_772 cbL_90 im_yX7_suited se_yX7_suited rfl LS_recv rfl rfl (Nat.le_of_ble_eq_true rfl) ⟨Nat.le_of_ble_eq_true rfl, Nat.le_of_ble_eq_true rfl⟩ ⟨Nat.le_trans (by (try simp only [rmX]); omega) hB.1, Nat.le_trans (by (try simp only [rmX]); omega) hB.2⟩ (fun x1 => ?_)
  refine x_aload_n (pc := 775) (v := .ref (o)) O.1 dL_law_775 rfl rfl ?_
  refine L_arg (pc := 776) (k := 1) O hj hL (by omega) dL_law_776 dL_law_777 dL_law_778 dL_law_779 dL_law_780 ?_
  refine L_arg (pc := 781) (k := 2) O hj hL (by omega) dL_law_781 dL_law_782 dL_law_783 dL_law_784 dL_law_785 ?_
  refine x_callV (pc := 786) (rest := [.int _]) (ci := 8) O.1 (Mt_frameR _ (c_X8_suited l E o d i a cr (xs (6 * j + 1)) (xs (6 * j + 2)) h.1.2.2.1.2 h.1.1.2.1)) dL_law_786 cbL_93 im_yX8_suited se_yX8_suited rfl LS_recvR rfl rfl (Nat.le_of_ble_eq_true rfl) ⟨Nat.le_of_ble_eq_true rfl, Nat.le_of_ble_eq_true rfl⟩ ⟨Nat.le_trans (by (try simp only [rmX]); omega) hB.1, Nat.le_trans (by (try simp only [rmX]); omega) hB.2⟩ (fun x2 => ?_)
  refine L_end (pc := 789) O dL_law_789 (by decide) (s_suited h _ _) ?_
  exact K _ _ _ _ _ _ _ _ _ _ _ _ _ _ rfl h h1 (by omega) (by (try simp only [rmX]); omega) (by (try simp only [rmX]); omega)
theorem law_count {l : Launch} {E : En} {b L : Nat} {xs : Nat → Int32} {J : Jt} (O : Okl l E b L xs J) {o j : Nat} (hj : 6 * j + 5 < L) (hL : L ≤ 3072) {adr : Nat → Nat → Nat} {V : VTt} {VL : VLt} {m ns : Nat} {ch : Nat → List Rt} {d : Nat → Nat} {i : Nat → Int32} {a : Ar} {cr : Nat → List Rt} {D r ce sl : Nat} (K : LK E b (adr 0 7) o j 817 J) (h : Rel D r m ns V VL ch i a cr) (h1 : 120 ≤ r) (h2 : r ≤ 120 * (j + 1)) (hce : ce ≤ cB r j) (hsl : sl ≤ sB r j) : J (Star (CV E adr V VL m ns ch) (RV E o d i a cr)) ce sl 794 (lvL b (adr 0 7) o j) [] := by
  have hB := LB (r := r) (j := j) (by omega) (by omega)
  have hB2 := cB_up r j
  refine x_aload_n (pc := 794) (v := .ref (adr 0 7)) O.1 dL_law_794 rfl rfl ?_
  refine L_arg (pc := 795) (k := 1) O hj hL (by omega) dL_law_795 dL_law_796 dL_law_797 dL_law_798 dL_law_799 ?_
  refine x_callV (pc := 800) (rest := []) (ci := 7) O.1 (Mt_frame _ (c_X7_count l E adr V VL m ns ch (xs (6 * j + 1)) h.1.2.1.1 h.1.1.1)) dL_law_800 cbL_94 im_yX7_count se_yX7_count rfl LS_recv rfl rfl (Nat.le_of_ble_eq_true rfl) ⟨Nat.le_of_ble_eq_true rfl, Nat.le_of_ble_eq_true rfl⟩ ⟨Nat.le_trans (by (try simp only [rmX]); omega) hB.1, Nat.le_trans (by (try simp only [rmX]); omega) hB.2⟩ (fun x1 => ?_)
  refine x_aload_n (pc := 803) (v := .ref (o)) O.1 dL_law_803 rfl rfl ?_
  refine L_arg (pc := 804) (k := 1) O hj hL (by omega) dL_law_804 dL_law_805 dL_law_806 dL_law_807 dL_law_808 ?_
  refine x_callV (pc := 809) (rest := [.int _]) (ci := 8) O.1 (Mt_frameR _ (c_X8_count l E o d i a cr (xs (6 * j + 1)) h.1.2.1.2 h.1.1.1)) dL_law_809 cbL_97 im_yX8_count se_yX8_count rfl LS_recvR rfl rfl (Nat.le_of_ble_eq_true rfl) ⟨Nat.le_of_ble_eq_true rfl, Nat.le_of_ble_eq_true rfl⟩ ⟨Nat.le_trans (by (try simp only [rmX]); omega) hB.1, Nat.le_trans (by (try simp only [rmX]); omega) hB.2⟩ (fun x2 => ?_)
  refine L_end (pc := 812) O dL_law_812 (by decide) (s_count h _) ?_
  exact K _ _ _ _ _ _ _ _ _ _ _ _ _ _ rfl h h1 (by omega) (by (try simp only [rmX]); omega) (by (try simp only [rmX]); omega)
