/-! ===== THE LAW 2: more cases ===== -/
theorem L_bool {l : Launch} {E : En} {b L : Nat} {xs : Nat → Int32} {J : Jt} (O : Okl l E b L xs J) {pc : Nat} {x : Int32} {P : HP} {ce sl : Nat} {lv : LV} {st : List Value} (d0 : decode cL_law pc = .ok (.ifCond .eq 7, 3)) (d1 : decode cL_law (pc + 3) = .ok (.iconst 1, 1)) (d2 : decode cL_law (pc + 4) = .ok (.goto 4, 3)) (d3 : decode cL_law (pc + 7) = .ok (.iconst 0, 1)) (kk : J P ce sl (pc + 8) lv (.int (if x = 0 then 0 else 1) :: st)) : J P ce sl pc lv (.int x :: st) := by
  refine x_if_eq O.1 (pc + 7) d0 (by omega) (fun c => ?_) (fun c => ?_)
  · rw [if_pos c] at kk
    exact x_iconst (v := 0) O.1 d3 (by decide) kk
  · rw [if_neg c] at kk
    exact x_iconst (v := 1) O.1 d1 (by decide) (x_goto O.1 (pc + 8) d2 (by omega) kk)
theorem law_person {l : Launch} {E : En} {b L : Nat} {xs : Nat → Int32} {J : Jt} (O : Okl l E b L xs J) {o j : Nat} (hj : 6 * j + 5 < L) (hL : L ≤ 3072) {adr : Nat → Nat → Nat} {V : VTt} {VL : VLt} {m ns : Nat} {ch : Nat → List Rt} {d : Nat → Nat} {i : Nat → Int32} {a : Ar} {cr : Nat → List Rt} {D r ce sl : Nat} (K : LK E b (adr 0 7) o j 817 J) (h : Rel D r m ns V VL ch i a cr) (h1 : 120 ≤ r) (h2 : r ≤ 120 * (j + 1)) (hce : ce ≤ cB r j) (hsl : sl ≤ sB r j) : J (Star (CV E adr V VL m ns ch) (RV E o d i a cr)) ce sl 157 (lvL b (adr 0 7) o j) [] := by
  have hB := LB (r := r) (j := j) (by omega) (by omega)
  have hB2 := cB_up r j
  refine x_aload_n (pc := 157) (v := .ref (adr 0 7)) O.1 dL_law_157 rfl rfl ?_
  refine L_arg (pc := 158) (k := 1) O hj hL (by omega) dL_law_158 dL_law_159 dL_law_160 dL_law_161 dL_law_162 ?_
  refine L_arg (pc := 163) (k := 2) O hj hL (by omega) dL_law_163 dL_law_164 dL_law_165 dL_law_166 dL_law_167 ?_
  refine L_arg (pc := 168) (k := 3) O hj hL (by omega) dL_law_168 dL_law_169 dL_law_170 dL_law_171 dL_law_172 ?_
  refine x_callV (pc := 173) (rest := []) (ci := 7) O.1 (Mt_frame _ (c_X7_person l E adr V VL m ns ch (xs (6 * j + 1)) (xs (6 * j + 2)) (xs (6 * j + 3)) h.1.2.1.1 h.1.1.1)) dL_law_173 cbL_18 im_yX7_person se_yX7_person rfl LS_recv rfl rfl (Nat.le_of_ble_eq_true rfl) ⟨Nat.le_of_ble_eq_true rfl, Nat.le_of_ble_eq_true rfl⟩ ⟨Nat.le_trans (by (try simp only [rmX]); omega) hB.1, Nat.le_trans (by (try simp only [rmX]); omega) hB.2⟩ (fun x1 => ?_)
  refine x_aload_n (pc := 176) (v := .ref (o)) O.1 dL_law_176 rfl rfl ?_
  refine L_arg (pc := 177) (k := 1) O hj hL (by omega) dL_law_177 dL_law_178 dL_law_179 dL_law_180 dL_law_181 ?_
  refine L_arg (pc := 182) (k := 2) O hj hL (by omega) dL_law_182 dL_law_183 dL_law_184 dL_law_185 dL_law_186 ?_
  refine L_arg (pc := 187) (k := 3) O hj hL (by omega) dL_law_187 dL_law_188 dL_law_189 dL_law_190 dL_law_191 ?_
  refine x_callV (pc := 192) (rest := [.int _]) (ci := 8) O.1 (Mt_frameR _ (c_X8_person l E o d i a cr (xs (6 * j + 1)) (xs (6 * j + 2)) (xs (6 * j + 3)) h.1.2.1.2 h.1.1.1)) dL_law_192 cbL_22 im_yX8_person se_yX8_person rfl LS_recvR rfl rfl (Nat.le_of_ble_eq_true rfl) ⟨Nat.le_of_ble_eq_true rfl, Nat.le_of_ble_eq_true rfl⟩ ⟨Nat.le_trans (by (try simp only [rmX]); omega) hB.1, Nat.le_trans (by (try simp only [rmX]); omega) hB.2⟩ (fun x2 => ?_)
  have hp := s_person h (xs (6 * j + 1)) (xs (6 * j + 2)) (xs (6 * j + 3))
  by_cases hb : ((xs (6 * j + 1)) = 0 ∨ (xs (6 * j + 1)) = 1) ∧ ((xs (6 * j + 2)) = -1 ∨ isPc m (xs (6 * j + 2)) ∧ V 1 ((xs (6 * j + 2))).toNatClampNeg 0 = 0) ∧ ((xs (6 * j + 3)) = -1 ∨ isPc m (xs (6 * j + 3)) ∧ V 1 ((xs (6 * j + 3))).toNatClampNeg 0 = 1) ∧ m < 60
  · have hb2 := hp.1.mp hb
    refine L_end (pc := 195) O dL_law_195 (by decide) (by rw [if_pos hb, if_pos hb2]; exact h.1.2.1.2.symm) ?_
    simp only [if_pos hb, if_pos hb2]
    have hr9 := hp.2 hb
    exact K _ _ _ _ _ _ _ _ _ _ _ _ _ _ (up0_ne _ _ (by omega)) hr9 h1 (by omega) (by (try simp only [rmX]); omega) (by (try simp only [rmX]); omega)
  · have hb2 := fun z => hb (hp.1.mpr z)
    refine L_end (pc := 195) O dL_law_195 (by decide) (by rw [if_neg hb, if_neg hb2]) ?_
    simp only [if_neg hb, if_neg hb2]
    exact K _ _ _ _ _ _ _ _ _ _ _ _ _ _ rfl h h1 (by omega) (by (try simp only [rmX]); omega) (by (try simp only [rmX]); omega)
theorem law_suit {l : Launch} {E : En} {b L : Nat} {xs : Nat → Int32} {J : Jt} (O : Okl l E b L xs J) {o j : Nat} (hj : 6 * j + 5 < L) (hL : L ≤ 3072) {adr : Nat → Nat → Nat} {V : VTt} {VL : VLt} {m ns : Nat} {ch : Nat → List Rt} {d : Nat → Nat} {i : Nat → Int32} {a : Ar} {cr : Nat → List Rt} {D r ce sl : Nat} (K : LK E b (adr 0 7) o j 817 J) (h : Rel D r m ns V VL ch i a cr) (h1 : 120 ≤ r) (h2 : r ≤ 120 * (j + 1)) (hce : ce ≤ cB r j) (hsl : sl ≤ sB r j) : J (Star (CV E adr V VL m ns ch) (RV E o d i a cr)) ce sl 500 (lvL b (adr 0 7) o j) [] := by
  have hB := LB (r := r) (j := j) (by omega) (by omega)
  have hB2 := cB_up r j
  refine x_aload_n (pc := 500) (v := .ref (adr 0 7)) O.1 dL_law_500 rfl rfl ?_
  refine L_arg (pc := 501) (k := 1) O hj hL (by omega) dL_law_501 dL_law_502 dL_law_503 dL_law_504 dL_law_505 ?_
  refine L_arg (pc := 506) (k := 2) O hj hL (by omega) dL_law_506 dL_law_507 dL_law_508 dL_law_509 dL_law_510 ?_
  refine L_arg (pc := 511) (k := 3) O hj hL (by omega) dL_law_511 dL_law_512 dL_law_513 dL_law_514 dL_law_515 ?_
  refine x_callV (pc := 516) (rest := []) (ci := 7) O.1 (Mt_frame _ (c_X7_suit l E adr V VL m ns ch (xs (6 * j + 1)) (xs (6 * j + 2)) (xs (6 * j + 3)) h.1.2.1.1 h.1.1.1 h.1.2.2.1.1 h.1.1.2.1)) dL_law_516 cbL_60 im_yX7_suit se_yX7_suit rfl LS_recv rfl rfl (Nat.le_of_ble_eq_true rfl) ⟨Nat.le_of_ble_eq_true rfl, Nat.le_of_ble_eq_true rfl⟩ ⟨Nat.le_trans (by (try simp only [rmX]); omega) hB.1, Nat.le_trans (by (try simp only [rmX]); omega) hB.2⟩ (fun x1 => ?_)
  refine x_aload_n (pc := 519) (v := .ref (o)) O.1 dL_law_519 rfl rfl ?_
  refine L_arg (pc := 520) (k := 1) O hj hL (by omega) dL_law_520 dL_law_521 dL_law_522 dL_law_523 dL_law_524 ?_
  refine L_arg (pc := 525) (k := 2) O hj hL (by omega) dL_law_525 dL_law_526 dL_law_527 dL_law_528 dL_law_529 ?_
  refine L_arg (pc := 530) (k := 3) O hj hL (by omega) dL_law_530 dL_law_531 dL_law_532 dL_law_533 dL_law_534 ?_
  refine x_callV (pc := 535) (rest := [.int _]) (ci := 8) O.1 (Mt_frameR _ (c_X8_suit l E o d i a cr (xs (6 * j + 1)) (xs (6 * j + 2)) (xs (6 * j + 3)) h.1.2.1.2 h.1.1.1 h.1.2.2.1.2 h.1.1.2.1)) dL_law_535 cbL_63 im_yX8_suit se_yX8_suit rfl LS_recvR rfl rfl (Nat.le_of_ble_eq_true rfl) ⟨Nat.le_of_ble_eq_true rfl, Nat.le_of_ble_eq_true rfl⟩ ⟨Nat.le_trans (by (try simp only [rmX]); omega) hB.1, Nat.le_trans (by (try simp only [rmX]); omega) hB.2⟩ (fun x2 => ?_)
  have hp := s_suit h (xs (6 * j + 1)) (xs (6 * j + 2)) (xs (6 * j + 3))
  by_cases hb : lvC V m (xs (6 * j + 1)) ∧ lvC V m (xs (6 * j + 2)) ∧ lvC V m (xs (6 * j + 3)) ∧ ¬ (xs (6 * j + 1)) = (xs (6 * j + 2)) ∧ ¬ (xs (6 * j + 2)) = (xs (6 * j + 3)) ∧ ¬ (xs (6 * j + 1)) = (xs (6 * j + 3)) ∧ ns < 40
  · have hb2 := hp.1.mp hb
    refine L_end (pc := 538) O dL_law_538 (by decide) (by rw [if_pos hb, if_pos hb2]; exact h.1.2.2.1.2.symm) ?_
    simp only [if_pos hb, if_pos hb2]
    have hr9 := hp.2 hb
    exact K _ _ _ _ _ _ _ _ _ _ _ _ _ _ (up0_ne _ _ (by omega)) hr9 h1 (by omega) (by (try simp only [rmX]); omega) (by (try simp only [rmX]); omega)
  · have hb2 := fun z => hb (hp.1.mpr z)
    refine L_end (pc := 538) O dL_law_538 (by decide) (by rw [if_neg hb, if_neg hb2]) ?_
    simp only [if_neg hb, if_neg hb2]
    exact K _ _ _ _ _ _ _ _ _ _ _ _ _ _ rfl h h1 (by omega) (by (try simp only [rmX]); omega) (by (try simp only [rmX]); omega)
theorem law_weeks {l : Launch} {E : En} {b L : Nat} {xs : Nat → Int32} {J : Jt} (O : Okl l E b L xs J) {o j : Nat} (hj : 6 * j + 5 < L) (hL : L ≤ 3072) {adr : Nat → Nat → Nat} {V : VTt} {VL : VLt} {m ns : Nat} {ch : Nat → List Rt} {d : Nat → Nat} {i : Nat → Int32} {a : Ar} {cr : Nat → List Rt} {D r ce sl : Nat} (K : LK E b (adr 0 7) o j 817 J) (h : Rel D r m ns V VL ch i a cr) (h1 : 120 ≤ r) (h2 : r ≤ 120 * (j + 1)) (hce : ce ≤ cB r j) (hsl : sl ≤ sB r j) : J (Star (CV E adr V VL m ns ch) (RV E o d i a cr)) ce sl 352 (lvL b (adr 0 7) o j) [] := by
  have hB := LB (r := r) (j := j) (by omega) (by omega)
  have hB2 := cB_up r j
  refine x_aload_n (pc := 352) (v := .ref (adr 0 7)) O.1 dL_law_352 rfl rfl ?_
  refine L_arg (pc := 353) (k := 1) O hj hL (by omega) dL_law_353 dL_law_354 dL_law_355 dL_law_356 dL_law_357 ?_
  refine x_callV (pc := 358) (rest := []) (ci := 7) O.1 (Mt_frame _ (c_X7_weeks l E adr V VL m ns ch (xs (6 * j + 1)) h.1.2.1.1 h.1.1.1)) dL_law_358 cbL_43 im_yX7_weeks se_yX7_weeks rfl LS_recv rfl rfl (Nat.le_of_ble_eq_true rfl) ⟨Nat.le_of_ble_eq_true rfl, Nat.le_of_ble_eq_true rfl⟩ ⟨Nat.le_trans (by (try simp only [rmX]); omega) hB.1, Nat.le_trans (by (try simp only [rmX]); omega) hB.2⟩ (fun x1 => ?_)
  refine x_aload_n (pc := 361) (v := .ref (o)) O.1 dL_law_361 rfl rfl ?_
  refine L_arg (pc := 362) (k := 1) O hj hL (by omega) dL_law_362 dL_law_363 dL_law_364 dL_law_365 dL_law_366 ?_
  refine x_callV (pc := 367) (rest := [.int _]) (ci := 8) O.1 (Mt_frameR _ (c_X8_weeks l E o d i a cr (xs (6 * j + 1)) h.1.2.1.2 h.1.1.1)) dL_law_367 cbL_46 im_yX8_weeks se_yX8_weeks rfl LS_recvR rfl rfl (Nat.le_of_ble_eq_true rfl) ⟨Nat.le_of_ble_eq_true rfl, Nat.le_of_ble_eq_true rfl⟩ ⟨Nat.le_trans (by (try simp only [rmX]); omega) hB.1, Nat.le_trans (by (try simp only [rmX]); omega) hB.2⟩ (fun x2 => ?_)
  have hp := s_weeks h (xs (6 * j + 1))
  by_cases hb : (0 ≤ (xs (6 * j + 1)) ∧ (xs (6 * j + 1)) ≤ 60) ∧ V 0 7 0 + (xs (6 * j + 1)) * 7 ≤ 40000
  · have hb2 := hp.1.mp hb
    refine L_end (pc := 370) O dL_law_370 (by decide) (by rw [if_pos hb, if_pos hb2]; exact (hp.2 hb).1) ?_
    simp only [if_pos hb, if_pos hb2]
    obtain ⟨D9, hr9⟩ := (hp.2 hb).2
    exact K _ _ _ _ _ _ _ _ _ _ _ _ _ _ rfl hr9 h1 (by omega) (by (try simp only [rmX]); omega) (by (try simp only [rmX]); omega)
  · have hb2 := fun z => hb (hp.1.mpr z)
    refine L_end (pc := 370) O dL_law_370 (by decide) (by rw [if_neg hb, if_neg hb2]) ?_
    simp only [if_neg hb, if_neg hb2]
    exact K _ _ _ _ _ _ _ _ _ _ _ _ _ _ rfl h h1 (by omega) (by (try simp only [rmX]); omega) (by (try simp only [rmX]); omega)
theorem law_works {l : Launch} {E : En} {b L : Nat} {xs : Nat → Int32} {J : Jt} (O : Okl l E b L xs J) {o j : Nat} (hj : 6 * j + 5 < L) (hL : L ≤ 3072) {adr : Nat → Nat → Nat} {V : VTt} {VL : VLt} {m ns : Nat} {ch : Nat → List Rt} {d : Nat → Nat} {i : Nat → Int32} {a : Ar} {cr : Nat → List Rt} {D r ce sl : Nat} (K : LK E b (adr 0 7) o j 817 J) (h : Rel D r m ns V VL ch i a cr) (h1 : 120 ≤ r) (h2 : r ≤ 120 * (j + 1)) (hce : ce ≤ cB r j) (hsl : sl ≤ sB r j) : J (Star (CV E adr V VL m ns ch) (RV E o d i a cr)) ce sl 408 (lvL b (adr 0 7) o j) [] := by
  have hB := LB (r := r) (j := j) (by omega) (by omega)
  have hB2 := cB_up r j
  refine x_aload_n (pc := 408) (v := .ref (adr 0 7)) O.1 dL_law_408 rfl rfl ?_
  refine L_arg (pc := 409) (k := 1) O hj hL (by omega) dL_law_409 dL_law_410 dL_law_411 dL_law_412 dL_law_413 ?_
  refine L_arg (pc := 414) (k := 2) O hj hL (by omega) dL_law_414 dL_law_415 dL_law_416 dL_law_417 dL_law_418 ?_
  refine L_arg (pc := 419) (k := 3) O hj hL (by omega) dL_law_419 dL_law_420 dL_law_421 dL_law_422 dL_law_423 ?_
  refine L_bool (pc := 424) O dL_law_424 dL_law_427 dL_law_428 dL_law_431 ?_
  refine x_callV (pc := 432) (rest := []) (ci := 7) O.1 (Mt_frame _ (c_X7_works l E adr V VL m ns ch (xs (6 * j + 1)) (xs (6 * j + 2)) (if (xs (6 * j + 3)) = 0 then 0 else 1) h.1.2.1.1 h.1.1.1)) dL_law_432 cbL_51 im_yX7_works se_yX7_works rfl LS_recv rfl rfl (Nat.le_of_ble_eq_true rfl) ⟨Nat.le_of_ble_eq_true rfl, Nat.le_of_ble_eq_true rfl⟩ ⟨Nat.le_trans (by (try simp only [rmX]); omega) hB.1, Nat.le_trans (by (try simp only [rmX]); omega) hB.2⟩ (fun x1 => ?_)
  refine x_aload_n (pc := 435) (v := .ref (o)) O.1 dL_law_435 rfl rfl ?_
  refine L_arg (pc := 436) (k := 1) O hj hL (by omega) dL_law_436 dL_law_437 dL_law_438 dL_law_439 dL_law_440 ?_
  refine L_arg (pc := 441) (k := 2) O hj hL (by omega) dL_law_441 dL_law_442 dL_law_443 dL_law_444 dL_law_445 ?_
  refine L_arg (pc := 446) (k := 3) O hj hL (by omega) dL_law_446 dL_law_447 dL_law_448 dL_law_449 dL_law_450 ?_
  refine L_bool (pc := 451) O dL_law_451 dL_law_454 dL_law_455 dL_law_458 ?_
  refine x_callV (pc := 459) (rest := [.int _]) (ci := 8) O.1 (Mt_frameR _ (c_X8_works l E o d i a cr (xs (6 * j + 1)) (xs (6 * j + 2)) (if (xs (6 * j + 3)) = 0 then 0 else 1) h.1.2.1.2 h.1.1.1)) dL_law_459 cbL_55 im_yX8_works se_yX8_works rfl LS_recvR rfl rfl (Nat.le_of_ble_eq_true rfl) ⟨Nat.le_of_ble_eq_true rfl, Nat.le_of_ble_eq_true rfl⟩ ⟨Nat.le_trans (by (try simp only [rmX]); omega) hB.1, Nat.le_trans (by (try simp only [rmX]); omega) hB.2⟩ (fun x2 => ?_)
  have hp := s_works h (xs (6 * j + 1)) (xs (6 * j + 2)) (if (xs (6 * j + 3)) = 0 then 0 else 1)
  refine L_end (pc := 462) O dL_law_462 (by decide) hp.1 ?_
  exact K _ _ _ _ _ _ _ _ _ _ _ _ _ _ rfl hp.2 h1 (by omega) (by (try simp only [rmX]); omega) (by (try simp only [rmX]); omega)
theorem law_holder {l : Launch} {E : En} {b L : Nat} {xs : Nat → Int32} {J : Jt} (O : Okl l E b L xs J) {o j : Nat} (hj : 6 * j + 5 < L) (hL : L ≤ 3072) {adr : Nat → Nat → Nat} {V : VTt} {VL : VLt} {m ns : Nat} {ch : Nat → List Rt} {d : Nat → Nat} {i : Nat → Int32} {a : Ar} {cr : Nat → List Rt} {D r ce sl : Nat} (K : LK E b (adr 0 7) o j 817 J) (h : Rel D r m ns V VL ch i a cr) (h1 : 120 ≤ r) (h2 : r ≤ 120 * (j + 1)) (hce : ce ≤ cB r j) (hsl : sl ≤ sB r j) : J (Star (CV E adr V VL m ns ch) (RV E o d i a cr)) ce sl 589 (lvL b (adr 0 7) o j) [] := by
  have hB := LB (r := r) (j := j) (by omega) (by omega)
  have hB2 := cB_up r j
  refine x_aload_n (pc := 589) (v := .ref (adr 0 7)) O.1 dL_law_589 rfl rfl ?_
  refine L_arg (pc := 590) (k := 1) O hj hL (by omega) dL_law_590 dL_law_591 dL_law_592 dL_law_593 dL_law_594 ?_
  refine L_arg (pc := 595) (k := 2) O hj hL (by omega) dL_law_595 dL_law_596 dL_law_597 dL_law_598 dL_law_599 ?_
  refine L_arg (pc := 600) (k := 3) O hj hL (by omega) dL_law_600 dL_law_601 dL_law_602 dL_law_603 dL_law_604 ?_
  refine x_callV (pc := 605) (rest := []) (ci := 7) O.1 (Mt_frame _ (c_X7_holder l E adr V VL m ns ch (xs (6 * j + 1)) (xs (6 * j + 2)) (xs (6 * j + 3)))) dL_law_605 cbL_73 im_yX7_holder se_yX7_holder rfl LS_recv rfl rfl (Nat.le_of_ble_eq_true rfl) ⟨Nat.le_of_ble_eq_true rfl, Nat.le_of_ble_eq_true rfl⟩ ⟨Nat.le_trans (by (try simp only [rmX]); omega) hB.1, Nat.le_trans (by (try simp only [rmX]); omega) hB.2⟩ (fun x1 => ?_)
  refine x_aload_n (pc := 608) (v := .ref (o)) O.1 dL_law_608 rfl rfl ?_
  refine L_arg (pc := 609) (k := 1) O hj hL (by omega) dL_law_609 dL_law_610 dL_law_611 dL_law_612 dL_law_613 ?_
  refine L_arg (pc := 614) (k := 2) O hj hL (by omega) dL_law_614 dL_law_615 dL_law_616 dL_law_617 dL_law_618 ?_
  refine L_arg (pc := 619) (k := 3) O hj hL (by omega) dL_law_619 dL_law_620 dL_law_621 dL_law_622 dL_law_623 ?_
  refine x_callV (pc := 624) (rest := [.int _]) (ci := 8) O.1 (Mt_frameR _ (c_X8_holder l E o d i a cr (xs (6 * j + 1)) (xs (6 * j + 2)) (xs (6 * j + 3)) (s_hch h))) dL_law_624 cbL_76 im_yX8_holder se_yX8_holder rfl LS_recvR rfl rfl (Nat.le_of_ble_eq_true rfl) ⟨Nat.le_of_ble_eq_true rfl, Nat.le_of_ble_eq_true rfl⟩ ⟨Nat.le_trans (by (try simp only [rmX]); omega) hB.1, Nat.le_trans (by (try simp only [rmX]); omega) hB.2⟩ (fun x2 => ?_)
  refine L_end (pc := 627) O dL_law_627 (by decide) (s_holder h _ _ _) ?_
  exact K _ _ _ _ _ _ _ _ _ _ _ _ _ _ rfl h h1 (by omega) (by (try simp only [rmX]); omega) (by (try simp only [rmX]); omega)
theorem law_right {l : Launch} {E : En} {b L : Nat} {xs : Nat → Int32} {J : Jt} (O : Okl l E b L xs J) {o j : Nat} (hj : 6 * j + 5 < L) (hL : L ≤ 3072) {adr : Nat → Nat → Nat} {V : VTt} {VL : VLt} {m ns : Nat} {ch : Nat → List Rt} {d : Nat → Nat} {i : Nat → Int32} {a : Ar} {cr : Nat → List Rt} {D r ce sl : Nat} (K : LK E b (adr 0 7) o j 817 J) (h : Rel D r m ns V VL ch i a cr) (h1 : 120 ≤ r) (h2 : r ≤ 120 * (j + 1)) (hce : ce ≤ cB r j) (hsl : sl ≤ sB r j) : J (Star (CV E adr V VL m ns ch) (RV E o d i a cr)) ce sl 632 (lvL b (adr 0 7) o j) [] := by
  have hB := LB (r := r) (j := j) (by omega) (by omega)
  have hB2 := cB_up r j
  refine x_aload_n (pc := 632) (v := .ref (adr 0 7)) O.1 dL_law_632 rfl rfl ?_
  refine L_arg (pc := 633) (k := 1) O hj hL (by omega) dL_law_633 dL_law_634 dL_law_635 dL_law_636 dL_law_637 ?_
  refine L_arg (pc := 638) (k := 2) O hj hL (by omega) dL_law_638 dL_law_639 dL_law_640 dL_law_641 dL_law_642 ?_
  refine L_arg (pc := 643) (k := 3) O hj hL (by omega) dL_law_643 dL_law_644 dL_law_645 dL_law_646 dL_law_647 ?_
  refine L_arg (pc := 648) (k := 4) O hj hL (by omega) dL_law_648 dL_law_649 dL_law_650 dL_law_651 dL_law_652 ?_
  refine L_arg (pc := 653) (k := 5) O hj hL (by omega) dL_law_653 dL_law_654 dL_law_655 dL_law_656 dL_law_657 ?_
  refine x_callV (pc := 658) (rest := []) (ci := 7) O.1 (Mt_frame _ (c_X7_right l E adr V VL m ns ch (xs (6 * j + 1)) (xs (6 * j + 2)) (xs (6 * j + 3)) (xs (6 * j + 4)) (xs (6 * j + 5)))) dL_law_658 cbL_77 im_yX7_right se_yX7_right rfl LS_recv rfl rfl (Nat.le_of_ble_eq_true rfl) ⟨Nat.le_of_ble_eq_true rfl, Nat.le_of_ble_eq_true rfl⟩ ⟨Nat.le_trans (by (try simp only [rmX]); omega) hB.1, Nat.le_trans (by (try simp only [rmX]); omega) hB.2⟩ (fun x1 => ?_)
  refine x_aload_n (pc := 661) (v := .ref (o)) O.1 dL_law_661 rfl rfl ?_
  refine L_arg (pc := 662) (k := 1) O hj hL (by omega) dL_law_662 dL_law_663 dL_law_664 dL_law_665 dL_law_666 ?_
  refine L_arg (pc := 667) (k := 2) O hj hL (by omega) dL_law_667 dL_law_668 dL_law_669 dL_law_670 dL_law_671 ?_
  refine L_arg (pc := 672) (k := 3) O hj hL (by omega) dL_law_672 dL_law_673 dL_law_674 dL_law_675 dL_law_676 ?_
  refine L_arg (pc := 677) (k := 4) O hj hL (by omega) dL_law_677 dL_law_678 dL_law_679 dL_law_680 dL_law_681 ?_
  refine L_arg (pc := 682) (k := 5) O hj hL (by omega) dL_law_682 dL_law_683 dL_law_684 dL_law_685 dL_law_686 ?_
  refine x_callV (pc := 687) (rest := [.int _]) (ci := 8) O.1 (Mt_frameR _ (c_X8_right l E o d i a cr (xs (6 * j + 1)) (xs (6 * j + 2)) (xs (6 * j + 3)) (xs (6 * j + 4)) (xs (6 * j + 5)))) dL_law_687 cbL_81 im_yX8_right se_yX8_right rfl LS_recvR rfl rfl (Nat.le_of_ble_eq_true rfl) ⟨Nat.le_of_ble_eq_true rfl, Nat.le_of_ble_eq_true rfl⟩ ⟨Nat.le_trans (by (try simp only [rmX]); omega) hB.1, Nat.le_trans (by (try simp only [rmX]); omega) hB.2⟩ (fun x2 => ?_)
  refine L_end (pc := 690) O dL_law_690 (by decide) (s_right h _ _ _ _ _) ?_
  exact K _ _ _ _ _ _ _ _ _ _ _ _ _ _ rfl h h1 (by omega) (by (try simp only [rmX]); omega) (by (try simp only [rmX]); omega)
theorem law_court {l : Launch} {E : En} {b L : Nat} {xs : Nat → Int32} {J : Jt} (O : Okl l E b L xs J) {o j : Nat} (hj : 6 * j + 5 < L) (hL : L ≤ 3072) {adr : Nat → Nat → Nat} {V : VTt} {VL : VLt} {m ns : Nat} {ch : Nat → List Rt} {d : Nat → Nat} {i : Nat → Int32} {a : Ar} {cr : Nat → List Rt} {D r ce sl : Nat} (K : LK E b (adr 0 7) o j 817 J) (h : Rel D r m ns V VL ch i a cr) (h1 : 120 ≤ r) (h2 : r ≤ 120 * (j + 1)) (hce : ce ≤ cB r j) (hsl : sl ≤ sB r j) : J (Star (CV E adr V VL m ns ch) (RV E o d i a cr)) ce sl 576 (lvL b (adr 0 7) o j) [] := by
  have hB := LB (r := r) (j := j) (by omega) (by omega)
  have hB2 := cB_up r j
  have hS := h.2.2.1
  have hsu1 : ∀ k, k < ns → ∃ b0 b1 b2, b0 < m ∧ b1 < m ∧ b2 < m ∧ V 2 k 0 = nI b0 ∧ V 2 k 1 = nI b1 ∧ V 2 k 2 = nI b2 := fun k hk => by
    obtain ⟨⟨b0, g0, e0⟩, ⟨b1, g1, e1⟩, ⟨b2, g2, e2⟩, -⟩ := hS.2.2 k hk
    exact ⟨b0, b1, b2, g0, g1, g2, by rw [← e0]; exact (hS.1 k hk 0 (by decide)).symm, by rw [← e1]; exact (hS.1 k hk 1 (by decide)).symm, by rw [← e2]; exact (hS.1 k hk 2 (by decide)).symm⟩
  have hsu2 : ∀ k, k < ns → ∃ b0 b1 b2, b0 < 60 ∧ b1 < 60 ∧ b2 < 60 ∧ a 31 k = nI b0 ∧ a 32 k = nI b1 ∧ a 33 k = nI b2 := fun k hk => by
    obtain ⟨⟨b0, g0, e0⟩, ⟨b1, g1, e1⟩, ⟨b2, g2, e2⟩, -⟩ := hS.2.2 k hk
    have := h.1.1.1
    exact ⟨b0, b1, b2, by omega, by omega, by omega, e0, e1, e2⟩
  refine x_aload_n (pc := 576) (v := .ref (adr 0 7)) O.1 dL_law_576 rfl rfl ?_
  refine x_callV (pc := 577) (rest := []) (ci := 7) O.1 (Mt_frame _ (c_X7_court l E adr V VL m ns ch h.1.2.1.1 h.1.1.1 h.1.2.2.1.1 h.1.1.2.1 hsu1)) dL_law_577 cbL_68 im_yX7_court se_yX7_court rfl LS_recv rfl rfl (Nat.le_of_ble_eq_true rfl) ⟨Nat.le_of_ble_eq_true rfl, Nat.le_of_ble_eq_true rfl⟩ ⟨Nat.le_trans (by (try simp only [rmX]); omega) hB.1, Nat.le_trans (by (try simp only [rmX]); omega) hB.2⟩ (fun x1 => ?_)
  refine x_aload_n (pc := 580) (v := .ref (o)) O.1 dL_law_580 rfl rfl ?_
  refine x_callV (pc := 581) (rest := [.int _]) (ci := 8) O.1 (Mt_frameR _ (c_X8_court l E o d i a cr h.1.2.2.1.2 h.1.1.2.1 hsu2)) dL_law_581 cbL_72 im_yX8_court se_yX8_court rfl LS_recvR rfl rfl (Nat.le_of_ble_eq_true rfl) ⟨Nat.le_of_ble_eq_true rfl, Nat.le_of_ble_eq_true rfl⟩ ⟨Nat.le_trans (by (try simp only [rmX]); omega) hB.1, Nat.le_trans (by (try simp only [rmX]); omega) hB.2⟩ (fun x2 => ?_)
  have hp := s_court h ns (Nat.le_refl _)
  refine L_end (pc := 584) O dL_law_584 (by decide) hp.1 ?_
  exact K _ _ _ _ _ _ _ _ _ _ _ _ _ _ rfl hp.2 h1 (by omega) (by (try simp only [rmX]); omega) (by (try simp only [rmX]); omega)
