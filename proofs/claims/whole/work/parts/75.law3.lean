/-! ===== THE LAW 3: the cases that make rights ===== -/
theorem cs_le (r N : Nat) : ccost r N ≤ 1024 ∧ scost r N ≤ 524288 := by
  have := cap_hi (r + N)
  unfold ccost scost
  omega
theorem cB_add {r j N N' : Nat} (h1 : 120 ≤ r) (e : N = N') : cB r j + N + ccost r N' + 2 = cB (r + N) (j + 1) ∧ sB r j + 4 * N + scost r N' + 14 = sB (r + N) (j + 1) := by
  subst e
  have c := cost_add 120 (r - 120) N
  rw [show 120 + (r - 120) = r by omega] at c
  unfold cB sB
  rw [show r + N - 120 = r - 120 + N by omega, ← c.1, ← c.2]
  omega
theorem L_pure2 {l : Launch} {E : En} {b L : Nat} {xs : Nat → Int32} {J : Jt} (O : Okl l E b L xs J) {pc : Nat} {φ ψ : Prop} {P R : HP} {ce sl : Nat} {lv : LV} {st : List Value} (k : φ → ψ → J (Star P R) ce sl pc lv st) : J (Star (fun h => φ ∧ P h) (fun h => ψ ∧ R h)) ce sl pc lv st :=
  x_imp O.1 (P' := fun h => (φ ∧ ψ) ∧ Star P R h) (fun h hs => by obtain ⟨f, g, ⟨a, b⟩, ⟨c, e⟩, h3, h4⟩ := hs; exact ⟨⟨a, c⟩, f, g, b, e, h3, h4⟩) (x_pure O.1 (fun z => k z.1 z.2))
theorem Rel.hal {D r m ns : Nat} {V : VTt} {VL : VLt} {ch : Nat → List Rt} {i : Nat → Int32} {a : Ar} {cr : Nat → List Rt} (h : Rel D r m ns V VL ch i a cr) : ∀ p, p < 60 → a 20 p = 0 ∨ a 20 p = 1 := fun p _ => by
  by_cases c : p < m
  · exact h.2.2.2.1.2.2.2.2.2 p c
  · exact Or.inl (h.2.1.2.1 p (by omega) 20 (by decide) (by decide))
theorem Rel.hfa {D r m ns : Nat} {V : VTt} {VL : VLt} {ch : Nat → List Rt} {i : Nat → Int32} {a : Ar} {cr : Nat → List Rt} (h : Rel D r m ns V VL ch i a cr) : ∀ p, p < m → ¬ a 10 p = -1 → ∃ f, f < 60 ∧ a 10 p = nI f := fun p hp hn => by
  rcases (h.2.2.2.1.2.2.2.1 p hp).1 with z | ⟨f, z1, z2⟩
  · exact absurd z hn
  · exact ⟨f, by have := h.1.1.1; omega, z2⟩
theorem Rel.hord {D r m ns : Nat} {V : VTt} {VL : VLt} {ch : Nat → List Rt} {i : Nat → Int32} {a : Ar} {cr : Nat → List Rt} (h : Rel D r m ns V VL ch i a cr) : V 0 0 0 = 0 ∨ V 0 0 0 = 1 ∨ V 0 0 0 = 2 := by
  rw [h.1.2.2.2.2.2.2.1.1]
  exact h.1.2.2.2.2.2.2.2.1
set_option maxRecDepth 100000 in
set_option maxHeartbeats 4000000 in
theorem c_X7_heir2 (l : Launch) (E : En) (adr : Nat → Nat → Nat) (V : Nat → Nat → Nat → Int32) (VL : Nat → Nat → Nat → Int64) (m ns : Nat) (ch : Nat → List Rt) (a : Ar) (p x : Int32) (hc : V 0 3 1 = nI m) (h60 : m ≤ 60) (hka : KA V VL a m) (hsx : ∀ c, c < m → a 9 c = 0 ∨ a 9 c = 1) (hfa : ∀ p, p < m → a 10 p = -1 ∨ ∃ f, f < m ∧ a 10 p = nI f) (hkin : kinOk a m) (hord : V 0 0 0 = 0 ∨ V 0 0 0 = 1 ∨ V 0 0 0 = 2) : Mt l E yX7_heir cX7_heir 3 (some .int) (rmX 64 1535 0 0) [.ref (adr 0 7), .int p, .int x] (CV E adr V VL m ns ch) (fun _ : (Nat → Nat → Nat → Int32) × (Nat → Nat → Nat → Int64) => some (.int (if isPc m p ∧ 0 ≤ x ∧ x ≤ 39 then hvI (heirsOf a m (V 0 0 0) (alx a p.toNatClampNeg) p.toNatClampNeg) x.toNatClampNeg else -1))) (fun y h => (SQ V VL y.1 y.2 ∧ y.1 0 2 = V 0 2) ∧ CV E adr y.1 y.2 m ns ch h) := by
  refine Mt_of (by decide +kernel) (Nat.le_of_ble_eq_true rfl) (fun J O => ?_)
  show J _ 0 0 0 [some (.ref (adr 0 7)), some (.int p), some (.int x)] []
  refine x_aload_n (pc := 0) O dX7_heir_0 rfl rfl ?_
  refine cv_get (t := 0) (n := 7) (pc := 1) O dX7_heir_1 fdX7_28 rfl rfl rfl ?_
  refine x_iload_n (pc := 4) O dX7_heir_4 rfl ?_
  rcases noP_or m p with ⟨j, hj, rfl⟩ | hno
  · refine x_callV (pc := 5) (rest := []) (ci := 3) O (c_X3_find l E _ _ _ _ _ _ j hc h60 hj) dX7_heir_5 cbX7_105 im_yX3_find se_yX3_find rfl (cv_recv (t := 0) (n := 3) rfl rfl) rfl rfl (Nat.le_of_ble_eq_true rfl) ⟨Nat.le_of_ble_eq_true rfl, Nat.le_of_ble_eq_true rfl⟩ ⟨Nat.le_of_ble_eq_true rfl, Nat.le_of_ble_eq_true rfl⟩ (fun _ => ?_)
    dsimp only [Option.toList, List.append, List.nil_append, List.cons_append, Nat.add_zero, Nat.reduceAdd]
    refine x_ifnull (pc := 8) O dX7_heir_8 ?_
    refine x_iload_n (pc := 11) O dX7_heir_11 rfl ?_
    refine x_if_lt (pc := 12) O 21 dX7_heir_12 (by decide) (fun c12 => ?_) (fun c12 => ?_)
    · refine x_iconst (v := (-1)) (pc := 21) O dX7_heir_21 (by decide) ?_
      have hc9 : ¬ (isPc m (nI j) ∧ 0 ≤ x ∧ x ≤ 39) := fun z => absurd c12 (Int32.not_lt.mpr z.2.1)
      exact x_ret (v := some (.int _)) (pc := 22) O dX7_heir_22 rfl rfl ⟨Nat.le_of_ble_eq_true rfl, Nat.le_of_ble_eq_true rfl, (V, VL), congrArg (fun z => some (Value.int z)) (if_neg hc9).symm, fun h hh => ⟨⟨SQ.rf _ _, rfl⟩, hh⟩⟩
    · refine x_iload_n (pc := 15) O dX7_heir_15 rfl ?_
      refine x_bipush (v := 40) (pc := 16) O dX7_heir_16 (by decide) ?_
      refine x_icmp_lt (pc := 18) O 23 dX7_heir_18 (by decide) (fun c18 => ?_) (fun c18 => ?_)
      · obtain ⟨x0, hx0, rfl⟩ := nI_of (x := x) c12
        have hx40 : x0 < 40 := (nI_ltI hx0 (by decide)).mp c18
        refine x_aload_n (pc := 23) O dX7_heir_23 rfl rfl ?_
        refine cv_get (t := 0) (n := 7) (pc := 24) O dX7_heir_24 fdX7_44 rfl rfl rfl ?_
        refine x_iload_n (pc := 27) O dX7_heir_27 rfl ?_
        refine x_aload_n (pc := 28) O dX7_heir_28 rfl rfl ?_
        refine cv_get (t := 0) (n := 7) (pc := 29) O dX7_heir_29 fdX7_18 rfl rfl rfl ?_
        refine cv_get (t := 0) (n := 0) (pc := 32) O dX7_heir_32 fdX7_191 rfl rfl rfl ?_
        refine x_callV (pc := 35) (rest := []) (ci := 1) O (c_X1_list l E _ _ _ _ _ _ a j (V 0 0 0) hc h60 hka hsx hfa hkin hord hj) dX7_heir_35 cbX7_194 im_yX1_list se_yX1_list rfl (cv_recv (t := 0) (n := 1) rfl rfl) rfl rfl (Nat.le_of_ble_eq_true rfl) ⟨Nat.le_of_ble_eq_true rfl, Nat.le_of_ble_eq_true rfl⟩ ⟨Nat.le_of_ble_eq_true rfl, Nat.le_of_ble_eq_true rfl⟩ (fun x => x_pure O (fun hx => ?_))
        dsimp only [Option.toList, List.append, List.nil_append, List.cons_append, Nat.add_zero, Nat.reduceAdd]
        refine x_iload_n (pc := 38) O dX7_heir_38 rfl ?_
        refine x_aload_n (pc := 39) O dX7_heir_39 rfl rfl ?_
        refine cv_get (t := 0) (n := 7) (pc := 40) O dX7_heir_40 fdX7_44 rfl rfl rfl ?_
        refine cv_get (t := 0) (n := 1) (pc := 43) O dX7_heir_43 fdX7_197 rfl rfl rfl ?_
        rw [hx.2.2.1]
        refine x_icmp_ge (pc := 46) O 61 dX7_heir_46 (by decide) (fun c46 => ?_) (fun c46 => ?_)
        · refine x_iconst (v := (-1)) (pc := 61) O dX7_heir_61 (by decide) ?_
          have hc9 : isPc m (nI j) ∧ 0 ≤ (nI x0) ∧ (nI x0) ≤ 39 := ⟨pc_ok h60 hj, Int32.not_lt.mp c12, le39 c18⟩
          exact x_ret (v := some (.int _)) (pc := 62) O dX7_heir_62 rfl rfl ⟨Nat.le_of_ble_eq_true rfl, Nat.le_of_ble_eq_true rfl, x, congrArg (fun z => some (Value.int z)) (by rw [if_pos hc9, cl_ok h60 hj, nI_clamp (by omega)]; unfold hvI; rw [if_neg (by rw [nI_leI (by omega) (by omega)] at c46; omega)]), fun h hh => ⟨⟨⟨fun t k hk => hx.1 t k (fun z => hk ⟨z.1, z.2.elim Or.inl (fun z => Or.inr (Or.inr (Or.inr (Or.inl z))))⟩), hx.2.1⟩, hx.1 0 2 (by omega)⟩, hh⟩⟩
        · have hlt : x0 < min 40 (heirsOf a m (V 0 0 0) (alx a j) j).length := by
            rw [nI_leI (by omega) (by omega)] at c46
            omega
          refine x_aload_n (pc := 49) O dX7_heir_49 rfl rfl ?_
          refine cv_get (t := 0) (n := 7) (pc := 50) O dX7_heir_50 fdX7_44 rfl rfl rfl ?_
          refine cv_get (t := 0) (n := 1) (pc := 53) O dX7_heir_53 fdX7_200 rfl rfl rfl ?_
          refine x_iload_n (pc := 56) O dX7_heir_56 rfl ?_
          refine cv_ald (n := 14) (pc := 57) O dX7_heir_57 (by decide) rfl (by show _ < 40; omega) (by omega) ?_
          rw [hx.2.2.2 x0 hlt]
          refine x_goto (pc := 58) O 62 dX7_heir_58 (by decide) ?_
          have hc9 : isPc m (nI j) ∧ 0 ≤ (nI x0) ∧ (nI x0) ≤ 39 := ⟨pc_ok h60 hj, Int32.not_lt.mp c12, le39 c18⟩
          exact x_ret (v := some (.int _)) (pc := 62) O dX7_heir_62 rfl rfl ⟨Nat.le_of_ble_eq_true rfl, Nat.le_of_ble_eq_true rfl, x, congrArg (fun z => some (Value.int z)) (by rw [if_pos hc9, cl_ok h60 hj, nI_clamp (by omega)]; unfold hvI; rw [if_pos (by omega)]), fun h hh => ⟨⟨⟨fun t k hk => hx.1 t k (fun z => hk ⟨z.1, z.2.elim Or.inl (fun z => Or.inr (Or.inr (Or.inr (Or.inl z))))⟩), hx.2.1⟩, hx.1 0 2 (by omega)⟩, hh⟩⟩
      · refine x_iconst (v := (-1)) (pc := 21) O dX7_heir_21 (by decide) ?_
        have hc9 : ¬ (isPc m (nI j) ∧ 0 ≤ x ∧ x ≤ 39) := fun z => c18 (lt40 z.2.2)
        exact x_ret (v := some (.int _)) (pc := 22) O dX7_heir_22 rfl rfl ⟨Nat.le_of_ble_eq_true rfl, Nat.le_of_ble_eq_true rfl, (V, VL), congrArg (fun z => some (Value.int z)) (if_neg hc9).symm, fun h hh => ⟨⟨SQ.rf _ _, rfl⟩, hh⟩⟩
  · refine x_callV (pc := 5) (rest := []) (ci := 3) O (c_X3_find_no l E _ _ _ _ _ _ _ hc h60 hno) dX7_heir_5 cbX7_105 im_yX3_find se_yX3_find rfl (cv_recv (t := 0) (n := 3) rfl rfl) rfl rfl (Nat.le_of_ble_eq_true rfl) ⟨Nat.le_of_ble_eq_true rfl, Nat.le_of_ble_eq_true rfl⟩ ⟨Nat.le_of_ble_eq_true rfl, Nat.le_of_ble_eq_true rfl⟩ (fun _ => ?_)
    dsimp only [Option.toList, List.append, List.nil_append, List.cons_append, Nat.add_zero, Nat.reduceAdd]
    refine x_ifnullN (pc := 8) O 21 dX7_heir_8 (by decide) ?_
    refine x_iconst (v := (-1)) (pc := 21) O dX7_heir_21 (by decide) ?_
    have hc9 : ¬ (isPc m p ∧ 0 ≤ x ∧ x ≤ 39) := fun z => pc_no h60 hno z.1
    exact x_ret (v := some (.int _)) (pc := 22) O dX7_heir_22 rfl rfl ⟨Nat.le_of_ble_eq_true rfl, Nat.le_of_ble_eq_true rfl, (V, VL), congrArg (fun z => some (Value.int z)) (if_neg hc9).symm, fun h hh => ⟨⟨SQ.rf _ _, rfl⟩, hh⟩⟩
theorem law_grant {l : Launch} {E : En} {b L : Nat} {xs : Nat → Int32} {J : Jt} (O : Okl l E b L xs J) {o j : Nat} (hj : 6 * j + 5 < L) (hL : L ≤ 3072) {adr : Nat → Nat → Nat} {V : VTt} {VL : VLt} {m ns : Nat} {ch : Nat → List Rt} {d : Nat → Nat} {i : Nat → Int32} {a : Ar} {cr : Nat → List Rt} {D r ce sl : Nat} (K : LK E b (adr 0 7) o j 817 J) (h : Rel D r m ns V VL ch i a cr) (h1 : 120 ≤ r) (h2 : r ≤ 120 * (j + 1)) (hce : ce ≤ cB r j) (hsl : sl ≤ sB r j) : J (Star (CV E adr V VL m ns ch) (RV E o d i a cr)) ce sl 256 (lvL b (adr 0 7) o j) [] := by
  have hB := LB (r := r) (j := j) (by omega) (by omega)
  have hp := s_grant h (xs (6 * j + 1)) (xs (6 * j + 2)) (xs (6 * j + 3))
  have hN := hp.2.2.1
  have hcs := cs_le r (grN i a (xs (6 * j + 1)) (xs (6 * j + 2)) (xs (6 * j + 3)))
  have hadd := cB_add (j := j) h1 hp.2.1
  have hN2 := hp.2.1
  refine x_aload_n (pc := 256) (v := .ref (adr 0 7)) O.1 dL_law_256 rfl rfl ?_
  refine L_arg (pc := 257) (k := 1) O hj hL (by omega) dL_law_257 dL_law_258 dL_law_259 dL_law_260 dL_law_261 ?_
  refine L_arg (pc := 262) (k := 2) O hj hL (by omega) dL_law_262 dL_law_263 dL_law_264 dL_law_265 dL_law_266 ?_
  refine L_arg (pc := 267) (k := 3) O hj hL (by omega) dL_law_267 dL_law_268 dL_law_269 dL_law_270 dL_law_271 ?_
  refine x_callV (pc := 272) (rest := []) (ci := 7) O.1 (Mt_frame _ (c_X7_grant l E adr V VL m ns ch (xs (6 * j + 1)) (xs (6 * j + 2)) (xs (6 * j + 3)) r h.1.2.1.1 h.1.1.1 h.1.2.2.2.2.1.1 (by omega))) dL_law_272 cbL_33 im_yX7_grant se_yX7_grant rfl LS_recv rfl rfl (Nat.le_of_ble_eq_true rfl) ⟨Nat.le_of_ble_eq_true rfl, Nat.le_of_ble_eq_true rfl⟩ ⟨Nat.le_trans (by (try simp only [rmX]); omega) hB.1, Nat.le_trans (by (try simp only [rmX]); omega) hB.2⟩ (fun x1 => ?_)
  refine x_aload_n (pc := 275) (v := .ref (o)) O.1 dL_law_275 rfl rfl ?_
  refine L_arg (pc := 276) (k := 1) O hj hL (by omega) dL_law_276 dL_law_277 dL_law_278 dL_law_279 dL_law_280 ?_
  refine L_arg (pc := 281) (k := 2) O hj hL (by omega) dL_law_281 dL_law_282 dL_law_283 dL_law_284 dL_law_285 ?_
  refine L_arg (pc := 286) (k := 3) O hj hL (by omega) dL_law_286 dL_law_287 dL_law_288 dL_law_289 dL_law_290 ?_
  refine x_callV (pc := 291) (rest := [.int _]) (ci := 8) O.1 (Mt_frameR _ (c_X8_grant l E o d i a cr (xs (6 * j + 1)) (xs (6 * j + 2)) (xs (6 * j + 3)) h.1.2.1.2 h.1.1.1 h.1.2.2.2.2.1.2 (by omega))) dL_law_291 cbL_37 im_yX8_grant se_yX8_grant rfl LS_recvR rfl rfl (Nat.le_of_ble_eq_true rfl) ⟨Nat.le_of_ble_eq_true rfl, Nat.le_of_ble_eq_true rfl⟩ ⟨Nat.le_trans (by (try simp only [rmX]); omega) hB.1, Nat.le_trans (by (try simp only [rmX]); omega) hB.2⟩ (fun x2 => ?_)
  refine L_pure2 O (fun z1 z2 => ?_)
  refine L_end (pc := 294) O dL_law_294 (by decide) hp.1 ?_
  exact K _ _ _ _ _ _ _ _ _ _ _ _ _ _ rfl (hp.2.2.2 _ _ z1.1 z1.2 z2) (by omega) (by omega) (by (try simp only [rmX]); omega) (by (try simp only [rmX]); omega)
theorem law_rod {l : Launch} {E : En} {b L : Nat} {xs : Nat → Int32} {J : Jt} (O : Okl l E b L xs J) {o j : Nat} (hj : 6 * j + 5 < L) (hL : L ≤ 3072) {adr : Nat → Nat → Nat} {V : VTt} {VL : VLt} {m ns : Nat} {ch : Nat → List Rt} {d : Nat → Nat} {i : Nat → Int32} {a : Ar} {cr : Nat → List Rt} {D r ce sl : Nat} (K : LK E b (adr 0 7) o j 817 J) (h : Rel D r m ns V VL ch i a cr) (h1 : 120 ≤ r) (h2 : r ≤ 120 * (j + 1)) (hce : ce ≤ cB r j) (hsl : sl ≤ sB r j) : J (Star (CV E adr V VL m ns ch) (RV E o d i a cr)) ce sl 299 (lvL b (adr 0 7) o j) [] := by
  have hB := LB (r := r) (j := j) (by omega) (by omega)
  have hp := s_rod h (xs (6 * j + 1)) (xs (6 * j + 2)) (xs (6 * j + 3)) (xs (6 * j + 4))
  have hN := hp.2.2.1
  have hcs := cs_le r (rdN i a (xs (6 * j + 1)) (xs (6 * j + 2)) (xs (6 * j + 3)) (xs (6 * j + 4)))
  have hadd := cB_add (j := j) h1 hp.2.1
  have hN2 := hp.2.1
  refine x_aload_n (pc := 299) (v := .ref (adr 0 7)) O.1 dL_law_299 rfl rfl ?_
  refine L_arg (pc := 300) (k := 1) O hj hL (by omega) dL_law_300 dL_law_301 dL_law_302 dL_law_303 dL_law_304 ?_
  refine L_arg (pc := 305) (k := 2) O hj hL (by omega) dL_law_305 dL_law_306 dL_law_307 dL_law_308 dL_law_309 ?_
  refine L_arg (pc := 310) (k := 3) O hj hL (by omega) dL_law_310 dL_law_311 dL_law_312 dL_law_313 dL_law_314 ?_
  refine L_arg (pc := 315) (k := 4) O hj hL (by omega) dL_law_315 dL_law_316 dL_law_317 dL_law_318 dL_law_319 ?_
  refine x_callV (pc := 320) (rest := []) (ci := 7) O.1 (Mt_frame _ (c_X7_rod l E adr V VL m ns ch (xs (6 * j + 1)) (xs (6 * j + 2)) (xs (6 * j + 3)) (xs (6 * j + 4)) r h.1.2.1.1 h.1.1.1 h.1.2.2.2.2.1.1 (by omega))) dL_law_320 cbL_38 im_yX7_rod se_yX7_rod rfl LS_recv rfl rfl (Nat.le_of_ble_eq_true rfl) ⟨Nat.le_of_ble_eq_true rfl, Nat.le_of_ble_eq_true rfl⟩ ⟨Nat.le_trans (by (try simp only [rmX]); omega) hB.1, Nat.le_trans (by (try simp only [rmX]); omega) hB.2⟩ (fun x1 => ?_)
  refine x_aload_n (pc := 323) (v := .ref (o)) O.1 dL_law_323 rfl rfl ?_
  refine L_arg (pc := 324) (k := 1) O hj hL (by omega) dL_law_324 dL_law_325 dL_law_326 dL_law_327 dL_law_328 ?_
  refine L_arg (pc := 329) (k := 2) O hj hL (by omega) dL_law_329 dL_law_330 dL_law_331 dL_law_332 dL_law_333 ?_
  refine L_arg (pc := 334) (k := 3) O hj hL (by omega) dL_law_334 dL_law_335 dL_law_336 dL_law_337 dL_law_338 ?_
  refine L_arg (pc := 339) (k := 4) O hj hL (by omega) dL_law_339 dL_law_340 dL_law_341 dL_law_342 dL_law_343 ?_
  refine x_callV (pc := 344) (rest := [.int _]) (ci := 8) O.1 (Mt_frameR _ (c_X8_rod l E o d i a cr (xs (6 * j + 1)) (xs (6 * j + 2)) (xs (6 * j + 3)) (xs (6 * j + 4)) h.1.2.1.2 h.1.1.1 h.1.2.2.2.2.1.2 (by omega))) dL_law_344 cbL_42 im_yX8_rod se_yX8_rod rfl LS_recvR rfl rfl (Nat.le_of_ble_eq_true rfl) ⟨Nat.le_of_ble_eq_true rfl, Nat.le_of_ble_eq_true rfl⟩ ⟨Nat.le_trans (by (try simp only [rmX]); omega) hB.1, Nat.le_trans (by (try simp only [rmX]); omega) hB.2⟩ (fun x2 => ?_)
  refine L_pure2 O (fun z1 z2 => ?_)
  refine L_end (pc := 347) O dL_law_347 (by decide) hp.1 ?_
  exact K _ _ _ _ _ _ _ _ _ _ _ _ _ _ rfl (hp.2.2.2 _ _ z1.1 z1.2 z2) (by omega) (by omega) (by (try simp only [rmX]); omega) (by (try simp only [rmX]); omega)
theorem law_marry {l : Launch} {E : En} {b L : Nat} {xs : Nat → Int32} {J : Jt} (O : Okl l E b L xs J) {o j : Nat} (hj : 6 * j + 5 < L) (hL : L ≤ 3072) {adr : Nat → Nat → Nat} {V : VTt} {VL : VLt} {m ns : Nat} {ch : Nat → List Rt} {d : Nat → Nat} {i : Nat → Int32} {a : Ar} {cr : Nat → List Rt} {D r ce sl : Nat} (K : LK E b (adr 0 7) o j 817 J) (h : Rel D r m ns V VL ch i a cr) (h1 : 120 ≤ r) (h2 : r ≤ 120 * (j + 1)) (hce : ce ≤ cB r j) (hsl : sl ≤ sB r j) : J (Star (CV E adr V VL m ns ch) (RV E o d i a cr)) ce sl 200 (lvL b (adr 0 7) o j) [] := by
  have hB := LB (r := r) (j := j) (by omega) (by omega)
  have hp := s_marry h (xs (6 * j + 1)) (xs (6 * j + 2))
  have hN := hp.2.2.1
  have hcs := cs_le r (maN i a cr m r (xs (6 * j + 1)) (xs (6 * j + 2)))
  have hadd := cB_add (j := j) h1 hp.2.1
  have hN2 := hp.2.1
  refine x_aload_n (pc := 200) (v := .ref (adr 0 7)) O.1 dL_law_200 rfl rfl ?_
  refine L_arg (pc := 201) (k := 1) O hj hL (by omega) dL_law_201 dL_law_202 dL_law_203 dL_law_204 dL_law_205 ?_
  refine L_arg (pc := 206) (k := 2) O hj hL (by omega) dL_law_206 dL_law_207 dL_law_208 dL_law_209 dL_law_210 ?_
  refine x_callV (pc := 211) (rest := []) (ci := 7) O.1 (Mt_frame _ (c_X7_marry l E adr V VL m ns ch a (xs (6 * j + 1)) (xs (6 * j + 2)) r h.1.2.1.1 h.1.1.1 (RP.ka h.2.1 h.2.2.2.1) h.2.2.2.1.2.2.1 (fun p hp => (h.2.2.2.1.2.2.2.1 p hp).1) h.2.2.2.1.2.2.2.2.1 h.hord (RLd.wok h.1.1.1 h.2.2.2.2.2.1) h.1.2.2.2.2.1.1 (by omega))) dL_law_211 cbL_23 im_yX7_marry se_yX7_marry rfl LS_recv rfl rfl (Nat.le_of_ble_eq_true rfl) ⟨Nat.le_of_ble_eq_true rfl, Nat.le_of_ble_eq_true rfl⟩ ⟨Nat.le_trans (by (try simp only [rmX]); omega) hB.1, Nat.le_trans (by (try simp only [rmX]); omega) hB.2⟩ (fun x1 => ?_)
  refine x_aload_n (pc := 214) (v := .ref (o)) O.1 dL_law_214 rfl rfl ?_
  refine L_arg (pc := 215) (k := 1) O hj hL (by omega) dL_law_215 dL_law_216 dL_law_217 dL_law_218 dL_law_219 ?_
  refine L_arg (pc := 220) (k := 2) O hj hL (by omega) dL_law_220 dL_law_221 dL_law_222 dL_law_223 dL_law_224 ?_
  refine x_callV (pc := 225) (rest := [.int _]) (ci := 8) O.1 (Mt_frameR _ (c_X8_marry l E o d i a cr (xs (6 * j + 1)) (xs (6 * j + 2)) r h.1.2.1.2 h.1.1.1 h.hal h.hfa h.2.2.2.1.2.2.2.2.1 h.2.2.2.1.2.2.1 h.1.2.2.2.2.1.2 (by omega))) dL_law_225 cbL_27 im_yX8_marry se_yX8_marry rfl LS_recvR rfl rfl (Nat.le_of_ble_eq_true rfl) ⟨Nat.le_of_ble_eq_true rfl, Nat.le_of_ble_eq_true rfl⟩ ⟨Nat.le_trans (by (try simp only [rmX]); omega) hB.1, Nat.le_trans (by (try simp only [rmX]); omega) hB.2⟩ (fun x2 => ?_)
  refine L_pure2 O (fun z1 z2 => ?_)
  refine L_end (pc := 228) O dL_law_228 (by decide) hp.1 ?_
  exact K _ _ _ _ _ _ _ _ _ _ _ _ _ _ rfl (hp.2.2.2 _ _ _ z1.1 z1.2 z2) (by omega) (by omega) (by (try simp only [rmX]); omega) (by (try simp only [rmX]); omega)
theorem law_die {l : Launch} {E : En} {b L : Nat} {xs : Nat → Int32} {J : Jt} (O : Okl l E b L xs J) {o j : Nat} (hj : 6 * j + 5 < L) (hL : L ≤ 3072) {adr : Nat → Nat → Nat} {V : VTt} {VL : VLt} {m ns : Nat} {ch : Nat → List Rt} {d : Nat → Nat} {i : Nat → Int32} {a : Ar} {cr : Nat → List Rt} {D r ce sl : Nat} (K : LK E b (adr 0 7) o j 817 J) (h : Rel D r m ns V VL ch i a cr) (h1 : 120 ≤ r) (h2 : r ≤ 120 * (j + 1)) (hce : ce ≤ cB r j) (hsl : sl ≤ sB r j) : J (Star (CV E adr V VL m ns ch) (RV E o d i a cr)) ce sl 233 (lvL b (adr 0 7) o j) [] := by
  have hB := LB (r := r) (j := j) (by omega) (by omega)
  obtain ⟨wd, hwd12, hwd⟩ := h.1.2.2.2.2.2.2.2.2
  have hwd1 : V 0 0 1 = nI wd := h.1.2.2.2.2.2.2.1.2.1.trans hwd
  have hsp1 : ∀ p, p < m → V 1 p 5 = -1 ∨ ∃ u, u < m ∧ V 1 p 5 = nI u := fun p hp => by
    rw [← h.2.1.1 p hp 5 (by decide)]
    rcases h.2.2.2.2.1 p hp with z | ⟨w, z1, z2, -⟩
    · exact Or.inl z
    · exact Or.inr ⟨w, z1, z2⟩
  have hsp2 : ∀ p, p < m → ¬ a 12 p = -1 → ∃ f, f < 60 ∧ a 12 p = nI f := fun p hp hn => by
    rcases h.2.2.2.2.1 p hp with z | ⟨w, z1, z2, -⟩
    · exact absurd z hn
    · exact ⟨w, by have := h.1.1.1; omega, z2⟩
  have hp := s_die h hwd12 (xs (6 * j + 1))
  have hN := hp.2.2.1
  have hcs := cs_le r (dyN i a cr m r wd (xs (6 * j + 1)))
  have hadd := cB_add (j := j) h1 hp.2.1
  have hN2 := hp.2.1
  refine x_aload_n (pc := 233) (v := .ref (adr 0 7)) O.1 dL_law_233 rfl rfl ?_
  refine L_arg (pc := 234) (k := 1) O hj hL (by omega) dL_law_234 dL_law_235 dL_law_236 dL_law_237 dL_law_238 ?_
  refine x_callV (pc := 239) (rest := []) (ci := 7) O.1 (Mt_frame _ (c_X7_die l E adr V VL m ns ch a (xs (6 * j + 1)) r wd h.1.2.1.1 h.1.1.1 (RP.ka h.2.1 h.2.2.2.1) h.2.2.2.1.2.2.1 (fun p hp => (h.2.2.2.1.2.2.2.1 p hp).1) h.2.2.2.1.2.2.2.2.1 h.hord (die_wok h wd) hsp1 hwd1 hwd12 h.1.2.2.2.2.1.1 (by omega))) dL_law_239 cbL_28 im_yX7_die se_yX7_die rfl LS_recv rfl rfl (Nat.le_of_ble_eq_true rfl) ⟨Nat.le_of_ble_eq_true rfl, Nat.le_of_ble_eq_true rfl⟩ ⟨Nat.le_trans (by (try simp only [rmX]); omega) hB.1, Nat.le_trans (by (try simp only [rmX]); omega) hB.2⟩ (fun x1 => ?_)
  refine x_aload_n (pc := 242) (v := .ref (o)) O.1 dL_law_242 rfl rfl ?_
  refine L_arg (pc := 243) (k := 1) O hj hL (by omega) dL_law_243 dL_law_244 dL_law_245 dL_law_246 dL_law_247 ?_
  refine x_callV (pc := 248) (rest := [.int _]) (ci := 8) O.1 (Mt_frameR _ (c_X8_die l E o d i a cr (xs (6 * j + 1)) r h.1.2.1.2 h.1.1.1 h.hal h.hfa h.2.2.2.1.2.2.2.2.1 h.2.2.2.1.2.2.1 hsp2 hwd hwd12 h.1.2.2.2.2.1.2 (by omega))) dL_law_248 cbL_32 im_yX8_die se_yX8_die rfl LS_recvR rfl rfl (Nat.le_of_ble_eq_true rfl) ⟨Nat.le_of_ble_eq_true rfl, Nat.le_of_ble_eq_true rfl⟩ ⟨Nat.le_trans (by (try simp only [rmX]); omega) hB.1, Nat.le_trans (by (try simp only [rmX]); omega) hB.2⟩ (fun x2 => ?_)
  refine L_pure2 O (fun z1 z2 => ?_)
  refine L_end (pc := 251) O dL_law_251 (by decide) hp.1 ?_
  exact K _ _ _ _ _ _ _ _ _ _ _ _ _ _ rfl (hp.2.2.2 _ _ _ z1.1 z1.2 z2) (by omega) (by omega) (by (try simp only [rmX]); omega) (by (try simp only [rmX]); omega)
theorem law_heir {l : Launch} {E : En} {b L : Nat} {xs : Nat → Int32} {J : Jt} (O : Okl l E b L xs J) {o j : Nat} (hj : 6 * j + 5 < L) (hL : L ≤ 3072) {adr : Nat → Nat → Nat} {V : VTt} {VL : VLt} {m ns : Nat} {ch : Nat → List Rt} {d : Nat → Nat} {i : Nat → Int32} {a : Ar} {cr : Nat → List Rt} {D r ce sl : Nat} (K : LK E b (adr 0 7) o j 817 J) (h : Rel D r m ns V VL ch i a cr) (h1 : 120 ≤ r) (h2 : r ≤ 120 * (j + 1)) (hce : ce ≤ cB r j) (hsl : sl ≤ sB r j) : J (Star (CV E adr V VL m ns ch) (RV E o d i a cr)) ce sl 695 (lvL b (adr 0 7) o j) [] := by
  have hB := LB (r := r) (j := j) (by omega) (by omega)
  have hB2 := cB_up r j
  have hiff : (isPc m (xs (6 * j + 1)) ∧ 0 ≤ xs (6 * j + 2) ∧ xs (6 * j + 2) ≤ 39) ↔ (isP i (xs (6 * j + 1)) ∧ 0 ≤ xs (6 * j + 2) ∧ xs (6 * j + 2) ≤ 39) := by
    unfold isPc isP
    rw [h.1.2.1.2]
  refine x_aload_n (pc := 695) (v := .ref (adr 0 7)) O.1 dL_law_695 rfl rfl ?_
  refine L_arg (pc := 696) (k := 1) O hj hL (by omega) dL_law_696 dL_law_697 dL_law_698 dL_law_699 dL_law_700 ?_
  refine L_arg (pc := 701) (k := 2) O hj hL (by omega) dL_law_701 dL_law_702 dL_law_703 dL_law_704 dL_law_705 ?_
  refine x_callV (pc := 706) (rest := []) (ci := 7) O.1 (Mt_frame _ (c_X7_heir2 l E adr V VL m ns ch a (xs (6 * j + 1)) (xs (6 * j + 2)) h.1.2.1.1 h.1.1.1 (RP.ka h.2.1 h.2.2.2.1) h.2.2.2.1.2.2.1 (fun p hp => (h.2.2.2.1.2.2.2.1 p hp).1) h.2.2.2.1.2.2.2.2.1 h.hord)) dL_law_706 cbL_82 im_yX7_heir se_yX7_heir rfl LS_recv rfl rfl (Nat.le_of_ble_eq_true rfl) ⟨Nat.le_of_ble_eq_true rfl, Nat.le_of_ble_eq_true rfl⟩ ⟨Nat.le_trans (by (try simp only [rmX]); omega) hB.1, Nat.le_trans (by (try simp only [rmX]); omega) hB.2⟩ (fun x1 => ?_)
  refine x_aload_n (pc := 709) (v := .ref (o)) O.1 dL_law_709 rfl rfl ?_
  refine L_arg (pc := 710) (k := 1) O hj hL (by omega) dL_law_710 dL_law_711 dL_law_712 dL_law_713 dL_law_714 ?_
  refine L_arg (pc := 715) (k := 2) O hj hL (by omega) dL_law_715 dL_law_716 dL_law_717 dL_law_718 dL_law_719 ?_
  refine x_callV (pc := 720) (rest := [.int _]) (ci := 8) O.1 (Mt_frameR _ (c_X8_heir l E o d i a cr (xs (6 * j + 1)) (xs (6 * j + 2)) h.1.2.1.2 h.1.1.1 h.hal h.hfa h.2.2.2.1.2.2.2.2.1)) dL_law_720 cbL_85 im_yX8_heir se_yX8_heir rfl LS_recvR rfl rfl (Nat.le_of_ble_eq_true rfl) ⟨Nat.le_of_ble_eq_true rfl, Nat.le_of_ble_eq_true rfl⟩ ⟨Nat.le_trans (by (try simp only [rmX]); omega) hB.1, Nat.le_trans (by (try simp only [rmX]); omega) hB.2⟩ (fun x2 => ?_)
  refine L_pure2 O (fun z1 z2 => ?_)
  refine L_end (pc := 723) O dL_law_723 (by decide) (by
                                                     rw [h.1.2.2.2.2.2.2.1.1]
                                                     by_cases c9 : isPc m (xs (6 * j + 1)) ∧ 0 ≤ xs (6 * j + 2) ∧ xs (6 * j + 2) ≤ 39
                                                     · rw [if_pos c9, if_pos (hiff.mp c9)]
                                                     · rw [if_neg c9, if_neg (fun z => c9 (hiff.mpr z))]) ?_
  exact K _ _ _ _ _ _ _ _ _ _ _ _ _ _ rfl (h.scr z1.1 (by rw [z1.2]; exact h.1.2.2.2.2.1.1) (fun k hk => z2.1 k (by omega) (by omega) (by omega)) z2.2) h1 (by omega) (by (try simp only [rmX]); omega) (by (try simp only [rmX]); omega)
