/-! ===== THE LAW 1: its cases ===== -/
theorem LB {r j : Nat} (hr : r ≤ 61560) (hj : j ≤ 513) : cB r j + 20000 ≤ room_1.cells ∧ sB r j + 2000000 ≤ room_1.slots := by
  have c := cost_le 120 (k := r - 120) (t := 61440) (by omega)
  have c2 : ccost 120 61440 ≤ 1100 ∧ scost 120 61440 ≤ 1000000 := by decide +kernel
  unfold cB sB
  show _ ≤ 600000 ∧ _ ≤ 7302250
  omega
theorem cB_up (r j : Nat) : cB r j + 2 = cB r (j + 1) ∧ sB r j + 14 = sB r (j + 1) := by
  unfold cB sB
  omega
theorem L_end {l : Launch} {E : En} {b L : Nat} {xs : Nat → Int32} {J : Jt} (O : Okl l E b L xs J) {pc : Nat} {off : Int} {v1 v2 : Int32} {P : HP} {ce sl : Nat} {lv : LV} (d : decode cL_law pc = .ok (.if_icmp .eq off, 3)) (ht : (pc : Int) + off = (817 : Int)) (hv : v1 = v2) (kk : J P ce sl 817 lv []) : J P ce sl pc lv [.int v2, .int v1] :=
  x_icmp_eq (st := []) O.1 817 d ht (fun _ => kk) (fun z => absurd hv z)
theorem law_custom {l : Launch} {E : En} {b L : Nat} {xs : Nat → Int32} {J : Jt} (O : Okl l E b L xs J) {o j : Nat} (hj : 6 * j + 5 < L) (hL : L ≤ 3072) {adr : Nat → Nat → Nat} {V : VTt} {VL : VLt} {m ns : Nat} {ch : Nat → List Rt} {d : Nat → Nat} {i : Nat → Int32} {a : Ar} {cr : Nat → List Rt} {D r ce sl : Nat} (K : LK E b (adr 0 7) o j 817 J) (h : Rel D r m ns V VL ch i a cr) (h1 : 120 ≤ r) (h2 : r ≤ 120 * (j + 1)) (hce : ce ≤ cB r j) (hsl : sl ≤ sB r j) : J (Star (CV E adr V VL m ns ch) (RV E o d i a cr)) ce sl 124 (lvL b (adr 0 7) o j) [] := by
  have hB := LB (r := r) (j := j) (by omega) (by omega)
  have hB2 := cB_up r j
  refine x_aload_n (pc := 124) (v := .ref (adr 0 7)) O.1 dL_law_124 rfl rfl ?_
  refine L_arg (pc := 125) (k := 1) O hj hL (by omega) dL_law_125 dL_law_126 dL_law_127 dL_law_128 dL_law_129 ?_
  refine L_arg (pc := 130) (k := 2) O hj hL (by omega) dL_law_130 dL_law_131 dL_law_132 dL_law_133 dL_law_134 ?_
  refine x_callV (pc := 135) (rest := []) (ci := 7) O.1 (Mt_frame _ (c_X7_custom l E adr V VL m ns ch (xs (6 * j + 1)) (xs (6 * j + 2)))) dL_law_135 cbL_13 im_yX7_custom se_yX7_custom rfl LS_recv rfl rfl (Nat.le_of_ble_eq_true rfl) ⟨Nat.le_of_ble_eq_true rfl, Nat.le_of_ble_eq_true rfl⟩ ⟨Nat.le_trans (by (try simp only [rmX]); omega) hB.1, Nat.le_trans (by (try simp only [rmX]); omega) hB.2⟩ (fun x1 => ?_)
  refine x_aload_n (pc := 138) (v := .ref (o)) O.1 dL_law_138 rfl rfl ?_
  refine L_arg (pc := 139) (k := 1) O hj hL (by omega) dL_law_139 dL_law_140 dL_law_141 dL_law_142 dL_law_143 ?_
  refine L_arg (pc := 144) (k := 2) O hj hL (by omega) dL_law_144 dL_law_145 dL_law_146 dL_law_147 dL_law_148 ?_
  refine x_callV (pc := 149) (rest := [.int _]) (ci := 8) O.1 (Mt_frameR _ (c_X8_custom l E o d i a cr (xs (6 * j + 1)) (xs (6 * j + 2)))) dL_law_149 cbL_17 im_yX8_custom se_yX8_custom rfl LS_recvR rfl rfl (Nat.le_of_ble_eq_true rfl) ⟨Nat.le_of_ble_eq_true rfl, Nat.le_of_ble_eq_true rfl⟩ ⟨Nat.le_trans (by (try simp only [rmX]); omega) hB.1, Nat.le_trans (by (try simp only [rmX]); omega) hB.2⟩ (fun x2 => ?_)
  by_cases hb : cuBad (xs (6 * j + 1)) (xs (6 * j + 2))
  · refine L_end (pc := 152) O dL_law_152 (by decide) (by rw [if_pos hb, if_pos hb]) ?_
    simp only [if_pos hb]
    exact K _ _ _ _ _ _ _ _ _ _ _ _ _ _ rfl h h1 (by omega) (by (try simp only [rmX]); omega) (by (try simp only [rmX]); omega)
  · refine L_end (pc := 152) O dL_law_152 (by decide) (by rw [if_neg hb, if_neg hb, h.1.2.2.2.2.2.1.1]) ?_
    simp only [if_neg hb]
    exact K _ _ _ _ _ _ _ _ _ _ _ _ _ _ (up0_ne _ _ (by decide)) (s_custom h _ _ hb) h1 (by omega) (by (try simp only [rmX]); omega) (by (try simp only [rmX]); omega)
