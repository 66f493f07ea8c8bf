/-! ===== REF 6: group, first ===== -/
def rowput (a : Ar) (u : Nat) (g : List Nat) : Ar := fun k => if k = 39 then (fun j => if u ≤ j ∧ j < u + g.length then nI (g.getD (j - u) 0) else a 39 j) else a k
theorem rowput_ne (a : Ar) (u : Nat) (g : List Nat) {k : Nat} (h : k ≠ 39) : rowput a u g k = a k := by simp [rowput, h]
theorem rowput_nil (a : Ar) (u : Nat) : rowput a u [] = a := by
  funext k j
  by_cases h : k = 39
  · subst h
    simp [rowput]
    omega
  · simp [rowput, h]
theorem rowput_get (a : Ar) (u : Nat) (g : List Nat) {t : Nat} (h : t < g.length) : rowput a u g 39 (u + t) = nI (g.getD t 0) := by
  simp only [rowput, if_true]
  rw [if_pos ⟨by omega, by omega⟩]
  congr 2
  omega
theorem rowput_out (a : Ar) (u : Nat) (g : List Nat) {j : Nat} (h : j < u) : rowput a u g 39 j = a 39 j := by
  simp only [rowput, if_true]
  rw [if_neg (by omega)]
theorem rowput_app (a : Ar) (u : Nat) (g : List Nat) (c : Nat) : up2 (rowput a u g) 39 (u + g.length) (nI c) = rowput a u (g ++ [c]) := by
  funext k j
  by_cases h : k = 39
  · subst h
    rw [up2_eq]
    by_cases hj : j = u + g.length
    · subst hj
      rw [upd_eq]
      simp [rowput, List.getD]
    · rw [upd_ne _ _ hj]
      simp only [rowput, if_true, List.length_append, List.length_singleton]
      by_cases h2 : u ≤ j ∧ j < u + g.length
      · rw [if_pos h2, if_pos (by omega)]
        simp only [List.getD]
        rw [List.getElem?_append_left (by omega)]
      · rw [if_neg h2, if_neg (by omega)]
  · rw [up2_ne _ _ _ h, rowput_ne _ _ _ h, rowput_ne _ _ _ h]
theorem upd_id {i : Nat → Int32} {k : Nat} {v : Int32} (h : i k = v) : upd i k v = i := by
  funext j
  by_cases e : j = k
  · subst e; rw [upd_eq, h]
  · rw [upd_ne _ _ e]
theorem upd_upd (i : Nat → Int32) (k : Nat) (v x : Int32) : upd (upd i k v) k x = upd i k x := by
  funext j
  by_cases e : j = k
  · subst e; rw [upd_eq, upd_eq]
  · rw [upd_ne _ _ e, upd_ne _ _ e, upd_ne _ _ e]
theorem nI_nm1 {c : Nat} (h : c < 2 ^ 31) : ¬ nI c = -1 := fun e => by
  have h1 := nI_pos h
  rw [e] at h1
  exact h1 (by decide)
theorem hd1_m1 {l : List Nat} (h : ∀ x ∈ l, x < 2 ^ 31) : hd1 l = -1 ↔ l = [] := by
  cases l with
  | nil => simp [hd1]
  | cons x r => simp only [hd1, List.cons_ne_nil, iff_false]; exact nI_nm1 (h x List.mem_cons_self)
def gst (i : Nat → Int32) (a : Ar) (u : Nat) (K : List Nat) (s : Int32) (I : Nat → Int32) (A : Ar) : Prop :=
  (s = 0 ∧ i 0 < 2 → I = i ∧ A = a) ∧ (¬ (s = 0 ∧ i 0 < 2) → I = upd i 40 (nI (u + K.length)) ∧ A = rowput a u K)
theorem gst_A {i : Nat → Int32} {a : Ar} {u : Nat} {K : List Nat} {s : Int32} {I : Nat → Int32} {A : Ar} (h : gst i a u K s I A) : (∀ k, k ≠ 39 → A k = a k) ∧ ∀ k, k ≠ 40 → I k = i k := by
  by_cases c : s = 0 ∧ i 0 < 2
  · obtain ⟨h1, h2⟩ := h.1 c
    subst h1; subst h2
    exact ⟨fun _ _ => rfl, fun _ _ => rfl⟩
  · obtain ⟨h1, h2⟩ := h.2 c
    subst h1; subst h2
    exact ⟨fun k hk => rowput_ne _ _ _ hk, fun k hk => upd_ne _ _ hk⟩
theorem gst_keep {i : Nat → Int32} {a : Ar} {u : Nat} {K K' : List Nat} {s : Int32} {I : Nat → Int32} {A : Ar} (h : gst i a u K s I A) (c : s = 0 ∧ i 0 < 2) : gst i a u K' s I A := ⟨fun _ => h.1 c, fun q => absurd c q⟩
theorem gst_put {i : Nat → Int32} {a : Ar} {u x : Nat} {K : List Nat} {s : Int32} {I : Nat → Int32} {A : Ar} (h : gst i a u K s I A) (c : ¬ (s = 0 ∧ i 0 < 2)) : I 40 = nI (u + K.length) ∧ gst i a u (K ++ [x]) s (upd I 40 (I 40 + 1)) (up2 A 39 (u + K.length) (nI x)) := by
  obtain ⟨h1, h2⟩ := h.2 c
  subst h1; subst h2
  refine ⟨upd_eq _ _ _, fun q => absurd q c, fun _ => ⟨?_, rowput_app _ _ _ _⟩⟩
  rw [upd_eq, upd_upd, show nI (u + K.length) + 1 = nI (u + K.length + 1) from (nI_succ _).symm]
  simp [Nat.add_assoc]
set_option maxRecDepth 100000 in
set_option maxHeartbeats 4000000 in
theorem c_X8_group (l : Launch) (E : En) (o : Nat) (d : Nat → Nat) (i : Nat → Int32) (a : Nat → Nat → Int32) (ch : Nat → List Rt) (of : Nat) (but : Int32) {m : Nat} (hm : i 22 = nI m) (h60 : m ≤ 60) {u : Nat} (hu : i 40 = nI u) (hu2 : u + 60 ≤ 3720) : Mt l E yX8_group cX8_group 8 (some .int) (rmX 1 22 0 0) [.ref o, .int (nI of), .int but] (RV E o d i a ch) (fun _ : Unit => some (.int (nI (grp a (lnB a) m (i 0) of but).length))) (fun _ => RV E o d (upd i 40 (nI (u + (grp a (lnB a) m (i 0) of but).length))) (rowput a u (grp a (lnB a) m (i 0) of but)) ch) := by
  refine Mt_of (by decide +kernel) (Nat.le_of_ble_eq_true rfl) (fun J O => ?_)
  show J _ 0 0 0 [some (.ref o), some (.int (nI of)), some (.int but), none, none, none, none, none] []
  have hgl := grp_len (a := a) (ln := lnB a) (ord := i 0) (of := of) (but := but) h60
  have inner : ∀ s, (∀ I A e y, gst i a u (kids a (lnB a) of but s m) s I A → e = hd1 (kids a (lnB a) of but s m) → y = la1 (kids a (lnB a) of but s m) → J (RV E o d I A ch) 0 0 138 [some (.ref o), some (.int (nI of)), some (.int but), some (.int (nI u)), some (.int (s)), some (.int (e)), some (.int (y)), none] []) → ∀ c, c ≤ m → ∀ I A e y, gst i a u (kids a (lnB a) of but s c) s I A → e = hd1 (kids a (lnB a) of but s c) → y = la1 (kids a (lnB a) of but s c) → J (RV E o d I A ch) 0 0 31 [some (.ref o), some (.int (nI of)), some (.int but), some (.int (nI u)), some (.int (s)), some (.int (e)), some (.int (y)), some (.int (nI c))] [] := by
    intro s kk
    refine up_ind (Φ := fun c => ∀ I A e y, gst i a u (kids a (lnB a) of but s c) s I A → e = hd1 (kids a (lnB a) of but s c) → y = la1 (kids a (lnB a) of but s c) → J (RV E o d I A ch) 0 0 31 [some (.ref o), some (.int (nI of)), some (.int but), some (.int (nI u)), some (.int (s)), some (.int (e)), some (.int (y)), some (.int (nI c))] []) m (fun c hc ih I A e y hst he hy => ?_)
    have hA := (gst_A hst).1
    have hI := (gst_A hst).2
    have hA9 : A 9 c = a 9 c := by rw [hA 9 (by decide)]
    have hA21 : A 21 c = a 21 c := by rw [hA 21 (by decide)]
    have hA10 : A 10 c = a 10 c := by rw [hA 10 (by decide)]
    have hA11 : A 11 c = a 11 c := by rw [hA 11 (by decide)]
    have hI22 : I 22 = nI m := by rw [hI 22 (by decide)]; exact hm
    have hI0 : I 0 = i 0 := hI 0 (by decide)
    refine x_iload (pc := 31) O dX8_group_31 rfl ?_
    refine x_aload_n (pc := 33) O dX8_group_33 rfl rfl ?_
    refine v_get (pc := 34) O dX8_group_34 fdX8_99 rfl rfl ?_
    refine x_icmp_ge (pc := 37) O 138 dX8_group_37 (by decide) (fun c37 => ?_) (fun c37 => ?_)
    · have hc2 : c = m := by
        rw [hI22, nI_leI (by omega) (by omega)] at c37
        omega
      subst hc2
      refine x_lv O [some (.ref o), some (.int (nI of)), some (.int but), some (.int (nI u)), some (.int (s)), some (.int (e)), some (.int (y)), none] ⟨rfl, rfl, rfl, rfl, rfl, rfl, rfl, trivial⟩ ?_
      exact kk I A e y hst he hy
    · have hc3 : c < m := by
        rw [hI22, nI_leI (by omega) (by omega)] at c37
        omega
      refine x_iload (pc := 40) O dX8_group_40 rfl ?_
      refine x_iload_n (pc := 42) O dX8_group_42 rfl ?_
      refine x_icmp_eq (pc := 43) O 132 dX8_group_43 (by decide) (fun c43 => ?_) (fun c43 => ?_)
      · refine x_iinc (v := nI (c + 1)) (pc := 132) O dX8_group_132 rfl (nI_succ c).symm rfl ?_
        refine x_goto (pc := 135) O 31 dX8_group_135 (by decide) ?_
        have hK := kids_f (a := a) (ln := lnB a) (of := of) (but := but) (s := s) (m := c) (fun z => z.1 c43)
        exact ih (by omega) I A e y (by rw [hK]; exact hst) (by rw [hK]; exact he) (by rw [hK]; exact hy)
      · refine x_aload_n (pc := 46) O dX8_group_46 rfl rfl ?_
        refine v_get (pc := 47) O dX8_group_47 fdX8_9 rfl rfl ?_
        refine x_iload (pc := 50) O dX8_group_50 rfl ?_
        refine v_ald (k := 9) (pc := 52) O dX8_group_52 rfl rfl rfl rfl (by show _ < 60; omega) ?_
        refine x_iload (pc := 53) O dX8_group_53 rfl ?_
        refine x_icmp_ne (pc := 55) O 132 dX8_group_55 (by decide) (fun c55 => ?_) (fun c55 => ?_)
        · refine x_iinc (v := nI (c + 1)) (pc := 132) O dX8_group_132 rfl (nI_succ c).symm rfl ?_
          refine x_goto (pc := 135) O 31 dX8_group_135 (by decide) ?_
          have hK := kids_f (a := a) (ln := lnB a) (of := of) (but := but) (s := s) (m := c) (fun z => c55 (by rw [hA9]; exact z.2.1))
          exact ih (by omega) I A e y (by rw [hK]; exact hst) (by rw [hK]; exact he) (by rw [hK]; exact hy)
        · refine x_aload_n (pc := 58) O dX8_group_58 rfl rfl ?_
          refine v_get (pc := 59) O dX8_group_59 fdX8_47 rfl rfl ?_
          refine x_iload (pc := 62) O dX8_group_62 rfl ?_
          refine v_zld (k := 21) (pc := 64) O dX8_group_64 rfl rfl (by omega) ?_
          refine x_if_eq (pc := 65) O 132 dX8_group_65 (by decide) (fun c65 => ?_) (fun c65 => ?_)
          · refine x_iinc (v := nI (c + 1)) (pc := 132) O dX8_group_132 rfl (nI_succ c).symm rfl ?_
            refine x_goto (pc := 135) O 31 dX8_group_135 (by decide) ?_
            have hK := kids_f (a := a) (ln := lnB a) (of := of) (but := but) (s := s) (m := c) (fun z => by have z3 := z.2.2.1; simp only [lnB, decide_eq_true_eq] at z3; exact z3 (by rw [← hA21]; exact c65))
            exact ih (by omega) I A e y (by rw [hK]; exact hst) (by rw [hK]; exact he) (by rw [hK]; exact hy)
          · refine x_aload_n (pc := 68) O dX8_group_68 rfl rfl ?_
            refine x_iload (pc := 69) O dX8_group_69 rfl ?_
            refine x_iload_n (pc := 71) O dX8_group_71 rfl ?_
            refine x_callV (pc := 72) (rest := _) (ci := 8) O (c_X8_isChild l E _ _ _ _ _ _ _ (by omega)) dX8_group_72 cbX8_154 im_yX8_isChild se_yX8_isChild rfl v_recv rfl rfl (Nat.le_of_ble_eq_true rfl) ⟨Nat.le_of_ble_eq_true rfl, Nat.le_of_ble_eq_true rfl⟩ ⟨Nat.le_of_ble_eq_true rfl, Nat.le_of_ble_eq_true rfl⟩ (fun _ => ?_)
            dsimp only [Option.toList, List.append, List.nil_append, List.cons_append, Nat.add_zero, Nat.reduceAdd]
            refine x_if_ne (pc := 75) O 81 dX8_group_75 (by decide) (fun c75 => ?_) (fun c75 => ?_)
            · refine x_iload (pc := 81) O dX8_group_81 rfl ?_
              refine x_iconst (v := (-1)) (pc := 83) O dX8_group_83 (by decide) ?_
              refine x_icmp_ne (pc := 84) O 91 dX8_group_84 (by decide) (fun c84 => ?_) (fun c84 => ?_)
              · refine x_iload (pc := 91) O dX8_group_91 rfl ?_
                refine x_istore (pc := 93) O dX8_group_93 (by decide) rfl ?_
                refine x_iload (pc := 95) O dX8_group_95 rfl ?_
                refine x_if_ne (pc := 97) O 111 dX8_group_97 (by decide) (fun c97 => ?_) (fun c97 => ?_)
                · have hput := gst_put (x := c) hst (fun z => c97 z.1)
                  refine x_aload_n (pc := 111) O dX8_group_111 rfl rfl ?_
                  refine v_get (pc := 112) O dX8_group_112 fdX8_89 rfl rfl ?_
                  refine x_aload_n (pc := 115) O dX8_group_115 rfl rfl ?_
                  refine v_get (pc := 116) O dX8_group_116 fdX8_158 rfl rfl ?_
                  refine x_iload (pc := 119) O dX8_group_119 rfl ?_
                  refine v_ast (k := 39) (pc := 121) O dX8_group_121 rfl rfl rfl hput.1 (by show _ < 3720; have := kids_len (a := a) (ln := lnB a) (of := of) (but := but) (s := s) (m := c); omega) ?_
                  refine x_aload_n (pc := 122) O dX8_group_122 rfl rfl ?_
                  refine x_dup (pc := 123) O dX8_group_123 rfl ?_
                  refine v_get (pc := 124) O dX8_group_124 fdX8_158 rfl rfl ?_
                  refine x_iconst (v := 1) (pc := 127) O dX8_group_127 (by decide) ?_
                  refine x_iadd (pc := 128) O dX8_group_128 ?_
                  refine v_put (pc := 129) O dX8_group_129 fpX8_158 rfl rfl ?_
                  refine x_iinc (v := nI (c + 1)) (pc := 132) O dX8_group_132 rfl (nI_succ c).symm rfl ?_
                  refine x_goto (pc := 135) O 31 dX8_group_135 (by decide) ?_
                  have hKp : kidP a (lnB a) of but s c := ⟨c43, by rw [← hA9]; exact c55, by simp only [lnB, decide_eq_true_eq]; rw [← hA21]; exact c65, by have z := b2i_n0 c75; rw [hA10, hA11] at z; exact z⟩
                  have hK := kids_t hKp
                  exact ih (by omega) _ _ _ _ (by rw [hK]; exact hput.2) (by rw [hK, hd1_app, if_neg (fun z => c84 (by rw [he, z]; rfl))]; exact he) (by rw [hK, la1_app])
                · refine x_aload_n (pc := 100) O dX8_group_100 rfl rfl ?_
                  refine v_get (pc := 101) O dX8_group_101 fdX8_130 rfl rfl ?_
                  refine x_iconst (v := 2) (pc := 104) O dX8_group_104 (by decide) ?_
                  refine x_icmp_ge (pc := 105) O 111 dX8_group_105 (by decide) (fun c105 => ?_) (fun c105 => ?_)
                  · have hput := gst_put (x := c) hst (fun z => (Int32.not_lt.mpr c105) (by rw [hI0]; exact z.2))
                    refine x_aload_n (pc := 111) O dX8_group_111 rfl rfl ?_
                    refine v_get (pc := 112) O dX8_group_112 fdX8_89 rfl rfl ?_
                    refine x_aload_n (pc := 115) O dX8_group_115 rfl rfl ?_
                    refine v_get (pc := 116) O dX8_group_116 fdX8_158 rfl rfl ?_
                    refine x_iload (pc := 119) O dX8_group_119 rfl ?_
                    refine v_ast (k := 39) (pc := 121) O dX8_group_121 rfl rfl rfl hput.1 (by show _ < 3720; have := kids_len (a := a) (ln := lnB a) (of := of) (but := but) (s := s) (m := c); omega) ?_
                    refine x_aload_n (pc := 122) O dX8_group_122 rfl rfl ?_
                    refine x_dup (pc := 123) O dX8_group_123 rfl ?_
                    refine v_get (pc := 124) O dX8_group_124 fdX8_158 rfl rfl ?_
                    refine x_iconst (v := 1) (pc := 127) O dX8_group_127 (by decide) ?_
                    refine x_iadd (pc := 128) O dX8_group_128 ?_
                    refine v_put (pc := 129) O dX8_group_129 fpX8_158 rfl rfl ?_
                    refine x_iinc (v := nI (c + 1)) (pc := 132) O dX8_group_132 rfl (nI_succ c).symm rfl ?_
                    refine x_goto (pc := 135) O 31 dX8_group_135 (by decide) ?_
                    have hKp : kidP a (lnB a) of but s c := ⟨c43, by rw [← hA9]; exact c55, by simp only [lnB, decide_eq_true_eq]; rw [← hA21]; exact c65, by have z := b2i_n0 c75; rw [hA10, hA11] at z; exact z⟩
                    have hK := kids_t hKp
                    exact ih (by omega) _ _ _ _ (by rw [hK]; exact hput.2) (by rw [hK, hd1_app, if_neg (fun z => c84 (by rw [he, z]; rfl))]; exact he) (by rw [hK, la1_app])
                  · refine x_goto (pc := 108) O 132 dX8_group_108 (by decide) ?_
                    refine x_iinc (v := nI (c + 1)) (pc := 132) O dX8_group_132 rfl (nI_succ c).symm rfl ?_
                    refine x_goto (pc := 135) O 31 dX8_group_135 (by decide) ?_
                    have hKp : kidP a (lnB a) of but s c := ⟨c43, by rw [← hA9]; exact c55, by simp only [lnB, decide_eq_true_eq]; rw [← hA21]; exact c65, by have z := b2i_n0 c75; rw [hA10, hA11] at z; exact z⟩
                    have hK := kids_t hKp
                    exact ih (by omega) I A _ _ (gst_keep hst ⟨c97, by rw [← hI0]; exact Int32.not_le.mp c105⟩) (by rw [hK, hd1_app, if_neg (fun z => c84 (by rw [he, z]; rfl))]; exact he) (by rw [hK, la1_app])
              · refine x_iload (pc := 87) O dX8_group_87 rfl ?_
                refine x_istore (pc := 89) O dX8_group_89 (by decide) rfl ?_
                refine x_iload (pc := 91) O dX8_group_91 rfl ?_
                refine x_istore (pc := 93) O dX8_group_93 (by decide) rfl ?_
                refine x_iload (pc := 95) O dX8_group_95 rfl ?_
                refine x_if_ne (pc := 97) O 111 dX8_group_97 (by decide) (fun c97 => ?_) (fun c97 => ?_)
                · have hput := gst_put (x := c) hst (fun z => c97 z.1)
                  refine x_aload_n (pc := 111) O dX8_group_111 rfl rfl ?_
                  refine v_get (pc := 112) O dX8_group_112 fdX8_89 rfl rfl ?_
                  refine x_aload_n (pc := 115) O dX8_group_115 rfl rfl ?_
                  refine v_get (pc := 116) O dX8_group_116 fdX8_158 rfl rfl ?_
                  refine x_iload (pc := 119) O dX8_group_119 rfl ?_
                  refine v_ast (k := 39) (pc := 121) O dX8_group_121 rfl rfl rfl hput.1 (by show _ < 3720; have := kids_len (a := a) (ln := lnB a) (of := of) (but := but) (s := s) (m := c); omega) ?_
                  refine x_aload_n (pc := 122) O dX8_group_122 rfl rfl ?_
                  refine x_dup (pc := 123) O dX8_group_123 rfl ?_
                  refine v_get (pc := 124) O dX8_group_124 fdX8_158 rfl rfl ?_
                  refine x_iconst (v := 1) (pc := 127) O dX8_group_127 (by decide) ?_
                  refine x_iadd (pc := 128) O dX8_group_128 ?_
                  refine v_put (pc := 129) O dX8_group_129 fpX8_158 rfl rfl ?_
                  refine x_iinc (v := nI (c + 1)) (pc := 132) O dX8_group_132 rfl (nI_succ c).symm rfl ?_
                  refine x_goto (pc := 135) O 31 dX8_group_135 (by decide) ?_
                  have hKp : kidP a (lnB a) of but s c := ⟨c43, by rw [← hA9]; exact c55, by simp only [lnB, decide_eq_true_eq]; rw [← hA21]; exact c65, by have z := b2i_n0 c75; rw [hA10, hA11] at z; exact z⟩
                  have hK := kids_t hKp
                  exact ih (by omega) _ _ _ _ (by rw [hK]; exact hput.2) (by rw [hK, hd1_app, if_pos ((hd1_m1 (fun x hx => by have := (kids_mem.mp hx).1; omega)).mp (by rw [← he]; exact c84))]) (by rw [hK, la1_app])
                · refine x_aload_n (pc := 100) O dX8_group_100 rfl rfl ?_
                  refine v_get (pc := 101) O dX8_group_101 fdX8_130 rfl rfl ?_
                  refine x_iconst (v := 2) (pc := 104) O dX8_group_104 (by decide) ?_
                  refine x_icmp_ge (pc := 105) O 111 dX8_group_105 (by decide) (fun c105 => ?_) (fun c105 => ?_)
                  · have hput := gst_put (x := c) hst (fun z => (Int32.not_lt.mpr c105) (by rw [hI0]; exact z.2))
                    refine x_aload_n (pc := 111) O dX8_group_111 rfl rfl ?_
                    refine v_get (pc := 112) O dX8_group_112 fdX8_89 rfl rfl ?_
                    refine x_aload_n (pc := 115) O dX8_group_115 rfl rfl ?_
                    refine v_get (pc := 116) O dX8_group_116 fdX8_158 rfl rfl ?_
                    refine x_iload (pc := 119) O dX8_group_119 rfl ?_
                    refine v_ast (k := 39) (pc := 121) O dX8_group_121 rfl rfl rfl hput.1 (by show _ < 3720; have := kids_len (a := a) (ln := lnB a) (of := of) (but := but) (s := s) (m := c); omega) ?_
                    refine x_aload_n (pc := 122) O dX8_group_122 rfl rfl ?_
                    refine x_dup (pc := 123) O dX8_group_123 rfl ?_
                    refine v_get (pc := 124) O dX8_group_124 fdX8_158 rfl rfl ?_
                    refine x_iconst (v := 1) (pc := 127) O dX8_group_127 (by decide) ?_
                    refine x_iadd (pc := 128) O dX8_group_128 ?_
                    refine v_put (pc := 129) O dX8_group_129 fpX8_158 rfl rfl ?_
                    refine x_iinc (v := nI (c + 1)) (pc := 132) O dX8_group_132 rfl (nI_succ c).symm rfl ?_
                    refine x_goto (pc := 135) O 31 dX8_group_135 (by decide) ?_
                    have hKp : kidP a (lnB a) of but s c := ⟨c43, by rw [← hA9]; exact c55, by simp only [lnB, decide_eq_true_eq]; rw [← hA21]; exact c65, by have z := b2i_n0 c75; rw [hA10, hA11] at z; exact z⟩
                    have hK := kids_t hKp
                    exact ih (by omega) _ _ _ _ (by rw [hK]; exact hput.2) (by rw [hK, hd1_app, if_pos ((hd1_m1 (fun x hx => by have := (kids_mem.mp hx).1; omega)).mp (by rw [← he]; exact c84))]) (by rw [hK, la1_app])
                  · refine x_goto (pc := 108) O 132 dX8_group_108 (by decide) ?_
                    refine x_iinc (v := nI (c + 1)) (pc := 132) O dX8_group_132 rfl (nI_succ c).symm rfl ?_
                    refine x_goto (pc := 135) O 31 dX8_group_135 (by decide) ?_
                    have hKp : kidP a (lnB a) of but s c := ⟨c43, by rw [← hA9]; exact c55, by simp only [lnB, decide_eq_true_eq]; rw [← hA21]; exact c65, by have z := b2i_n0 c75; rw [hA10, hA11] at z; exact z⟩
                    have hK := kids_t hKp
                    exact ih (by omega) I A _ _ (gst_keep hst ⟨c97, by rw [← hI0]; exact Int32.not_le.mp c105⟩) (by rw [hK, hd1_app, if_pos ((hd1_m1 (fun x hx => by have := (kids_mem.mp hx).1; omega)).mp (by rw [← he]; exact c84))]) (by rw [hK, la1_app])
            · refine x_goto (pc := 78) O 132 dX8_group_78 (by decide) ?_
              refine x_iinc (v := nI (c + 1)) (pc := 132) O dX8_group_132 rfl (nI_succ c).symm rfl ?_
              refine x_goto (pc := 135) O 31 dX8_group_135 (by decide) ?_
              have hK := kids_f (a := a) (ln := lnB a) (of := of) (but := but) (s := s) (m := c) (fun z => b2i_z c75 (by rw [hA10, hA11]; exact z.2.2.2))
              exact ih (by omega) I A e y (by rw [hK]; exact hst) (by rw [hK]; exact he) (by rw [hK]; exact hy)
  have fin : ∀ I A, I = upd i 40 (nI (u + (grp a (lnB a) m (i 0) of but).length)) → A = rowput a u (grp a (lnB a) m (i 0) of but) → ∀ s, J (RV E o d I A ch) 0 0 196 [some (.ref o), some (.int (nI of)), some (.int but), some (.int (nI u)), some (.int (s)), none, none, none] [] := by
    intro I A hI hA s
    refine x_aload_n (pc := 196) O dX8_group_196 rfl rfl ?_
    refine v_get (pc := 197) O dX8_group_197 fdX8_158 rfl rfl ?_
    refine x_iload_n (pc := 200) O dX8_group_200 rfl ?_
    refine x_isub (pc := 201) O dX8_group_201 ?_
    exact x_ret (v := some (.int _)) (pc := 202) O dX8_group_202 rfl (rfl) ⟨Nat.le_refl _, Nat.le_refl _, (), congrArg (fun z => some (Value.int z)) (by rw [hI, upd_eq, pk_sub (by omega)]; congr 1; omega), fun h hh => by rw [← hI, ← hA]; exact hh⟩
  have out2 : ∀ I A, I = upd i 40 (nI (u + (grp a (lnB a) m (i 0) of but).length)) → A = rowput a u (grp a (lnB a) m (i 0) of but) → J (RV E o d I A ch) 0 0 8 [some (.ref o), some (.int (nI of)), some (.int but), some (.int (nI u)), some (.int (nI 2)), none, none, none] [] := by
    intro I A hI hA
    refine x_iload (pc := 8) O dX8_group_8 rfl ?_
    refine x_iconst (v := 2) (pc := 10) O dX8_group_10 (by decide) ?_
    refine x_icmp_ge (pc := 11) O 196 dX8_group_11 (by decide) (fun c11 => ?_) (fun c11 => ?_)
    · exact fin I A hI hA _
    · exact absurd (by decide) c11
  have out1f : (grp a (lnB a) m (i 0) of but).length ≠ 0 → ∀ I A, I = upd i 40 (nI (u + (grp a (lnB a) m (i 0) of but).length)) → A = rowput a u (grp a (lnB a) m (i 0) of but) → J (RV E o d I A ch) 0 0 8 [some (.ref o), some (.int (nI of)), some (.int but), some (.int (nI u)), some (.int (nI 1)), none, none, none] [] := by
    intro hne I A hI hA
    refine x_iload (pc := 8) O dX8_group_8 rfl ?_
    refine x_iconst (v := 2) (pc := 10) O dX8_group_10 (by decide) ?_
    refine x_icmp_ge (pc := 11) O 196 dX8_group_11 (by decide) (fun c11 => ?_) (fun c11 => ?_)
    · exact absurd c11 (by decide)
    · refine x_aload_n (pc := 14) O dX8_group_14 rfl rfl ?_
      refine v_get (pc := 15) O dX8_group_15 fdX8_158 rfl rfl ?_
      refine x_iload_n (pc := 18) O dX8_group_18 rfl ?_
      refine x_icmp_ne (pc := 19) O 196 dX8_group_19 (by decide) (fun c19 => ?_) (fun c19 => ?_)
      · exact fin I A hI hA _
      · rw [hI, upd_eq, nI_eq (by omega) (by omega)] at c19
        omega
  have out1 : (grp a (lnB a) m (i 0) of but) = kids a (lnB a) of but (nI 1) m → J (RV E o d i a ch) 0 0 8 [some (.ref o), some (.int (nI of)), some (.int but), some (.int (nI u)), some (.int (nI 1)), none, none, none] [] := by
    intro hG1
    refine x_iload (pc := 8) O dX8_group_8 rfl ?_
    refine x_iconst (v := 2) (pc := 10) O dX8_group_10 (by decide) ?_
    refine x_icmp_ge (pc := 11) O 196 dX8_group_11 (by decide) (fun c11 => ?_) (fun c11 => ?_)
    · exact absurd c11 (by decide)
    · refine x_aload_n (pc := 14) O dX8_group_14 rfl rfl ?_
      refine v_get (pc := 15) O dX8_group_15 fdX8_158 rfl rfl ?_
      refine x_iload_n (pc := 18) O dX8_group_18 rfl ?_
      refine x_icmp_ne (pc := 19) O 196 dX8_group_19 (by decide) (fun c19 => ?_) (fun c19 => ?_)
      · exact absurd hu c19
      · refine x_iconst (v := (-1)) (pc := 22) O dX8_group_22 (by decide) ?_
        refine x_istore (pc := 23) O dX8_group_23 (by decide) rfl ?_
        refine x_iconst (v := (-1)) (pc := 25) O dX8_group_25 (by decide) ?_
        refine x_istore (pc := 26) O dX8_group_26 (by decide) rfl ?_
        refine x_iconst (v := nI 0) (pc := 28) O dX8_group_28 (by decide) ?_
        refine x_istore (pc := 29) O dX8_group_29 (by decide) rfl ?_
        refine inner (nI 1) (fun I A e y hst he hy => ?_) 0 (Nat.zero_le _) i a _ _ ⟨fun z => absurd z.1 (by decide), fun _ => ⟨(upd_id hu).symm, (rowput_nil a u).symm⟩⟩ rfl rfl
        refine x_iload (pc := 138) O dX8_group_138 rfl ?_
        refine x_if_ne (pc := 140) O 190 dX8_group_140 (by decide) (fun c140 => ?_) (fun c140 => ?_)
        · refine x_iinc (v := nI 2) (pc := 190) O dX8_group_190 rfl (by decide) rfl ?_
          refine x_goto (pc := 193) O 8 dX8_group_193 (by decide) ?_
          refine x_lv O [some (.ref o), some (.int (nI of)), some (.int but), some (.int (nI u)), some (.int (nI 2)), none, none, none] ⟨rfl, rfl, rfl, rfl, rfl, trivial⟩ ?_
          obtain ⟨h1, h2⟩ := hst.2 (fun z => absurd z.1 (by decide))
          refine out2 I A ?_ ?_
          · rw [hG1]; exact h1
          · rw [hG1]; exact h2
        · exact absurd c140 (by decide)
  refine x_aload_n (pc := 0) O dX8_group_0 rfl rfl ?_
  refine v_get (pc := 1) O dX8_group_1 fdX8_158 rfl rfl ?_
  rw [hu]
  refine x_istore_n (pc := 4) O dX8_group_4 (by decide) rfl ?_
  refine x_iconst (v := nI 0) (pc := 5) O dX8_group_5 (by decide) ?_
  refine x_istore (pc := 6) O dX8_group_6 (by decide) rfl ?_
  refine x_iload (pc := 8) O dX8_group_8 rfl ?_
  refine x_iconst (v := 2) (pc := 10) O dX8_group_10 (by decide) ?_
  refine x_icmp_ge (pc := 11) O 196 dX8_group_11 (by decide) (fun c11 => ?_) (fun c11 => ?_)
  · exact absurd c11 (by decide)
  · refine x_aload_n (pc := 14) O dX8_group_14 rfl rfl ?_
    refine v_get (pc := 15) O dX8_group_15 fdX8_158 rfl rfl ?_
    refine x_iload_n (pc := 18) O dX8_group_18 rfl ?_
    refine x_icmp_ne (pc := 19) O 196 dX8_group_19 (by decide) (fun c19 => ?_) (fun c19 => ?_)
    · exact absurd hu c19
    · refine x_iconst (v := (-1)) (pc := 22) O dX8_group_22 (by decide) ?_
      refine x_istore (pc := 23) O dX8_group_23 (by decide) rfl ?_
      refine x_iconst (v := (-1)) (pc := 25) O dX8_group_25 (by decide) ?_
      refine x_istore (pc := 26) O dX8_group_26 (by decide) rfl ?_
      refine x_iconst (v := nI 0) (pc := 28) O dX8_group_28 (by decide) ?_
      refine x_istore (pc := 29) O dX8_group_29 (by decide) rfl ?_
      refine inner (nI 0) (fun I A e y hst he hy => ?_) 0 (Nat.zero_le _) i a _ _ ⟨fun _ => ⟨rfl, rfl⟩, fun _ => ⟨(upd_id hu).symm, (rowput_nil a u).symm⟩⟩ rfl rfl
      have hI0 : I 0 = i 0 := (gst_A hst).2 0 (by decide)
      refine x_iload (pc := 138) O dX8_group_138 rfl ?_
      refine x_if_ne (pc := 140) O 190 dX8_group_140 (by decide) (fun c140 => ?_) (fun c140 => ?_)
      · exact absurd (by decide) c140
      · refine x_aload_n (pc := 143) O dX8_group_143 rfl rfl ?_
        refine v_get (pc := 144) O dX8_group_144 fdX8_130 rfl rfl ?_
        refine x_iconst (v := 2) (pc := 147) O dX8_group_147 (by decide) ?_
        refine x_icmp_ge (pc := 148) O 190 dX8_group_148 (by decide) (fun c148 => ?_) (fun c148 => ?_)
        · refine x_iinc (v := nI 1) (pc := 190) O dX8_group_190 rfl (by decide) rfl ?_
          refine x_goto (pc := 193) O 8 dX8_group_193 (by decide) ?_
          refine x_lv O [some (.ref o), some (.int (nI of)), some (.int but), some (.int (nI u)), some (.int (nI 1)), none, none, none] ⟨rfl, rfl, rfl, rfl, rfl, trivial⟩ ?_
          obtain ⟨h1, h2⟩ := hst.2 (fun z => (Int32.not_lt.mpr c148) (by rw [hI0]; exact z.2))
          by_cases hs0 : kids a (lnB a) of but 0 m = []
          · have e1 : I = i := by rw [h1, show nI 0 = 0 from rfl, hs0]; exact upd_id hu
            have e2 : A = a := by rw [h2, show nI 0 = 0 from rfl, hs0]; exact rowput_nil a u
            rw [e1, e2]
            exact out1 (by unfold grp; rw [if_pos hs0]; rfl)
          · have hG : grp a (lnB a) m (i 0) of but = kids a (lnB a) of but (nI 0) m := by
              unfold grp
              rw [if_neg hs0, if_neg (fun z => (Int32.not_lt.mpr c148) (by rw [hI0]; exact z))]
              rfl
            exact out1f (by rw [hG]; intro z; exact hs0 (List.length_eq_zero_iff.mp z)) I A (by rw [hG]; exact h1) (by rw [hG]; exact h2)
        · refine x_iload (pc := 151) O dX8_group_151 rfl ?_
          refine x_iconst (v := (-1)) (pc := 153) O dX8_group_153 (by decide) ?_
          refine x_icmp_eq (pc := 154) O 190 dX8_group_154 (by decide) (fun c154 => ?_) (fun c154 => ?_)
          · refine x_iinc (v := nI 1) (pc := 190) O dX8_group_190 rfl (by decide) rfl ?_
            refine x_goto (pc := 193) O 8 dX8_group_193 (by decide) ?_
            refine x_lv O [some (.ref o), some (.int (nI of)), some (.int but), some (.int (nI u)), some (.int (nI 1)), none, none, none] ⟨rfl, rfl, rfl, rfl, rfl, trivial⟩ ?_
            obtain ⟨h1, h2⟩ := hst.1 ⟨by decide, by rw [← hI0]; exact Int32.not_le.mp c148⟩
            have hs0 : kids a (lnB a) of but 0 m = [] := (hd1_m1 (fun x hx => by have := (kids_mem.mp hx).1; omega)).mp (by rw [show (0 : Int32) = nI 0 from rfl, ← he]; exact c154)
            rw [h1, h2]
            exact out1 (by unfold grp; rw [if_pos hs0]; rfl)
          · refine x_aload_n (pc := 157) O dX8_group_157 rfl rfl ?_
            refine v_get (pc := 158) O dX8_group_158 fdX8_89 rfl rfl ?_
            refine x_aload_n (pc := 161) O dX8_group_161 rfl rfl ?_
            refine v_get (pc := 162) O dX8_group_162 fdX8_158 rfl rfl ?_
            refine x_aload_n (pc := 165) O dX8_group_165 rfl rfl ?_
            refine v_get (pc := 166) O dX8_group_166 fdX8_130 rfl rfl ?_
            refine x_if_ne (pc := 169) O 177 dX8_group_169 (by decide) (fun c169 => ?_) (fun c169 => ?_)
            · refine x_iload (pc := 177) O dX8_group_177 rfl ?_
              refine v_ast (k := 39) (pc := 179) O dX8_group_179 rfl rfl rfl (by rw [(hst.1 ⟨by decide, by rw [← hI0]; exact Int32.not_le.mp c148⟩).1]; exact hu) (by show _ < 3720; omega) ?_
              refine x_aload_n (pc := 180) O dX8_group_180 rfl rfl ?_
              refine x_dup (pc := 181) O dX8_group_181 rfl ?_
              refine v_get (pc := 182) O dX8_group_182 fdX8_158 rfl rfl ?_
              refine x_iconst (v := 1) (pc := 185) O dX8_group_185 (by decide) ?_
              refine x_iadd (pc := 186) O dX8_group_186 ?_
              refine v_put (pc := 187) O dX8_group_187 fpX8_158 rfl rfl ?_
              refine x_iinc (v := nI 1) (pc := 190) O dX8_group_190 rfl (by decide) rfl ?_
              refine x_goto (pc := 193) O 8 dX8_group_193 (by decide) ?_
              refine x_lv O [some (.ref o), some (.int (nI of)), some (.int but), some (.int (nI u)), some (.int (nI 1)), none, none, none] ⟨rfl, rfl, rfl, rfl, rfl, trivial⟩ ?_
              obtain ⟨h1, h2⟩ := hst.1 ⟨by decide, by rw [← hI0]; exact Int32.not_le.mp c148⟩
              have hs0 : ¬ kids a (lnB a) of but 0 m = [] := fun z => c154 (by rw [he, show nI 0 = 0 from rfl, z]; rfl)
              have hG : grp a (lnB a) m (i 0) of but = [if i 0 = 0 then (kids a (lnB a) of but 0 m).headD 0 else (kids a (lnB a) of but 0 m).getLastD 0] := by
                unfold grp
                rw [if_neg hs0, if_pos (by rw [← hI0]; exact Int32.not_le.mp c148)]
              have hv : y = nI (if i 0 = 0 then (kids a (lnB a) of but 0 m).headD 0 else (kids a (lnB a) of but 0 m).getLastD 0) := by
                rw [if_neg (by rw [← hI0]; exact c169), hy, show nI 0 = 0 from rfl]
                obtain ⟨x, r, hx⟩ := List.exists_cons_of_ne_nil hs0
                rw [hx]
                simp [la1, List.getLast?_eq_some_getLast, List.getLastD]
              refine out1f (by rw [hG]; simp) _ _ ?_ ?_
              · rw [hG, h1, hu, show nI u + 1 = nI (u + 1) from (nI_succ u).symm]; rfl
              · rw [hG, h2, hv]
                have := rowput_app a u [] (if i 0 = 0 then (kids a (lnB a) of but 0 m).headD 0 else (kids a (lnB a) of but 0 m).getLastD 0)
                rw [rowput_nil] at this
                simpa using this
            · refine x_iload (pc := 172) O dX8_group_172 rfl ?_
              refine x_goto (pc := 174) O 179 dX8_group_174 (by decide) ?_
              refine v_ast (k := 39) (pc := 179) O dX8_group_179 rfl rfl rfl (by rw [(hst.1 ⟨by decide, by rw [← hI0]; exact Int32.not_le.mp c148⟩).1]; exact hu) (by show _ < 3720; omega) ?_
              refine x_aload_n (pc := 180) O dX8_group_180 rfl rfl ?_
              refine x_dup (pc := 181) O dX8_group_181 rfl ?_
              refine v_get (pc := 182) O dX8_group_182 fdX8_158 rfl rfl ?_
              refine x_iconst (v := 1) (pc := 185) O dX8_group_185 (by decide) ?_
              refine x_iadd (pc := 186) O dX8_group_186 ?_
              refine v_put (pc := 187) O dX8_group_187 fpX8_158 rfl rfl ?_
              refine x_iinc (v := nI 1) (pc := 190) O dX8_group_190 rfl (by decide) rfl ?_
              refine x_goto (pc := 193) O 8 dX8_group_193 (by decide) ?_
              refine x_lv O [some (.ref o), some (.int (nI of)), some (.int but), some (.int (nI u)), some (.int (nI 1)), none, none, none] ⟨rfl, rfl, rfl, rfl, rfl, trivial⟩ ?_
              obtain ⟨h1, h2⟩ := hst.1 ⟨by decide, by rw [← hI0]; exact Int32.not_le.mp c148⟩
              have hs0 : ¬ kids a (lnB a) of but 0 m = [] := fun z => c154 (by rw [he, show nI 0 = 0 from rfl, z]; rfl)
              have hG : grp a (lnB a) m (i 0) of but = [if i 0 = 0 then (kids a (lnB a) of but 0 m).headD 0 else (kids a (lnB a) of but 0 m).getLastD 0] := by
                unfold grp
                rw [if_neg hs0, if_pos (by rw [← hI0]; exact Int32.not_le.mp c148)]
              have hv : e = nI (if i 0 = 0 then (kids a (lnB a) of but 0 m).headD 0 else (kids a (lnB a) of but 0 m).getLastD 0) := by
                rw [if_pos (by rw [← hI0]; exact c169), he, show nI 0 = 0 from rfl]
                obtain ⟨x, r, hx⟩ := List.exists_cons_of_ne_nil hs0
                rw [hx]
                rfl
              refine out1f (by rw [hG]; simp) _ _ ?_ ?_
              · rw [hG, h1, hu, show nI u + 1 = nI (u + 1) from (nI_succ u).symm]; rfl
              · rw [hG, h2, hv]
                have := rowput_app a u [] (if i 0 = 0 then (kids a (lnB a) of but 0 m).headD 0 else (kids a (lnB a) of but 0 m).getLastD 0)
                rw [rowput_nil] at this
                simpa using this
