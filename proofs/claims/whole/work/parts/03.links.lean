/-! ===== LINKS: where each word stands in wsL_law ===== -/
def lw_core : List Cond := (wsL_law_r1 ++ (wsL_law_r2 ++ (wsL_law_r3 ++ (wsL_law_r4 ++ (wsL_law_r5 ++ (wsL_law_r6 ++ (wsL_law_r7 ++ (wsL_law_r8 ++ (wsL_law_r9 ++ (wsL_law_r10 ++ (wsL_law_r11 ++ (wsL_law_r12 ++ (wsL_law_r13 ++ (wsL_law_r14 ++ (wsL_law_r15 ++ (wsL_law_r16 ++ (wsL_law_r17 ++ (wsL_law_r18 ++ (wsL_law_r19 ++ (wsL_law_r20 ++ (wsL_law_r21 ++ (wsL_law_r22 ++ (wsL_law_r23 ++ (wsL_law_r24 ++ (wsL_law_r25 ++ wsL_law_r26)))))))))))))))))))))))))
theorem lw_core_in : ∀ w ∈ lw_core, w ∈ wsL_law := fun _ h => List.mem_append_left _ (List.mem_append_left _ (List.mem_append_left _ (List.mem_append_left _ (List.mem_append_left _ (List.mem_append_left _ (List.mem_append_left _ (List.mem_append_left _ (List.mem_append_left _ (List.mem_append_left _ (h))))))))))
theorem lr_1 : ∀ w ∈ wsL_law_r1, w ∈ wsL_law := fun w h => lw_core_in w (List.mem_append_left _ h)
theorem lr_2 : ∀ w ∈ wsL_law_r2, w ∈ wsL_law := fun w h => lw_core_in w (List.mem_append_right _ (List.mem_append_left _ h))
theorem lr_3 : ∀ w ∈ wsL_law_r3, w ∈ wsL_law := fun w h => lw_core_in w (List.mem_append_right _ (List.mem_append_right _ (List.mem_append_left _ h)))
theorem lr_4 : ∀ w ∈ wsL_law_r4, w ∈ wsL_law := fun w h => lw_core_in w (List.mem_append_right _ (List.mem_append_right _ (List.mem_append_right _ (List.mem_append_left _ h))))
theorem lr_5 : ∀ w ∈ wsL_law_r5, w ∈ wsL_law := fun w h => lw_core_in w (List.mem_append_right _ (List.mem_append_right _ (List.mem_append_right _ (List.mem_append_right _ (List.mem_append_left _ h)))))
theorem lr_6 : ∀ w ∈ wsL_law_r6, w ∈ wsL_law := fun w h => lw_core_in w (List.mem_append_right _ (List.mem_append_right _ (List.mem_append_right _ (List.mem_append_right _ (List.mem_append_right _ (List.mem_append_left _ h))))))
theorem lr_7 : ∀ w ∈ wsL_law_r7, w ∈ wsL_law := fun w h => lw_core_in w (List.mem_append_right _ (List.mem_append_right _ (List.mem_append_right _ (List.mem_append_right _ (List.mem_append_right _ (List.mem_append_right _ (List.mem_append_left _ h)))))))
theorem lr_8 : ∀ w ∈ wsL_law_r8, w ∈ wsL_law := fun w h => lw_core_in w (List.mem_append_right _ (List.mem_append_right _ (List.mem_append_right _ (List.mem_append_right _ (List.mem_append_right _ (List.mem_append_right _ (List.mem_append_right _ (List.mem_append_left _ h))))))))
theorem lr_9 : ∀ w ∈ wsL_law_r9, w ∈ wsL_law := fun w h => lw_core_in w (List.mem_append_right _ (List.mem_append_right _ (List.mem_append_right _ (List.mem_append_right _ (List.mem_append_right _ (List.mem_append_right _ (List.mem_append_right _ (List.mem_append_right _ (List.mem_append_left _ h)))))))))
theorem lr_10 : ∀ w ∈ wsL_law_r10, w ∈ wsL_law := fun w h => lw_core_in w (List.mem_append_right _ (List.mem_append_right _ (List.mem_append_right _ (List.mem_append_right _ (List.mem_append_right _ (List.mem_append_right _ (List.mem_append_right _ (List.mem_append_right _ (List.mem_append_right _ (List.mem_append_left _ h))))))))))
theorem lr_11 : ∀ w ∈ wsL_law_r11, w ∈ wsL_law := fun w h => lw_core_in w (List.mem_append_right _ (List.mem_append_right _ (List.mem_append_right _ (List.mem_append_right _ (List.mem_append_right _ (List.mem_append_right _ (List.mem_append_right _ (List.mem_append_right _ (List.mem_append_right _ (List.mem_append_right _ (List.mem_append_left _ h)))))))))))
theorem lr_12 : ∀ w ∈ wsL_law_r12, w ∈ wsL_law := fun w h => lw_core_in w (List.mem_append_right _ (List.mem_append_right _ (List.mem_append_right _ (List.mem_append_right _ (List.mem_append_right _ (List.mem_append_right _ (List.mem_append_right _ (List.mem_append_right _ (List.mem_append_right _ (List.mem_append_right _ (List.mem_append_right _ (List.mem_append_left _ h))))))))))))
theorem lr_13 : ∀ w ∈ wsL_law_r13, w ∈ wsL_law := fun w h => lw_core_in w (List.mem_append_right _ (List.mem_append_right _ (List.mem_append_right _ (List.mem_append_right _ (List.mem_append_right _ (List.mem_append_right _ (List.mem_append_right _ (List.mem_append_right _ (List.mem_append_right _ (List.mem_append_right _ (List.mem_append_right _ (List.mem_append_right _ (List.mem_append_left _ h)))))))))))))
theorem lr_14 : ∀ w ∈ wsL_law_r14, w ∈ wsL_law := fun w h => lw_core_in w (List.mem_append_right _ (List.mem_append_right _ (List.mem_append_right _ (List.mem_append_right _ (List.mem_append_right _ (List.mem_append_right _ (List.mem_append_right _ (List.mem_append_right _ (List.mem_append_right _ (List.mem_append_right _ (List.mem_append_right _ (List.mem_append_right _ (List.mem_append_right _ (List.mem_append_left _ h))))))))))))))
theorem lr_15 : ∀ w ∈ wsL_law_r15, w ∈ wsL_law := fun w h => lw_core_in w (List.mem_append_right _ (List.mem_append_right _ (List.mem_append_right _ (List.mem_append_right _ (List.mem_append_right _ (List.mem_append_right _ (List.mem_append_right _ (List.mem_append_right _ (List.mem_append_right _ (List.mem_append_right _ (List.mem_append_right _ (List.mem_append_right _ (List.mem_append_right _ (List.mem_append_right _ (List.mem_append_left _ h)))))))))))))))
theorem lr_16 : ∀ w ∈ wsL_law_r16, w ∈ wsL_law := fun w h => lw_core_in w (List.mem_append_right _ (List.mem_append_right _ (List.mem_append_right _ (List.mem_append_right _ (List.mem_append_right _ (List.mem_append_right _ (List.mem_append_right _ (List.mem_append_right _ (List.mem_append_right _ (List.mem_append_right _ (List.mem_append_right _ (List.mem_append_right _ (List.mem_append_right _ (List.mem_append_right _ (List.mem_append_right _ (List.mem_append_left _ h))))))))))))))))
theorem lr_17 : ∀ w ∈ wsL_law_r17, w ∈ wsL_law := fun w h => lw_core_in w (List.mem_append_right _ (List.mem_append_right _ (List.mem_append_right _ (List.mem_append_right _ (List.mem_append_right _ (List.mem_append_right _ (List.mem_append_right _ (List.mem_append_right _ (List.mem_append_right _ (List.mem_append_right _ (List.mem_append_right _ (List.mem_append_right _ (List.mem_append_right _ (List.mem_append_right _ (List.mem_append_right _ (List.mem_append_right _ (List.mem_append_left _ h)))))))))))))))))
theorem lr_18 : ∀ w ∈ wsL_law_r18, w ∈ wsL_law := fun w h => lw_core_in w (List.mem_append_right _ (List.mem_append_right _ (List.mem_append_right _ (List.mem_append_right _ (List.mem_append_right _ (List.mem_append_right _ (List.mem_append_right _ (List.mem_append_right _ (List.mem_append_right _ (List.mem_append_right _ (List.mem_append_right _ (List.mem_append_right _ (List.mem_append_right _ (List.mem_append_right _ (List.mem_append_right _ (List.mem_append_right _ (List.mem_append_right _ (List.mem_append_left _ h))))))))))))))))))
theorem lr_19 : ∀ w ∈ wsL_law_r19, w ∈ wsL_law := fun w h => lw_core_in w (List.mem_append_right _ (List.mem_append_right _ (List.mem_append_right _ (List.mem_append_right _ (List.mem_append_right _ (List.mem_append_right _ (List.mem_append_right _ (List.mem_append_right _ (List.mem_append_right _ (List.mem_append_right _ (List.mem_append_right _ (List.mem_append_right _ (List.mem_append_right _ (List.mem_append_right _ (List.mem_append_right _ (List.mem_append_right _ (List.mem_append_right _ (List.mem_append_right _ (List.mem_append_left _ h)))))))))))))))))))
theorem lr_20 : ∀ w ∈ wsL_law_r20, w ∈ wsL_law := fun w h => lw_core_in w (List.mem_append_right _ (List.mem_append_right _ (List.mem_append_right _ (List.mem_append_right _ (List.mem_append_right _ (List.mem_append_right _ (List.mem_append_right _ (List.mem_append_right _ (List.mem_append_right _ (List.mem_append_right _ (List.mem_append_right _ (List.mem_append_right _ (List.mem_append_right _ (List.mem_append_right _ (List.mem_append_right _ (List.mem_append_right _ (List.mem_append_right _ (List.mem_append_right _ (List.mem_append_right _ (List.mem_append_left _ h))))))))))))))))))))
theorem lr_21 : ∀ w ∈ wsL_law_r21, w ∈ wsL_law := fun w h => lw_core_in w (List.mem_append_right _ (List.mem_append_right _ (List.mem_append_right _ (List.mem_append_right _ (List.mem_append_right _ (List.mem_append_right _ (List.mem_append_right _ (List.mem_append_right _ (List.mem_append_right _ (List.mem_append_right _ (List.mem_append_right _ (List.mem_append_right _ (List.mem_append_right _ (List.mem_append_right _ (List.mem_append_right _ (List.mem_append_right _ (List.mem_append_right _ (List.mem_append_right _ (List.mem_append_right _ (List.mem_append_right _ (List.mem_append_left _ h)))))))))))))))))))))
theorem lr_22 : ∀ w ∈ wsL_law_r22, w ∈ wsL_law := fun w h => lw_core_in w (List.mem_append_right _ (List.mem_append_right _ (List.mem_append_right _ (List.mem_append_right _ (List.mem_append_right _ (List.mem_append_right _ (List.mem_append_right _ (List.mem_append_right _ (List.mem_append_right _ (List.mem_append_right _ (List.mem_append_right _ (List.mem_append_right _ (List.mem_append_right _ (List.mem_append_right _ (List.mem_append_right _ (List.mem_append_right _ (List.mem_append_right _ (List.mem_append_right _ (List.mem_append_right _ (List.mem_append_right _ (List.mem_append_right _ (List.mem_append_left _ h))))))))))))))))))))))
theorem lr_23 : ∀ w ∈ wsL_law_r23, w ∈ wsL_law := fun w h => lw_core_in w (List.mem_append_right _ (List.mem_append_right _ (List.mem_append_right _ (List.mem_append_right _ (List.mem_append_right _ (List.mem_append_right _ (List.mem_append_right _ (List.mem_append_right _ (List.mem_append_right _ (List.mem_append_right _ (List.mem_append_right _ (List.mem_append_right _ (List.mem_append_right _ (List.mem_append_right _ (List.mem_append_right _ (List.mem_append_right _ (List.mem_append_right _ (List.mem_append_right _ (List.mem_append_right _ (List.mem_append_right _ (List.mem_append_right _ (List.mem_append_right _ (List.mem_append_left _ h)))))))))))))))))))))))
theorem lr_24 : ∀ w ∈ wsL_law_r24, w ∈ wsL_law := fun w h => lw_core_in w (List.mem_append_right _ (List.mem_append_right _ (List.mem_append_right _ (List.mem_append_right _ (List.mem_append_right _ (List.mem_append_right _ (List.mem_append_right _ (List.mem_append_right _ (List.mem_append_right _ (List.mem_append_right _ (List.mem_append_right _ (List.mem_append_right _ (List.mem_append_right _ (List.mem_append_right _ (List.mem_append_right _ (List.mem_append_right _ (List.mem_append_right _ (List.mem_append_right _ (List.mem_append_right _ (List.mem_append_right _ (List.mem_append_right _ (List.mem_append_right _ (List.mem_append_right _ (List.mem_append_left _ h))))))))))))))))))))))))
theorem lr_25 : ∀ w ∈ wsL_law_r25, w ∈ wsL_law := fun w h => lw_core_in w (List.mem_append_right _ (List.mem_append_right _ (List.mem_append_right _ (List.mem_append_right _ (List.mem_append_right _ (List.mem_append_right _ (List.mem_append_right _ (List.mem_append_right _ (List.mem_append_right _ (List.mem_append_right _ (List.mem_append_right _ (List.mem_append_right _ (List.mem_append_right _ (List.mem_append_right _ (List.mem_append_right _ (List.mem_append_right _ (List.mem_append_right _ (List.mem_append_right _ (List.mem_append_right _ (List.mem_append_right _ (List.mem_append_right _ (List.mem_append_right _ (List.mem_append_right _ (List.mem_append_right _ (List.mem_append_left _ h)))))))))))))))))))))))))
theorem lr_26 : ∀ w ∈ wsL_law_r26, w ∈ wsL_law := fun w h => lw_core_in w (List.mem_append_right _ (List.mem_append_right _ (List.mem_append_right _ (List.mem_append_right _ (List.mem_append_right _ (List.mem_append_right _ (List.mem_append_right _ (List.mem_append_right _ (List.mem_append_right _ (List.mem_append_right _ (List.mem_append_right _ (List.mem_append_right _ (List.mem_append_right _ (List.mem_append_right _ (List.mem_append_right _ (List.mem_append_right _ (List.mem_append_right _ (List.mem_append_right _ (List.mem_append_right _ (List.mem_append_right _ (List.mem_append_right _ (List.mem_append_right _ (List.mem_append_right _ (List.mem_append_right _ (List.mem_append_right _ (h))))))))))))))))))))))))))
def FD (own : String) (index ci k : Nat) : Prop := ∃ (C : String) (T : u_T) (N : Nat), vwCl[ci]? = some (C, T, N) ∧ k < N ∧ Cond.fieldLink own index (T k).1 (T k).2.1 (T k).2.2.1 ∈ wsL_law ∧ ∀ w ∈ u_ws C T N, w ∈ wsL_law
def FP (own : String) (index ci k : Nat) (ty : FieldType) (fin : Bool) : Prop := ∃ (C : String) (T : u_T) (N : Nat) (ty0 : Nat → FieldType), vwCl[ci]? = some (C, T, N) ∧ k < N ∧ Cond.fieldLink own index (T k).1 (T k).2.1 (T k).2.2.1 ∈ wsL_law ∧ (∀ w ∈ u_ws C T N, w ∈ wsL_law) ∧ (∀ k, k < N → parseFieldDescriptor (T k).2.2.1 = some (ty0 k)) ∧ (∀ a, a < N → ∀ b, b < N → a ≠ b → (T a).2.1 ≠ (T b).2.1) ∧ (T k).2.2.2 = fin ∧ parseFieldDescriptor (T k).2.2.1 = some ty ∧ (fin = true → (T k).1 = own)
def CB (own : String) (index : Nat) (y : MethodName) (bytes : ByteArray) (maxL : Nat) (ret : Option FieldType) (n : Nat) : Prop := Cond.methodLink own index y ∈ wsL_law ∧ Cond.initialized y.cls ∈ wsL_law ∧ Cond.code y bytes maxL ret ∈ wsL_law ∧ y.cls ≠ "java/lang/invoke/MethodHandle" ∧ y.cls ≠ "java/lang/invoke/VarHandle" ∧ (parseMethodDescriptor y.desc).map (fun d => d.parameters.length) = some n
theorem fdX7_9 : FD RX7 9 7 0 := ⟨RX7, TX7, 9, rfl, by decide, (lr_1 _ (List.mem_of_getElem? (i := 12) rfl)), inlX7⟩
theorem fpX7_9 : FP RX7 9 7 0 (.int) false := ⟨RX7, TX7, 9, tyX7, rfl, by decide, (lr_1 _ (List.mem_of_getElem? (i := 12) rfl)), inlX7, tyX7_ok, nmX7, rfl, by decide +kernel, fun h => by cases h⟩
theorem fdX7_18 : FD RX7 18 7 1 := ⟨RX7, TX7, 9, rfl, by decide, (lr_1 _ (List.mem_of_getElem? (i := 16) rfl)), inlX7⟩
theorem fpX7_18 : FP RX7 18 7 1 (.object "ManorRolls$Custom") false := ⟨RX7, TX7, 9, tyX7, rfl, by decide, (lr_1 _ (List.mem_of_getElem? (i := 16) rfl)), inlX7, tyX7_ok, nmX7, rfl, by decide +kernel, fun h => by cases h⟩
theorem fdX7_22 : FD RX7 22 7 2 := ⟨RX7, TX7, 9, rfl, by decide, (lr_1 _ (List.mem_of_getElem? (i := 17) rfl)), inlX7⟩
theorem fpX7_22 : FP RX7 22 7 2 (.int) false := ⟨RX7, TX7, 9, tyX7, rfl, by decide, (lr_1 _ (List.mem_of_getElem? (i := 17) rfl)), inlX7, tyX7_ok, nmX7, rfl, by decide +kernel, fun h => by cases h⟩
theorem fdX7_28 : FD RX7 28 7 3 := ⟨RX7, TX7, 9, rfl, by decide, (lr_1 _ (List.mem_of_getElem? (i := 21) rfl)), inlX7⟩
theorem fpX7_28 : FP RX7 28 7 3 (.object "ManorRolls$People") true := ⟨RX7, TX7, 9, tyX7, rfl, by decide, (lr_1 _ (List.mem_of_getElem? (i := 21) rfl)), inlX7, tyX7_ok, nmX7, rfl, by decide +kernel, fun _ => rfl⟩
theorem fdX7_35 : FD RX7 35 7 4 := ⟨RX7, TX7, 9, rfl, by decide, (lr_2 _ (List.mem_of_getElem? (i := 1) rfl)), inlX7⟩
theorem fpX7_35 : FP RX7 35 7 4 (.object "ManorRolls$Land") true := ⟨RX7, TX7, 9, tyX7, rfl, by decide, (lr_2 _ (List.mem_of_getElem? (i := 1) rfl)), inlX7, tyX7_ok, nmX7, rfl, by decide +kernel, fun _ => rfl⟩
theorem fdX7_44 : FD RX7 44 7 5 := ⟨RX7, TX7, 9, rfl, by decide, (lr_2 _ (List.mem_of_getElem? (i := 5) rfl)), inlX7⟩
theorem fpX7_44 : FP RX7 44 7 5 (.object "ManorRolls$Heirs") true := ⟨RX7, TX7, 9, tyX7, rfl, by decide, (lr_2 _ (List.mem_of_getElem? (i := 5) rfl)), inlX7, tyX7_ok, nmX7, rfl, by decide +kernel, fun _ => rfl⟩
theorem fdX7_50 : FD RX7 50 7 6 := ⟨RX7, TX7, 9, rfl, by decide, (lr_2 _ (List.mem_of_getElem? (i := 7) rfl)), inlX7⟩
theorem fpX7_50 : FP RX7 50 7 6 (.array (.object "ManorRolls$Suit")) true := ⟨RX7, TX7, 9, tyX7, rfl, by decide, (lr_2 _ (List.mem_of_getElem? (i := 7) rfl)), inlX7, tyX7_ok, nmX7, rfl, by decide +kernel, fun _ => rfl⟩
theorem fdX7_54 : FD RX7 54 7 7 := ⟨RX7, TX7, 9, rfl, by decide, (lr_2 _ (List.mem_of_getElem? (i := 8) rfl)), inlX7⟩
theorem fpX7_54 : FP RX7 54 7 7 (.int) false := ⟨RX7, TX7, 9, tyX7, rfl, by decide, (lr_2 _ (List.mem_of_getElem? (i := 8) rfl)), inlX7, tyX7_ok, nmX7, rfl, by decide +kernel, fun h => by cases h⟩
theorem fdX7_57 : FD RX7 57 7 8 := ⟨RX7, TX7, 9, rfl, by decide, (lr_2 _ (List.mem_of_getElem? (i := 9) rfl)), inlX7⟩
theorem fpX7_57 : FP RX7 57 7 8 (.int) false := ⟨RX7, TX7, 9, tyX7, rfl, by decide, (lr_2 _ (List.mem_of_getElem? (i := 9) rfl)), inlX7, tyX7_ok, nmX7, rfl, by decide +kernel, fun h => by cases h⟩
theorem fdX0_10 : FD RX0 10 0 0 := ⟨RX0, TX0, 7, rfl, by decide, (lr_2 _ (List.mem_of_getElem? (i := 15) rfl)), inlX0⟩
theorem fpX0_10 : FP RX0 10 0 0 (.int) true := ⟨RX0, TX0, 7, tyX0, rfl, by decide, (lr_2 _ (List.mem_of_getElem? (i := 15) rfl)), inlX0, tyX0_ok, nmX0, rfl, by decide +kernel, fun _ => rfl⟩
theorem fdX0_16 : FD RX0 16 0 1 := ⟨RX0, TX0, 7, rfl, by decide, (lr_2 _ (List.mem_of_getElem? (i := 16) rfl)), inlX0⟩
theorem fpX0_16 : FP RX0 16 0 1 (.int) true := ⟨RX0, TX0, 7, tyX0, rfl, by decide, (lr_2 _ (List.mem_of_getElem? (i := 16) rfl)), inlX0, tyX0_ok, nmX0, rfl, by decide +kernel, fun _ => rfl⟩
theorem fdX0_19 : FD RX0 19 0 2 := ⟨RX0, TX0, 7, rfl, by decide, (lr_2 _ (List.mem_of_getElem? (i := 17) rfl)), inlX0⟩
theorem fpX0_19 : FP RX0 19 0 2 (.int) true := ⟨RX0, TX0, 7, tyX0, rfl, by decide, (lr_2 _ (List.mem_of_getElem? (i := 17) rfl)), inlX0, tyX0_ok, nmX0, rfl, by decide +kernel, fun _ => rfl⟩
theorem fdX0_22 : FD RX0 22 0 3 := ⟨RX0, TX0, 7, rfl, by decide, (lr_2 _ (List.mem_of_getElem? (i := 18) rfl)), inlX0⟩
theorem fpX0_22 : FP RX0 22 0 3 (.int) true := ⟨RX0, TX0, 7, tyX0, rfl, by decide, (lr_2 _ (List.mem_of_getElem? (i := 18) rfl)), inlX0, tyX0_ok, nmX0, rfl, by decide +kernel, fun _ => rfl⟩
theorem fdX0_25 : FD RX0 25 0 4 := ⟨RX0, TX0, 7, rfl, by decide, (lr_2 _ (List.mem_of_getElem? (i := 19) rfl)), inlX0⟩
theorem fpX0_25 : FP RX0 25 0 4 (.int) true := ⟨RX0, TX0, 7, tyX0, rfl, by decide, (lr_2 _ (List.mem_of_getElem? (i := 19) rfl)), inlX0, tyX0_ok, nmX0, rfl, by decide +kernel, fun _ => rfl⟩
theorem fdX0_28 : FD RX0 28 0 5 := ⟨RX0, TX0, 7, rfl, by decide, (lr_2 _ (List.mem_of_getElem? (i := 20) rfl)), inlX0⟩
theorem fpX0_28 : FP RX0 28 0 5 (.int) true := ⟨RX0, TX0, 7, tyX0, rfl, by decide, (lr_2 _ (List.mem_of_getElem? (i := 20) rfl)), inlX0, tyX0_ok, nmX0, rfl, by decide +kernel, fun _ => rfl⟩
theorem fdX0_31 : FD RX0 31 0 6 := ⟨RX0, TX0, 7, rfl, by decide, (lr_2 _ (List.mem_of_getElem? (i := 21) rfl)), inlX0⟩
theorem fpX0_31 : FP RX0 31 0 6 (.int) true := ⟨RX0, TX0, 7, tyX0, rfl, by decide, (lr_2 _ (List.mem_of_getElem? (i := 21) rfl)), inlX0, tyX0_ok, nmX0, rfl, by decide +kernel, fun _ => rfl⟩
theorem fdX3_11 : FD RX3 11 3 0 := ⟨RX3, TX3, 2, rfl, by decide, (lr_3 _ (List.mem_of_getElem? (i := 2) rfl)), inlX3⟩
theorem fpX3_11 : FP RX3 11 3 0 (.array (.object "ManorRolls$Person")) true := ⟨RX3, TX3, 2, tyX3, rfl, by decide, (lr_3 _ (List.mem_of_getElem? (i := 2) rfl)), inlX3, tyX3_ok, nmX3, rfl, by decide +kernel, fun _ => rfl⟩
theorem fdX2_11 : FD RX2 11 2 0 := ⟨RX2, TX2, 4, rfl, by decide, (lr_3 _ (List.mem_of_getElem? (i := 8) rfl)), inlX2⟩
theorem fpX2_11 : FP RX2 11 2 0 (.array (.object "ManorRolls$Right")) true := ⟨RX2, TX2, 4, tyX2, rfl, by decide, (lr_3 _ (List.mem_of_getElem? (i := 8) rfl)), inlX2, tyX2_ok, nmX2, rfl, by decide +kernel, fun _ => rfl⟩
theorem fdX2_17 : FD RX2 17 2 1 := ⟨RX2, TX2, 4, rfl, by decide, (lr_3 _ (List.mem_of_getElem? (i := 9) rfl)), inlX2⟩
theorem fpX2_17 : FP RX2 17 2 1 (.int) false := ⟨RX2, TX2, 4, tyX2, rfl, by decide, (lr_3 _ (List.mem_of_getElem? (i := 9) rfl)), inlX2, tyX2_ok, nmX2, rfl, by decide +kernel, fun h => by cases h⟩
theorem fdX2_21 : FD RX2 21 2 2 := ⟨RX2, TX2, 4, rfl, by decide, (lr_3 _ (List.mem_of_getElem? (i := 11) rfl)), inlX2⟩
theorem fpX2_21 : FP RX2 21 2 2 (.array .int) true := ⟨RX2, TX2, 4, tyX2, rfl, by decide, (lr_3 _ (List.mem_of_getElem? (i := 11) rfl)), inlX2, tyX2_ok, nmX2, rfl, by decide +kernel, fun _ => rfl⟩
theorem fdX5_7 : FD RX5 7 5 0 := ⟨RX5, TX5, 4, rfl, by decide, (lr_3 _ (List.mem_of_getElem? (i := 18) rfl)), inlX5⟩
theorem fpX5_7 : FP RX5 7 5 0 (.int) true := ⟨RX5, TX5, 4, tyX5, rfl, by decide, (lr_3 _ (List.mem_of_getElem? (i := 18) rfl)), inlX5, tyX5_ok, nmX5, rfl, by decide +kernel, fun _ => rfl⟩
theorem fdX5_13 : FD RX5 13 5 1 := ⟨RX5, TX5, 4, rfl, by decide, (lr_3 _ (List.mem_of_getElem? (i := 19) rfl)), inlX5⟩
theorem fpX5_13 : FP RX5 13 5 1 (.int) true := ⟨RX5, TX5, 4, tyX5, rfl, by decide, (lr_3 _ (List.mem_of_getElem? (i := 19) rfl)), inlX5, tyX5_ok, nmX5, rfl, by decide +kernel, fun _ => rfl⟩
theorem fdX5_16 : FD RX5 16 5 2 := ⟨RX5, TX5, 4, rfl, by decide, (lr_3 _ (List.mem_of_getElem? (i := 20) rfl)), inlX5⟩
theorem fpX5_16 : FP RX5 16 5 2 (.int) true := ⟨RX5, TX5, 4, tyX5, rfl, by decide, (lr_3 _ (List.mem_of_getElem? (i := 20) rfl)), inlX5, tyX5_ok, nmX5, rfl, by decide +kernel, fun _ => rfl⟩
theorem fdX5_19 : FD RX5 19 5 3 := ⟨RX5, TX5, 4, rfl, by decide, (lr_3 _ (List.mem_of_getElem? (i := 21) rfl)), inlX5⟩
theorem fpX5_19 : FP RX5 19 5 3 (.object "ManorRolls$Right") true := ⟨RX5, TX5, 4, tyX5, rfl, by decide, (lr_3 _ (List.mem_of_getElem? (i := 21) rfl)), inlX5, tyX5_ok, nmX5, rfl, by decide +kernel, fun _ => rfl⟩
theorem fdX1_9 : FD RX1 9 1 0 := ⟨RX1, TX1, 7, rfl, by decide, (lr_4 _ (List.mem_of_getElem? (i := 2) rfl)), inlX1⟩
theorem fpX1_9 : FP RX1 9 1 0 (.array .int) true := ⟨RX1, TX1, 7, tyX1, rfl, by decide, (lr_4 _ (List.mem_of_getElem? (i := 2) rfl)), inlX1, tyX1_ok, nmX1, rfl, by decide +kernel, fun _ => rfl⟩
theorem fdX1_15 : FD RX1 15 1 2 := ⟨RX1, TX1, 7, rfl, by decide, (lr_4 _ (List.mem_of_getElem? (i := 3) rfl)), inlX1⟩
theorem fpX1_15 : FP RX1 15 1 2 (.array .int) true := ⟨RX1, TX1, 7, tyX1, rfl, by decide, (lr_4 _ (List.mem_of_getElem? (i := 3) rfl)), inlX1, tyX1_ok, nmX1, rfl, by decide +kernel, fun _ => rfl⟩
theorem fdX1_18 : FD RX1 18 1 3 := ⟨RX1, TX1, 7, rfl, by decide, (lr_4 _ (List.mem_of_getElem? (i := 4) rfl)), inlX1⟩
theorem fpX1_18 : FP RX1 18 1 3 (.object "ManorRolls$People") true := ⟨RX1, TX1, 7, tyX1, rfl, by decide, (lr_4 _ (List.mem_of_getElem? (i := 4) rfl)), inlX1, tyX1_ok, nmX1, rfl, by decide +kernel, fun _ => rfl⟩
theorem fdX8_9 : FD RX8 9 8 9 := ⟨RX8, TX8, 44, rfl, by decide, (lr_4 _ (List.mem_of_getElem? (i := 9) rfl)), inlX8⟩
theorem fpX8_9 : FP RX8 9 8 9 (.array .int) true := ⟨RX8, TX8, 44, tyX8, rfl, by decide, (lr_4 _ (List.mem_of_getElem? (i := 9) rfl)), inlX8, tyX8_ok, nmX8, rfl, by decide +kernel, fun _ => rfl⟩
theorem fdX8_13 : FD RX8 13 8 10 := ⟨RX8, TX8, 44, rfl, by decide, (lr_4 _ (List.mem_of_getElem? (i := 10) rfl)), inlX8⟩
theorem fpX8_13 : FP RX8 13 8 10 (.array .int) true := ⟨RX8, TX8, 44, tyX8, rfl, by decide, (lr_4 _ (List.mem_of_getElem? (i := 10) rfl)), inlX8, tyX8_ok, nmX8, rfl, by decide +kernel, fun _ => rfl⟩
theorem fdX8_16 : FD RX8 16 8 11 := ⟨RX8, TX8, 44, rfl, by decide, (lr_4 _ (List.mem_of_getElem? (i := 11) rfl)), inlX8⟩
theorem fpX8_16 : FP RX8 16 8 11 (.array .int) true := ⟨RX8, TX8, 44, tyX8, rfl, by decide, (lr_4 _ (List.mem_of_getElem? (i := 11) rfl)), inlX8, tyX8_ok, nmX8, rfl, by decide +kernel, fun _ => rfl⟩
theorem fdX8_19 : FD RX8 19 8 12 := ⟨RX8, TX8, 44, rfl, by decide, (lr_4 _ (List.mem_of_getElem? (i := 12) rfl)), inlX8⟩
theorem fpX8_19 : FP RX8 19 8 12 (.array .int) true := ⟨RX8, TX8, 44, tyX8, rfl, by decide, (lr_4 _ (List.mem_of_getElem? (i := 12) rfl)), inlX8, tyX8_ok, nmX8, rfl, by decide +kernel, fun _ => rfl⟩
theorem fdX8_22 : FD RX8 22 8 13 := ⟨RX8, TX8, 44, rfl, by decide, (lr_4 _ (List.mem_of_getElem? (i := 13) rfl)), inlX8⟩
theorem fpX8_22 : FP RX8 22 8 13 (.array .int) true := ⟨RX8, TX8, 44, tyX8, rfl, by decide, (lr_4 _ (List.mem_of_getElem? (i := 13) rfl)), inlX8, tyX8_ok, nmX8, rfl, by decide +kernel, fun _ => rfl⟩
theorem fdX8_25 : FD RX8 25 8 14 := ⟨RX8, TX8, 44, rfl, by decide, (lr_4 _ (List.mem_of_getElem? (i := 14) rfl)), inlX8⟩
theorem fpX8_25 : FP RX8 25 8 14 (.array .int) true := ⟨RX8, TX8, 44, tyX8, rfl, by decide, (lr_4 _ (List.mem_of_getElem? (i := 14) rfl)), inlX8, tyX8_ok, nmX8, rfl, by decide +kernel, fun _ => rfl⟩
theorem fdX8_28 : FD RX8 28 8 15 := ⟨RX8, TX8, 44, rfl, by decide, (lr_4 _ (List.mem_of_getElem? (i := 15) rfl)), inlX8⟩
theorem fpX8_28 : FP RX8 28 8 15 (.array .int) true := ⟨RX8, TX8, 44, tyX8, rfl, by decide, (lr_4 _ (List.mem_of_getElem? (i := 15) rfl)), inlX8, tyX8_ok, nmX8, rfl, by decide +kernel, fun _ => rfl⟩
theorem fdX8_31 : FD RX8 31 8 16 := ⟨RX8, TX8, 44, rfl, by decide, (lr_4 _ (List.mem_of_getElem? (i := 16) rfl)), inlX8⟩
theorem fpX8_31 : FP RX8 31 8 16 (.array .int) true := ⟨RX8, TX8, 44, tyX8, rfl, by decide, (lr_4 _ (List.mem_of_getElem? (i := 16) rfl)), inlX8, tyX8_ok, nmX8, rfl, by decide +kernel, fun _ => rfl⟩
theorem fdX8_34 : FD RX8 34 8 17 := ⟨RX8, TX8, 44, rfl, by decide, (lr_4 _ (List.mem_of_getElem? (i := 17) rfl)), inlX8⟩
theorem fpX8_34 : FP RX8 34 8 17 (.array .int) true := ⟨RX8, TX8, 44, tyX8, rfl, by decide, (lr_4 _ (List.mem_of_getElem? (i := 17) rfl)), inlX8, tyX8_ok, nmX8, rfl, by decide +kernel, fun _ => rfl⟩
theorem fdX8_37 : FD RX8 37 8 18 := ⟨RX8, TX8, 44, rfl, by decide, (lr_4 _ (List.mem_of_getElem? (i := 18) rfl)), inlX8⟩
theorem fpX8_37 : FP RX8 37 8 18 (.array .int) true := ⟨RX8, TX8, 44, tyX8, rfl, by decide, (lr_4 _ (List.mem_of_getElem? (i := 18) rfl)), inlX8, tyX8_ok, nmX8, rfl, by decide +kernel, fun _ => rfl⟩
theorem fdX8_40 : FD RX8 40 8 19 := ⟨RX8, TX8, 44, rfl, by decide, (lr_4 _ (List.mem_of_getElem? (i := 19) rfl)), inlX8⟩
theorem fpX8_40 : FP RX8 40 8 19 (.array .int) true := ⟨RX8, TX8, 44, tyX8, rfl, by decide, (lr_4 _ (List.mem_of_getElem? (i := 19) rfl)), inlX8, tyX8_ok, nmX8, rfl, by decide +kernel, fun _ => rfl⟩
theorem fdX8_43 : FD RX8 43 8 20 := ⟨RX8, TX8, 44, rfl, by decide, (lr_4 _ (List.mem_of_getElem? (i := 21) rfl)), inlX8⟩
theorem fpX8_43 : FP RX8 43 8 20 (.array .boolean) true := ⟨RX8, TX8, 44, tyX8, rfl, by decide, (lr_4 _ (List.mem_of_getElem? (i := 21) rfl)), inlX8, tyX8_ok, nmX8, rfl, by decide +kernel, fun _ => rfl⟩
theorem fdX8_47 : FD RX8 47 8 21 := ⟨RX8, TX8, 44, rfl, by decide, (lr_4 _ (List.mem_of_getElem? (i := 22) rfl)), inlX8⟩
theorem fpX8_47 : FP RX8 47 8 21 (.array .boolean) true := ⟨RX8, TX8, 44, tyX8, rfl, by decide, (lr_4 _ (List.mem_of_getElem? (i := 22) rfl)), inlX8, tyX8_ok, nmX8, rfl, by decide +kernel, fun _ => rfl⟩
theorem fdX8_50 : FD RX8 50 8 24 := ⟨RX8, TX8, 44, rfl, by decide, (lr_4 _ (List.mem_of_getElem? (i := 23) rfl)), inlX8⟩
theorem fpX8_50 : FP RX8 50 8 24 (.array .int) false := ⟨RX8, TX8, 44, tyX8, rfl, by decide, (lr_4 _ (List.mem_of_getElem? (i := 23) rfl)), inlX8, tyX8_ok, nmX8, rfl, by decide +kernel, fun h => by cases h⟩
theorem fdX8_53 : FD RX8 53 8 25 := ⟨RX8, TX8, 44, rfl, by decide, (lr_5 _ (List.mem_of_getElem? (i := 0) rfl)), inlX8⟩
theorem fpX8_53 : FP RX8 53 8 25 (.array .int) false := ⟨RX8, TX8, 44, tyX8, rfl, by decide, (lr_5 _ (List.mem_of_getElem? (i := 0) rfl)), inlX8, tyX8_ok, nmX8, rfl, by decide +kernel, fun h => by cases h⟩
theorem fdX8_56 : FD RX8 56 8 26 := ⟨RX8, TX8, 44, rfl, by decide, (lr_5 _ (List.mem_of_getElem? (i := 1) rfl)), inlX8⟩
theorem fpX8_56 : FP RX8 56 8 26 (.array .int) false := ⟨RX8, TX8, 44, tyX8, rfl, by decide, (lr_5 _ (List.mem_of_getElem? (i := 1) rfl)), inlX8, tyX8_ok, nmX8, rfl, by decide +kernel, fun h => by cases h⟩
theorem fdX8_59 : FD RX8 59 8 27 := ⟨RX8, TX8, 44, rfl, by decide, (lr_5 _ (List.mem_of_getElem? (i := 2) rfl)), inlX8⟩
theorem fpX8_59 : FP RX8 59 8 27 (.array .int) false := ⟨RX8, TX8, 44, tyX8, rfl, by decide, (lr_5 _ (List.mem_of_getElem? (i := 2) rfl)), inlX8, tyX8_ok, nmX8, rfl, by decide +kernel, fun h => by cases h⟩
theorem fdX8_62 : FD RX8 62 8 29 := ⟨RX8, TX8, 44, rfl, by decide, (lr_5 _ (List.mem_of_getElem? (i := 3) rfl)), inlX8⟩
theorem fpX8_62 : FP RX8 62 8 29 (.array .int) true := ⟨RX8, TX8, 44, tyX8, rfl, by decide, (lr_5 _ (List.mem_of_getElem? (i := 3) rfl)), inlX8, tyX8_ok, nmX8, rfl, by decide +kernel, fun _ => rfl⟩
theorem fdX8_65 : FD RX8 65 8 30 := ⟨RX8, TX8, 44, rfl, by decide, (lr_5 _ (List.mem_of_getElem? (i := 4) rfl)), inlX8⟩
theorem fpX8_65 : FP RX8 65 8 30 (.array .int) true := ⟨RX8, TX8, 44, tyX8, rfl, by decide, (lr_5 _ (List.mem_of_getElem? (i := 4) rfl)), inlX8, tyX8_ok, nmX8, rfl, by decide +kernel, fun _ => rfl⟩
theorem fdX8_68 : FD RX8 68 8 31 := ⟨RX8, TX8, 44, rfl, by decide, (lr_5 _ (List.mem_of_getElem? (i := 5) rfl)), inlX8⟩
theorem fpX8_68 : FP RX8 68 8 31 (.array .int) true := ⟨RX8, TX8, 44, tyX8, rfl, by decide, (lr_5 _ (List.mem_of_getElem? (i := 5) rfl)), inlX8, tyX8_ok, nmX8, rfl, by decide +kernel, fun _ => rfl⟩
theorem fdX8_71 : FD RX8 71 8 32 := ⟨RX8, TX8, 44, rfl, by decide, (lr_5 _ (List.mem_of_getElem? (i := 6) rfl)), inlX8⟩
theorem fpX8_71 : FP RX8 71 8 32 (.array .int) true := ⟨RX8, TX8, 44, tyX8, rfl, by decide, (lr_5 _ (List.mem_of_getElem? (i := 6) rfl)), inlX8, tyX8_ok, nmX8, rfl, by decide +kernel, fun _ => rfl⟩
theorem fdX8_74 : FD RX8 74 8 33 := ⟨RX8, TX8, 44, rfl, by decide, (lr_5 _ (List.mem_of_getElem? (i := 7) rfl)), inlX8⟩
theorem fpX8_74 : FP RX8 74 8 33 (.array .int) true := ⟨RX8, TX8, 44, tyX8, rfl, by decide, (lr_5 _ (List.mem_of_getElem? (i := 7) rfl)), inlX8, tyX8_ok, nmX8, rfl, by decide +kernel, fun _ => rfl⟩
theorem fdX8_77 : FD RX8 77 8 34 := ⟨RX8, TX8, 44, rfl, by decide, (lr_5 _ (List.mem_of_getElem? (i := 8) rfl)), inlX8⟩
theorem fpX8_77 : FP RX8 77 8 34 (.array .int) true := ⟨RX8, TX8, 44, tyX8, rfl, by decide, (lr_5 _ (List.mem_of_getElem? (i := 8) rfl)), inlX8, tyX8_ok, nmX8, rfl, by decide +kernel, fun _ => rfl⟩
theorem fdX8_80 : FD RX8 80 8 35 := ⟨RX8, TX8, 44, rfl, by decide, (lr_5 _ (List.mem_of_getElem? (i := 9) rfl)), inlX8⟩
theorem fpX8_80 : FP RX8 80 8 35 (.array .int) true := ⟨RX8, TX8, 44, tyX8, rfl, by decide, (lr_5 _ (List.mem_of_getElem? (i := 9) rfl)), inlX8, tyX8_ok, nmX8, rfl, by decide +kernel, fun _ => rfl⟩
theorem fdX8_83 : FD RX8 83 8 36 := ⟨RX8, TX8, 44, rfl, by decide, (lr_5 _ (List.mem_of_getElem? (i := 10) rfl)), inlX8⟩
theorem fpX8_83 : FP RX8 83 8 36 (.array .int) true := ⟨RX8, TX8, 44, tyX8, rfl, by decide, (lr_5 _ (List.mem_of_getElem? (i := 10) rfl)), inlX8, tyX8_ok, nmX8, rfl, by decide +kernel, fun _ => rfl⟩
theorem fdX8_86 : FD RX8 86 8 37 := ⟨RX8, TX8, 44, rfl, by decide, (lr_5 _ (List.mem_of_getElem? (i := 11) rfl)), inlX8⟩
theorem fpX8_86 : FP RX8 86 8 37 (.array .int) true := ⟨RX8, TX8, 44, tyX8, rfl, by decide, (lr_5 _ (List.mem_of_getElem? (i := 11) rfl)), inlX8, tyX8_ok, nmX8, rfl, by decide +kernel, fun _ => rfl⟩
theorem fdX8_89 : FD RX8 89 8 39 := ⟨RX8, TX8, 44, rfl, by decide, (lr_5 _ (List.mem_of_getElem? (i := 12) rfl)), inlX8⟩
theorem fpX8_89 : FP RX8 89 8 39 (.array .int) true := ⟨RX8, TX8, 44, tyX8, rfl, by decide, (lr_5 _ (List.mem_of_getElem? (i := 12) rfl)), inlX8, tyX8_ok, nmX8, rfl, by decide +kernel, fun _ => rfl⟩
theorem fdX8_92 : FD RX8 92 8 43 := ⟨RX8, TX8, 44, rfl, by decide, (lr_5 _ (List.mem_of_getElem? (i := 13) rfl)), inlX8⟩
theorem fpX8_92 : FP RX8 92 8 43 (.array .int) true := ⟨RX8, TX8, 44, tyX8, rfl, by decide, (lr_5 _ (List.mem_of_getElem? (i := 13) rfl)), inlX8, tyX8_ok, nmX8, rfl, by decide +kernel, fun _ => rfl⟩
theorem fdX8_111 : FD RX8 111 8 28 := ⟨RX8, TX8, 44, rfl, by decide, (lr_5 _ (List.mem_of_getElem? (i := 18) rfl)), inlX8⟩
theorem fpX8_111 : FP RX8 111 8 28 (.int) false := ⟨RX8, TX8, 44, tyX8, rfl, by decide, (lr_5 _ (List.mem_of_getElem? (i := 18) rfl)), inlX8, tyX8_ok, nmX8, rfl, by decide +kernel, fun h => by cases h⟩
theorem fdX8_118 : FD RX8 118 8 8 := ⟨RX8, TX8, 44, rfl, by decide, (lr_5 _ (List.mem_of_getElem? (i := 19) rfl)), inlX8⟩
theorem fpX8_118 : FP RX8 118 8 8 (.int) false := ⟨RX8, TX8, 44, tyX8, rfl, by decide, (lr_5 _ (List.mem_of_getElem? (i := 19) rfl)), inlX8, tyX8_ok, nmX8, rfl, by decide +kernel, fun h => by cases h⟩
theorem fdX8_130 : FD RX8 130 8 0 := ⟨RX8, TX8, 44, rfl, by decide, (lr_6 _ (List.mem_of_getElem? (i := 15) rfl)), inlX8⟩
theorem fpX8_130 : FP RX8 130 8 0 (.int) false := ⟨RX8, TX8, 44, tyX8, rfl, by decide, (lr_6 _ (List.mem_of_getElem? (i := 15) rfl)), inlX8, tyX8_ok, nmX8, rfl, by decide +kernel, fun h => by cases h⟩
theorem fdX8_133 : FD RX8 133 8 1 := ⟨RX8, TX8, 44, rfl, by decide, (lr_6 _ (List.mem_of_getElem? (i := 16) rfl)), inlX8⟩
theorem fpX8_133 : FP RX8 133 8 1 (.int) false := ⟨RX8, TX8, 44, tyX8, rfl, by decide, (lr_6 _ (List.mem_of_getElem? (i := 16) rfl)), inlX8, tyX8_ok, nmX8, rfl, by decide +kernel, fun h => by cases h⟩
theorem fdX8_136 : FD RX8 136 8 5 := ⟨RX8, TX8, 44, rfl, by decide, (lr_6 _ (List.mem_of_getElem? (i := 17) rfl)), inlX8⟩
theorem fpX8_136 : FP RX8 136 8 5 (.int) false := ⟨RX8, TX8, 44, tyX8, rfl, by decide, (lr_6 _ (List.mem_of_getElem? (i := 17) rfl)), inlX8, tyX8_ok, nmX8, rfl, by decide +kernel, fun h => by cases h⟩
theorem fdX8_139 : FD RX8 139 8 6 := ⟨RX8, TX8, 44, rfl, by decide, (lr_6 _ (List.mem_of_getElem? (i := 18) rfl)), inlX8⟩
theorem fpX8_139 : FP RX8 139 8 6 (.int) false := ⟨RX8, TX8, 44, tyX8, rfl, by decide, (lr_6 _ (List.mem_of_getElem? (i := 18) rfl)), inlX8, tyX8_ok, nmX8, rfl, by decide +kernel, fun h => by cases h⟩
theorem fdX8_142 : FD RX8 142 8 2 := ⟨RX8, TX8, 44, rfl, by decide, (lr_6 _ (List.mem_of_getElem? (i := 19) rfl)), inlX8⟩
theorem fpX8_142 : FP RX8 142 8 2 (.int) false := ⟨RX8, TX8, 44, tyX8, rfl, by decide, (lr_6 _ (List.mem_of_getElem? (i := 19) rfl)), inlX8, tyX8_ok, nmX8, rfl, by decide +kernel, fun h => by cases h⟩
theorem fdX8_145 : FD RX8 145 8 3 := ⟨RX8, TX8, 44, rfl, by decide, (lr_6 _ (List.mem_of_getElem? (i := 20) rfl)), inlX8⟩
theorem fpX8_145 : FP RX8 145 8 3 (.int) false := ⟨RX8, TX8, 44, tyX8, rfl, by decide, (lr_6 _ (List.mem_of_getElem? (i := 20) rfl)), inlX8, tyX8_ok, nmX8, rfl, by decide +kernel, fun h => by cases h⟩
theorem fdX8_148 : FD RX8 148 8 4 := ⟨RX8, TX8, 44, rfl, by decide, (lr_6 _ (List.mem_of_getElem? (i := 21) rfl)), inlX8⟩
theorem fpX8_148 : FP RX8 148 8 4 (.int) false := ⟨RX8, TX8, 44, tyX8, rfl, by decide, (lr_6 _ (List.mem_of_getElem? (i := 21) rfl)), inlX8, tyX8_ok, nmX8, rfl, by decide +kernel, fun h => by cases h⟩
theorem fdX8_151 : FD RX8 151 8 7 := ⟨RX8, TX8, 44, rfl, by decide, (lr_6 _ (List.mem_of_getElem? (i := 22) rfl)), inlX8⟩
theorem fpX8_151 : FP RX8 151 8 7 (.int) false := ⟨RX8, TX8, 44, tyX8, rfl, by decide, (lr_6 _ (List.mem_of_getElem? (i := 22) rfl)), inlX8, tyX8_ok, nmX8, rfl, by decide +kernel, fun h => by cases h⟩
theorem fdX7_64 : FD RX7 64 3 1 := ⟨RX3, TX3, 2, rfl, by decide, (lr_7 _ (List.mem_of_getElem? (i := 6) rfl)), inlX3⟩
theorem fpX7_64 : FP RX7 64 3 1 (.int) false := ⟨RX3, TX3, 2, tyX3, rfl, by decide, (lr_7 _ (List.mem_of_getElem? (i := 6) rfl)), inlX3, tyX3_ok, nmX3, rfl, by decide +kernel, fun h => by cases h⟩
theorem fdX3_29 : FD RX3 29 4 0 := ⟨RX4, TX4, 14, rfl, by decide, (lr_7 _ (List.mem_of_getElem? (i := 14) rfl)), inlX4⟩
theorem fdX3_17 : FD RX3 17 3 1 := ⟨RX3, TX3, 2, rfl, by decide, (lr_7 _ (List.mem_of_getElem? (i := 19) rfl)), inlX3⟩
theorem fpX3_17 : FP RX3 17 3 1 (.int) false := ⟨RX3, TX3, 2, tyX3, rfl, by decide, (lr_7 _ (List.mem_of_getElem? (i := 19) rfl)), inlX3, tyX3_ok, nmX3, rfl, by decide +kernel, fun h => by cases h⟩
theorem fdX4_9 : FD RX4 9 4 0 := ⟨RX4, TX4, 14, rfl, by decide, (lr_8 _ (List.mem_of_getElem? (i := 0) rfl)), inlX4⟩
theorem fpX4_9 : FP RX4 9 4 0 (.int) true := ⟨RX4, TX4, 14, tyX4, rfl, by decide, (lr_8 _ (List.mem_of_getElem? (i := 0) rfl)), inlX4, tyX4_ok, nmX4, rfl, by decide +kernel, fun _ => rfl⟩
theorem fdX4_15 : FD RX4 15 4 1 := ⟨RX4, TX4, 14, rfl, by decide, (lr_8 _ (List.mem_of_getElem? (i := 1) rfl)), inlX4⟩
theorem fpX4_15 : FP RX4 15 4 1 (.int) true := ⟨RX4, TX4, 14, tyX4, rfl, by decide, (lr_8 _ (List.mem_of_getElem? (i := 1) rfl)), inlX4, tyX4_ok, nmX4, rfl, by decide +kernel, fun _ => rfl⟩
theorem fdX4_18 : FD RX4 18 4 2 := ⟨RX4, TX4, 14, rfl, by decide, (lr_8 _ (List.mem_of_getElem? (i := 2) rfl)), inlX4⟩
theorem fpX4_18 : FP RX4 18 4 2 (.int) true := ⟨RX4, TX4, 14, tyX4, rfl, by decide, (lr_8 _ (List.mem_of_getElem? (i := 2) rfl)), inlX4, tyX4_ok, nmX4, rfl, by decide +kernel, fun _ => rfl⟩
theorem fdX4_21 : FD RX4 21 4 3 := ⟨RX4, TX4, 14, rfl, by decide, (lr_8 _ (List.mem_of_getElem? (i := 3) rfl)), inlX4⟩
theorem fpX4_21 : FP RX4 21 4 3 (.int) true := ⟨RX4, TX4, 14, tyX4, rfl, by decide, (lr_8 _ (List.mem_of_getElem? (i := 3) rfl)), inlX4, tyX4_ok, nmX4, rfl, by decide +kernel, fun _ => rfl⟩
theorem fdX4_24 : FD RX4 24 4 4 := ⟨RX4, TX4, 14, rfl, by decide, (lr_8 _ (List.mem_of_getElem? (i := 4) rfl)), inlX4⟩
theorem fpX4_24 : FP RX4 24 4 4 (.boolean) false := ⟨RX4, TX4, 14, tyX4, rfl, by decide, (lr_8 _ (List.mem_of_getElem? (i := 4) rfl)), inlX4, tyX4_ok, nmX4, rfl, by decide +kernel, fun h => by cases h⟩
theorem fdX4_28 : FD RX4 28 4 5 := ⟨RX4, TX4, 14, rfl, by decide, (lr_8 _ (List.mem_of_getElem? (i := 5) rfl)), inlX4⟩
theorem fpX4_28 : FP RX4 28 4 5 (.int) false := ⟨RX4, TX4, 14, tyX4, rfl, by decide, (lr_8 _ (List.mem_of_getElem? (i := 5) rfl)), inlX4, tyX4_ok, nmX4, rfl, by decide +kernel, fun h => by cases h⟩
theorem fdX3_32 : FD RX3 32 4 1 := ⟨RX4, TX4, 14, rfl, by decide, (lr_8 _ (List.mem_of_getElem? (i := 10) rfl)), inlX4⟩
theorem fdX3_39 : FD RX3 39 4 2 := ⟨RX4, TX4, 14, rfl, by decide, (lr_8 _ (List.mem_of_getElem? (i := 11) rfl)), inlX4⟩
theorem fdX4_31 : FD RX4 31 4 12 := ⟨RX4, TX4, 14, rfl, by decide, (lr_8 _ (List.mem_of_getElem? (i := 20) rfl)), inlX4⟩
theorem fpX4_31 : FP RX4 31 4 12 (.long) false := ⟨RX4, TX4, 14, tyX4, rfl, by decide, (lr_8 _ (List.mem_of_getElem? (i := 20) rfl)), inlX4, tyX4_ok, nmX4, rfl, by decide +kernel, fun h => by cases h⟩
theorem fdX4_35 : FD RX4 35 4 13 := ⟨RX4, TX4, 14, rfl, by decide, (lr_8 _ (List.mem_of_getElem? (i := 21) rfl)), inlX4⟩
theorem fpX4_35 : FP RX4 35 4 13 (.long) false := ⟨RX4, TX4, 14, tyX4, rfl, by decide, (lr_8 _ (List.mem_of_getElem? (i := 21) rfl)), inlX4, tyX4_ok, nmX4, rfl, by decide +kernel, fun h => by cases h⟩
theorem fdX8_99 : FD RX8 99 8 22 := ⟨RX8, TX8, 44, rfl, by decide, (lr_9 _ (List.mem_of_getElem? (i := 2) rfl)), inlX8⟩
theorem fpX8_99 : FP RX8 99 8 22 (.int) false := ⟨RX8, TX8, 44, tyX8, rfl, by decide, (lr_9 _ (List.mem_of_getElem? (i := 2) rfl)), inlX8, tyX8_ok, nmX8, rfl, by decide +kernel, fun h => by cases h⟩
theorem fdX7_83 : FD RX7 83 4 0 := ⟨RX4, TX4, 14, rfl, by decide, (lr_9 _ (List.mem_of_getElem? (i := 11) rfl)), inlX4⟩
theorem fdX7_86 : FD RX7 86 4 5 := ⟨RX4, TX4, 14, rfl, by decide, (lr_9 _ (List.mem_of_getElem? (i := 12) rfl)), inlX4⟩
theorem fpX7_86 : FP RX7 86 4 5 (.int) false := ⟨RX4, TX4, 14, tyX4, rfl, by decide, (lr_9 _ (List.mem_of_getElem? (i := 12) rfl)), inlX4, tyX4_ok, nmX4, rfl, by decide +kernel, fun h => by cases h⟩
theorem fdX3_25 : FD RX3 25 4 4 := ⟨RX4, TX4, 14, rfl, by decide, (lr_9 _ (List.mem_of_getElem? (i := 17) rfl)), inlX4⟩
theorem fpX3_25 : FP RX3 25 4 4 (.boolean) false := ⟨RX4, TX4, 14, tyX4, rfl, by decide, (lr_9 _ (List.mem_of_getElem? (i := 17) rfl)), inlX4, tyX4_ok, nmX4, rfl, by decide +kernel, fun h => by cases h⟩
theorem fdX7_116 : FD RX7 116 2 3 := ⟨RX2, TX2, 4, rfl, by decide, (lr_9 _ (List.mem_of_getElem? (i := 22) rfl)), inlX2⟩
theorem fpX7_116 : FP RX7 116 2 3 (.int) false := ⟨RX2, TX2, 4, tyX2, rfl, by decide, (lr_9 _ (List.mem_of_getElem? (i := 22) rfl)), inlX2, tyX2_ok, nmX2, rfl, by decide +kernel, fun h => by cases h⟩
theorem fdX7_243 : FD RX7 243 2 2 := ⟨RX2, TX2, 4, rfl, by decide, (lr_9 _ (List.mem_of_getElem? (i := 23) rfl)), inlX2⟩
theorem fdX2_28 : FD RX2 28 2 3 := ⟨RX2, TX2, 4, rfl, by decide, (lr_10 _ (List.mem_of_getElem? (i := 4) rfl)), inlX2⟩
theorem fpX2_28 : FP RX2 28 2 3 (.int) false := ⟨RX2, TX2, 4, tyX2, rfl, by decide, (lr_10 _ (List.mem_of_getElem? (i := 4) rfl)), inlX2, tyX2_ok, nmX2, rfl, by decide +kernel, fun h => by cases h⟩
theorem fdX2_35 : FD RX2 35 5 0 := ⟨RX5, TX5, 4, rfl, by decide, (lr_10 _ (List.mem_of_getElem? (i := 5) rfl)), inlX5⟩
theorem fdX2_38 : FD RX2 38 5 1 := ⟨RX5, TX5, 4, rfl, by decide, (lr_10 _ (List.mem_of_getElem? (i := 6) rfl)), inlX5⟩
theorem fdX2_48 : FD RX2 48 5 3 := ⟨RX5, TX5, 4, rfl, by decide, (lr_10 _ (List.mem_of_getElem? (i := 15) rfl)), inlX5⟩
theorem fdX7_191 : FD RX7 191 0 0 := ⟨RX0, TX0, 7, rfl, by decide, (lr_10 _ (List.mem_of_getElem? (i := 20) rfl)), inlX0⟩
theorem fdX1_48 : FD RX1 48 1 4 := ⟨RX1, TX1, 7, rfl, by decide, (lr_11 _ (List.mem_of_getElem? (i := 9) rfl)), inlX1⟩
theorem fpX1_48 : FP RX1 48 1 4 (.int) false := ⟨RX1, TX1, 7, tyX1, rfl, by decide, (lr_11 _ (List.mem_of_getElem? (i := 9) rfl)), inlX1, tyX1_ok, nmX1, rfl, by decide +kernel, fun h => by cases h⟩
theorem fdX1_51 : FD RX1 51 1 5 := ⟨RX1, TX1, 7, rfl, by decide, (lr_11 _ (List.mem_of_getElem? (i := 10) rfl)), inlX1⟩
theorem fpX1_51 : FP RX1 51 1 5 (.long) false := ⟨RX1, TX1, 7, tyX1, rfl, by decide, (lr_11 _ (List.mem_of_getElem? (i := 10) rfl)), inlX1, tyX1_ok, nmX1, rfl, by decide +kernel, fun h => by cases h⟩
theorem fdX1_55 : FD RX1 55 1 6 := ⟨RX1, TX1, 7, rfl, by decide, (lr_11 _ (List.mem_of_getElem? (i := 11) rfl)), inlX1⟩
theorem fpX1_55 : FP RX1 55 1 6 (.long) false := ⟨RX1, TX1, 7, tyX1, rfl, by decide, (lr_11 _ (List.mem_of_getElem? (i := 11) rfl)), inlX1, tyX1_ok, nmX1, rfl, by decide +kernel, fun h => by cases h⟩
theorem fdX1_58 : FD RX1 58 3 1 := ⟨RX3, TX3, 2, rfl, by decide, (lr_11 _ (List.mem_of_getElem? (i := 12) rfl)), inlX3⟩
theorem fpX1_58 : FP RX1 58 3 1 (.int) false := ⟨RX3, TX3, 2, tyX3, rfl, by decide, (lr_11 _ (List.mem_of_getElem? (i := 12) rfl)), inlX3, tyX3_ok, nmX3, rfl, by decide +kernel, fun h => by cases h⟩
theorem fdX1_67 : FD RX1 67 4 4 := ⟨RX4, TX4, 14, rfl, by decide, (lr_11 _ (List.mem_of_getElem? (i := 13) rfl)), inlX4⟩
theorem fpX1_67 : FP RX1 67 4 4 (.boolean) false := ⟨RX4, TX4, 14, tyX4, rfl, by decide, (lr_11 _ (List.mem_of_getElem? (i := 13) rfl)), inlX4, tyX4_ok, nmX4, rfl, by decide +kernel, fun h => by cases h⟩
theorem fdX1_73 : FD RX1 73 4 12 := ⟨RX4, TX4, 14, rfl, by decide, (lr_11 _ (List.mem_of_getElem? (i := 14) rfl)), inlX4⟩
theorem fpX1_73 : FP RX1 73 4 12 (.long) false := ⟨RX4, TX4, 14, tyX4, rfl, by decide, (lr_11 _ (List.mem_of_getElem? (i := 14) rfl)), inlX4, tyX4_ok, nmX4, rfl, by decide +kernel, fun h => by cases h⟩
theorem fdX1_76 : FD RX1 76 4 13 := ⟨RX4, TX4, 14, rfl, by decide, (lr_11 _ (List.mem_of_getElem? (i := 15) rfl)), inlX4⟩
theorem fpX1_76 : FP RX1 76 4 13 (.long) false := ⟨RX4, TX4, 14, tyX4, rfl, by decide, (lr_11 _ (List.mem_of_getElem? (i := 15) rfl)), inlX4, tyX4_ok, nmX4, rfl, by decide +kernel, fun h => by cases h⟩
theorem fdX1_83 : FD RX1 83 4 1 := ⟨RX4, TX4, 14, rfl, by decide, (lr_11 _ (List.mem_of_getElem? (i := 21) rfl)), inlX4⟩
theorem fdX7_203 : FD RX7 203 4 1 := ⟨RX4, TX4, 14, rfl, by decide, (lr_13 _ (List.mem_of_getElem? (i := 18) rfl)), inlX4⟩
theorem fdX7_123 : FD RX7 123 4 6 := ⟨RX4, TX4, 14, rfl, by decide, (lr_13 _ (List.mem_of_getElem? (i := 19) rfl)), inlX4⟩
theorem fpX7_123 : FP RX7 123 4 6 (.int) false := ⟨RX4, TX4, 14, tyX4, rfl, by decide, (lr_13 _ (List.mem_of_getElem? (i := 19) rfl)), inlX4, tyX4_ok, nmX4, rfl, by decide +kernel, fun h => by cases h⟩
theorem fdX7_231 : FD RX7 231 0 6 := ⟨RX0, TX0, 7, rfl, by decide, (lr_13 _ (List.mem_of_getElem? (i := 20) rfl)), inlX0⟩
theorem fdX8_158 : FD RX8 158 8 40 := ⟨RX8, TX8, 44, rfl, by decide, (lr_14 _ (List.mem_of_getElem? (i := 13) rfl)), inlX8⟩
theorem fpX8_158 : FP RX8 158 8 40 (.int) false := ⟨RX8, TX8, 44, tyX8, rfl, by decide, (lr_14 _ (List.mem_of_getElem? (i := 13) rfl)), inlX8, tyX8_ok, nmX8, rfl, by decide +kernel, fun h => by cases h⟩
theorem fdX7_97 : FD RX7 97 4 4 := ⟨RX4, TX4, 14, rfl, by decide, (lr_15 _ (List.mem_of_getElem? (i := 14) rfl)), inlX4⟩
theorem fpX7_97 : FP RX7 97 4 4 (.boolean) false := ⟨RX4, TX4, 14, tyX4, rfl, by decide, (lr_15 _ (List.mem_of_getElem? (i := 14) rfl)), inlX4, tyX4_ok, nmX4, rfl, by decide +kernel, fun h => by cases h⟩
theorem fdX7_234 : FD RX7 234 0 1 := ⟨RX0, TX0, 7, rfl, by decide, (lr_15 _ (List.mem_of_getElem? (i := 19) rfl)), inlX0⟩
theorem fdX7_240 : FD RX7 240 0 4 := ⟨RX0, TX0, 7, rfl, by decide, (lr_15 _ (List.mem_of_getElem? (i := 20) rfl)), inlX0⟩
theorem fdX7_126 : FD RX7 126 0 5 := ⟨RX0, TX0, 7, rfl, by decide, (lr_17 _ (List.mem_of_getElem? (i := 1) rfl)), inlX0⟩
theorem fdX7_133 : FD RX7 133 0 2 := ⟨RX0, TX0, 7, rfl, by decide, (lr_17 _ (List.mem_of_getElem? (i := 11) rfl)), inlX0⟩
theorem fdX4_38 : FD RX4 38 4 11 := ⟨RX4, TX4, 14, rfl, by decide, (lr_17 _ (List.mem_of_getElem? (i := 20) rfl)), inlX4⟩
theorem fpX4_38 : FP RX4 38 4 11 (.int) false := ⟨RX4, TX4, 14, tyX4, rfl, by decide, (lr_17 _ (List.mem_of_getElem? (i := 20) rfl)), inlX4, tyX4_ok, nmX4, rfl, by decide +kernel, fun h => by cases h⟩
theorem fdX4_47 : FD RX4 47 4 10 := ⟨RX4, TX4, 14, rfl, by decide, (lr_17 _ (List.mem_of_getElem? (i := 22) rfl)), inlX4⟩
theorem fpX4_47 : FP RX4 47 4 10 (.int) false := ⟨RX4, TX4, 14, tyX4, rfl, by decide, (lr_17 _ (List.mem_of_getElem? (i := 22) rfl)), inlX4, tyX4_ok, nmX4, rfl, by decide +kernel, fun h => by cases h⟩
theorem fdX4_50 : FD RX4 50 4 7 := ⟨RX4, TX4, 14, rfl, by decide, (lr_17 _ (List.mem_of_getElem? (i := 23) rfl)), inlX4⟩
theorem fpX4_50 : FP RX4 50 4 7 (.int) false := ⟨RX4, TX4, 14, tyX4, rfl, by decide, (lr_17 _ (List.mem_of_getElem? (i := 23) rfl)), inlX4, tyX4_ok, nmX4, rfl, by decide +kernel, fun h => by cases h⟩
theorem fdX7_139 : FD RX7 139 4 11 := ⟨RX4, TX4, 14, rfl, by decide, (lr_18 _ (List.mem_of_getElem? (i := 13) rfl)), inlX4⟩
theorem fpX7_139 : FP RX7 139 4 11 (.int) false := ⟨RX4, TX4, 14, tyX4, rfl, by decide, (lr_18 _ (List.mem_of_getElem? (i := 13) rfl)), inlX4, tyX4_ok, nmX4, rfl, by decide +kernel, fun h => by cases h⟩
theorem fdX7_142 : FD RX7 142 4 7 := ⟨RX4, TX4, 14, rfl, by decide, (lr_18 _ (List.mem_of_getElem? (i := 22) rfl)), inlX4⟩
theorem fpX7_142 : FP RX7 142 4 7 (.int) false := ⟨RX4, TX4, 14, tyX4, rfl, by decide, (lr_18 _ (List.mem_of_getElem? (i := 22) rfl)), inlX4, tyX4_ok, nmX4, rfl, by decide +kernel, fun h => by cases h⟩
theorem fdX7_145 : FD RX7 145 4 9 := ⟨RX4, TX4, 14, rfl, by decide, (lr_18 _ (List.mem_of_getElem? (i := 23) rfl)), inlX4⟩
theorem fpX7_145 : FP RX7 145 4 9 (.int) false := ⟨RX4, TX4, 14, tyX4, rfl, by decide, (lr_18 _ (List.mem_of_getElem? (i := 23) rfl)), inlX4, tyX4_ok, nmX4, rfl, by decide +kernel, fun h => by cases h⟩
theorem fdX7_148 : FD RX7 148 4 8 := ⟨RX4, TX4, 14, rfl, by decide, (lr_19 _ (List.mem_of_getElem? (i := 0) rfl)), inlX4⟩
theorem fpX7_148 : FP RX7 148 4 8 (.int) false := ⟨RX4, TX4, 14, tyX4, rfl, by decide, (lr_19 _ (List.mem_of_getElem? (i := 0) rfl)), inlX4, tyX4_ok, nmX4, rfl, by decide +kernel, fun h => by cases h⟩
theorem fdX8_206 : FD RX8 206 8 23 := ⟨RX8, TX8, 44, rfl, by decide, (lr_19 _ (List.mem_of_getElem? (i := 13) rfl)), inlX8⟩
theorem fpX8_206 : FP RX8 206 8 23 (.int) false := ⟨RX8, TX8, 44, tyX8, rfl, by decide, (lr_19 _ (List.mem_of_getElem? (i := 13) rfl)), inlX8, tyX8_ok, nmX8, rfl, by decide +kernel, fun h => by cases h⟩
theorem fdX6_9 : FD RX6 9 6 0 := ⟨RX6, TX6, 7, rfl, by decide, (lr_20 _ (List.mem_of_getElem? (i := 0) rfl)), inlX6⟩
theorem fpX6_9 : FP RX6 9 6 0 (.int) true := ⟨RX6, TX6, 7, tyX6, rfl, by decide, (lr_20 _ (List.mem_of_getElem? (i := 0) rfl)), inlX6, tyX6_ok, nmX6, rfl, by decide +kernel, fun _ => rfl⟩
theorem fdX6_15 : FD RX6 15 6 1 := ⟨RX6, TX6, 7, rfl, by decide, (lr_20 _ (List.mem_of_getElem? (i := 1) rfl)), inlX6⟩
theorem fpX6_15 : FP RX6 15 6 1 (.int) true := ⟨RX6, TX6, 7, tyX6, rfl, by decide, (lr_20 _ (List.mem_of_getElem? (i := 1) rfl)), inlX6, tyX6_ok, nmX6, rfl, by decide +kernel, fun _ => rfl⟩
theorem fdX6_18 : FD RX6 18 6 2 := ⟨RX6, TX6, 7, rfl, by decide, (lr_20 _ (List.mem_of_getElem? (i := 2) rfl)), inlX6⟩
theorem fpX6_18 : FP RX6 18 6 2 (.int) true := ⟨RX6, TX6, 7, tyX6, rfl, by decide, (lr_20 _ (List.mem_of_getElem? (i := 2) rfl)), inlX6, tyX6_ok, nmX6, rfl, by decide +kernel, fun _ => rfl⟩
theorem fdX6_21 : FD RX6 21 6 3 := ⟨RX6, TX6, 7, rfl, by decide, (lr_20 _ (List.mem_of_getElem? (i := 3) rfl)), inlX6⟩
theorem fpX6_21 : FP RX6 21 6 3 (.int) false := ⟨RX6, TX6, 7, tyX6, rfl, by decide, (lr_20 _ (List.mem_of_getElem? (i := 3) rfl)), inlX6, tyX6_ok, nmX6, rfl, by decide +kernel, fun h => by cases h⟩
theorem fdX6_24 : FD RX6 24 6 4 := ⟨RX6, TX6, 7, rfl, by decide, (lr_20 _ (List.mem_of_getElem? (i := 4) rfl)), inlX6⟩
theorem fpX6_24 : FP RX6 24 6 4 (.int) false := ⟨RX6, TX6, 7, tyX6, rfl, by decide, (lr_20 _ (List.mem_of_getElem? (i := 4) rfl)), inlX6, tyX6_ok, nmX6, rfl, by decide +kernel, fun h => by cases h⟩
theorem fdX8_209 : FD RX8 209 8 38 := ⟨RX8, TX8, 44, rfl, by decide, (lr_20 _ (List.mem_of_getElem? (i := 9) rfl)), inlX8⟩
theorem fpX8_209 : FP RX8 209 8 38 (.int) false := ⟨RX8, TX8, 44, tyX8, rfl, by decide, (lr_20 _ (List.mem_of_getElem? (i := 9) rfl)), inlX8, tyX8_ok, nmX8, rfl, by decide +kernel, fun h => by cases h⟩
theorem fdX7_158 : FD RX7 158 6 3 := ⟨RX6, TX6, 7, rfl, by decide, (lr_20 _ (List.mem_of_getElem? (i := 14) rfl)), inlX6⟩
theorem fpX7_158 : FP RX7 158 6 3 (.int) false := ⟨RX6, TX6, 7, tyX6, rfl, by decide, (lr_20 _ (List.mem_of_getElem? (i := 14) rfl)), inlX6, tyX6_ok, nmX6, rfl, by decide +kernel, fun h => by cases h⟩
theorem fdX7_161 : FD RX7 161 6 4 := ⟨RX6, TX6, 7, rfl, by decide, (lr_20 _ (List.mem_of_getElem? (i := 15) rfl)), inlX6⟩
theorem fpX7_161 : FP RX7 161 6 4 (.int) false := ⟨RX6, TX6, 7, tyX6, rfl, by decide, (lr_20 _ (List.mem_of_getElem? (i := 15) rfl)), inlX6, tyX6_ok, nmX6, rfl, by decide +kernel, fun h => by cases h⟩
theorem fdX7_255 : FD RX7 255 6 1 := ⟨RX6, TX6, 7, rfl, by decide, (lr_21 _ (List.mem_of_getElem? (i := 8) rfl)), inlX6⟩
theorem fdX7_258 : FD RX7 258 6 0 := ⟨RX6, TX6, 7, rfl, by decide, (lr_21 _ (List.mem_of_getElem? (i := 9) rfl)), inlX6⟩
theorem fdX7_218 : FD RX7 218 6 5 := ⟨RX6, TX6, 7, rfl, by decide, (lr_21 _ (List.mem_of_getElem? (i := 10) rfl)), inlX6⟩
theorem fpX7_218 : FP RX7 218 6 5 (.int) false := ⟨RX6, TX6, 7, tyX6, rfl, by decide, (lr_21 _ (List.mem_of_getElem? (i := 10) rfl)), inlX6, tyX6_ok, nmX6, rfl, by decide +kernel, fun h => by cases h⟩
theorem fdX7_264 : FD RX7 264 0 3 := ⟨RX0, TX0, 7, rfl, by decide, (lr_21 _ (List.mem_of_getElem? (i := 11) rfl)), inlX0⟩
theorem fdX3_46 : FD RX3 46 4 6 := ⟨RX4, TX4, 14, rfl, by decide, (lr_21 _ (List.mem_of_getElem? (i := 16) rfl)), inlX4⟩
theorem fpX3_46 : FP RX3 46 4 6 (.int) false := ⟨RX4, TX4, 14, tyX4, rfl, by decide, (lr_21 _ (List.mem_of_getElem? (i := 16) rfl)), inlX4, tyX4_ok, nmX4, rfl, by decide +kernel, fun h => by cases h⟩
theorem fdX7_269 : FD RX7 269 6 2 := ⟨RX6, TX6, 7, rfl, by decide, (lr_21 _ (List.mem_of_getElem? (i := 21) rfl)), inlX6⟩
theorem fdX7_221 : FD RX7 221 6 6 := ⟨RX6, TX6, 7, rfl, by decide, (lr_21 _ (List.mem_of_getElem? (i := 22) rfl)), inlX6⟩
theorem fpX7_221 : FP RX7 221 6 6 (.int) false := ⟨RX6, TX6, 7, tyX6, rfl, by decide, (lr_21 _ (List.mem_of_getElem? (i := 22) rfl)), inlX6, tyX6_ok, nmX6, rfl, by decide +kernel, fun h => by cases h⟩
theorem fdX7_180 : FD RX7 180 5 0 := ⟨RX5, TX5, 4, rfl, by decide, (lr_22 _ (List.mem_of_getElem? (i := 15) rfl)), inlX5⟩
theorem fdX7_185 : FD RX7 185 5 1 := ⟨RX5, TX5, 4, rfl, by decide, (lr_22 _ (List.mem_of_getElem? (i := 16) rfl)), inlX5⟩
theorem fdX7_188 : FD RX7 188 5 2 := ⟨RX5, TX5, 4, rfl, by decide, (lr_22 _ (List.mem_of_getElem? (i := 17) rfl)), inlX5⟩
theorem fdX2_52 : FD RX2 52 5 2 := ⟨RX5, TX5, 4, rfl, by decide, (lr_22 _ (List.mem_of_getElem? (i := 22) rfl)), inlX5⟩
theorem fdX7_197 : FD RX7 197 1 1 := ⟨RX1, TX1, 7, rfl, by decide, (lr_23 _ (List.mem_of_getElem? (i := 23) rfl)), inlX1⟩
theorem fpX7_197 : FP RX7 197 1 1 (.int) false := ⟨RX1, TX1, 7, tyX1, rfl, by decide, (lr_23 _ (List.mem_of_getElem? (i := 23) rfl)), inlX1, tyX1_ok, nmX1, rfl, by decide +kernel, fun h => by cases h⟩
theorem fdX7_200 : FD RX7 200 1 0 := ⟨RX1, TX1, 7, rfl, by decide, (lr_24 _ (List.mem_of_getElem? (i := 0) rfl)), inlX1⟩
theorem fdX1_26 : FD RX1 26 1 1 := ⟨RX1, TX1, 7, rfl, by decide, (lr_24 _ (List.mem_of_getElem? (i := 5) rfl)), inlX1⟩
theorem fpX1_26 : FP RX1 26 1 1 (.int) false := ⟨RX1, TX1, 7, tyX1, rfl, by decide, (lr_24 _ (List.mem_of_getElem? (i := 5) rfl)), inlX1, tyX1_ok, nmX1, rfl, by decide +kernel, fun h => by cases h⟩
theorem fdX8_165 : FD RX8 165 8 41 := ⟨RX8, TX8, 44, rfl, by decide, (lr_24 _ (List.mem_of_getElem? (i := 14) rfl)), inlX8⟩
theorem fpX8_165 : FP RX8 165 8 41 (.int) false := ⟨RX8, TX8, 44, tyX8, rfl, by decide, (lr_24 _ (List.mem_of_getElem? (i := 14) rfl)), inlX8, tyX8_ok, nmX8, rfl, by decide +kernel, fun h => by cases h⟩
theorem fdX8_168 : FD RX8 168 8 42 := ⟨RX8, TX8, 44, rfl, by decide, (lr_24 _ (List.mem_of_getElem? (i := 15) rfl)), inlX8⟩
theorem fpX8_168 : FP RX8 168 8 42 (.int) false := ⟨RX8, TX8, 44, tyX8, rfl, by decide, (lr_24 _ (List.mem_of_getElem? (i := 15) rfl)), inlX8, tyX8_ok, nmX8, rfl, by decide +kernel, fun h => by cases h⟩
theorem fdX7_206 : FD RX7 206 4 2 := ⟨RX4, TX4, 14, rfl, by decide, (lr_25 _ (List.mem_of_getElem? (i := 0) rfl)), inlX4⟩
theorem fdX7_209 : FD RX7 209 4 3 := ⟨RX4, TX4, 14, rfl, by decide, (lr_25 _ (List.mem_of_getElem? (i := 1) rfl)), inlX4⟩
theorem fdX7_215 : FD RX7 215 4 10 := ⟨RX4, TX4, 14, rfl, by decide, (lr_25 _ (List.mem_of_getElem? (i := 2) rfl)), inlX4⟩
theorem fpX7_215 : FP RX7 215 4 10 (.int) false := ⟨RX4, TX4, 14, tyX4, rfl, by decide, (lr_25 _ (List.mem_of_getElem? (i := 2) rfl)), inlX4, tyX4_ok, nmX4, rfl, by decide +kernel, fun h => by cases h⟩
theorem fdX7_228 : FD RX7 228 2 1 := ⟨RX2, TX2, 4, rfl, by decide, (lr_25 _ (List.mem_of_getElem? (i := 23) rfl)), inlX2⟩
theorem fpX7_228 : FP RX7 228 2 1 (.int) false := ⟨RX2, TX2, 4, tyX2, rfl, by decide, (lr_25 _ (List.mem_of_getElem? (i := 23) rfl)), inlX2, tyX2_ok, nmX2, rfl, by decide +kernel, fun h => by cases h⟩
theorem clL_7 : Cond.classLink RL 7 RX7 ∈ wsL_law := (lr_1 _ (List.mem_of_getElem? (i := 0) rfl))
theorem in_RX7 : Cond.instantiable RX7 9 ∈ wsL_law := (lr_1 _ (List.mem_of_getElem? (i := 1) rfl))
theorem ini_RX7 : Cond.initialized RX7 ∈ wsL_law := (lr_1 _ (List.mem_of_getElem? (i := 2) rfl))
theorem clL_10 : Cond.classLink RL 10 RX8 ∈ wsL_law := (lr_1 _ (List.mem_of_getElem? (i := 3) rfl))
theorem in_RX8 : Cond.instantiable RX8 44 ∈ wsL_law := (lr_1 _ (List.mem_of_getElem? (i := 4) rfl))
theorem ini_RX8 : Cond.initialized RX8 ∈ wsL_law := (lr_1 _ (List.mem_of_getElem? (i := 5) rfl))
theorem cbL_9 : CB RL 9 yX7_init cX7_init 1 none 0 := ⟨(lr_1 _ (List.mem_of_getElem? (i := 6) rfl)), (lr_1 _ (List.mem_of_getElem? (i := 2) rfl)), (lr_1 _ (List.mem_of_getElem? (i := 8) rfl)), by decide +kernel, by decide +kernel, by decide +kernel⟩
theorem im_yX7_init : Cond.instanceMethod yX7_init ∈ wsL_law := (lr_1 _ (List.mem_of_getElem? (i := 7) rfl))
theorem clX7_13 : Cond.classLink RX7 13 RX0 ∈ wsL_law := (lr_1 _ (List.mem_of_getElem? (i := 13) rfl))
theorem in_RX0 : Cond.instantiable RX0 7 ∈ wsL_law := (lr_1 _ (List.mem_of_getElem? (i := 14) rfl))
theorem ini_RX0 : Cond.initialized RX0 ∈ wsL_law := (lr_1 _ (List.mem_of_getElem? (i := 15) rfl))
theorem clX7_25 : Cond.classLink RX7 25 RX3 ∈ wsL_law := (lr_1 _ (List.mem_of_getElem? (i := 18) rfl))
theorem in_RX3 : Cond.instantiable RX3 2 ∈ wsL_law := (lr_1 _ (List.mem_of_getElem? (i := 19) rfl))
theorem ini_RX3 : Cond.initialized RX3 ∈ wsL_law := (lr_1 _ (List.mem_of_getElem? (i := 20) rfl))
theorem clX7_32 : Cond.classLink RX7 32 RX2 ∈ wsL_law := (lr_1 _ (List.mem_of_getElem? (i := 22) rfl))
theorem in_RX2 : Cond.instantiable RX2 4 ∈ wsL_law := (lr_1 _ (List.mem_of_getElem? (i := 23) rfl))
theorem ini_RX2 : Cond.initialized RX2 ∈ wsL_law := (lr_2 _ (List.mem_of_getElem? (i := 0) rfl))
theorem clX7_39 : Cond.classLink RX7 39 RX1 ∈ wsL_law := (lr_2 _ (List.mem_of_getElem? (i := 2) rfl))
theorem in_RX1 : Cond.instantiable RX1 7 ∈ wsL_law := (lr_2 _ (List.mem_of_getElem? (i := 3) rfl))
theorem ini_RX1 : Cond.initialized RX1 ∈ wsL_law := (lr_2 _ (List.mem_of_getElem? (i := 4) rfl))
theorem clX7_48 : Cond.classLink RX7 48 RX6 ∈ wsL_law := (lr_2 _ (List.mem_of_getElem? (i := 6) rfl))
theorem cbX7_15 : CB RX7 15 yX0_init cX0_init 3 none 2 := ⟨(lr_2 _ (List.mem_of_getElem? (i := 10) rfl)), (lr_1 _ (List.mem_of_getElem? (i := 15) rfl)), (lr_2 _ (List.mem_of_getElem? (i := 12) rfl)), by decide +kernel, by decide +kernel, by decide +kernel⟩
theorem im_yX0_init : Cond.instanceMethod yX0_init ∈ wsL_law := (lr_2 _ (List.mem_of_getElem? (i := 11) rfl))
theorem cnX0_9 : Cond.constant RX0 9 (100000) ∈ wsL_law := (lr_2 _ (List.mem_of_getElem? (i := 14) rfl))
theorem im_yX3_init : Cond.instanceMethod yX3_init ∈ wsL_law := (lr_2 _ (List.mem_of_getElem? (i := 22) rfl))
theorem clX3_9 : Cond.classLink RX3 9 RX4 ∈ wsL_law := (lr_3 _ (List.mem_of_getElem? (i := 1) rfl))
theorem cbX7_34 : CB RX7 34 yX2_init cX2_init 3 none 0 := ⟨(lr_3 _ (List.mem_of_getElem? (i := 3) rfl)), (lr_2 _ (List.mem_of_getElem? (i := 0) rfl)), (lr_3 _ (List.mem_of_getElem? (i := 5) rfl)), by decide +kernel, by decide +kernel, by decide +kernel⟩
theorem im_yX2_init : Cond.instanceMethod yX2_init ∈ wsL_law := (lr_3 _ (List.mem_of_getElem? (i := 4) rfl))
theorem clX2_9 : Cond.classLink RX2 9 RX5 ∈ wsL_law := (lr_3 _ (List.mem_of_getElem? (i := 7) rfl))
theorem ac_int : Cond.arrayClass .int ∈ wsL_law := (lr_3 _ (List.mem_of_getElem? (i := 10) rfl))
theorem in_RX5 : Cond.instantiable RX5 4 ∈ wsL_law := (lr_3 _ (List.mem_of_getElem? (i := 12) rfl))
theorem ini_RX5 : Cond.initialized RX5 ∈ wsL_law := (lr_3 _ (List.mem_of_getElem? (i := 13) rfl))
theorem cbX2_25 : CB RX2 25 yX5_init cX5_init 5 none 4 := ⟨(lr_3 _ (List.mem_of_getElem? (i := 14) rfl)), (lr_3 _ (List.mem_of_getElem? (i := 13) rfl)), (lr_3 _ (List.mem_of_getElem? (i := 16) rfl)), by decide +kernel, by decide +kernel, by decide +kernel⟩
theorem im_yX5_init : Cond.instanceMethod yX5_init ∈ wsL_law := (lr_3 _ (List.mem_of_getElem? (i := 15) rfl))
theorem cbX7_41 : CB RX7 41 yX1_init cX1_init 2 none 1 := ⟨(lr_3 _ (List.mem_of_getElem? (i := 22) rfl)), (lr_2 _ (List.mem_of_getElem? (i := 4) rfl)), (lr_4 _ (List.mem_of_getElem? (i := 0) rfl)), by decide +kernel, by decide +kernel, by decide +kernel⟩
theorem im_yX1_init : Cond.instanceMethod yX1_init ∈ wsL_law := (lr_3 _ (List.mem_of_getElem? (i := 23) rfl))
theorem cbL_12 : CB RL 12 yX8_init cX8_init 2 none 0 := ⟨(lr_4 _ (List.mem_of_getElem? (i := 5) rfl)), (lr_1 _ (List.mem_of_getElem? (i := 5) rfl)), (lr_4 _ (List.mem_of_getElem? (i := 7) rfl)), by decide +kernel, by decide +kernel, by decide +kernel⟩
theorem im_yX8_init : Cond.instanceMethod yX8_init ∈ wsL_law := (lr_4 _ (List.mem_of_getElem? (i := 6) rfl))
theorem ac_boolean : Cond.arrayClass .boolean ∈ wsL_law := (lr_4 _ (List.mem_of_getElem? (i := 20) rfl))
theorem cbX8_95 : CB RX8 95 yX8_comes cX8_comes 4 none 3 := ⟨(lr_5 _ (List.mem_of_getElem? (i := 14) rfl)), (lr_1 _ (List.mem_of_getElem? (i := 5) rfl)), (lr_5 _ (List.mem_of_getElem? (i := 17) rfl)), by decide +kernel, by decide +kernel, by decide +kernel⟩
theorem im_yX8_comes : Cond.instanceMethod yX8_comes ∈ wsL_law := (lr_5 _ (List.mem_of_getElem? (i := 15) rfl))
theorem se_yX8_comes : Cond.selects RX8 yX8_comes yX8_comes ∈ wsL_law := (lr_5 _ (List.mem_of_getElem? (i := 16) rfl))
theorem cbX8_114 : CB RX8 114 yX8_longer cX8_longer 3 (some (.array .int)) 1 := ⟨(lr_5 _ (List.mem_of_getElem? (i := 20) rfl)), (lr_1 _ (List.mem_of_getElem? (i := 5) rfl)), (lr_5 _ (List.mem_of_getElem? (i := 22) rfl)), by decide +kernel, by decide +kernel, by decide +kernel⟩
theorem sm_yX8_longer : Cond.static yX8_longer ∈ wsL_law := (lr_5 _ (List.mem_of_getElem? (i := 21) rfl))
theorem cbL_13 : CB RL 13 yX7_custom cX7_custom 3 (some .int) 2 := ⟨(lr_5 _ (List.mem_of_getElem? (i := 23) rfl)), (lr_1 _ (List.mem_of_getElem? (i := 2) rfl)), (lr_6 _ (List.mem_of_getElem? (i := 2) rfl)), by decide +kernel, by decide +kernel, by decide +kernel⟩
theorem im_yX7_custom : Cond.instanceMethod yX7_custom ∈ wsL_law := (lr_6 _ (List.mem_of_getElem? (i := 0) rfl))
theorem se_yX7_custom : Cond.selects RX7 yX7_custom yX7_custom ∈ wsL_law := (lr_6 _ (List.mem_of_getElem? (i := 1) rfl))
theorem cbX7_60 : CB RX7 60 yX0_canBe cX0_canBe 3 (some .boolean) 2 := ⟨(lr_6 _ (List.mem_of_getElem? (i := 3) rfl)), (lr_1 _ (List.mem_of_getElem? (i := 15) rfl)), (lr_6 _ (List.mem_of_getElem? (i := 5) rfl)), by decide +kernel, by decide +kernel, by decide +kernel⟩
theorem sm_yX0_canBe : Cond.static yX0_canBe ∈ wsL_law := (lr_6 _ (List.mem_of_getElem? (i := 4) rfl))
theorem cnX0_34 : Cond.constant RX0 34 (999999) ∈ wsL_law := (lr_6 _ (List.mem_of_getElem? (i := 6) rfl))
theorem clX0_11 : Cond.classLink RX0 11 RX0 ∈ wsL_law := (lr_6 _ (List.mem_of_getElem? (i := 7) rfl))
theorem cbX0_35 : CB RX0 35 yX0_init cX0_init 3 none 2 := ⟨(lr_6 _ (List.mem_of_getElem? (i := 8) rfl)), (lr_1 _ (List.mem_of_getElem? (i := 15) rfl)), (lr_2 _ (List.mem_of_getElem? (i := 12) rfl)), by decide +kernel, by decide +kernel, by decide +kernel⟩
theorem cbL_17 : CB RL 17 yX8_custom cX8_custom 7 (some .int) 2 := ⟨(lr_6 _ (List.mem_of_getElem? (i := 9) rfl)), (lr_1 _ (List.mem_of_getElem? (i := 5) rfl)), (lr_6 _ (List.mem_of_getElem? (i := 12) rfl)), by decide +kernel, by decide +kernel, by decide +kernel⟩
theorem im_yX8_custom : Cond.instanceMethod yX8_custom ∈ wsL_law := (lr_6 _ (List.mem_of_getElem? (i := 10) rfl))
theorem se_yX8_custom : Cond.selects RX8 yX8_custom yX8_custom ∈ wsL_law := (lr_6 _ (List.mem_of_getElem? (i := 11) rfl))
theorem cnX8_128 : Cond.constant RX8 128 (100000) ∈ wsL_law := (lr_6 _ (List.mem_of_getElem? (i := 13) rfl))
theorem cnX8_129 : Cond.constant RX8 129 (999999) ∈ wsL_law := (lr_6 _ (List.mem_of_getElem? (i := 14) rfl))
theorem cbX8_103 : CB RX8 103 yX8_in cX8_in 3 (some .boolean) 3 := ⟨(lr_6 _ (List.mem_of_getElem? (i := 23) rfl)), (lr_1 _ (List.mem_of_getElem? (i := 5) rfl)), (lr_7 _ (List.mem_of_getElem? (i := 1) rfl)), by decide +kernel, by decide +kernel, by decide +kernel⟩
theorem sm_yX8_in : Cond.static yX8_in ∈ wsL_law := (lr_7 _ (List.mem_of_getElem? (i := 0) rfl))
theorem cbL_18 : CB RL 18 yX7_person cX7_person 4 (some .int) 3 := ⟨(lr_7 _ (List.mem_of_getElem? (i := 2) rfl)), (lr_1 _ (List.mem_of_getElem? (i := 2) rfl)), (lr_7 _ (List.mem_of_getElem? (i := 5) rfl)), by decide +kernel, by decide +kernel, by decide +kernel⟩
theorem im_yX7_person : Cond.instanceMethod yX7_person ∈ wsL_law := (lr_7 _ (List.mem_of_getElem? (i := 3) rfl))
theorem se_yX7_person : Cond.selects RX7 yX7_person yX7_person ∈ wsL_law := (lr_7 _ (List.mem_of_getElem? (i := 4) rfl))
theorem clX7_70 : Cond.classLink RX7 70 RX4 ∈ wsL_law := (lr_7 _ (List.mem_of_getElem? (i := 7) rfl))
theorem in_RX4 : Cond.instantiable RX4 14 ∈ wsL_law := (lr_7 _ (List.mem_of_getElem? (i := 8) rfl))
theorem ini_RX4 : Cond.initialized RX4 ∈ wsL_law := (lr_7 _ (List.mem_of_getElem? (i := 9) rfl))
theorem cbX7_67 : CB RX7 67 yX3_mayBeParent cX3_mayBeParent 4 (some .boolean) 2 := ⟨(lr_7 _ (List.mem_of_getElem? (i := 10) rfl)), (lr_1 _ (List.mem_of_getElem? (i := 20) rfl)), (lr_7 _ (List.mem_of_getElem? (i := 13) rfl)), by decide +kernel, by decide +kernel, by decide +kernel⟩
theorem im_yX3_mayBeParent : Cond.instanceMethod yX3_mayBeParent ∈ wsL_law := (lr_7 _ (List.mem_of_getElem? (i := 11) rfl))
theorem se_yX3_mayBeParent : Cond.selects RX3 yX3_mayBeParent yX3_mayBeParent ∈ wsL_law := (lr_7 _ (List.mem_of_getElem? (i := 12) rfl))
theorem cbX3_21 : CB RX3 21 yX3_find cX3_find 2 (some (.object "ManorRolls$Person")) 1 := ⟨(lr_7 _ (List.mem_of_getElem? (i := 15) rfl)), (lr_1 _ (List.mem_of_getElem? (i := 20) rfl)), (lr_7 _ (List.mem_of_getElem? (i := 18) rfl)), by decide +kernel, by decide +kernel, by decide +kernel⟩
theorem im_yX3_find : Cond.instanceMethod yX3_find ∈ wsL_law := (lr_7 _ (List.mem_of_getElem? (i := 16) rfl))
theorem se_yX3_find : Cond.selects RX3 yX3_find yX3_find ∈ wsL_law := (lr_7 _ (List.mem_of_getElem? (i := 17) rfl))
theorem cbX7_72 : CB RX7 72 yX4_init cX4_init 5 none 4 := ⟨(lr_7 _ (List.mem_of_getElem? (i := 20) rfl)), (lr_7 _ (List.mem_of_getElem? (i := 9) rfl)), (lr_7 _ (List.mem_of_getElem? (i := 22) rfl)), by decide +kernel, by decide +kernel, by decide +kernel⟩
theorem im_yX4_init : Cond.instanceMethod yX4_init ∈ wsL_law := (lr_7 _ (List.mem_of_getElem? (i := 21) rfl))
theorem cbX7_75 : CB RX7 75 yX3_add cX3_add 3 (some .int) 1 := ⟨(lr_8 _ (List.mem_of_getElem? (i := 6) rfl)), (lr_1 _ (List.mem_of_getElem? (i := 20) rfl)), (lr_8 _ (List.mem_of_getElem? (i := 9) rfl)), by decide +kernel, by decide +kernel, by decide +kernel⟩
theorem im_yX3_add : Cond.instanceMethod yX3_add ∈ wsL_law := (lr_8 _ (List.mem_of_getElem? (i := 7) rfl))
theorem se_yX3_add : Cond.selects RX3 yX3_add yX3_add ∈ wsL_law := (lr_8 _ (List.mem_of_getElem? (i := 8) rfl))
theorem cbX3_35 : CB RX3 35 yX3_addChildTo cX3_addChildTo 5 none 3 := ⟨(lr_8 _ (List.mem_of_getElem? (i := 12) rfl)), (lr_1 _ (List.mem_of_getElem? (i := 20) rfl)), (lr_8 _ (List.mem_of_getElem? (i := 15) rfl)), by decide +kernel, by decide +kernel, by decide +kernel⟩
theorem im_yX3_addChildTo : Cond.instanceMethod yX3_addChildTo ∈ wsL_law := (lr_8 _ (List.mem_of_getElem? (i := 13) rfl))
theorem se_yX3_addChildTo : Cond.selects RX3 yX3_addChildTo yX3_addChildTo ∈ wsL_law := (lr_8 _ (List.mem_of_getElem? (i := 14) rfl))
theorem cbX3_42 : CB RX3 42 yX4_addChild cX4_addChild 3 none 2 := ⟨(lr_8 _ (List.mem_of_getElem? (i := 16) rfl)), (lr_7 _ (List.mem_of_getElem? (i := 9) rfl)), (lr_8 _ (List.mem_of_getElem? (i := 19) rfl)), by decide +kernel, by decide +kernel, by decide +kernel⟩
theorem im_yX4_addChild : Cond.instanceMethod yX4_addChild ∈ wsL_law := (lr_8 _ (List.mem_of_getElem? (i := 17) rfl))
theorem se_yX4_addChild : Cond.selects RX4 yX4_addChild yX4_addChild ∈ wsL_law := (lr_8 _ (List.mem_of_getElem? (i := 18) rfl))
theorem cbL_22 : CB RL 22 yX8_person cX8_person 4 (some .int) 3 := ⟨(lr_8 _ (List.mem_of_getElem? (i := 22) rfl)), (lr_1 _ (List.mem_of_getElem? (i := 5) rfl)), (lr_9 _ (List.mem_of_getElem? (i := 1) rfl)), by decide +kernel, by decide +kernel, by decide +kernel⟩
theorem im_yX8_person : Cond.instanceMethod yX8_person ∈ wsL_law := (lr_8 _ (List.mem_of_getElem? (i := 23) rfl))
theorem se_yX8_person : Cond.selects RX8 yX8_person yX8_person ∈ wsL_law := (lr_9 _ (List.mem_of_getElem? (i := 0) rfl))
theorem cbX8_107 : CB RX8 107 yX8_isPerson cX8_isPerson 2 (some .boolean) 1 := ⟨(lr_9 _ (List.mem_of_getElem? (i := 3) rfl)), (lr_1 _ (List.mem_of_getElem? (i := 5) rfl)), (lr_9 _ (List.mem_of_getElem? (i := 6) rfl)), by decide +kernel, by decide +kernel, by decide +kernel⟩
theorem im_yX8_isPerson : Cond.instanceMethod yX8_isPerson ∈ wsL_law := (lr_9 _ (List.mem_of_getElem? (i := 4) rfl))
theorem se_yX8_isPerson : Cond.selects RX8 yX8_isPerson yX8_isPerson ∈ wsL_law := (lr_9 _ (List.mem_of_getElem? (i := 5) rfl))
theorem cbL_23 : CB RL 23 yX7_marry cX7_marry 5 (some .boolean) 2 := ⟨(lr_9 _ (List.mem_of_getElem? (i := 7) rfl)), (lr_1 _ (List.mem_of_getElem? (i := 2) rfl)), (lr_9 _ (List.mem_of_getElem? (i := 10) rfl)), by decide +kernel, by decide +kernel, by decide +kernel⟩
theorem im_yX7_marry : Cond.instanceMethod yX7_marry ∈ wsL_law := (lr_9 _ (List.mem_of_getElem? (i := 8) rfl))
theorem se_yX7_marry : Cond.selects RX7 yX7_marry yX7_marry ∈ wsL_law := (lr_9 _ (List.mem_of_getElem? (i := 9) rfl))
theorem cbX7_79 : CB RX7 79 yX3_findAlive cX3_findAlive 3 (some (.object "ManorRolls$Person")) 1 := ⟨(lr_9 _ (List.mem_of_getElem? (i := 13) rfl)), (lr_1 _ (List.mem_of_getElem? (i := 20) rfl)), (lr_9 _ (List.mem_of_getElem? (i := 16) rfl)), by decide +kernel, by decide +kernel, by decide +kernel⟩
theorem im_yX3_findAlive : Cond.instanceMethod yX3_findAlive ∈ wsL_law := (lr_9 _ (List.mem_of_getElem? (i := 14) rfl))
theorem se_yX3_findAlive : Cond.selects RX3 yX3_findAlive yX3_findAlive ∈ wsL_law := (lr_9 _ (List.mem_of_getElem? (i := 15) rfl))
theorem cbX7_89 : CB RX7 89 yX7_passWidowsParts cX7_passWidowsParts 4 (some .int) 1 := ⟨(lr_9 _ (List.mem_of_getElem? (i := 18) rfl)), (lr_1 _ (List.mem_of_getElem? (i := 2) rfl)), (lr_9 _ (List.mem_of_getElem? (i := 21) rfl)), by decide +kernel, by decide +kernel, by decide +kernel⟩
theorem im_yX7_passWidowsParts : Cond.instanceMethod yX7_passWidowsParts ∈ wsL_law := (lr_9 _ (List.mem_of_getElem? (i := 19) rfl))
theorem se_yX7_passWidowsParts : Cond.selects RX7 yX7_passWidowsParts yX7_passWidowsParts ∈ wsL_law := (lr_9 _ (List.mem_of_getElem? (i := 20) rfl))
theorem cbX7_112 : CB RX7 112 yX2_pick cX2_pick 7 none 3 := ⟨(lr_10 _ (List.mem_of_getElem? (i := 0) rfl)), (lr_2 _ (List.mem_of_getElem? (i := 0) rfl)), (lr_10 _ (List.mem_of_getElem? (i := 3) rfl)), by decide +kernel, by decide +kernel, by decide +kernel⟩
theorem im_yX2_pick : Cond.instanceMethod yX2_pick ∈ wsL_law := (lr_10 _ (List.mem_of_getElem? (i := 1) rfl))
theorem se_yX2_pick : Cond.selects RX2 yX2_pick yX2_pick ∈ wsL_law := (lr_10 _ (List.mem_of_getElem? (i := 2) rfl))
theorem cbX2_31 : CB RX2 31 yX2_find cX2_find 2 (some (.object "ManorRolls$Right")) 1 := ⟨(lr_10 _ (List.mem_of_getElem? (i := 7) rfl)), (lr_2 _ (List.mem_of_getElem? (i := 0) rfl)), (lr_10 _ (List.mem_of_getElem? (i := 10) rfl)), by decide +kernel, by decide +kernel, by decide +kernel⟩
theorem im_yX2_find : Cond.instanceMethod yX2_find ∈ wsL_law := (lr_10 _ (List.mem_of_getElem? (i := 8) rfl))
theorem se_yX2_find : Cond.selects RX2 yX2_find yX2_find ∈ wsL_law := (lr_10 _ (List.mem_of_getElem? (i := 9) rfl))
theorem cbX7_246 : CB RX7 246 yX2_giverOf cX2_giverOf 3 (some .int) 1 := ⟨(lr_10 _ (List.mem_of_getElem? (i := 11) rfl)), (lr_2 _ (List.mem_of_getElem? (i := 0) rfl)), (lr_10 _ (List.mem_of_getElem? (i := 14) rfl)), by decide +kernel, by decide +kernel, by decide +kernel⟩
theorem im_yX2_giverOf : Cond.instanceMethod yX2_giverOf ∈ wsL_law := (lr_10 _ (List.mem_of_getElem? (i := 12) rfl))
theorem se_yX2_giverOf : Cond.selects RX2 yX2_giverOf yX2_giverOf ∈ wsL_law := (lr_10 _ (List.mem_of_getElem? (i := 13) rfl))
theorem cbX7_237 : CB RX7 237 yX7_passPicked cX7_passPicked 5 none 2 := ⟨(lr_10 _ (List.mem_of_getElem? (i := 16) rfl)), (lr_1 _ (List.mem_of_getElem? (i := 2) rfl)), (lr_10 _ (List.mem_of_getElem? (i := 19) rfl)), by decide +kernel, by decide +kernel, by decide +kernel⟩
theorem im_yX7_passPicked : Cond.instanceMethod yX7_passPicked ∈ wsL_law := (lr_10 _ (List.mem_of_getElem? (i := 17) rfl))
theorem se_yX7_passPicked : Cond.selects RX7 yX7_passPicked yX7_passPicked ∈ wsL_law := (lr_10 _ (List.mem_of_getElem? (i := 18) rfl))
theorem cbX7_249 : CB RX7 249 yX1_share cX1_share 5 none 3 := ⟨(lr_10 _ (List.mem_of_getElem? (i := 21) rfl)), (lr_2 _ (List.mem_of_getElem? (i := 4) rfl)), (lr_11 _ (List.mem_of_getElem? (i := 0) rfl)), by decide +kernel, by decide +kernel, by decide +kernel⟩
theorem im_yX1_share : Cond.instanceMethod yX1_share ∈ wsL_law := (lr_10 _ (List.mem_of_getElem? (i := 22) rfl))
theorem se_yX1_share : Cond.selects RX1 yX1_share yX1_share ∈ wsL_law := (lr_10 _ (List.mem_of_getElem? (i := 23) rfl))
theorem cbX1_22 : CB RX1 22 yX1_look cX1_look 6 none 2 := ⟨(lr_11 _ (List.mem_of_getElem? (i := 5) rfl)), (lr_2 _ (List.mem_of_getElem? (i := 4) rfl)), (lr_11 _ (List.mem_of_getElem? (i := 8) rfl)), by decide +kernel, by decide +kernel, by decide +kernel⟩
theorem im_yX1_look : Cond.instanceMethod yX1_look ∈ wsL_law := (lr_11 _ (List.mem_of_getElem? (i := 6) rfl))
theorem se_yX1_look : Cond.selects RX1 yX1_look yX1_look ∈ wsL_law := (lr_11 _ (List.mem_of_getElem? (i := 7) rfl))
theorem cbX1_63 : CB RX1 63 yX3_find cX3_find 2 (some (.object "ManorRolls$Person")) 1 := ⟨(lr_11 _ (List.mem_of_getElem? (i := 16) rfl)), (lr_1 _ (List.mem_of_getElem? (i := 20) rfl)), (lr_7 _ (List.mem_of_getElem? (i := 18) rfl)), by decide +kernel, by decide +kernel, by decide +kernel⟩
theorem cbX1_30 : CB RX1 30 yX1_firstLine cX1_firstLine 5 (some .long) 1 := ⟨(lr_11 _ (List.mem_of_getElem? (i := 17) rfl)), (lr_2 _ (List.mem_of_getElem? (i := 4) rfl)), (lr_11 _ (List.mem_of_getElem? (i := 20) rfl)), by decide +kernel, by decide +kernel, by decide +kernel⟩
theorem im_yX1_firstLine : Cond.instanceMethod yX1_firstLine ∈ wsL_law := (lr_11 _ (List.mem_of_getElem? (i := 18) rfl))
theorem se_yX1_firstLine : Cond.selects RX1 yX1_firstLine yX1_firstLine ∈ wsL_law := (lr_11 _ (List.mem_of_getElem? (i := 19) rfl))
theorem cbX1_79 : CB RX1 79 yX1_lineBelow cX1_lineBelow 7 (some .long) 2 := ⟨(lr_11 _ (List.mem_of_getElem? (i := 22) rfl)), (lr_2 _ (List.mem_of_getElem? (i := 4) rfl)), (lr_12 _ (List.mem_of_getElem? (i := 1) rfl)), by decide +kernel, by decide +kernel, by decide +kernel⟩
theorem im_yX1_lineBelow : Cond.instanceMethod yX1_lineBelow ∈ wsL_law := (lr_11 _ (List.mem_of_getElem? (i := 23) rfl))
theorem se_yX1_lineBelow : Cond.selects RX1 yX1_lineBelow yX1_lineBelow ∈ wsL_law := (lr_12 _ (List.mem_of_getElem? (i := 0) rfl))
theorem cnX1_86 : Cond.constantLong RX1 86 (-1) ∈ wsL_law := (lr_12 _ (List.mem_of_getElem? (i := 2) rfl))
theorem cbX1_88 : CB RX1 88 yX1_youngestOf cX1_youngestOf 4 (some .long) 1 := ⟨(lr_12 _ (List.mem_of_getElem? (i := 3) rfl)), (lr_2 _ (List.mem_of_getElem? (i := 4) rfl)), (lr_12 _ (List.mem_of_getElem? (i := 5) rfl)), by decide +kernel, by decide +kernel, by decide +kernel⟩
theorem sm_yX1_youngestOf : Cond.static yX1_youngestOf ∈ wsL_law := (lr_12 _ (List.mem_of_getElem? (i := 4) rfl))
theorem cnX1_92 : Cond.constantLong RX1 92 (576460752303423488) ∈ wsL_law := (lr_12 _ (List.mem_of_getElem? (i := 6) rfl))
theorem cbX1_44 : CB RX1 44 yX1_shareLine cX1_shareLine 13 none 4 := ⟨(lr_12 _ (List.mem_of_getElem? (i := 7) rfl)), (lr_2 _ (List.mem_of_getElem? (i := 4) rfl)), (lr_12 _ (List.mem_of_getElem? (i := 10) rfl)), by decide +kernel, by decide +kernel, by decide +kernel⟩
theorem im_yX1_shareLine : Cond.instanceMethod yX1_shareLine ∈ wsL_law := (lr_12 _ (List.mem_of_getElem? (i := 8) rfl))
theorem se_yX1_shareLine : Cond.selects RX1 yX1_shareLine yX1_shareLine ∈ wsL_law := (lr_12 _ (List.mem_of_getElem? (i := 9) rfl))
theorem cbX1_98 : CB RX1 98 yJ13_bitCount_95d88 cJ13_bitCount_95d88 2 (some .int) 1 := ⟨(lr_12 _ (List.mem_of_getElem? (i := 11) rfl)), (lr_12 _ (List.mem_of_getElem? (i := 13) rfl)), (lr_12 _ (List.mem_of_getElem? (i := 14) rfl)), by decide +kernel, by decide +kernel, by decide +kernel⟩
theorem sm_yJ13_bitCount_95d88 : Cond.static yJ13_bitCount_95d88 ∈ wsL_law := (lr_12 _ (List.mem_of_getElem? (i := 12) rfl))
theorem ini_RJ13 : Cond.initialized RJ13 ∈ wsL_law := (lr_12 _ (List.mem_of_getElem? (i := 13) rfl))
theorem cnJ13_314 : Cond.constantLong RJ13 314 (6148914691236517205) ∈ wsL_law := (lr_12 _ (List.mem_of_getElem? (i := 15) rfl))
theorem cnJ13_316 : Cond.constantLong RJ13 316 (3689348814741910323) ∈ wsL_law := (lr_12 _ (List.mem_of_getElem? (i := 16) rfl))
theorem cnJ13_318 : Cond.constantLong RJ13 318 (1085102592571150095) ∈ wsL_law := (lr_12 _ (List.mem_of_getElem? (i := 17) rfl))
theorem cbX1_94 : CB RX1 94 yX1_isIn cX1_isIn 3 (some .boolean) 2 := ⟨(lr_12 _ (List.mem_of_getElem? (i := 18) rfl)), (lr_2 _ (List.mem_of_getElem? (i := 4) rfl)), (lr_12 _ (List.mem_of_getElem? (i := 20) rfl)), by decide +kernel, by decide +kernel, by decide +kernel⟩
theorem sm_yX1_isIn : Cond.static yX1_isIn ∈ wsL_law := (lr_12 _ (List.mem_of_getElem? (i := 19) rfl))
theorem cbX1_104 : CB RX1 104 yX1_give cX1_give 5 none 3 := ⟨(lr_12 _ (List.mem_of_getElem? (i := 21) rfl)), (lr_2 _ (List.mem_of_getElem? (i := 4) rfl)), (lr_13 _ (List.mem_of_getElem? (i := 0) rfl)), by decide +kernel, by decide +kernel, by decide +kernel⟩
theorem im_yX1_give : Cond.instanceMethod yX1_give ∈ wsL_law := (lr_12 _ (List.mem_of_getElem? (i := 22) rfl))
theorem se_yX1_give : Cond.selects RX1 yX1_give yX1_give ∈ wsL_law := (lr_12 _ (List.mem_of_getElem? (i := 23) rfl))
theorem cbX7_252 : CB RX7 252 yX1_takerOf cX1_takerOf 2 (some .int) 1 := ⟨(lr_13 _ (List.mem_of_getElem? (i := 4) rfl)), (lr_2 _ (List.mem_of_getElem? (i := 4) rfl)), (lr_13 _ (List.mem_of_getElem? (i := 7) rfl)), by decide +kernel, by decide +kernel, by decide +kernel⟩
theorem im_yX1_takerOf : Cond.instanceMethod yX1_takerOf ∈ wsL_law := (lr_13 _ (List.mem_of_getElem? (i := 5) rfl))
theorem se_yX1_takerOf : Cond.selects RX1 yX1_takerOf yX1_takerOf ∈ wsL_law := (lr_13 _ (List.mem_of_getElem? (i := 6) rfl))
theorem cbX7_119 : CB RX7 119 yX2_bringPicked cX2_bringPicked 9 none 5 := ⟨(lr_13 _ (List.mem_of_getElem? (i := 8) rfl)), (lr_2 _ (List.mem_of_getElem? (i := 0) rfl)), (lr_13 _ (List.mem_of_getElem? (i := 11) rfl)), by decide +kernel, by decide +kernel, by decide +kernel⟩
theorem im_yX2_bringPicked : Cond.instanceMethod yX2_bringPicked ∈ wsL_law := (lr_13 _ (List.mem_of_getElem? (i := 9) rfl))
theorem se_yX2_bringPicked : Cond.selects RX2 yX2_bringPicked yX2_bringPicked ∈ wsL_law := (lr_13 _ (List.mem_of_getElem? (i := 10) rfl))
theorem cnX2_47 : Cond.constant RX2 47 (61560) ∈ wsL_law := (lr_13 _ (List.mem_of_getElem? (i := 13) rfl))
theorem cbX7_93 : CB RX7 93 yX7_oweMerchet cX7_oweMerchet 4 none 1 := ⟨(lr_13 _ (List.mem_of_getElem? (i := 14) rfl)), (lr_1 _ (List.mem_of_getElem? (i := 2) rfl)), (lr_13 _ (List.mem_of_getElem? (i := 17) rfl)), by decide +kernel, by decide +kernel, by decide +kernel⟩
theorem im_yX7_oweMerchet : Cond.instanceMethod yX7_oweMerchet ∈ wsL_law := (lr_13 _ (List.mem_of_getElem? (i := 15) rfl))
theorem se_yX7_oweMerchet : Cond.selects RX7 yX7_oweMerchet yX7_oweMerchet ∈ wsL_law := (lr_13 _ (List.mem_of_getElem? (i := 16) rfl))
theorem cbL_27 : CB RL 27 yX8_marry cX8_marry 6 (some .boolean) 2 := ⟨(lr_13 _ (List.mem_of_getElem? (i := 21) rfl)), (lr_1 _ (List.mem_of_getElem? (i := 5) rfl)), (lr_14 _ (List.mem_of_getElem? (i := 0) rfl)), by decide +kernel, by decide +kernel, by decide +kernel⟩
theorem im_yX8_marry : Cond.instanceMethod yX8_marry ∈ wsL_law := (lr_13 _ (List.mem_of_getElem? (i := 22) rfl))
theorem se_yX8_marry : Cond.selects RX8 yX8_marry yX8_marry ∈ wsL_law := (lr_13 _ (List.mem_of_getElem? (i := 23) rfl))
theorem cbX8_188 : CB RX8 188 yX8_lives cX8_lives 2 (some .boolean) 1 := ⟨(lr_14 _ (List.mem_of_getElem? (i := 1) rfl)), (lr_1 _ (List.mem_of_getElem? (i := 5) rfl)), (lr_14 _ (List.mem_of_getElem? (i := 4) rfl)), by decide +kernel, by decide +kernel, by decide +kernel⟩
theorem im_yX8_lives : Cond.instanceMethod yX8_lives ∈ wsL_law := (lr_14 _ (List.mem_of_getElem? (i := 2) rfl))
theorem se_yX8_lives : Cond.selects RX8 yX8_lives yX8_lives ∈ wsL_law := (lr_14 _ (List.mem_of_getElem? (i := 3) rfl))
theorem cbX8_191 : CB RX8 191 yX8_widowPasses cX8_widowPasses 7 (some .int) 2 := ⟨(lr_14 _ (List.mem_of_getElem? (i := 5) rfl)), (lr_1 _ (List.mem_of_getElem? (i := 5) rfl)), (lr_14 _ (List.mem_of_getElem? (i := 8) rfl)), by decide +kernel, by decide +kernel, by decide +kernel⟩
theorem im_yX8_widowPasses : Cond.instanceMethod yX8_widowPasses ∈ wsL_law := (lr_14 _ (List.mem_of_getElem? (i := 6) rfl))
theorem se_yX8_widowPasses : Cond.selects RX8 yX8_widowPasses yX8_widowPasses ∈ wsL_law := (lr_14 _ (List.mem_of_getElem? (i := 7) rfl))
theorem cbX8_185 : CB RX8 185 yX8_passes cX8_passes 6 none 3 := ⟨(lr_14 _ (List.mem_of_getElem? (i := 9) rfl)), (lr_1 _ (List.mem_of_getElem? (i := 5) rfl)), (lr_14 _ (List.mem_of_getElem? (i := 12) rfl)), by decide +kernel, by decide +kernel, by decide +kernel⟩
theorem im_yX8_passes : Cond.instanceMethod yX8_passes ∈ wsL_law := (lr_14 _ (List.mem_of_getElem? (i := 10) rfl))
theorem se_yX8_passes : Cond.selects RX8 yX8_passes yX8_passes ∈ wsL_law := (lr_14 _ (List.mem_of_getElem? (i := 11) rfl))
theorem cbX8_174 : CB RX8 174 yX8_lines cX8_lines 3 none 0 := ⟨(lr_14 _ (List.mem_of_getElem? (i := 14) rfl)), (lr_1 _ (List.mem_of_getElem? (i := 5) rfl)), (lr_14 _ (List.mem_of_getElem? (i := 17) rfl)), by decide +kernel, by decide +kernel, by decide +kernel⟩
theorem im_yX8_lines : Cond.instanceMethod yX8_lines ∈ wsL_law := (lr_14 _ (List.mem_of_getElem? (i := 15) rfl))
theorem se_yX8_lines : Cond.selects RX8 yX8_lines yX8_lines ∈ wsL_law := (lr_14 _ (List.mem_of_getElem? (i := 16) rfl))
theorem cbX8_154 : CB RX8 154 yX8_isChild cX8_isChild 3 (some .boolean) 2 := ⟨(lr_14 _ (List.mem_of_getElem? (i := 18) rfl)), (lr_1 _ (List.mem_of_getElem? (i := 5) rfl)), (lr_14 _ (List.mem_of_getElem? (i := 21) rfl)), by decide +kernel, by decide +kernel, by decide +kernel⟩
theorem im_yX8_isChild : Cond.instanceMethod yX8_isChild ∈ wsL_law := (lr_14 _ (List.mem_of_getElem? (i := 19) rfl))
theorem se_yX8_isChild : Cond.selects RX8 yX8_isChild yX8_isChild ∈ wsL_law := (lr_14 _ (List.mem_of_getElem? (i := 20) rfl))
theorem cbX8_177 : CB RX8 177 yX8_first cX8_first 3 (some .int) 1 := ⟨(lr_14 _ (List.mem_of_getElem? (i := 22) rfl)), (lr_1 _ (List.mem_of_getElem? (i := 5) rfl)), (lr_15 _ (List.mem_of_getElem? (i := 1) rfl)), by decide +kernel, by decide +kernel, by decide +kernel⟩
theorem im_yX8_first : Cond.instanceMethod yX8_first ∈ wsL_law := (lr_14 _ (List.mem_of_getElem? (i := 23) rfl))
theorem se_yX8_first : Cond.selects RX8 yX8_first yX8_first ∈ wsL_law := (lr_15 _ (List.mem_of_getElem? (i := 0) rfl))
theorem cbX8_161 : CB RX8 161 yX8_group cX8_group 8 (some .int) 2 := ⟨(lr_15 _ (List.mem_of_getElem? (i := 2) rfl)), (lr_1 _ (List.mem_of_getElem? (i := 5) rfl)), (lr_15 _ (List.mem_of_getElem? (i := 5) rfl)), by decide +kernel, by decide +kernel, by decide +kernel⟩
theorem im_yX8_group : Cond.instanceMethod yX8_group ∈ wsL_law := (lr_15 _ (List.mem_of_getElem? (i := 3) rfl))
theorem se_yX8_group : Cond.selects RX8 yX8_group yX8_group ∈ wsL_law := (lr_15 _ (List.mem_of_getElem? (i := 4) rfl))
theorem cbX8_181 : CB RX8 181 yX8_shares cX8_shares 11 none 4 := ⟨(lr_15 _ (List.mem_of_getElem? (i := 6) rfl)), (lr_1 _ (List.mem_of_getElem? (i := 5) rfl)), (lr_15 _ (List.mem_of_getElem? (i := 9) rfl)), by decide +kernel, by decide +kernel, by decide +kernel⟩
theorem im_yX8_shares : Cond.instanceMethod yX8_shares ∈ wsL_law := (lr_15 _ (List.mem_of_getElem? (i := 7) rfl))
theorem se_yX8_shares : Cond.selects RX8 yX8_shares yX8_shares ∈ wsL_law := (lr_15 _ (List.mem_of_getElem? (i := 8) rfl))
theorem cbL_28 : CB RL 28 yX7_die cX7_die 5 (some .int) 1 := ⟨(lr_15 _ (List.mem_of_getElem? (i := 10) rfl)), (lr_1 _ (List.mem_of_getElem? (i := 2) rfl)), (lr_15 _ (List.mem_of_getElem? (i := 13) rfl)), by decide +kernel, by decide +kernel, by decide +kernel⟩
theorem im_yX7_die : Cond.instanceMethod yX7_die ∈ wsL_law := (lr_15 _ (List.mem_of_getElem? (i := 11) rfl))
theorem se_yX7_die : Cond.selects RX7 yX7_die yX7_die ∈ wsL_law := (lr_15 _ (List.mem_of_getElem? (i := 12) rfl))
theorem cbX7_101 : CB RX7 101 yX7_passOwnStrips cX7_passOwnStrips 7 (some .int) 2 := ⟨(lr_15 _ (List.mem_of_getElem? (i := 15) rfl)), (lr_1 _ (List.mem_of_getElem? (i := 2) rfl)), (lr_15 _ (List.mem_of_getElem? (i := 18) rfl)), by decide +kernel, by decide +kernel, by decide +kernel⟩
theorem im_yX7_passOwnStrips : Cond.instanceMethod yX7_passOwnStrips ∈ wsL_law := (lr_15 _ (List.mem_of_getElem? (i := 16) rfl))
theorem se_yX7_passOwnStrips : Cond.selects RX7 yX7_passOwnStrips yX7_passOwnStrips ∈ wsL_law := (lr_15 _ (List.mem_of_getElem? (i := 17) rfl))
theorem cbX7_105 : CB RX7 105 yX3_find cX3_find 2 (some (.object "ManorRolls$Person")) 1 := ⟨(lr_15 _ (List.mem_of_getElem? (i := 21) rfl)), (lr_1 _ (List.mem_of_getElem? (i := 20) rfl)), (lr_7 _ (List.mem_of_getElem? (i := 18) rfl)), by decide +kernel, by decide +kernel, by decide +kernel⟩
theorem cbL_32 : CB RL 32 yX8_die cX8_die 8 (some .int) 1 := ⟨(lr_15 _ (List.mem_of_getElem? (i := 22) rfl)), (lr_1 _ (List.mem_of_getElem? (i := 5) rfl)), (lr_16 _ (List.mem_of_getElem? (i := 1) rfl)), by decide +kernel, by decide +kernel, by decide +kernel⟩
theorem im_yX8_die : Cond.instanceMethod yX8_die ∈ wsL_law := (lr_15 _ (List.mem_of_getElem? (i := 23) rfl))
theorem se_yX8_die : Cond.selects RX8 yX8_die yX8_die ∈ wsL_law := (lr_16 _ (List.mem_of_getElem? (i := 0) rfl))
theorem cbX8_194 : CB RX8 194 yX8_own cX8_own 5 (some .int) 2 := ⟨(lr_16 _ (List.mem_of_getElem? (i := 2) rfl)), (lr_1 _ (List.mem_of_getElem? (i := 5) rfl)), (lr_16 _ (List.mem_of_getElem? (i := 5) rfl)), by decide +kernel, by decide +kernel, by decide +kernel⟩
theorem im_yX8_own : Cond.instanceMethod yX8_own ∈ wsL_law := (lr_16 _ (List.mem_of_getElem? (i := 3) rfl))
theorem se_yX8_own : Cond.selects RX8 yX8_own yX8_own ∈ wsL_law := (lr_16 _ (List.mem_of_getElem? (i := 4) rfl))
theorem cbL_33 : CB RL 33 yX7_grant cX7_grant 4 (some .boolean) 3 := ⟨(lr_16 _ (List.mem_of_getElem? (i := 6) rfl)), (lr_1 _ (List.mem_of_getElem? (i := 2) rfl)), (lr_16 _ (List.mem_of_getElem? (i := 9) rfl)), by decide +kernel, by decide +kernel, by decide +kernel⟩
theorem im_yX7_grant : Cond.instanceMethod yX7_grant ∈ wsL_law := (lr_16 _ (List.mem_of_getElem? (i := 7) rfl))
theorem se_yX7_grant : Cond.selects RX7 yX7_grant yX7_grant ∈ wsL_law := (lr_16 _ (List.mem_of_getElem? (i := 8) rfl))
theorem cbX7_108 : CB RX7 108 yX7_isHolding cX7_isHolding 1 (some .boolean) 1 := ⟨(lr_16 _ (List.mem_of_getElem? (i := 10) rfl)), (lr_1 _ (List.mem_of_getElem? (i := 2) rfl)), (lr_16 _ (List.mem_of_getElem? (i := 12) rfl)), by decide +kernel, by decide +kernel, by decide +kernel⟩
theorem sm_yX7_isHolding : Cond.static yX7_isHolding ∈ wsL_law := (lr_16 _ (List.mem_of_getElem? (i := 11) rfl))
theorem cbL_37 : CB RL 37 yX8_grant cX8_grant 4 (some .boolean) 3 := ⟨(lr_16 _ (List.mem_of_getElem? (i := 13) rfl)), (lr_1 _ (List.mem_of_getElem? (i := 5) rfl)), (lr_16 _ (List.mem_of_getElem? (i := 16) rfl)), by decide +kernel, by decide +kernel, by decide +kernel⟩
theorem im_yX8_grant : Cond.instanceMethod yX8_grant ∈ wsL_law := (lr_16 _ (List.mem_of_getElem? (i := 14) rfl))
theorem se_yX8_grant : Cond.selects RX8 yX8_grant yX8_grant ∈ wsL_law := (lr_16 _ (List.mem_of_getElem? (i := 15) rfl))
theorem cbX8_197 : CB RX8 197 yX8_moves cX8_moves 8 (some .boolean) 5 := ⟨(lr_16 _ (List.mem_of_getElem? (i := 17) rfl)), (lr_1 _ (List.mem_of_getElem? (i := 5) rfl)), (lr_16 _ (List.mem_of_getElem? (i := 20) rfl)), by decide +kernel, by decide +kernel, by decide +kernel⟩
theorem im_yX8_moves : Cond.instanceMethod yX8_moves ∈ wsL_law := (lr_16 _ (List.mem_of_getElem? (i := 18) rfl))
theorem se_yX8_moves : Cond.selects RX8 yX8_moves yX8_moves ∈ wsL_law := (lr_16 _ (List.mem_of_getElem? (i := 19) rfl))
theorem cbL_38 : CB RL 38 yX7_rod cX7_rod 6 (some .boolean) 4 := ⟨(lr_16 _ (List.mem_of_getElem? (i := 21) rfl)), (lr_1 _ (List.mem_of_getElem? (i := 2) rfl)), (lr_17 _ (List.mem_of_getElem? (i := 0) rfl)), by decide +kernel, by decide +kernel, by decide +kernel⟩
theorem im_yX7_rod : Cond.instanceMethod yX7_rod ∈ wsL_law := (lr_16 _ (List.mem_of_getElem? (i := 22) rfl))
theorem se_yX7_rod : Cond.selects RX7 yX7_rod yX7_rod ∈ wsL_law := (lr_16 _ (List.mem_of_getElem? (i := 23) rfl))
theorem cbL_42 : CB RL 42 yX8_rod cX8_rod 5 (some .boolean) 4 := ⟨(lr_17 _ (List.mem_of_getElem? (i := 2) rfl)), (lr_1 _ (List.mem_of_getElem? (i := 5) rfl)), (lr_17 _ (List.mem_of_getElem? (i := 5) rfl)), by decide +kernel, by decide +kernel, by decide +kernel⟩
theorem im_yX8_rod : Cond.instanceMethod yX8_rod ∈ wsL_law := (lr_17 _ (List.mem_of_getElem? (i := 3) rfl))
theorem se_yX8_rod : Cond.selects RX8 yX8_rod yX8_rod ∈ wsL_law := (lr_17 _ (List.mem_of_getElem? (i := 4) rfl))
theorem cbL_43 : CB RL 43 yX7_weeks cX7_weeks 4 (some .int) 1 := ⟨(lr_17 _ (List.mem_of_getElem? (i := 6) rfl)), (lr_1 _ (List.mem_of_getElem? (i := 2) rfl)), (lr_17 _ (List.mem_of_getElem? (i := 9) rfl)), by decide +kernel, by decide +kernel, by decide +kernel⟩
theorem im_yX7_weeks : Cond.instanceMethod yX7_weeks ∈ wsL_law := (lr_17 _ (List.mem_of_getElem? (i := 7) rfl))
theorem se_yX7_weeks : Cond.selects RX7 yX7_weeks yX7_weeks ∈ wsL_law := (lr_17 _ (List.mem_of_getElem? (i := 8) rfl))
theorem cnX7_129 : Cond.constant RX7 129 (40000) ∈ wsL_law := (lr_17 _ (List.mem_of_getElem? (i := 10) rfl))
theorem cbX7_130 : CB RX7 130 yX2_heldBy cX2_heldBy 5 (some .int) 1 := ⟨(lr_17 _ (List.mem_of_getElem? (i := 12) rfl)), (lr_2 _ (List.mem_of_getElem? (i := 0) rfl)), (lr_17 _ (List.mem_of_getElem? (i := 15) rfl)), by decide +kernel, by decide +kernel, by decide +kernel⟩
theorem im_yX2_heldBy : Cond.instanceMethod yX2_heldBy ∈ wsL_law := (lr_17 _ (List.mem_of_getElem? (i := 13) rfl))
theorem se_yX2_heldBy : Cond.selects RX2 yX2_heldBy yX2_heldBy ∈ wsL_law := (lr_17 _ (List.mem_of_getElem? (i := 14) rfl))
theorem cbX7_136 : CB RX7 136 yX4_spendWeeks cX4_spendWeeks 4 none 2 := ⟨(lr_17 _ (List.mem_of_getElem? (i := 16) rfl)), (lr_7 _ (List.mem_of_getElem? (i := 9) rfl)), (lr_17 _ (List.mem_of_getElem? (i := 19) rfl)), by decide +kernel, by decide +kernel, by decide +kernel⟩
theorem im_yX4_spendWeeks : Cond.instanceMethod yX4_spendWeeks ∈ wsL_law := (lr_17 _ (List.mem_of_getElem? (i := 17) rfl))
theorem se_yX4_spendWeeks : Cond.selects RX4 yX4_spendWeeks yX4_spendWeeks ∈ wsL_law := (lr_17 _ (List.mem_of_getElem? (i := 18) rfl))
theorem cbL_46 : CB RL 46 yX8_weeks cX8_weeks 5 (some .int) 1 := ⟨(lr_18 _ (List.mem_of_getElem? (i := 0) rfl)), (lr_1 _ (List.mem_of_getElem? (i := 5) rfl)), (lr_18 _ (List.mem_of_getElem? (i := 3) rfl)), by decide +kernel, by decide +kernel, by decide +kernel⟩
theorem im_yX8_weeks : Cond.instanceMethod yX8_weeks ∈ wsL_law := (lr_18 _ (List.mem_of_getElem? (i := 1) rfl))
theorem se_yX8_weeks : Cond.selects RX8 yX8_weeks yX8_weeks ∈ wsL_law := (lr_18 _ (List.mem_of_getElem? (i := 2) rfl))
theorem cnX8_201 : Cond.constant RX8 201 (40000) ∈ wsL_law := (lr_18 _ (List.mem_of_getElem? (i := 4) rfl))
theorem cbX8_202 : CB RX8 202 yX8_held cX8_held 5 (some .int) 2 := ⟨(lr_18 _ (List.mem_of_getElem? (i := 5) rfl)), (lr_1 _ (List.mem_of_getElem? (i := 5) rfl)), (lr_18 _ (List.mem_of_getElem? (i := 8) rfl)), by decide +kernel, by decide +kernel, by decide +kernel⟩
theorem im_yX8_held : Cond.instanceMethod yX8_held ∈ wsL_law := (lr_18 _ (List.mem_of_getElem? (i := 6) rfl))
theorem se_yX8_held : Cond.selects RX8 yX8_held yX8_held ∈ wsL_law := (lr_18 _ (List.mem_of_getElem? (i := 7) rfl))
theorem cbL_47 : CB RL 47 yX7_sick cX7_sick 4 (some .boolean) 2 := ⟨(lr_18 _ (List.mem_of_getElem? (i := 9) rfl)), (lr_1 _ (List.mem_of_getElem? (i := 2) rfl)), (lr_18 _ (List.mem_of_getElem? (i := 12) rfl)), by decide +kernel, by decide +kernel, by decide +kernel⟩
theorem im_yX7_sick : Cond.instanceMethod yX7_sick ∈ wsL_law := (lr_18 _ (List.mem_of_getElem? (i := 10) rfl))
theorem se_yX7_sick : Cond.selects RX7 yX7_sick yX7_sick ∈ wsL_law := (lr_18 _ (List.mem_of_getElem? (i := 11) rfl))
theorem cbL_50 : CB RL 50 yX8_sick cX8_sick 3 (some .boolean) 2 := ⟨(lr_18 _ (List.mem_of_getElem? (i := 14) rfl)), (lr_1 _ (List.mem_of_getElem? (i := 5) rfl)), (lr_18 _ (List.mem_of_getElem? (i := 17) rfl)), by decide +kernel, by decide +kernel, by decide +kernel⟩
theorem im_yX8_sick : Cond.instanceMethod yX8_sick ∈ wsL_law := (lr_18 _ (List.mem_of_getElem? (i := 15) rfl))
theorem se_yX8_sick : Cond.selects RX8 yX8_sick yX8_sick ∈ wsL_law := (lr_18 _ (List.mem_of_getElem? (i := 16) rfl))
theorem cbL_51 : CB RL 51 yX7_works cX7_works 5 (some .int) 3 := ⟨(lr_18 _ (List.mem_of_getElem? (i := 18) rfl)), (lr_1 _ (List.mem_of_getElem? (i := 2) rfl)), (lr_18 _ (List.mem_of_getElem? (i := 21) rfl)), by decide +kernel, by decide +kernel, by decide +kernel⟩
theorem im_yX7_works : Cond.instanceMethod yX7_works ∈ wsL_law := (lr_18 _ (List.mem_of_getElem? (i := 19) rfl))
theorem se_yX7_works : Cond.selects RX7 yX7_works yX7_works ∈ wsL_law := (lr_18 _ (List.mem_of_getElem? (i := 20) rfl))
theorem cbL_55 : CB RL 55 yX8_works cX8_works 4 (some .int) 3 := ⟨(lr_19 _ (List.mem_of_getElem? (i := 1) rfl)), (lr_1 _ (List.mem_of_getElem? (i := 5) rfl)), (lr_19 _ (List.mem_of_getElem? (i := 4) rfl)), by decide +kernel, by decide +kernel, by decide +kernel⟩
theorem im_yX8_works : Cond.instanceMethod yX8_works ∈ wsL_law := (lr_19 _ (List.mem_of_getElem? (i := 2) rfl))
theorem se_yX8_works : Cond.selects RX8 yX8_works yX8_works ∈ wsL_law := (lr_19 _ (List.mem_of_getElem? (i := 3) rfl))
theorem cbL_56 : CB RL 56 yX7_pay cX7_pay 4 (some .int) 2 := ⟨(lr_19 _ (List.mem_of_getElem? (i := 5) rfl)), (lr_1 _ (List.mem_of_getElem? (i := 2) rfl)), (lr_19 _ (List.mem_of_getElem? (i := 8) rfl)), by decide +kernel, by decide +kernel, by decide +kernel⟩
theorem im_yX7_pay : Cond.instanceMethod yX7_pay ∈ wsL_law := (lr_19 _ (List.mem_of_getElem? (i := 6) rfl))
theorem se_yX7_pay : Cond.selects RX7 yX7_pay yX7_pay ∈ wsL_law := (lr_19 _ (List.mem_of_getElem? (i := 7) rfl))
theorem cbL_59 : CB RL 59 yX8_pay cX8_pay 3 (some .int) 2 := ⟨(lr_19 _ (List.mem_of_getElem? (i := 9) rfl)), (lr_1 _ (List.mem_of_getElem? (i := 5) rfl)), (lr_19 _ (List.mem_of_getElem? (i := 12) rfl)), by decide +kernel, by decide +kernel, by decide +kernel⟩
theorem im_yX8_pay : Cond.instanceMethod yX8_pay ∈ wsL_law := (lr_19 _ (List.mem_of_getElem? (i := 10) rfl))
theorem se_yX8_pay : Cond.selects RX8 yX8_pay yX8_pay ∈ wsL_law := (lr_19 _ (List.mem_of_getElem? (i := 11) rfl))
theorem cbL_60 : CB RL 60 yX7_suit cX7_suit 5 (some .int) 3 := ⟨(lr_19 _ (List.mem_of_getElem? (i := 14) rfl)), (lr_1 _ (List.mem_of_getElem? (i := 2) rfl)), (lr_19 _ (List.mem_of_getElem? (i := 17) rfl)), by decide +kernel, by decide +kernel, by decide +kernel⟩
theorem im_yX7_suit : Cond.instanceMethod yX7_suit ∈ wsL_law := (lr_19 _ (List.mem_of_getElem? (i := 15) rfl))
theorem se_yX7_suit : Cond.selects RX7 yX7_suit yX7_suit ∈ wsL_law := (lr_19 _ (List.mem_of_getElem? (i := 16) rfl))
theorem in_RX6 : Cond.instantiable RX6 7 ∈ wsL_law := (lr_19 _ (List.mem_of_getElem? (i := 18) rfl))
theorem ini_RX6 : Cond.initialized RX6 ∈ wsL_law := (lr_19 _ (List.mem_of_getElem? (i := 19) rfl))
theorem cbX7_151 : CB RX7 151 yX6_init cX6_init 4 none 3 := ⟨(lr_19 _ (List.mem_of_getElem? (i := 20) rfl)), (lr_19 _ (List.mem_of_getElem? (i := 19) rfl)), (lr_19 _ (List.mem_of_getElem? (i := 22) rfl)), by decide +kernel, by decide +kernel, by decide +kernel⟩
theorem im_yX6_init : Cond.instanceMethod yX6_init ∈ wsL_law := (lr_19 _ (List.mem_of_getElem? (i := 21) rfl))
theorem cbL_63 : CB RL 63 yX8_suit cX8_suit 4 (some .int) 3 := ⟨(lr_20 _ (List.mem_of_getElem? (i := 5) rfl)), (lr_1 _ (List.mem_of_getElem? (i := 5) rfl)), (lr_20 _ (List.mem_of_getElem? (i := 8) rfl)), by decide +kernel, by decide +kernel, by decide +kernel⟩
theorem im_yX8_suit : Cond.instanceMethod yX8_suit ∈ wsL_law := (lr_20 _ (List.mem_of_getElem? (i := 6) rfl))
theorem se_yX8_suit : Cond.selects RX8 yX8_suit yX8_suit ∈ wsL_law := (lr_20 _ (List.mem_of_getElem? (i := 7) rfl))
theorem cbL_64 : CB RL 64 yX7_appear cX7_appear 4 (some .boolean) 2 := ⟨(lr_20 _ (List.mem_of_getElem? (i := 10) rfl)), (lr_1 _ (List.mem_of_getElem? (i := 2) rfl)), (lr_20 _ (List.mem_of_getElem? (i := 13) rfl)), by decide +kernel, by decide +kernel, by decide +kernel⟩
theorem im_yX7_appear : Cond.instanceMethod yX7_appear ∈ wsL_law := (lr_20 _ (List.mem_of_getElem? (i := 11) rfl))
theorem se_yX7_appear : Cond.selects RX7 yX7_appear yX7_appear ∈ wsL_law := (lr_20 _ (List.mem_of_getElem? (i := 12) rfl))
theorem cbX7_154 : CB RX7 154 yX7_findSuit cX7_findSuit 2 (some (.object "ManorRolls$Suit")) 1 := ⟨(lr_20 _ (List.mem_of_getElem? (i := 16) rfl)), (lr_1 _ (List.mem_of_getElem? (i := 2) rfl)), (lr_20 _ (List.mem_of_getElem? (i := 19) rfl)), by decide +kernel, by decide +kernel, by decide +kernel⟩
theorem im_yX7_findSuit : Cond.instanceMethod yX7_findSuit ∈ wsL_law := (lr_20 _ (List.mem_of_getElem? (i := 17) rfl))
theorem se_yX7_findSuit : Cond.selects RX7 yX7_findSuit yX7_findSuit ∈ wsL_law := (lr_20 _ (List.mem_of_getElem? (i := 18) rfl))
theorem cbL_67 : CB RL 67 yX8_appear cX8_appear 3 (some .boolean) 2 := ⟨(lr_20 _ (List.mem_of_getElem? (i := 20) rfl)), (lr_1 _ (List.mem_of_getElem? (i := 5) rfl)), (lr_20 _ (List.mem_of_getElem? (i := 23) rfl)), by decide +kernel, by decide +kernel, by decide +kernel⟩
theorem im_yX8_appear : Cond.instanceMethod yX8_appear ∈ wsL_law := (lr_20 _ (List.mem_of_getElem? (i := 21) rfl))
theorem se_yX8_appear : Cond.selects RX8 yX8_appear yX8_appear ∈ wsL_law := (lr_20 _ (List.mem_of_getElem? (i := 22) rfl))
theorem cbL_68 : CB RL 68 yX7_court cX7_court 4 (some .int) 0 := ⟨(lr_21 _ (List.mem_of_getElem? (i := 0) rfl)), (lr_1 _ (List.mem_of_getElem? (i := 2) rfl)), (lr_21 _ (List.mem_of_getElem? (i := 3) rfl)), by decide +kernel, by decide +kernel, by decide +kernel⟩
theorem im_yX7_court : Cond.instanceMethod yX7_court ∈ wsL_law := (lr_21 _ (List.mem_of_getElem? (i := 1) rfl))
theorem se_yX7_court : Cond.selects RX7 yX7_court yX7_court ∈ wsL_law := (lr_21 _ (List.mem_of_getElem? (i := 2) rfl))
theorem cbX7_164 : CB RX7 164 yX7_hear cX7_hear 3 none 1 := ⟨(lr_21 _ (List.mem_of_getElem? (i := 4) rfl)), (lr_1 _ (List.mem_of_getElem? (i := 2) rfl)), (lr_21 _ (List.mem_of_getElem? (i := 7) rfl)), by decide +kernel, by decide +kernel, by decide +kernel⟩
theorem im_yX7_hear : Cond.instanceMethod yX7_hear ∈ wsL_law := (lr_21 _ (List.mem_of_getElem? (i := 5) rfl))
theorem se_yX7_hear : Cond.selects RX7 yX7_hear yX7_hear ∈ wsL_law := (lr_21 _ (List.mem_of_getElem? (i := 6) rfl))
theorem cbX7_261 : CB RX7 261 yX3_owe cX3_owe 4 none 2 := ⟨(lr_21 _ (List.mem_of_getElem? (i := 12) rfl)), (lr_1 _ (List.mem_of_getElem? (i := 20) rfl)), (lr_21 _ (List.mem_of_getElem? (i := 15) rfl)), by decide +kernel, by decide +kernel, by decide +kernel⟩
theorem im_yX3_owe : Cond.instanceMethod yX3_owe ∈ wsL_law := (lr_21 _ (List.mem_of_getElem? (i := 13) rfl))
theorem se_yX3_owe : Cond.selects RX3 yX3_owe yX3_owe ∈ wsL_law := (lr_21 _ (List.mem_of_getElem? (i := 14) rfl))
theorem cbX7_265 : CB RX7 265 yX7_defaultIn cX7_defaultIn 5 none 2 := ⟨(lr_21 _ (List.mem_of_getElem? (i := 17) rfl)), (lr_1 _ (List.mem_of_getElem? (i := 2) rfl)), (lr_21 _ (List.mem_of_getElem? (i := 20) rfl)), by decide +kernel, by decide +kernel, by decide +kernel⟩
theorem im_yX7_defaultIn : Cond.instanceMethod yX7_defaultIn ∈ wsL_law := (lr_21 _ (List.mem_of_getElem? (i := 18) rfl))
theorem se_yX7_defaultIn : Cond.selects RX7 yX7_defaultIn yX7_defaultIn ∈ wsL_law := (lr_21 _ (List.mem_of_getElem? (i := 19) rfl))
theorem cbL_72 : CB RL 72 yX8_court cX8_court 4 (some .int) 0 := ⟨(lr_21 _ (List.mem_of_getElem? (i := 23) rfl)), (lr_1 _ (List.mem_of_getElem? (i := 5) rfl)), (lr_22 _ (List.mem_of_getElem? (i := 2) rfl)), by decide +kernel, by decide +kernel, by decide +kernel⟩
theorem im_yX8_court : Cond.instanceMethod yX8_court ∈ wsL_law := (lr_22 _ (List.mem_of_getElem? (i := 0) rfl))
theorem se_yX8_court : Cond.selects RX8 yX8_court yX8_court ∈ wsL_law := (lr_22 _ (List.mem_of_getElem? (i := 1) rfl))
theorem cbX8_212 : CB RX8 212 yX8_falls cX8_falls 3 none 1 := ⟨(lr_22 _ (List.mem_of_getElem? (i := 3) rfl)), (lr_1 _ (List.mem_of_getElem? (i := 5) rfl)), (lr_22 _ (List.mem_of_getElem? (i := 6) rfl)), by decide +kernel, by decide +kernel, by decide +kernel⟩
theorem im_yX8_falls : Cond.instanceMethod yX8_falls ∈ wsL_law := (lr_22 _ (List.mem_of_getElem? (i := 4) rfl))
theorem se_yX8_falls : Cond.selects RX8 yX8_falls yX8_falls ∈ wsL_law := (lr_22 _ (List.mem_of_getElem? (i := 5) rfl))
theorem cbL_73 : CB RL 73 yX7_holder cX7_holder 4 (some .int) 3 := ⟨(lr_22 _ (List.mem_of_getElem? (i := 7) rfl)), (lr_1 _ (List.mem_of_getElem? (i := 2) rfl)), (lr_22 _ (List.mem_of_getElem? (i := 10) rfl)), by decide +kernel, by decide +kernel, by decide +kernel⟩
theorem im_yX7_holder : Cond.instanceMethod yX7_holder ∈ wsL_law := (lr_22 _ (List.mem_of_getElem? (i := 8) rfl))
theorem se_yX7_holder : Cond.selects RX7 yX7_holder yX7_holder ∈ wsL_law := (lr_22 _ (List.mem_of_getElem? (i := 9) rfl))
theorem cbX7_168 : CB RX7 168 yX7_right cX7_right 7 (some .int) 5 := ⟨(lr_22 _ (List.mem_of_getElem? (i := 11) rfl)), (lr_1 _ (List.mem_of_getElem? (i := 2) rfl)), (lr_22 _ (List.mem_of_getElem? (i := 14) rfl)), by decide +kernel, by decide +kernel, by decide +kernel⟩
theorem im_yX7_right : Cond.instanceMethod yX7_right ∈ wsL_law := (lr_22 _ (List.mem_of_getElem? (i := 12) rfl))
theorem se_yX7_right : Cond.selects RX7 yX7_right yX7_right ∈ wsL_law := (lr_22 _ (List.mem_of_getElem? (i := 13) rfl))
theorem cbX7_172 : CB RX7 172 yX2_onDay cX2_onDay 4 (some (.object "ManorRolls$Right")) 2 := ⟨(lr_22 _ (List.mem_of_getElem? (i := 18) rfl)), (lr_2 _ (List.mem_of_getElem? (i := 0) rfl)), (lr_22 _ (List.mem_of_getElem? (i := 21) rfl)), by decide +kernel, by decide +kernel, by decide +kernel⟩
theorem im_yX2_onDay : Cond.instanceMethod yX2_onDay ∈ wsL_law := (lr_22 _ (List.mem_of_getElem? (i := 19) rfl))
theorem se_yX2_onDay : Cond.selects RX2 yX2_onDay yX2_onDay ∈ wsL_law := (lr_22 _ (List.mem_of_getElem? (i := 20) rfl))
theorem cbX7_176 : CB RX7 176 yX2_stepsAhead cX2_stepsAhead 4 (some (.object "ManorRolls$Right")) 2 := ⟨(lr_22 _ (List.mem_of_getElem? (i := 23) rfl)), (lr_2 _ (List.mem_of_getElem? (i := 0) rfl)), (lr_23 _ (List.mem_of_getElem? (i := 1) rfl)), by decide +kernel, by decide +kernel, by decide +kernel⟩
theorem sm_yX2_stepsAhead : Cond.static yX2_stepsAhead ∈ wsL_law := (lr_23 _ (List.mem_of_getElem? (i := 0) rfl))
theorem cbL_76 : CB RL 76 yX8_holder cX8_holder 4 (some .int) 3 := ⟨(lr_23 _ (List.mem_of_getElem? (i := 2) rfl)), (lr_1 _ (List.mem_of_getElem? (i := 5) rfl)), (lr_23 _ (List.mem_of_getElem? (i := 5) rfl)), by decide +kernel, by decide +kernel, by decide +kernel⟩
theorem im_yX8_holder : Cond.instanceMethod yX8_holder ∈ wsL_law := (lr_23 _ (List.mem_of_getElem? (i := 3) rfl))
theorem se_yX8_holder : Cond.selects RX8 yX8_holder yX8_holder ∈ wsL_law := (lr_23 _ (List.mem_of_getElem? (i := 4) rfl))
theorem cbX8_121 : CB RX8 121 yX8_isStrip cX8_isStrip 4 (some .boolean) 3 := ⟨(lr_23 _ (List.mem_of_getElem? (i := 6) rfl)), (lr_1 _ (List.mem_of_getElem? (i := 5) rfl)), (lr_23 _ (List.mem_of_getElem? (i := 9) rfl)), by decide +kernel, by decide +kernel, by decide +kernel⟩
theorem im_yX8_isStrip : Cond.instanceMethod yX8_isStrip ∈ wsL_law := (lr_23 _ (List.mem_of_getElem? (i := 7) rfl))
theorem se_yX8_isStrip : Cond.selects RX8 yX8_isStrip yX8_isStrip ∈ wsL_law := (lr_23 _ (List.mem_of_getElem? (i := 8) rfl))
theorem cbX8_124 : CB RX8 124 yX8_rightOf cX8_rightOf 6 (some .int) 3 := ⟨(lr_23 _ (List.mem_of_getElem? (i := 10) rfl)), (lr_1 _ (List.mem_of_getElem? (i := 5) rfl)), (lr_23 _ (List.mem_of_getElem? (i := 13) rfl)), by decide +kernel, by decide +kernel, by decide +kernel⟩
theorem im_yX8_rightOf : Cond.instanceMethod yX8_rightOf ∈ wsL_law := (lr_23 _ (List.mem_of_getElem? (i := 11) rfl))
theorem se_yX8_rightOf : Cond.selects RX8 yX8_rightOf yX8_rightOf ∈ wsL_law := (lr_23 _ (List.mem_of_getElem? (i := 12) rfl))
theorem cbL_77 : CB RL 77 yX7_right cX7_right 7 (some .int) 5 := ⟨(lr_23 _ (List.mem_of_getElem? (i := 14) rfl)), (lr_1 _ (List.mem_of_getElem? (i := 2) rfl)), (lr_22 _ (List.mem_of_getElem? (i := 14) rfl)), by decide +kernel, by decide +kernel, by decide +kernel⟩
theorem cbL_81 : CB RL 81 yX8_right cX8_right 7 (some .int) 5 := ⟨(lr_23 _ (List.mem_of_getElem? (i := 15) rfl)), (lr_1 _ (List.mem_of_getElem? (i := 5) rfl)), (lr_23 _ (List.mem_of_getElem? (i := 18) rfl)), by decide +kernel, by decide +kernel, by decide +kernel⟩
theorem im_yX8_right : Cond.instanceMethod yX8_right ∈ wsL_law := (lr_23 _ (List.mem_of_getElem? (i := 16) rfl))
theorem se_yX8_right : Cond.selects RX8 yX8_right yX8_right ∈ wsL_law := (lr_23 _ (List.mem_of_getElem? (i := 17) rfl))
theorem cbL_82 : CB RL 82 yX7_heir cX7_heir 3 (some .int) 2 := ⟨(lr_23 _ (List.mem_of_getElem? (i := 19) rfl)), (lr_1 _ (List.mem_of_getElem? (i := 2) rfl)), (lr_23 _ (List.mem_of_getElem? (i := 22) rfl)), by decide +kernel, by decide +kernel, by decide +kernel⟩
theorem im_yX7_heir : Cond.instanceMethod yX7_heir ∈ wsL_law := (lr_23 _ (List.mem_of_getElem? (i := 20) rfl))
theorem se_yX7_heir : Cond.selects RX7 yX7_heir yX7_heir ∈ wsL_law := (lr_23 _ (List.mem_of_getElem? (i := 21) rfl))
theorem cbX7_194 : CB RX7 194 yX1_list cX1_list 3 none 2 := ⟨(lr_24 _ (List.mem_of_getElem? (i := 1) rfl)), (lr_2 _ (List.mem_of_getElem? (i := 4) rfl)), (lr_24 _ (List.mem_of_getElem? (i := 4) rfl)), by decide +kernel, by decide +kernel, by decide +kernel⟩
theorem im_yX1_list : Cond.instanceMethod yX1_list ∈ wsL_law := (lr_24 _ (List.mem_of_getElem? (i := 2) rfl))
theorem se_yX1_list : Cond.selects RX1 yX1_list yX1_list ∈ wsL_law := (lr_24 _ (List.mem_of_getElem? (i := 3) rfl))
theorem cbX1_34 : CB RX1 34 yX1_listLine cX1_listLine 5 none 2 := ⟨(lr_24 _ (List.mem_of_getElem? (i := 6) rfl)), (lr_2 _ (List.mem_of_getElem? (i := 4) rfl)), (lr_24 _ (List.mem_of_getElem? (i := 9) rfl)), by decide +kernel, by decide +kernel, by decide +kernel⟩
theorem im_yX1_listLine : Cond.instanceMethod yX1_listLine ∈ wsL_law := (lr_24 _ (List.mem_of_getElem? (i := 7) rfl))
theorem se_yX1_listLine : Cond.selects RX1 yX1_listLine yX1_listLine ∈ wsL_law := (lr_24 _ (List.mem_of_getElem? (i := 8) rfl))
theorem cbL_85 : CB RL 85 yX8_heir cX8_heir 6 (some .int) 2 := ⟨(lr_24 _ (List.mem_of_getElem? (i := 10) rfl)), (lr_1 _ (List.mem_of_getElem? (i := 5) rfl)), (lr_24 _ (List.mem_of_getElem? (i := 13) rfl)), by decide +kernel, by decide +kernel, by decide +kernel⟩
theorem im_yX8_heir : Cond.instanceMethod yX8_heir ∈ wsL_law := (lr_24 _ (List.mem_of_getElem? (i := 11) rfl))
theorem se_yX8_heir : Cond.selects RX8 yX8_heir yX8_heir ∈ wsL_law := (lr_24 _ (List.mem_of_getElem? (i := 12) rfl))
theorem cbX8_171 : CB RX8 171 yX8_listed cX8_listed 8 (some .int) 2 := ⟨(lr_24 _ (List.mem_of_getElem? (i := 16) rfl)), (lr_1 _ (List.mem_of_getElem? (i := 5) rfl)), (lr_24 _ (List.mem_of_getElem? (i := 19) rfl)), by decide +kernel, by decide +kernel, by decide +kernel⟩
theorem im_yX8_listed : Cond.instanceMethod yX8_listed ∈ wsL_law := (lr_24 _ (List.mem_of_getElem? (i := 17) rfl))
theorem se_yX8_listed : Cond.selects RX8 yX8_listed yX8_listed ∈ wsL_law := (lr_24 _ (List.mem_of_getElem? (i := 18) rfl))
theorem cbL_86 : CB RL 86 yX7_told cX7_told 4 (some .int) 2 := ⟨(lr_24 _ (List.mem_of_getElem? (i := 20) rfl)), (lr_1 _ (List.mem_of_getElem? (i := 2) rfl)), (lr_24 _ (List.mem_of_getElem? (i := 23) rfl)), by decide +kernel, by decide +kernel, by decide +kernel⟩
theorem im_yX7_told : Cond.instanceMethod yX7_told ∈ wsL_law := (lr_24 _ (List.mem_of_getElem? (i := 21) rfl))
theorem se_yX7_told : Cond.selects RX7 yX7_told yX7_told ∈ wsL_law := (lr_24 _ (List.mem_of_getElem? (i := 22) rfl))
theorem cbX7_212 : CB RX7 212 yX2_partsOf cX2_partsOf 5 (some .int) 1 := ⟨(lr_25 _ (List.mem_of_getElem? (i := 3) rfl)), (lr_2 _ (List.mem_of_getElem? (i := 0) rfl)), (lr_25 _ (List.mem_of_getElem? (i := 6) rfl)), by decide +kernel, by decide +kernel, by decide +kernel⟩
theorem im_yX2_partsOf : Cond.instanceMethod yX2_partsOf ∈ wsL_law := (lr_25 _ (List.mem_of_getElem? (i := 4) rfl))
theorem se_yX2_partsOf : Cond.selects RX2 yX2_partsOf yX2_partsOf ∈ wsL_law := (lr_25 _ (List.mem_of_getElem? (i := 5) rfl))
theorem cbL_89 : CB RL 89 yX8_told cX8_told 3 (some .int) 2 := ⟨(lr_25 _ (List.mem_of_getElem? (i := 7) rfl)), (lr_1 _ (List.mem_of_getElem? (i := 5) rfl)), (lr_25 _ (List.mem_of_getElem? (i := 10) rfl)), by decide +kernel, by decide +kernel, by decide +kernel⟩
theorem im_yX8_told : Cond.instanceMethod yX8_told ∈ wsL_law := (lr_25 _ (List.mem_of_getElem? (i := 8) rfl))
theorem se_yX8_told : Cond.selects RX8 yX8_told yX8_told ∈ wsL_law := (lr_25 _ (List.mem_of_getElem? (i := 9) rfl))
theorem cbL_90 : CB RL 90 yX7_suited cX7_suited 4 (some .int) 2 := ⟨(lr_25 _ (List.mem_of_getElem? (i := 11) rfl)), (lr_1 _ (List.mem_of_getElem? (i := 2) rfl)), (lr_25 _ (List.mem_of_getElem? (i := 14) rfl)), by decide +kernel, by decide +kernel, by decide +kernel⟩
theorem im_yX7_suited : Cond.instanceMethod yX7_suited ∈ wsL_law := (lr_25 _ (List.mem_of_getElem? (i := 12) rfl))
theorem se_yX7_suited : Cond.selects RX7 yX7_suited yX7_suited ∈ wsL_law := (lr_25 _ (List.mem_of_getElem? (i := 13) rfl))
theorem cbL_93 : CB RL 93 yX8_suited cX8_suited 3 (some .int) 2 := ⟨(lr_25 _ (List.mem_of_getElem? (i := 15) rfl)), (lr_1 _ (List.mem_of_getElem? (i := 5) rfl)), (lr_25 _ (List.mem_of_getElem? (i := 18) rfl)), by decide +kernel, by decide +kernel, by decide +kernel⟩
theorem im_yX8_suited : Cond.instanceMethod yX8_suited ∈ wsL_law := (lr_25 _ (List.mem_of_getElem? (i := 16) rfl))
theorem se_yX8_suited : Cond.selects RX8 yX8_suited yX8_suited ∈ wsL_law := (lr_25 _ (List.mem_of_getElem? (i := 17) rfl))
theorem cbL_94 : CB RL 94 yX7_count cX7_count 2 (some .int) 1 := ⟨(lr_25 _ (List.mem_of_getElem? (i := 19) rfl)), (lr_1 _ (List.mem_of_getElem? (i := 2) rfl)), (lr_25 _ (List.mem_of_getElem? (i := 22) rfl)), by decide +kernel, by decide +kernel, by decide +kernel⟩
theorem im_yX7_count : Cond.instanceMethod yX7_count ∈ wsL_law := (lr_25 _ (List.mem_of_getElem? (i := 20) rfl))
theorem se_yX7_count : Cond.selects RX7 yX7_count yX7_count ∈ wsL_law := (lr_25 _ (List.mem_of_getElem? (i := 21) rfl))
theorem cbX7_224 : CB RX7 224 yX3_allOwed cX3_allOwed 4 (some .int) 0 := ⟨(lr_26 _ (List.mem_of_getElem? (i := 0) rfl)), (lr_1 _ (List.mem_of_getElem? (i := 20) rfl)), (lr_26 _ (List.mem_of_getElem? (i := 3) rfl)), by decide +kernel, by decide +kernel, by decide +kernel⟩
theorem im_yX3_allOwed : Cond.instanceMethod yX3_allOwed ∈ wsL_law := (lr_26 _ (List.mem_of_getElem? (i := 1) rfl))
theorem se_yX3_allOwed : Cond.selects RX3 yX3_allOwed yX3_allOwed ∈ wsL_law := (lr_26 _ (List.mem_of_getElem? (i := 2) rfl))
theorem cbL_97 : CB RL 97 yX8_count cX8_count 4 (some .int) 1 := ⟨(lr_26 _ (List.mem_of_getElem? (i := 4) rfl)), (lr_1 _ (List.mem_of_getElem? (i := 5) rfl)), (lr_26 _ (List.mem_of_getElem? (i := 7) rfl)), by decide +kernel, by decide +kernel, by decide +kernel⟩
theorem im_yX8_count : Cond.instanceMethod yX8_count ∈ wsL_law := (lr_26 _ (List.mem_of_getElem? (i := 5) rfl))
theorem se_yX8_count : Cond.selects RX8 yX8_count yX8_count ∈ wsL_law := (lr_26 _ (List.mem_of_getElem? (i := 6) rfl))
theorem oi_inst : Cond.instanceMethod objectInit ∈ wsL_law := (lr_1 _ (List.mem_of_getElem? (i := 10) rfl))
theorem oi_code : Cond.code objectInit ⟨#[0xb1]⟩ 1 none ∈ wsL_law := (lr_1 _ (List.mem_of_getElem? (i := 11) rfl))
theorem oi_X7_3 : Cond.methodLink RX7 3 objectInit ∈ wsL_law := (lr_1 _ (List.mem_of_getElem? (i := 9) rfl))
theorem oi_X0_3 : Cond.methodLink RX0 3 objectInit ∈ wsL_law := (lr_2 _ (List.mem_of_getElem? (i := 13) rfl))
theorem oi_X3_3 : Cond.methodLink RX3 3 objectInit ∈ wsL_law := (lr_3 _ (List.mem_of_getElem? (i := 0) rfl))
theorem oi_X2_3 : Cond.methodLink RX2 3 objectInit ∈ wsL_law := (lr_3 _ (List.mem_of_getElem? (i := 6) rfl))
theorem oi_X5_1 : Cond.methodLink RX5 1 objectInit ∈ wsL_law := (lr_3 _ (List.mem_of_getElem? (i := 17) rfl))
theorem oi_X1_3 : Cond.methodLink RX1 3 objectInit ∈ wsL_law := (lr_4 _ (List.mem_of_getElem? (i := 1) rfl))
theorem oi_X8_3 : Cond.methodLink RX8 3 objectInit ∈ wsL_law := (lr_4 _ (List.mem_of_getElem? (i := 8) rfl))
theorem oi_X4_3 : Cond.methodLink RX4 3 objectInit ∈ wsL_law := (lr_7 _ (List.mem_of_getElem? (i := 23) rfl))
theorem oi_X6_3 : Cond.methodLink RX6 3 objectInit ∈ wsL_law := (lr_19 _ (List.mem_of_getElem? (i := 23) rfl))
theorem mi_X1_38 : Cond.methodLink RX1 38 Lib.Math.min.name ∈ wsL_law := (lr_11 _ (List.mem_of_getElem? (i := 1) rfl))
theorem mi_X4_41 : Cond.methodLink RX4 41 Lib.Math.min.name ∈ wsL_law := (lr_17 _ (List.mem_of_getElem? (i := 21) rfl))
theorem mi_st : Cond.static Lib.Math.min.name ∈ wsL_law := (lr_11 _ (List.mem_of_getElem? (i := 2) rfl))
theorem mi_code : Cond.code Lib.Math.min.name Lib.Math.min.code 2 (some .int) ∈ wsL_law := (lr_11 _ (List.mem_of_getElem? (i := 4) rfl))
theorem mx_X1_108 : Cond.methodLink RX1 108 Lib.Math.max.name ∈ wsL_law := (lr_13 _ (List.mem_of_getElem? (i := 1) rfl))
theorem mx_X2_41 : Cond.methodLink RX2 41 Lib.Math.max.name ∈ wsL_law := (lr_13 _ (List.mem_of_getElem? (i := 12) rfl))
theorem mx_st : Cond.static Lib.Math.max.name ∈ wsL_law := (lr_13 _ (List.mem_of_getElem? (i := 2) rfl))
theorem mx_code : Cond.code Lib.Math.max.name Lib.Math.max.code 2 (some .int) ∈ wsL_law := (lr_13 _ (List.mem_of_getElem? (i := 3) rfl))
theorem mm_ini : Cond.initialized "java/lang/Math" ∈ wsL_law := (lr_11 _ (List.mem_of_getElem? (i := 3) rfl))
