/-! the JDK's data, at the law's entry -/
theorem z_Tcongr {ty : FieldType} {t N : Nat} {f g : Nat → Value} {A : Nat → Prop} {U : State} {H : Heap} (h : va_T ty t N f A U H) (he : ∀ j : Nat, j < N → f j = g j) : va_T ty t N g A U H := by
  obtain ⟨cell, h1, h2, h3, h4, h5, h6, h7⟩ := h
  exact ⟨cell, h1, h2, h3, h4, h5, fun j hj => by rw [h6 j hj, he j hj], h7⟩
theorem zg_O : ∀ j : Nat, j < 100 → (flatC (Jvm.Cond.and given_1 narrow_1))[8 + j]? = some (Cond.eq (.elem (.static "java/lang/Integer" "DigitOnes" "[B") (.int (Int32.ofNat j))) (.int (iI (48 + (j : Int) % 10)))) := by decide +kernel
theorem zg_T : ∀ j : Nat, j < 100 → (flatC (Jvm.Cond.and given_1 narrow_1))[111 + j]? = some (Cond.eq (.elem (.static "java/lang/Integer" "DigitTens" "[B") (.int (Int32.ofNat j))) (.int (iI (48 + (j : Int) / 10)))) := by decide +kernel
set_option maxHeartbeats 4000000 in
theorem zJ_start {s : State} {b : Nat} (ht : ∀ w ∈ lw_tb2, w.before #[Value.ref b] s = true) (hg : (Jvm.Cond.and given_1 narrow_1).before #[Value.ref b] s = true) : ∃ (dO dT : Nat) (fm : Option Nat) (aK aV : Nat → Nat), zJ dO dT fm aK aV (fun q : Nat => s.heap.size ≤ q) s s.heap := by
  have hq := flat_of_before _ hg
  have hA : ∀ a : Nat, a < s.heap.size → ¬ (fun q : Nat => s.heap.size ≤ q) a := fun a h q => Nat.not_le.mpr h q
  have iS := ht (.initialized "java/lang/String") (by decide +kernel)
  have iN := ht (.initialized "java/lang/Integer") (by decide +kernel)
  have iP := ht (.initialized "jdk/internal/util/Preconditions") (by decide +kernel)
  have z1 := va_Zof (v := .int (iI 1)) (ht (.laysStatic "java/lang/String" "COMPACT_STRINGS" "Z") (by decide +kernel)) iS (va_eqt (z := iI 1) (hq _ (by decide +kernel))) hA
  obtain ⟨dO, eO, tO⟩ := va_Tof (tm := .static "java/lang/Integer" "DigitOnes" "[B") (ty := .byte) (N := 100) (f := fun j => .int (iI (48 + (j : Int) % 10))) (by decide) (hq _ (by decide +kernel)) (va_eqt (z := Int32.ofNat 100) (hq _ (by decide +kernel))) (fun j hj => va_eqt (hq _ (List.mem_of_getElem? (zg_O j hj)))) hA
  obtain ⟨dT, eT, tT⟩ := va_Tof (tm := .static "java/lang/Integer" "DigitTens" "[B") (ty := .byte) (N := 100) (f := fun j => .int (iI (48 + (j : Int) / 10))) (by decide) (hq _ (by decide +kernel)) (va_eqt (z := Int32.ofNat 100) (hq _ (by decide +kernel))) (fun j hj => va_eqt (hq _ (List.mem_of_getElem? (zg_T j hj)))) hA
  have z2 := va_Zof (v := .ref dO) (ht (.laysStatic "java/lang/Integer" "DigitOnes" "[B") (by decide +kernel)) iN eO hA
  have z3 := va_Zof (v := .ref dT) (ht (.laysStatic "java/lang/Integer" "DigitTens" "[B") (by decide +kernel)) iN eT hA
  have z9 := va_Zqof (ht (.laysStatic "jdk/internal/util/Preconditions" "SIOOBE_FORMATTER" "Ljava/util/function/BiFunction;") (by decide +kernel)) iP (hq _ (by decide +kernel)) hA
  obtain ⟨fm, z4⟩ : ∃ fm : Option Nat, va_Z "jdk/internal/util/Preconditions" "SIOOBE_FORMATTER" "Ljava/util/function/BiFunction;" (zfm fm) (fun q : Nat => s.heap.size ≤ q) s s.heap := by
    rcases z9 with h | ⟨t, h⟩
    · exact ⟨none, h⟩
    · exact ⟨some t, h⟩
  have e2 : ([2] : List Nat).getD 0 0 = 2 := rfl
  have hz2 : ∀ i : Nat, i < 1 → ([2] : List Nat).getD i 0 < 2 ^ 31 := by decide
  obtain ⟨k0, v0, s0, e0⟩ := vk_Sof (args := #[Value.ref b]) (s := s) (N := 1) (tm := fun _ => .string "ZScreens" 248) (len := [2]) (byt := [[97, 109]]) (A := fun q : Nat => s.heap.size ≤ q) hz2 (fun i hi => hq (.exactly (.string "ZScreens" 248) "java/lang/String") (by decide +kernel)) (fun i hi => hq (.eq (.field (.string "ZScreens" 248) "java/lang/String" "coder" "B") (.int 0)) (by decide +kernel)) (fun i hi => hq (.arrayOf (.field (.string "ZScreens" 248) "java/lang/String" "value" "[B") .byte) (by decide +kernel)) (fun i hi => by
      obtain rfl : i = 0 := by omega
      exact hq (.eq (.length (.field (.string "ZScreens" 248) "java/lang/String" "value" "[B")) (.int 2)) (by decide +kernel)) (fun i hi j hj => by
      obtain rfl : i = 0 := by omega
      rw [e2] at hj
      obtain rfl | rfl : j = 0 ∨ j = 1 := by omega
      · exact hq (.eq (.elem (.field (.string "ZScreens" 248) "java/lang/String" "value" "[B") (.int 0)) (.int 97)) (by decide +kernel)
      · exact hq (.eq (.elem (.field (.string "ZScreens" 248) "java/lang/String" "value" "[B") (.int 1)) (.int 109)) (by decide +kernel)) (fun i j hi hj h => absurd (show i = j by omega) h) hA
  obtain ⟨k1, v1, s1, e1⟩ := vk_Sof (args := #[Value.ref b]) (s := s) (N := 1) (tm := fun _ => .string "ZScreens" 250) (len := [2]) (byt := [[112, 109]]) (A := fun q : Nat => s.heap.size ≤ q) hz2 (fun i hi => hq (.exactly (.string "ZScreens" 250) "java/lang/String") (by decide +kernel)) (fun i hi => hq (.eq (.field (.string "ZScreens" 250) "java/lang/String" "coder" "B") (.int 0)) (by decide +kernel)) (fun i hi => hq (.arrayOf (.field (.string "ZScreens" 250) "java/lang/String" "value" "[B") .byte) (by decide +kernel)) (fun i hi => by
      obtain rfl : i = 0 := by omega
      exact hq (.eq (.length (.field (.string "ZScreens" 250) "java/lang/String" "value" "[B")) (.int 2)) (by decide +kernel)) (fun i hi j hj => by
      obtain rfl : i = 0 := by omega
      rw [e2] at hj
      obtain rfl | rfl : j = 0 ∨ j = 1 := by omega
      · exact hq (.eq (.elem (.field (.string "ZScreens" 250) "java/lang/String" "value" "[B") (.int 0)) (.int 112)) (by decide +kernel)
      · exact hq (.eq (.elem (.field (.string "ZScreens" 250) "java/lang/String" "value" "[B") (.int 1)) (.int 109)) (by decide +kernel)) (fun i j hi hj h => absurd (show i = j by omega) h) hA
  obtain ⟨a1, a2, a3, a4⟩ := s0.1 0 (by decide)
  obtain ⟨b1, b2, b3, b4⟩ := s1.1 0 (by decide)
  have a4 : va_T .byte (v0 0) 2 (fun j => .int (([97, 109] : List Int32).getD j 0)) (fun q : Nat => s.heap.size ≤ q) s s.heap := a4
  have b4 : va_T .byte (v1 0) 2 (fun j => .int (([112, 109] : List Int32).getD j 0)) (fun q : Nat => s.heap.size ≤ q) s s.heap := b4
  have c0 : zC (k0 0) (v0 0) 97 (fun q : Nat => s.heap.size ≤ q) s s.heap := ⟨a1, a2, a3, z_Tcongr a4 (fun j hj => by
    obtain rfl | rfl : j = 0 ∨ j = 1 := by omega
    · exact congrArg Value.int (show (97 : Int32) = iI 97 by decide)
    · exact congrArg Value.int (show (109 : Int32) = iI 109 by decide))⟩
  have c1 : zC (k1 0) (v1 0) 112 (fun q : Nat => s.heap.size ≤ q) s s.heap := ⟨b1, b2, b3, z_Tcongr b4 (fun j hj => by
    obtain rfl | rfl : j = 0 ∨ j = 1 := by omega
    · exact congrArg Value.int (show (112 : Int32) = iI 112 by decide)
    · exact congrArg Value.int (show (109 : Int32) = iI 109 by decide))⟩
  have r0 : vk_R "ZScreens" 248 "am" (k0 0) s := vk_R.of (ht (.stringRef "ZScreens" 248 "am") (by decide +kernel)) (e0 0 (by decide))
  have r1 : vk_R "ZScreens" 250 "pm" (k1 0) s := vk_R.of (ht (.stringRef "ZScreens" 250 "pm") (by decide +kernel)) (e1 0 (by decide))
  refine ⟨dO, dT, fm, fun k => if k = 0 then k0 0 else k1 0, fun k => if k = 0 then v0 0 else v1 0, z1, z2, z3, z4, tO, tT, fun k hk => ?_, r0, r1⟩
  obtain rfl | rfl : k = 0 ∨ k = 1 := by omega
  · exact c0
  · exact c1
