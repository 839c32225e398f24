/-! StringBuilder as far as status needs it -/
abbrev rmJ5_init_d00df : Room := { frames := 1, cells := 1, slots := 16, locals := 24 }
set_option maxHeartbeats 4000000 in
set_option maxRecDepth 100000 in
theorem c_J5_init_d00df (l : Launch) (D : va_G) (sz : Nat) (dO dT : Nat) (fm : Option Nat) (aK aV : Nat → Nat) (cB : ClassId) (sb : Nat) : zXv (zJ dO dT fm aK aV) l yJ5_init_d00df wsJ5_init_d00df rmJ5_init_d00df D [(cB, .byte)] [.ref sb, .int (iI 16)] [(sb, .inr (0, [.null, .int (iI 0), .int (iI 0), .int (iI 0)]))] sz (S := Nat) (fun _ => True) (fun u => [(sb, .inr (0, [.ref u, .int (iI 0), .int (iI 0), .int (iI 0)])), (u, .inl (cB, 16, .inl (fun _ => 0)))]) 1 16 := by
  refine z_startXv (cc := cJ5_init_d00df) (maxL := 2) (own := RJ5) (nm := "<init>") (by decide) rfl rfl rfl (Nat.le_of_ble_eq_true rfl) ?_
  intro p e R s m args below meth c A Q ls H locs hBd hX hP hD hS hl K
  obtain ⟨hx, hb, hml, hown, hts, ⟨hRf, hRl, hRc, hRs⟩, hmn, hK, hN, hA⟩ := hBd
  have hl : lv_has ls 2 [(0, .ref sb), (1, .int (iI 16))] := hl
  have inJ4 : ∀ w ∈ wsJ40, w ∈ wsJ5_init_d00df := by decide +kernel
  have karrayClass_byte := hts (.arrayClass .byte) (by decide +kernel)
  have kcode_objectInit_0xb1_1_none := hts (.code objectInit ⟨#[0xb1]⟩ 1 none) (by decide +kernel)
  have kfieldLink_RJ5_15_java_lang_AbstractStringBuilder_value_B := hts (.fieldLink RJ5 15 "java/lang/AbstractStringBuilder" "value" "[B") (by decide +kernel)
  have kfieldLink_RJ5_18_java_lang_String_COMPACT_STRINGS_Z := hts (.fieldLink RJ5 18 "java/lang/String" "COMPACT_STRINGS" "Z") (by decide +kernel)
  have kfieldLink_RJ5_22_java_lang_AbstractStringBuilder_coder_B := hts (.fieldLink RJ5 22 "java/lang/AbstractStringBuilder" "coder" "B") (by decide +kernel)
  have kinstanceMethod_objectInit := hts (.instanceMethod objectInit) (by decide +kernel)
  have kmethodLink_RJ5_3_objectInit := hts (.methodLink RJ5 3 objectInit) (by decide +kernel)
  have hP : va_P D vwCl [(sb, .inr (0, [.null, .int (iI 0), .int (iI 0), .int (iI 0)]))] H := hP
  have hD : va_D A [(sb, .inr (0, [.null, .int (iI 0), .int (iI 0), .int (iI 0)]))] := hD
  refine lv_aload_n hx hb dJ5_init_d00df_0 rfl (lv_at hl 0 rfl) ?_
  refine W.objInit hx hb hown kmethodLink_RJ5_3_objectInit kinstanceMethod_objectInit kcode_objectInit_0xb1_1_none rfl (by rw [hml]; exact hl.1) rfl dJ5_init_d00df_1 (by rw [hRf]; exact Nat.le_of_ble_eq_true rfl) (by rw [hRl]; exact Nat.le_of_ble_eq_true rfl) ?_
  refine W.eq (g2 := F0 m 4 ls []) rfl ?_
  refine va_gets (v := .int (iI 1)) hx hb hX.1 hS hown kfieldLink_RJ5_18_java_lang_String_COMPACT_STRINGS_Z (fun _ h9 => h9) dJ5_init_d00df_4 ?_
  refine z_if_eq hx hb 25 (by omega) dJ5_init_d00df_7 (by decide) (fun c7 => absurd c7 (by omega)) (fun c7 => ?_)
  refine lv_aload_n hx hb dJ5_init_d00df_10 rfl (lv_at hl 0 rfl) ?_
  refine lv_iload_n hx hb dJ5_init_d00df_11 rfl (lv_at hl 1 rfl) ?_
  refine z_newb hx hb karrayClass_byte hK 0 rfl hP hD hS hA (N := 16) (by omega) (by rw [hRc]; exact Nat.le_of_ble_eq_true rfl) (by rw [hRs]; exact Nat.le_of_ble_eq_true rfl) dJ5_init_d00df_12 (fun q1 H hP hD hS => ?_)
  have hP : va_P D vwCl [(sb, .inr (0, [.null, .int (iI 0), .int (iI 0), .int (iI 0)])), (q1, .inl (cB, 16, .inl (fun _ => 0)))] H := hP
  have hD : va_D A [(sb, .inr (0, [.null, .int (iI 0), .int (iI 0), .int (iI 0)])), (q1, .inl (cB, 16, .inl (fun _ => 0)))] := hD
  refine W.widen (k := 1) (n := 16) (by omega) (by omega) ?_
  refine va_put (D := D) (ci := 0) (v := .ref q1) (ty := .array .byte) (C := RJ4) (T := TJ4) (N := 4) hx hb hts inJ4 tyJ4 tyJ4_ok nmJ4 hown hK hP hD hS 0 rfl rfl 0 (by decide) kfieldLink_RJ5_15_java_lang_AbstractStringBuilder_value_B (fun _ h9 => h9) rfl (by decide +kernel) rfl rfl (Nat.le_of_ble_eq_true rfl) dJ5_init_d00df_14 (fun H locs hP hD hS => ?_)
  have hP : va_P D vwCl [(sb, .inr (0, [.ref q1, .int (iI 0), .int (iI 0), .int (iI 0)])), (q1, .inl (cB, 16, .inl (fun _ => 0)))] H := hP
  have hD : va_D A [(sb, .inr (0, [.ref q1, .int (iI 0), .int (iI 0), .int (iI 0)])), (q1, .inl (cB, 16, .inl (fun _ => 0)))] := hD
  refine lv_aload_n hx hb dJ5_init_d00df_17 rfl (lv_at hl 0 rfl) ?_
  refine lv_iconst (v := iI 0) hx hb dJ5_init_d00df_18 rfl ?_
  refine va_put (D := D) (ci := 0) (v := .int (iI 0)) (ty := .byte) (C := RJ4) (T := TJ4) (N := 4) hx hb hts inJ4 tyJ4 tyJ4_ok nmJ4 hown hK hP hD hS 0 rfl rfl 1 (by decide) kfieldLink_RJ5_22_java_lang_AbstractStringBuilder_coder_B (fun _ h9 => h9) rfl (by decide +kernel) rfl rfl (Nat.le_of_ble_eq_true rfl) dJ5_init_d00df_19 (fun H locs hP hD hS => ?_)
  have hP : va_P D vwCl [(sb, .inr (0, [.ref q1, .int (iI 0), .int (iI 0), .int (iI 0)])), (q1, .inl (cB, 16, .inl (fun _ => 0)))] H := hP
  have hD : va_D A [(sb, .inr (0, [.ref q1, .int (iI 0), .int (iI 0), .int (iI 0)])), (q1, .inl (cB, 16, .inl (fun _ => 0)))] := hD
  refine lv_goto (tgt := 38) hx hb dJ5_init_d00df_22 (by decide) ?_
  exact K H locs q1 _ ls 1 16 (by omega) (by omega) trivial hP hD hS dJ5_init_d00df_38

abbrev rmJ4_init_da8c8 : Room := { frames := 2, cells := 1, slots := 16, locals := 45 }
set_option maxHeartbeats 4000000 in
set_option maxRecDepth 100000 in
theorem c_J4_init_da8c8 (l : Launch) (D : va_G) (sz : Nat) (dO dT : Nat) (fm : Option Nat) (aK aV : Nat → Nat) (cB : ClassId) (sb : Nat) : zXv (zJ dO dT fm aK aV) l yJ4_init_da8c8 wsJ4_init_da8c8 rmJ4_init_da8c8 D [(cB, .byte)] [.ref sb] [(sb, .inr (0, [.null, .int (iI 0), .int (iI 0), .int (iI 0)]))] sz (S := Nat) (fun _ => True) (fun u => [(sb, .inr (0, [.ref u, .int (iI 0), .int (iI 0), .int (iI 0)])), (u, .inl (cB, 16, .inl (fun _ => 0)))]) 1 16 := by
  refine z_startXv (cc := cJ4_init_da8c8) (maxL := 1) (own := RJ4) (nm := "<init>") (by decide) rfl rfl rfl (Nat.le_of_ble_eq_true rfl) ?_
  intro p e R s m args below meth c A Q ls H locs hBd hX hP hD hS hl K
  obtain ⟨hx, hb, hml, hown, hts, ⟨hRf, hRl, hRc, hRs⟩, hmn, hK, hN, hA⟩ := hBd
  have hl : lv_has ls 1 [(0, .ref sb)] := hl
  have kinitialized_RJ5 := hts (.initialized RJ5) (by decide +kernel)
  have kinstanceMethod_yJ5_init_d00df := hts (.instanceMethod yJ5_init_d00df) (by decide +kernel)
  have kmethodLink_RJ4_1_yJ5_init_d00df := hts (.methodLink RJ4 1 yJ5_init_d00df) (by decide +kernel)
  have hP : va_P D vwCl [(sb, .inr (0, [.null, .int (iI 0), .int (iI 0), .int (iI 0)]))] H := hP
  have hD : va_D A [(sb, .inr (0, [.null, .int (iI 0), .int (iI 0), .int (iI 0)]))] := hD
  refine lv_aload_n hx hb dJ4_init_da8c8_0 rfl (lv_at hl 0 rfl) ?_
  refine lv_bipush (v := iI 16) hx hb dJ4_init_da8c8_1 (by decide) ?_
  refine z_callv (w2 := fun u => [(sb, .inr (0, [.ref u, .int (iI 0), .int (iI 0), .int (iI 0)])), (u, .inl (cB, 16, .inl (fun _ => 0)))]) (wc := [(sb, .inr (0, [.null, .int (iI 0), .int (iI 0), .int (iI 0)]))]) (wr := []) (va_runI (As := [.int (iI 16)]) (rest := []) ⟨hx, hb, hml, hown, hts⟩ (c_J5_init_d00df l D H.size dO dT fm aK aV cB sb) (cwI 1 hts gJ4_init_da8c8_J5_init_d00df rfl rfl rfl kinitialized_RJ5 kmethodLink_RJ4_1_yJ5_init_d00df kinstanceMethod_yJ5_init_d00df rfl (by decide +kernel) ⟨by rw [hRf]; exact Nat.le_of_ble_eq_true rfl, by rw [hRl]; exact Nat.le_of_ble_eq_true rfl⟩) (z_preXS (zJ_ok _ _ _ _ _) hX hS hA hP hD hK hN [0] (by decide) rfl rfl [0] rfl) rfl rfl hl.1 rfl (lv_room (Nat.le_of_ble_eq_true rfl)) dJ4_init_da8c8_3 ⟨by rw [hRc]; exact Nat.le_of_ble_eq_true rfl, by rw [hRs]; exact Nat.le_of_ble_eq_true rfl⟩) hP hD hS hA [0] [] rfl rfl (by decide) (by decide) [0, 1] (by decide) (fun _ => rfl) (fun u H locs hw hP hD hS => ?_)
  have hP : va_P D vwCl [(sb, .inr (0, [.ref u, .int (iI 0), .int (iI 0), .int (iI 0)])), (u, .inl (cB, 16, .inl (fun _ => 0)))] H := hP
  have hD : va_D A [(sb, .inr (0, [.ref u, .int (iI 0), .int (iI 0), .int (iI 0)])), (u, .inl (cB, 16, .inl (fun _ => 0)))] := hD
  refine W.widen (k := 1) (n := 16) (by omega) (by omega) ?_
  exact K H locs u _ ls 1 16 (by omega) (by omega) trivial hP hD hS dJ4_init_da8c8_6

abbrev rmJ6_stringSize_0f7a4 : Room := { frames := 0, cells := 0, slots := 0, locals := 0 }
set_option maxHeartbeats 4000000 in
set_option maxRecDepth 100000 in
theorem c_J6_stringSize_0f7a4 (l : Launch) (D : va_G) (sz : Nat) (x : Int) (h : -9999 ≤ x ∧ x ≤ 9999) : zMi l yJ6_stringSize_0f7a4 wsJ6_stringSize_0f7a4 rmJ6_stringSize_0f7a4 D [] [.int (iI x)] [] sz (S := Unit) (fun r _ => r = iI (dLen x)) (fun _ => []) 0 0 := by
  refine z_starti (cc := cJ6_stringSize_0f7a4) (maxL := 4) (ty := .int) (own := RJ6) (nm := "stringSize") (by decide) rfl rfl rfl (Nat.le_of_ble_eq_true rfl) ?_
  intro p e R s m args below meth c A Q ls H locs hBd hP hD hS hl K
  obtain ⟨hx, hb, hml, hown, hts, ⟨hRf, hRl, hRc, hRs⟩, hmn, hK, hN, hA⟩ := hBd
  have hl : lv_has ls 4 [(0, .int (iI x))] := hl
  have hP : va_P D vwCl [] H := hP
  have hD : va_D A [] := hD
  refine lv_iconst (v := iI 1) hx hb dJ6_stringSize_0f7a4_0 rfl ?_
  refine lv_istore_n (lv' := [(1, .int (iI 1)), (0, .int (iI x))]) hx hb dJ6_stringSize_0f7a4_1 rfl hl (by decide) rfl (fun ls hl => ?_)
  refine lv_iload_n hx hb dJ6_stringSize_0f7a4_2 rfl (lv_at hl 1 rfl) ?_
  refine z_if_lt hx hb 11 (by omega) dJ6_stringSize_0f7a4_3 (by decide) (fun c3 => ?_) (fun c3 => ?_)
  · skip
    refine lv_bipush (v := iI (-10)) hx hb dJ6_stringSize_0f7a4_11 (by decide) ?_
    refine lv_istore_n (lv' := [(2, .int (iI ((-10)))), (1, .int (iI 1)), (0, .int (iI x))]) hx hb dJ6_stringSize_0f7a4_13 rfl hl (by decide) rfl (fun ls hl => ?_)
    refine lv_iconst (v := iI 1) hx hb dJ6_stringSize_0f7a4_14 rfl ?_
    refine lv_istore_n (lv' := [(3, .int (iI 1)), (2, .int (iI ((-10)))), (1, .int (iI 1)), (0, .int (iI x))]) hx hb dJ6_stringSize_0f7a4_15 rfl hl (by decide) rfl (fun ls hl => ?_)
    refine lv_iload_n hx hb dJ6_stringSize_0f7a4_16 rfl (lv_at hl 0 rfl) ?_
    refine lv_bipush (v := iI 10) hx hb dJ6_stringSize_0f7a4_17 (by decide) ?_
    refine z_icmp_ge hx hb 42 (by omega) dJ6_stringSize_0f7a4_19 (by decide) (fun c19 => absurd c19 (by omega)) (fun c19 => ?_)
    refine lv_iload_n hx hb dJ6_stringSize_0f7a4_22 rfl (lv_at hl 3 rfl) ?_
    refine lv_iload_n hx hb dJ6_stringSize_0f7a4_23 rfl (lv_at hl 1 rfl) ?_
    refine z_icmp_le hx hb 31 (by omega) dJ6_stringSize_0f7a4_24 (by decide) (fun c24 => ?_) (fun c24 => ?_)
    · skip
      refine lv_bipush (v := iI 10) hx hb dJ6_stringSize_0f7a4_31 (by decide) ?_
      refine lv_iload_n hx hb dJ6_stringSize_0f7a4_33 rfl (lv_at hl 1 rfl) ?_
      refine z_imul hx hb dJ6_stringSize_0f7a4_34 ?_
      refine lv_istore_n (lv' := [(2, .int (iI (10 * ((-10))))), (3, .int (iI 1)), (1, .int (iI 1)), (0, .int (iI x))]) hx hb dJ6_stringSize_0f7a4_35 rfl hl (by decide) rfl (fun ls hl => ?_)
      refine lv_iinc (v := iI (1 + 1)) (lv' := [(3, .int (iI (1 + 1))), (2, .int (iI (10 * ((-10))))), (1, .int (iI 1)), (0, .int (iI x))]) hx hb dJ6_stringSize_0f7a4_36 hl (k := 1) rfl (iI_add _ _) (by decide) rfl (fun ls hl => ?_)
      refine lv_goto (tgt := 16) hx hb dJ6_stringSize_0f7a4_39 (by decide) ?_
      refine lv_iload_n hx hb dJ6_stringSize_0f7a4_16 rfl (lv_at hl 0 rfl) ?_
      refine lv_bipush (v := iI 10) hx hb dJ6_stringSize_0f7a4_17 (by decide) ?_
      refine z_icmp_ge hx hb 42 (by omega) dJ6_stringSize_0f7a4_19 (by decide) (fun c19 => absurd c19 (by omega)) (fun c19 => ?_)
      refine lv_iload_n hx hb dJ6_stringSize_0f7a4_22 rfl (lv_at hl 3 rfl) ?_
      refine lv_iload_n hx hb dJ6_stringSize_0f7a4_23 rfl (lv_at hl 1 rfl) ?_
      refine z_icmp_le hx hb 31 (by omega) dJ6_stringSize_0f7a4_24 (by decide) (fun c24 => ?_) (fun c24 => ?_)
      · skip
        refine lv_bipush (v := iI 10) hx hb dJ6_stringSize_0f7a4_31 (by decide) ?_
        refine lv_iload_n hx hb dJ6_stringSize_0f7a4_33 rfl (lv_at hl 1 rfl) ?_
        refine z_imul hx hb dJ6_stringSize_0f7a4_34 ?_
        refine lv_istore_n (lv' := [(2, .int (iI (10 * (10 * ((-10)))))), (3, .int (iI (1 + 1))), (1, .int (iI 1)), (0, .int (iI x))]) hx hb dJ6_stringSize_0f7a4_35 rfl hl (by decide) rfl (fun ls hl => ?_)
        refine lv_iinc (v := iI ((1 + 1) + 1)) (lv' := [(3, .int (iI ((1 + 1) + 1))), (2, .int (iI (10 * (10 * ((-10)))))), (1, .int (iI 1)), (0, .int (iI x))]) hx hb dJ6_stringSize_0f7a4_36 hl (k := 1) rfl (iI_add _ _) (by decide) rfl (fun ls hl => ?_)
        refine lv_goto (tgt := 16) hx hb dJ6_stringSize_0f7a4_39 (by decide) ?_
        refine lv_iload_n hx hb dJ6_stringSize_0f7a4_16 rfl (lv_at hl 0 rfl) ?_
        refine lv_bipush (v := iI 10) hx hb dJ6_stringSize_0f7a4_17 (by decide) ?_
        refine z_icmp_ge hx hb 42 (by omega) dJ6_stringSize_0f7a4_19 (by decide) (fun c19 => absurd c19 (by omega)) (fun c19 => ?_)
        refine lv_iload_n hx hb dJ6_stringSize_0f7a4_22 rfl (lv_at hl 3 rfl) ?_
        refine lv_iload_n hx hb dJ6_stringSize_0f7a4_23 rfl (lv_at hl 1 rfl) ?_
        refine z_icmp_le hx hb 31 (by omega) dJ6_stringSize_0f7a4_24 (by decide) (fun c24 => ?_) (fun c24 => ?_)
        · skip
          refine lv_bipush (v := iI 10) hx hb dJ6_stringSize_0f7a4_31 (by decide) ?_
          refine lv_iload_n hx hb dJ6_stringSize_0f7a4_33 rfl (lv_at hl 1 rfl) ?_
          refine z_imul hx hb dJ6_stringSize_0f7a4_34 ?_
          refine lv_istore_n (lv' := [(2, .int (iI (10 * (10 * (10 * ((-10))))))), (3, .int (iI ((1 + 1) + 1))), (1, .int (iI 1)), (0, .int (iI x))]) hx hb dJ6_stringSize_0f7a4_35 rfl hl (by decide) rfl (fun ls hl => ?_)
          refine lv_iinc (v := iI (((1 + 1) + 1) + 1)) (lv' := [(3, .int (iI (((1 + 1) + 1) + 1))), (2, .int (iI (10 * (10 * (10 * ((-10))))))), (1, .int (iI 1)), (0, .int (iI x))]) hx hb dJ6_stringSize_0f7a4_36 hl (k := 1) rfl (iI_add _ _) (by decide) rfl (fun ls hl => ?_)
          refine lv_goto (tgt := 16) hx hb dJ6_stringSize_0f7a4_39 (by decide) ?_
          refine lv_iload_n hx hb dJ6_stringSize_0f7a4_16 rfl (lv_at hl 0 rfl) ?_
          refine lv_bipush (v := iI 10) hx hb dJ6_stringSize_0f7a4_17 (by decide) ?_
          refine z_icmp_ge hx hb 42 (by omega) dJ6_stringSize_0f7a4_19 (by decide) (fun c19 => absurd c19 (by omega)) (fun c19 => ?_)
          refine lv_iload_n hx hb dJ6_stringSize_0f7a4_22 rfl (lv_at hl 3 rfl) ?_
          refine lv_iload_n hx hb dJ6_stringSize_0f7a4_23 rfl (lv_at hl 1 rfl) ?_
          refine z_icmp_le hx hb 31 (by omega) dJ6_stringSize_0f7a4_24 (by decide) (fun c24 => absurd c24 (by omega)) (fun c24 => ?_)
          refine lv_iload_n hx hb dJ6_stringSize_0f7a4_27 rfl (lv_at hl 0 rfl) ?_
          refine lv_iload_n hx hb dJ6_stringSize_0f7a4_28 rfl (lv_at hl 2 rfl) ?_
          refine z_iadd hx hb dJ6_stringSize_0f7a4_29 ?_
          exact K H locs _ () _ ls 0 0 (by omega) (by omega) rfl (congrArg iI (by unfold dLen; omega)) hP hD hS dJ6_stringSize_0f7a4_30
        · skip
          refine lv_iload_n hx hb dJ6_stringSize_0f7a4_27 rfl (lv_at hl 0 rfl) ?_
          refine lv_iload_n hx hb dJ6_stringSize_0f7a4_28 rfl (lv_at hl 2 rfl) ?_
          refine z_iadd hx hb dJ6_stringSize_0f7a4_29 ?_
          exact K H locs _ () _ ls 0 0 (by omega) (by omega) rfl (congrArg iI (by unfold dLen; omega)) hP hD hS dJ6_stringSize_0f7a4_30
      · skip
        refine lv_iload_n hx hb dJ6_stringSize_0f7a4_27 rfl (lv_at hl 0 rfl) ?_
        refine lv_iload_n hx hb dJ6_stringSize_0f7a4_28 rfl (lv_at hl 2 rfl) ?_
        refine z_iadd hx hb dJ6_stringSize_0f7a4_29 ?_
        exact K H locs _ () _ ls 0 0 (by omega) (by omega) rfl (congrArg iI (by unfold dLen; omega)) hP hD hS dJ6_stringSize_0f7a4_30
    · skip
      refine lv_iload_n hx hb dJ6_stringSize_0f7a4_27 rfl (lv_at hl 0 rfl) ?_
      refine lv_iload_n hx hb dJ6_stringSize_0f7a4_28 rfl (lv_at hl 2 rfl) ?_
      refine z_iadd hx hb dJ6_stringSize_0f7a4_29 ?_
      exact K H locs _ () _ ls 0 0 (by omega) (by omega) rfl (congrArg iI (by unfold dLen; omega)) hP hD hS dJ6_stringSize_0f7a4_30
  · skip
    refine lv_iconst (v := iI 0) hx hb dJ6_stringSize_0f7a4_6 rfl ?_
    refine lv_istore_n (lv' := [(1, .int (iI 0)), (0, .int (iI x))]) hx hb dJ6_stringSize_0f7a4_7 rfl hl (by decide) rfl (fun ls hl => ?_)
    refine lv_iload_n hx hb dJ6_stringSize_0f7a4_8 rfl (lv_at hl 1 rfl) ?_
    refine z_ineg hx hb dJ6_stringSize_0f7a4_9 ?_
    refine lv_istore_n (lv' := [(0, .int (iI (-x))), (1, .int (iI 0))]) hx hb dJ6_stringSize_0f7a4_10 rfl hl (by decide) rfl (fun ls hl => ?_)
    refine lv_bipush (v := iI (-10)) hx hb dJ6_stringSize_0f7a4_11 (by decide) ?_
    refine lv_istore_n (lv' := [(2, .int (iI ((-10)))), (0, .int (iI (-x))), (1, .int (iI 0))]) hx hb dJ6_stringSize_0f7a4_13 rfl hl (by decide) rfl (fun ls hl => ?_)
    refine lv_iconst (v := iI 1) hx hb dJ6_stringSize_0f7a4_14 rfl ?_
    refine lv_istore_n (lv' := [(3, .int (iI 1)), (2, .int (iI ((-10)))), (0, .int (iI (-x))), (1, .int (iI 0))]) hx hb dJ6_stringSize_0f7a4_15 rfl hl (by decide) rfl (fun ls hl => ?_)
    refine lv_iload_n hx hb dJ6_stringSize_0f7a4_16 rfl (lv_at hl 0 rfl) ?_
    refine lv_bipush (v := iI 10) hx hb dJ6_stringSize_0f7a4_17 (by decide) ?_
    refine z_icmp_ge hx hb 42 (by omega) dJ6_stringSize_0f7a4_19 (by decide) (fun c19 => absurd c19 (by omega)) (fun c19 => ?_)
    refine lv_iload_n hx hb dJ6_stringSize_0f7a4_22 rfl (lv_at hl 2 rfl) ?_
    refine lv_iload_n hx hb dJ6_stringSize_0f7a4_23 rfl (lv_at hl 1 rfl) ?_
    refine z_icmp_le hx hb 31 (by omega) dJ6_stringSize_0f7a4_24 (by decide) (fun c24 => ?_) (fun c24 => ?_)
    · skip
      refine lv_bipush (v := iI 10) hx hb dJ6_stringSize_0f7a4_31 (by decide) ?_
      refine lv_iload_n hx hb dJ6_stringSize_0f7a4_33 rfl (lv_at hl 1 rfl) ?_
      refine z_imul hx hb dJ6_stringSize_0f7a4_34 ?_
      refine lv_istore_n (lv' := [(2, .int (iI (10 * ((-10))))), (3, .int (iI 1)), (0, .int (iI (-x))), (1, .int (iI 0))]) hx hb dJ6_stringSize_0f7a4_35 rfl hl (by decide) rfl (fun ls hl => ?_)
      refine lv_iinc (v := iI (1 + 1)) (lv' := [(3, .int (iI (1 + 1))), (2, .int (iI (10 * ((-10))))), (0, .int (iI (-x))), (1, .int (iI 0))]) hx hb dJ6_stringSize_0f7a4_36 hl (k := 1) rfl (iI_add _ _) (by decide) rfl (fun ls hl => ?_)
      refine lv_goto (tgt := 16) hx hb dJ6_stringSize_0f7a4_39 (by decide) ?_
      refine lv_iload_n hx hb dJ6_stringSize_0f7a4_16 rfl (lv_at hl 0 rfl) ?_
      refine lv_bipush (v := iI 10) hx hb dJ6_stringSize_0f7a4_17 (by decide) ?_
      refine z_icmp_ge hx hb 42 (by omega) dJ6_stringSize_0f7a4_19 (by decide) (fun c19 => absurd c19 (by omega)) (fun c19 => ?_)
      refine lv_iload_n hx hb dJ6_stringSize_0f7a4_22 rfl (lv_at hl 2 rfl) ?_
      refine lv_iload_n hx hb dJ6_stringSize_0f7a4_23 rfl (lv_at hl 1 rfl) ?_
      refine z_icmp_le hx hb 31 (by omega) dJ6_stringSize_0f7a4_24 (by decide) (fun c24 => ?_) (fun c24 => ?_)
      · skip
        refine lv_bipush (v := iI 10) hx hb dJ6_stringSize_0f7a4_31 (by decide) ?_
        refine lv_iload_n hx hb dJ6_stringSize_0f7a4_33 rfl (lv_at hl 1 rfl) ?_
        refine z_imul hx hb dJ6_stringSize_0f7a4_34 ?_
        refine lv_istore_n (lv' := [(2, .int (iI (10 * (10 * ((-10)))))), (3, .int (iI (1 + 1))), (0, .int (iI (-x))), (1, .int (iI 0))]) hx hb dJ6_stringSize_0f7a4_35 rfl hl (by decide) rfl (fun ls hl => ?_)
        refine lv_iinc (v := iI ((1 + 1) + 1)) (lv' := [(3, .int (iI ((1 + 1) + 1))), (2, .int (iI (10 * (10 * ((-10)))))), (0, .int (iI (-x))), (1, .int (iI 0))]) hx hb dJ6_stringSize_0f7a4_36 hl (k := 1) rfl (iI_add _ _) (by decide) rfl (fun ls hl => ?_)
        refine lv_goto (tgt := 16) hx hb dJ6_stringSize_0f7a4_39 (by decide) ?_
        refine lv_iload_n hx hb dJ6_stringSize_0f7a4_16 rfl (lv_at hl 0 rfl) ?_
        refine lv_bipush (v := iI 10) hx hb dJ6_stringSize_0f7a4_17 (by decide) ?_
        refine z_icmp_ge hx hb 42 (by omega) dJ6_stringSize_0f7a4_19 (by decide) (fun c19 => absurd c19 (by omega)) (fun c19 => ?_)
        refine lv_iload_n hx hb dJ6_stringSize_0f7a4_22 rfl (lv_at hl 2 rfl) ?_
        refine lv_iload_n hx hb dJ6_stringSize_0f7a4_23 rfl (lv_at hl 1 rfl) ?_
        refine z_icmp_le hx hb 31 (by omega) dJ6_stringSize_0f7a4_24 (by decide) (fun c24 => ?_) (fun c24 => ?_)
        · skip
          refine lv_bipush (v := iI 10) hx hb dJ6_stringSize_0f7a4_31 (by decide) ?_
          refine lv_iload_n hx hb dJ6_stringSize_0f7a4_33 rfl (lv_at hl 1 rfl) ?_
          refine z_imul hx hb dJ6_stringSize_0f7a4_34 ?_
          refine lv_istore_n (lv' := [(2, .int (iI (10 * (10 * (10 * ((-10))))))), (3, .int (iI ((1 + 1) + 1))), (0, .int (iI (-x))), (1, .int (iI 0))]) hx hb dJ6_stringSize_0f7a4_35 rfl hl (by decide) rfl (fun ls hl => ?_)
          refine lv_iinc (v := iI (((1 + 1) + 1) + 1)) (lv' := [(3, .int (iI (((1 + 1) + 1) + 1))), (2, .int (iI (10 * (10 * (10 * ((-10))))))), (0, .int (iI (-x))), (1, .int (iI 0))]) hx hb dJ6_stringSize_0f7a4_36 hl (k := 1) rfl (iI_add _ _) (by decide) rfl (fun ls hl => ?_)
          refine lv_goto (tgt := 16) hx hb dJ6_stringSize_0f7a4_39 (by decide) ?_
          refine lv_iload_n hx hb dJ6_stringSize_0f7a4_16 rfl (lv_at hl 0 rfl) ?_
          refine lv_bipush (v := iI 10) hx hb dJ6_stringSize_0f7a4_17 (by decide) ?_
          refine z_icmp_ge hx hb 42 (by omega) dJ6_stringSize_0f7a4_19 (by decide) (fun c19 => absurd c19 (by omega)) (fun c19 => ?_)
          refine lv_iload_n hx hb dJ6_stringSize_0f7a4_22 rfl (lv_at hl 2 rfl) ?_
          refine lv_iload_n hx hb dJ6_stringSize_0f7a4_23 rfl (lv_at hl 1 rfl) ?_
          refine z_icmp_le hx hb 31 (by omega) dJ6_stringSize_0f7a4_24 (by decide) (fun c24 => absurd c24 (by omega)) (fun c24 => ?_)
          refine lv_iload_n hx hb dJ6_stringSize_0f7a4_27 rfl (lv_at hl 0 rfl) ?_
          refine lv_iload_n hx hb dJ6_stringSize_0f7a4_28 rfl (lv_at hl 3 rfl) ?_
          refine z_iadd hx hb dJ6_stringSize_0f7a4_29 ?_
          exact K H locs _ () _ ls 0 0 (by omega) (by omega) rfl (congrArg iI (by unfold dLen; omega)) hP hD hS dJ6_stringSize_0f7a4_30
        · skip
          refine lv_iload_n hx hb dJ6_stringSize_0f7a4_27 rfl (lv_at hl 0 rfl) ?_
          refine lv_iload_n hx hb dJ6_stringSize_0f7a4_28 rfl (lv_at hl 3 rfl) ?_
          refine z_iadd hx hb dJ6_stringSize_0f7a4_29 ?_
          exact K H locs _ () _ ls 0 0 (by omega) (by omega) rfl (congrArg iI (by unfold dLen; omega)) hP hD hS dJ6_stringSize_0f7a4_30
      · skip
        refine lv_iload_n hx hb dJ6_stringSize_0f7a4_27 rfl (lv_at hl 0 rfl) ?_
        refine lv_iload_n hx hb dJ6_stringSize_0f7a4_28 rfl (lv_at hl 3 rfl) ?_
        refine z_iadd hx hb dJ6_stringSize_0f7a4_29 ?_
        exact K H locs _ () _ ls 0 0 (by omega) (by omega) rfl (congrArg iI (by unfold dLen; omega)) hP hD hS dJ6_stringSize_0f7a4_30
    · skip
      refine lv_iload_n hx hb dJ6_stringSize_0f7a4_27 rfl (lv_at hl 0 rfl) ?_
      refine lv_iload_n hx hb dJ6_stringSize_0f7a4_28 rfl (lv_at hl 3 rfl) ?_
      refine z_iadd hx hb dJ6_stringSize_0f7a4_29 ?_
      exact K H locs _ () _ ls 0 0 (by omega) (by omega) rfl (congrArg iI (by unfold dLen; omega)) hP hD hS dJ6_stringSize_0f7a4_30

abbrev rmJ5_ensureCapacityInternal_d00df : Room := { frames := 0, cells := 0, slots := 0, locals := 0 }
set_option maxHeartbeats 4000000 in
set_option maxRecDepth 100000 in
theorem c_J5_ensureCapacityInternal_d00df (l : Launch) (D : va_G) (sz : Nat) (cB : ClassId) (sb bv : Nat) (g : Nat → Int32) (n q : Int) (h : 0 ≤ q ∧ q ≤ 16) : zMv l yJ5_ensureCapacityInternal_d00df wsJ5_ensureCapacityInternal_d00df rmJ5_ensureCapacityInternal_d00df D [(cB, .byte)] [.ref sb, .int (iI q)] [(sb, .inr (0, [.ref bv, .int (iI 0), .int (iI 0), .int (iI n)])), (bv, .inl (cB, 16, .inl g))] sz (S := Unit) (fun _ => True) (fun _ => [(sb, .inr (0, [.ref bv, .int (iI 0), .int (iI 0), .int (iI n)])), (bv, .inl (cB, 16, .inl g))]) 0 0 := by
  refine z_startv (cc := cJ5_ensureCapacityInternal_d00df) (maxL := 3) (own := RJ5) (nm := "ensureCapacityInternal") (by decide) rfl rfl rfl (Nat.le_of_ble_eq_true rfl) ?_
  intro p e R s m args below meth c A Q ls H locs hBd hP hD hS hl K
  obtain ⟨hx, hb, hml, hown, hts, ⟨hRf, hRl, hRc, hRs⟩, hmn, hK, hN, hA⟩ := hBd
  have hl : lv_has ls 3 [(0, .ref sb), (1, .int (iI q))] := hl
  have inJ4 : ∀ w ∈ wsJ40, w ∈ wsJ5_ensureCapacityInternal_d00df := by decide +kernel
  have kfieldLink_RJ5_15_java_lang_AbstractStringBuilder_value_B := hts (.fieldLink RJ5 15 "java/lang/AbstractStringBuilder" "value" "[B") (by decide +kernel)
  have kfieldLink_RJ5_22_java_lang_AbstractStringBuilder_coder_B := hts (.fieldLink RJ5 22 "java/lang/AbstractStringBuilder" "coder" "B") (by decide +kernel)
  have hP : va_P D vwCl [(sb, .inr (0, [.ref bv, .int (iI 0), .int (iI 0), .int (iI n)])), (bv, .inl (cB, 16, .inl g))] H := hP
  have hD : va_D A [(sb, .inr (0, [.ref bv, .int (iI 0), .int (iI 0), .int (iI n)])), (bv, .inl (cB, 16, .inl g))] := hD
  refine lv_aload_n hx hb dJ5_ensureCapacityInternal_d00df_0 rfl (lv_at hl 0 rfl) ?_
  refine va_get (D := D) (ci := 0) (v := .ref bv) (C := RJ4) (T := TJ4) (N := 4) hx hb hts inJ4 hown hK hP 0 rfl rfl 0 (by decide) kfieldLink_RJ5_15_java_lang_AbstractStringBuilder_value_B (fun _ h9 => h9) rfl dJ5_ensureCapacityInternal_d00df_1 ?_
  refine va_alen hx hb hK hP 1 0 rfl rfl (v := iI 16) rfl dJ5_ensureCapacityInternal_d00df_4 ?_
  refine lv_aload_n hx hb dJ5_ensureCapacityInternal_d00df_5 rfl (lv_at hl 0 rfl) ?_
  refine va_get (D := D) (ci := 0) (v := .int (iI 0)) (C := RJ4) (T := TJ4) (N := 4) hx hb hts inJ4 hown hK hP 0 rfl rfl 1 (by decide) kfieldLink_RJ5_22_java_lang_AbstractStringBuilder_coder_B (fun _ h9 => h9) rfl dJ5_ensureCapacityInternal_d00df_6 ?_
  refine lv_ishr hx hb dJ5_ensureCapacityInternal_d00df_9 ?_
  rw [z_shr0]
  refine lv_istore_n (lv' := [(2, .int (iI 16)), (0, .ref sb), (1, .int (iI q))]) hx hb dJ5_ensureCapacityInternal_d00df_10 rfl hl (by decide) rfl (fun ls hl => ?_)
  refine lv_iload_n hx hb dJ5_ensureCapacityInternal_d00df_11 rfl (lv_at hl 2 rfl) ?_
  refine lv_iload_n hx hb dJ5_ensureCapacityInternal_d00df_12 rfl (lv_at hl 0 rfl) ?_
  refine z_isub hx hb dJ5_ensureCapacityInternal_d00df_13 ?_
  refine z_if_le hx hb 38 (by omega) dJ5_ensureCapacityInternal_d00df_14 (by decide) (fun c14 => ?_) (fun c14 => absurd c14 (by omega))
  exact K H locs () _ ls 0 0 (by omega) (by omega) trivial hP hD hS dJ5_ensureCapacityInternal_d00df_38

abbrev rmJ5_isLatin1_aae02 : Room := { frames := 0, cells := 0, slots := 0, locals := 0 }
set_option maxHeartbeats 4000000 in
set_option maxRecDepth 100000 in
theorem c_J5_isLatin1_aae02 (l : Launch) (D : va_G) (sz : Nat) (dO dT : Nat) (fm : Option Nat) (aK aV : Nat → Nat) (sb bv : Nat) (n : Int) : zXi (zJ dO dT fm aK aV) l yJ5_isLatin1_aae02 wsJ5_isLatin1_aae02 rmJ5_isLatin1_aae02 D [] [.ref sb] [(sb, .inr (0, [.ref bv, .int (iI 0), .int (iI 0), .int (iI n)]))] sz (S := Unit) (fun r _ => r = iI 1) (fun _ => [(sb, .inr (0, [.ref bv, .int (iI 0), .int (iI 0), .int (iI n)]))]) 0 0 := by
  refine z_startXi (cc := cJ5_isLatin1_aae02) (maxL := 1) (ty := .boolean) (own := RJ5) (nm := "isLatin1") (by decide) rfl rfl rfl (Nat.le_of_ble_eq_true rfl) ?_
  intro p e R s m args below meth c A Q ls H locs hBd hX hP hD hS hl K
  obtain ⟨hx, hb, hml, hown, hts, ⟨hRf, hRl, hRc, hRs⟩, hmn, hK, hN, hA⟩ := hBd
  have hl : lv_has ls 1 [(0, .ref sb)] := hl
  have inJ4 : ∀ w ∈ wsJ40, w ∈ wsJ5_isLatin1_aae02 := by decide +kernel
  have kfieldLink_RJ5_18_java_lang_String_COMPACT_STRINGS_Z := hts (.fieldLink RJ5 18 "java/lang/String" "COMPACT_STRINGS" "Z") (by decide +kernel)
  have kfieldLink_RJ5_22_java_lang_AbstractStringBuilder_coder_B := hts (.fieldLink RJ5 22 "java/lang/AbstractStringBuilder" "coder" "B") (by decide +kernel)
  have hP : va_P D vwCl [(sb, .inr (0, [.ref bv, .int (iI 0), .int (iI 0), .int (iI n)]))] H := hP
  have hD : va_D A [(sb, .inr (0, [.ref bv, .int (iI 0), .int (iI 0), .int (iI n)]))] := hD
  refine va_gets (v := .int (iI 1)) hx hb hX.1 hS hown kfieldLink_RJ5_18_java_lang_String_COMPACT_STRINGS_Z (fun _ h9 => h9) dJ5_isLatin1_aae02_0 ?_
  refine z_if_eq hx hb 17 (by omega) dJ5_isLatin1_aae02_3 (by decide) (fun c3 => absurd c3 (by omega)) (fun c3 => ?_)
  refine lv_aload_n hx hb dJ5_isLatin1_aae02_6 rfl (lv_at hl 0 rfl) ?_
  refine va_get (D := D) (ci := 0) (v := .int (iI 0)) (C := RJ4) (T := TJ4) (N := 4) hx hb hts inJ4 hown hK hP 0 rfl rfl 1 (by decide) kfieldLink_RJ5_22_java_lang_AbstractStringBuilder_coder_B (fun _ h9 => h9) rfl dJ5_isLatin1_aae02_7 ?_
  refine z_if_ne hx hb 17 (by omega) dJ5_isLatin1_aae02_10 (by decide) (fun c10 => absurd c10 (by omega)) (fun c10 => ?_)
  refine lv_iconst (v := iI 1) hx hb dJ5_isLatin1_aae02_13 rfl ?_
  refine lv_goto (tgt := 18) hx hb dJ5_isLatin1_aae02_14 (by decide) ?_
  exact K H locs _ () _ ls 0 0 (by omega) (by omega) (by decide) rfl hP hD hS dJ5_isLatin1_aae02_18

abbrev rmJ6_getChars_p : Room := { frames := 0, cells := 0, slots := 0, locals := 0 }
set_option maxHeartbeats 4000000 in
set_option maxRecDepth 100000 in
theorem c_J6_getChars_p (l : Launch) (D : va_G) (sz : Nat) (dO dT : Nat) (fm : Option Nat) (aK aV : Nat → Nat) (cB : ClassId) (bv : Nat) (g : Nat → Int32) (tx : List Int) (w ix : Int) (h : 0 ≤ w ∧ w ≤ 9999) (hi : ix = (tx.length : Int) + dLen (w) ∧ ix ≤ 16) (hT : zTx g tx) : zXi (zJ dO dT fm aK aV) l yJ6_getChars_ba4f3 wsJ6_getChars_ba4f3 rmJ6_getChars_p D [(cB, .byte)] [.int (iI w), .int (iI ix), .ref bv] [(bv, .inl (cB, 16, .inl g))] sz (S := (Nat → Int32)) (fun _ u => zTx u (tx ++ dec (w))) (fun u => [(bv, .inl (cB, 16, .inl u))]) 0 0 := by
  refine z_startXi (cc := cJ6_getChars_ba4f3) (maxL := 7) (ty := .int) (own := RJ6) (nm := "getChars") (by decide) rfl rfl rfl (Nat.le_of_ble_eq_true rfl) ?_
  intro p e R s m args below meth c A Q ls H locs hBd hX hP hD hS hl K
  obtain ⟨hx, hb, hml, hown, hts, ⟨hRf, hRl, hRc, hRs⟩, hmn, hK, hN, hA⟩ := hBd
  have hl : lv_has ls 7 [(0, .int (iI w)), (1, .int (iI ix)), (2, .ref bv)] := hl
  have kfieldLink_RJ6_83_java_lang_Integer_DigitOnes_B := hts (.fieldLink RJ6 83 "java/lang/Integer" "DigitOnes" "[B") (by decide +kernel)
  have kfieldLink_RJ6_87_java_lang_Integer_DigitTens_B := hts (.fieldLink RJ6 87 "java/lang/Integer" "DigitTens" "[B") (by decide +kernel)
  have hP : va_P D vwCl [(bv, .inl (cB, 16, .inl g))] H := hP
  have hD : va_D A [(bv, .inl (cB, 16, .inl g))] := hD
  rcases (show (0 ≤ w ∧ w < 10) ∨ (10 ≤ w ∧ w < 100) ∨ (100 ≤ w ∧ w < 1000) ∨ (1000 ≤ w ∧ w < 10000) by omega) with hc | hc | hc | hc
  · skip
    have hd : dLen (w) = 1 := by unfold dLen; omega
    refine lv_iload_n hx hb dJ6_getChars_ba4f3_0 rfl (lv_at hl 1 rfl) ?_
    refine lv_istore (lv' := [(5, .int (iI ix)), (0, .int (iI w)), (1, .int (iI ix)), (2, .ref bv)]) hx hb dJ6_getChars_ba4f3_1 hl (by decide) rfl (fun ls hl => ?_)
    refine lv_iload_n hx hb dJ6_getChars_ba4f3_3 rfl (lv_at hl 1 rfl) ?_
    refine z_if_ge hx hb 11 (by omega) dJ6_getChars_ba4f3_4 (by decide) (fun c4 => ?_) (fun c4 => absurd c4 (by omega))
    refine lv_iconst (v := iI 0) hx hb dJ6_getChars_ba4f3_11 rfl ?_
    refine lv_istore (lv' := [(6, .int (iI 0)), (5, .int (iI ix)), (0, .int (iI w)), (1, .int (iI ix)), (2, .ref bv)]) hx hb dJ6_getChars_ba4f3_12 hl (by decide) rfl (fun ls hl => ?_)
    refine lv_iload hx hb dJ6_getChars_ba4f3_14 (lv_at hl 0 rfl) ?_
    refine z_if_ne hx hb 22 (by omega) dJ6_getChars_ba4f3_16 (by decide) (fun c16 => absurd c16 (by omega)) (fun c16 => ?_)
    refine lv_iload_n hx hb dJ6_getChars_ba4f3_19 rfl (lv_at hl 2 rfl) ?_
    refine z_ineg hx hb dJ6_getChars_ba4f3_20 ?_
    refine lv_istore_n (lv' := [(0, .int (iI (-w))), (6, .int (iI 0)), (5, .int (iI ix)), (1, .int (iI ix)), (2, .ref bv)]) hx hb dJ6_getChars_ba4f3_21 rfl hl (by decide) rfl (fun ls hl => ?_)
    refine lv_iload_n hx hb dJ6_getChars_ba4f3_22 rfl (lv_at hl 0 rfl) ?_
    refine lv_bipush (v := iI (-100)) hx hb dJ6_getChars_ba4f3_23 (by decide) ?_
    refine z_icmp_gt hx hb 72 (by omega) dJ6_getChars_ba4f3_25 (by decide) (fun c25 => ?_) (fun c25 => absurd c25 (by omega))
    refine lv_aload_n hx hb dJ6_getChars_ba4f3_72 rfl (lv_at hl 4 rfl) ?_
    refine lv_iinc (v := iI (ix + (-1))) (lv' := [(5, .int (iI (ix + (-1)))), (0, .int (iI (-w))), (6, .int (iI 0)), (1, .int (iI ix)), (2, .ref bv)]) hx hb dJ6_getChars_ba4f3_73 hl (k := 2) rfl (iI_add _ _) (by decide) rfl (fun ls hl => ?_)
    refine lv_iload hx hb dJ6_getChars_ba4f3_76 (lv_at hl 0 rfl) ?_
    refine va_gets (v := .ref dO) hx hb hX.2.1 hS hown kfieldLink_RJ6_83_java_lang_Integer_DigitOnes_B (fun _ h9 => h9) dJ6_getChars_ba4f3_78 ?_
    refine lv_iload_n hx hb dJ6_getChars_ba4f3_81 rfl (lv_at hl 1 rfl) ?_
    refine z_ineg hx hb dJ6_getChars_ba4f3_82 ?_
    refine z_tbO hx hb hX.2.2.2.2.1 hS (by omega) dJ6_getChars_ba4f3_83 ?_
    refine z_bast hx hb hK hP hD hS 0 0 rfl rfl (by omega) (by omega) dJ6_getChars_ba4f3_84 (fun H locs hP hD hS => ?_)
    have hP : va_P D vwCl [(bv, .inl (cB, 16, .inl (upd g (ix + (-1)).toNat (iI (48 + (-(-w)) % 10)))))] H := hP
    have hD : va_D A [(bv, .inl (cB, 16, .inl (upd g (ix + (-1)).toNat (iI (48 + (-(-w)) % 10)))))] := hD
    refine lv_iload_n hx hb dJ6_getChars_ba4f3_85 rfl (lv_at hl 1 rfl) ?_
    refine lv_bipush (v := iI (-9)) hx hb dJ6_getChars_ba4f3_86 (by decide) ?_
    refine z_icmp_ge hx hb 104 (by omega) dJ6_getChars_ba4f3_88 (by decide) (fun c88 => ?_) (fun c88 => absurd c88 (by omega))
    refine lv_iload hx hb dJ6_getChars_ba4f3_104 (lv_at hl 2 rfl) ?_
    refine z_if_eq hx hb 118 (by omega) dJ6_getChars_ba4f3_106 (by decide) (fun c106 => ?_) (fun c106 => absurd c106 (by omega))
    refine lv_iload hx hb dJ6_getChars_ba4f3_118 (lv_at hl 0 rfl) ?_
    have e9 : dec (w) = [48 + w] := by
      unfold dec digs
      rw [if_neg (show ¬ w < 0 by omega), if_pos (show w < 10 by omega)]
    exact K H locs _ (upd g (ix + (-1)).toNat (iI (48 + (-(-w)) % 10))) _ ls 0 0 (by omega) (by omega) rfl (by rw [e9]; exact tx_join (tx_keep hT (by omega)) (tb_cons (tb_nil _ _) (by omega) (by omega))) hP hD hS dJ6_getChars_ba4f3_120
  · skip
    have hd : dLen (w) = 2 := by unfold dLen; omega
    refine lv_iload_n hx hb dJ6_getChars_ba4f3_0 rfl (lv_at hl 1 rfl) ?_
    refine lv_istore (lv' := [(5, .int (iI ix)), (0, .int (iI w)), (1, .int (iI ix)), (2, .ref bv)]) hx hb dJ6_getChars_ba4f3_1 hl (by decide) rfl (fun ls hl => ?_)
    refine lv_iload_n hx hb dJ6_getChars_ba4f3_3 rfl (lv_at hl 1 rfl) ?_
    refine z_if_ge hx hb 11 (by omega) dJ6_getChars_ba4f3_4 (by decide) (fun c4 => ?_) (fun c4 => absurd c4 (by omega))
    refine lv_iconst (v := iI 0) hx hb dJ6_getChars_ba4f3_11 rfl ?_
    refine lv_istore (lv' := [(6, .int (iI 0)), (5, .int (iI ix)), (0, .int (iI w)), (1, .int (iI ix)), (2, .ref bv)]) hx hb dJ6_getChars_ba4f3_12 hl (by decide) rfl (fun ls hl => ?_)
    refine lv_iload hx hb dJ6_getChars_ba4f3_14 (lv_at hl 0 rfl) ?_
    refine z_if_ne hx hb 22 (by omega) dJ6_getChars_ba4f3_16 (by decide) (fun c16 => absurd c16 (by omega)) (fun c16 => ?_)
    refine lv_iload_n hx hb dJ6_getChars_ba4f3_19 rfl (lv_at hl 2 rfl) ?_
    refine z_ineg hx hb dJ6_getChars_ba4f3_20 ?_
    refine lv_istore_n (lv' := [(0, .int (iI (-w))), (6, .int (iI 0)), (5, .int (iI ix)), (1, .int (iI ix)), (2, .ref bv)]) hx hb dJ6_getChars_ba4f3_21 rfl hl (by decide) rfl (fun ls hl => ?_)
    refine lv_iload_n hx hb dJ6_getChars_ba4f3_22 rfl (lv_at hl 0 rfl) ?_
    refine lv_bipush (v := iI (-100)) hx hb dJ6_getChars_ba4f3_23 (by decide) ?_
    refine z_icmp_gt hx hb 72 (by omega) dJ6_getChars_ba4f3_25 (by decide) (fun c25 => ?_) (fun c25 => absurd c25 (by omega))
    refine lv_aload_n hx hb dJ6_getChars_ba4f3_72 rfl (lv_at hl 4 rfl) ?_
    refine lv_iinc (v := iI (ix + (-1))) (lv' := [(5, .int (iI (ix + (-1)))), (0, .int (iI (-w))), (6, .int (iI 0)), (1, .int (iI ix)), (2, .ref bv)]) hx hb dJ6_getChars_ba4f3_73 hl (k := 2) rfl (iI_add _ _) (by decide) rfl (fun ls hl => ?_)
    refine lv_iload hx hb dJ6_getChars_ba4f3_76 (lv_at hl 0 rfl) ?_
    refine va_gets (v := .ref dO) hx hb hX.2.1 hS hown kfieldLink_RJ6_83_java_lang_Integer_DigitOnes_B (fun _ h9 => h9) dJ6_getChars_ba4f3_78 ?_
    refine lv_iload_n hx hb dJ6_getChars_ba4f3_81 rfl (lv_at hl 1 rfl) ?_
    refine z_ineg hx hb dJ6_getChars_ba4f3_82 ?_
    refine z_tbO hx hb hX.2.2.2.2.1 hS (by omega) dJ6_getChars_ba4f3_83 ?_
    refine z_bast hx hb hK hP hD hS 0 0 rfl rfl (by omega) (by omega) dJ6_getChars_ba4f3_84 (fun H locs hP hD hS => ?_)
    have hP : va_P D vwCl [(bv, .inl (cB, 16, .inl (upd g (ix + (-1)).toNat (iI (48 + (-(-w)) % 10)))))] H := hP
    have hD : va_D A [(bv, .inl (cB, 16, .inl (upd g (ix + (-1)).toNat (iI (48 + (-(-w)) % 10)))))] := hD
    refine lv_iload_n hx hb dJ6_getChars_ba4f3_85 rfl (lv_at hl 1 rfl) ?_
    refine lv_bipush (v := iI (-9)) hx hb dJ6_getChars_ba4f3_86 (by decide) ?_
    refine z_icmp_ge hx hb 104 (by omega) dJ6_getChars_ba4f3_88 (by decide) (fun c88 => absurd c88 (by omega)) (fun c88 => ?_)
    refine lv_aload_n hx hb dJ6_getChars_ba4f3_91 rfl (lv_at hl 4 rfl) ?_
    refine lv_iinc (v := iI ((ix + (-1)) + (-1))) (lv' := [(5, .int (iI ((ix + (-1)) + (-1)))), (0, .int (iI (-w))), (6, .int (iI 0)), (1, .int (iI ix)), (2, .ref bv)]) hx hb dJ6_getChars_ba4f3_92 hl (k := 0) rfl (iI_add _ _) (by decide) rfl (fun ls hl => ?_)
    refine lv_iload hx hb dJ6_getChars_ba4f3_95 (lv_at hl 0 rfl) ?_
    refine va_gets (v := .ref dT) hx hb hX.2.2.1 hS hown kfieldLink_RJ6_87_java_lang_Integer_DigitTens_B (fun _ h9 => h9) dJ6_getChars_ba4f3_97 ?_
    refine lv_iload_n hx hb dJ6_getChars_ba4f3_100 rfl (lv_at hl 1 rfl) ?_
    refine z_ineg hx hb dJ6_getChars_ba4f3_101 ?_
    refine z_tbT hx hb hX.2.2.2.2.2.1 hS (by omega) dJ6_getChars_ba4f3_102 ?_
    refine z_bast hx hb hK hP hD hS 0 0 rfl rfl (by omega) (by omega) dJ6_getChars_ba4f3_103 (fun H locs hP hD hS => ?_)
    have hP : va_P D vwCl [(bv, .inl (cB, 16, .inl (upd (upd g (ix + (-1)).toNat (iI (48 + (-(-w)) % 10))) ((ix + (-1)) + (-1)).toNat (iI (48 + (-(-w)) / 10)))))] H := hP
    have hD : va_D A [(bv, .inl (cB, 16, .inl (upd (upd g (ix + (-1)).toNat (iI (48 + (-(-w)) % 10))) ((ix + (-1)) + (-1)).toNat (iI (48 + (-(-w)) / 10)))))] := hD
    refine lv_iload hx hb dJ6_getChars_ba4f3_104 (lv_at hl 2 rfl) ?_
    refine z_if_eq hx hb 118 (by omega) dJ6_getChars_ba4f3_106 (by decide) (fun c106 => ?_) (fun c106 => absurd c106 (by omega))
    refine lv_iload hx hb dJ6_getChars_ba4f3_118 (lv_at hl 0 rfl) ?_
    have e9 : dec (w) = [48 + w / 10, 48 + w % 10] := by
      unfold dec digs
      rw [if_neg (show ¬ w < 0 by omega), if_neg (show ¬ w < 10 by omega), if_pos (show w < 100 by omega)]
    exact K H locs _ (upd (upd g (ix + (-1)).toNat (iI (48 + (-(-w)) % 10))) ((ix + (-1)) + (-1)).toNat (iI (48 + (-(-w)) / 10))) _ ls 0 0 (by omega) (by omega) rfl (by rw [e9]; exact tx_join (tx_keep (tx_keep hT (by omega)) (by omega)) (tb_cons (tb_cons (tb_nil _ _) (by omega) (by omega)) (by omega) (by omega))) hP hD hS dJ6_getChars_ba4f3_120
  · skip
    have hd : dLen (w) = 3 := by unfold dLen; omega
    refine lv_iload_n hx hb dJ6_getChars_ba4f3_0 rfl (lv_at hl 1 rfl) ?_
    refine lv_istore (lv' := [(5, .int (iI ix)), (0, .int (iI w)), (1, .int (iI ix)), (2, .ref bv)]) hx hb dJ6_getChars_ba4f3_1 hl (by decide) rfl (fun ls hl => ?_)
    refine lv_iload_n hx hb dJ6_getChars_ba4f3_3 rfl (lv_at hl 1 rfl) ?_
    refine z_if_ge hx hb 11 (by omega) dJ6_getChars_ba4f3_4 (by decide) (fun c4 => ?_) (fun c4 => absurd c4 (by omega))
    refine lv_iconst (v := iI 0) hx hb dJ6_getChars_ba4f3_11 rfl ?_
    refine lv_istore (lv' := [(6, .int (iI 0)), (5, .int (iI ix)), (0, .int (iI w)), (1, .int (iI ix)), (2, .ref bv)]) hx hb dJ6_getChars_ba4f3_12 hl (by decide) rfl (fun ls hl => ?_)
    refine lv_iload hx hb dJ6_getChars_ba4f3_14 (lv_at hl 0 rfl) ?_
    refine z_if_ne hx hb 22 (by omega) dJ6_getChars_ba4f3_16 (by decide) (fun c16 => absurd c16 (by omega)) (fun c16 => ?_)
    refine lv_iload_n hx hb dJ6_getChars_ba4f3_19 rfl (lv_at hl 2 rfl) ?_
    refine z_ineg hx hb dJ6_getChars_ba4f3_20 ?_
    refine lv_istore_n (lv' := [(0, .int (iI (-w))), (6, .int (iI 0)), (5, .int (iI ix)), (1, .int (iI ix)), (2, .ref bv)]) hx hb dJ6_getChars_ba4f3_21 rfl hl (by decide) rfl (fun ls hl => ?_)
    refine lv_iload_n hx hb dJ6_getChars_ba4f3_22 rfl (lv_at hl 0 rfl) ?_
    refine lv_bipush (v := iI (-100)) hx hb dJ6_getChars_ba4f3_23 (by decide) ?_
    refine z_icmp_gt hx hb 72 (by omega) dJ6_getChars_ba4f3_25 (by decide) (fun c25 => absurd c25 (by omega)) (fun c25 => ?_)
    refine lv_iload_n hx hb dJ6_getChars_ba4f3_28 rfl (lv_at hl 0 rfl) ?_
    refine lv_bipush (v := iI 100) hx hb dJ6_getChars_ba4f3_29 (by decide) ?_
    refine z_ndiv hx hb (by omega) dJ6_getChars_ba4f3_31 ?_
    refine lv_istore_n (lv' := [(3, .int (iI (-(w / 100)))), (0, .int (iI (-w))), (6, .int (iI 0)), (5, .int (iI ix)), (1, .int (iI ix)), (2, .ref bv)]) hx hb dJ6_getChars_ba4f3_32 rfl hl (by decide) rfl (fun ls hl => ?_)
    refine lv_iload_n hx hb dJ6_getChars_ba4f3_33 rfl (lv_at hl 0 rfl) ?_
    refine lv_bipush (v := iI 100) hx hb dJ6_getChars_ba4f3_34 (by decide) ?_
    refine z_imul hx hb dJ6_getChars_ba4f3_36 ?_
    refine lv_iload_n hx hb dJ6_getChars_ba4f3_37 rfl (lv_at hl 1 rfl) ?_
    refine z_isub hx hb dJ6_getChars_ba4f3_38 ?_
    refine lv_istore (lv' := [(4, .int (iI (((-(w / 100)) * 100) - (-w)))), (3, .int (iI (-(w / 100)))), (0, .int (iI (-w))), (6, .int (iI 0)), (5, .int (iI ix)), (1, .int (iI ix)), (2, .ref bv)]) hx hb dJ6_getChars_ba4f3_39 hl (by decide) rfl (fun ls hl => ?_)
    refine lv_iload_n hx hb dJ6_getChars_ba4f3_41 rfl (lv_at hl 1 rfl) ?_
    refine lv_istore_n (lv' := [(0, .int (iI (-(w / 100)))), (4, .int (iI (((-(w / 100)) * 100) - (-w)))), (3, .int (iI (-(w / 100)))), (6, .int (iI 0)), (5, .int (iI ix)), (1, .int (iI ix)), (2, .ref bv)]) hx hb dJ6_getChars_ba4f3_42 rfl hl (by decide) rfl (fun ls hl => ?_)
    refine lv_aload_n hx hb dJ6_getChars_ba4f3_43 rfl (lv_at hl 6 rfl) ?_
    refine lv_iinc (v := iI (ix + (-1))) (lv' := [(5, .int (iI (ix + (-1)))), (0, .int (iI (-(w / 100)))), (4, .int (iI (((-(w / 100)) * 100) - (-w)))), (3, .int (iI (-(w / 100)))), (6, .int (iI 0)), (1, .int (iI ix)), (2, .ref bv)]) hx hb dJ6_getChars_ba4f3_44 hl (k := 4) rfl (iI_add _ _) (by decide) rfl (fun ls hl => ?_)
    refine lv_iload hx hb dJ6_getChars_ba4f3_47 (lv_at hl 0 rfl) ?_
    refine va_gets (v := .ref dO) hx hb hX.2.1 hS hown kfieldLink_RJ6_83_java_lang_Integer_DigitOnes_B (fun _ h9 => h9) dJ6_getChars_ba4f3_49 ?_
    refine lv_iload hx hb dJ6_getChars_ba4f3_52 (lv_at hl 2 rfl) ?_
    refine z_tbO hx hb hX.2.2.2.2.1 hS (by omega) dJ6_getChars_ba4f3_54 ?_
    refine z_bast hx hb hK hP hD hS 0 0 rfl rfl (by omega) (by omega) dJ6_getChars_ba4f3_55 (fun H locs hP hD hS => ?_)
    have hP : va_P D vwCl [(bv, .inl (cB, 16, .inl (upd g (ix + (-1)).toNat (iI (48 + (((-(w / 100)) * 100) - (-w)) % 10)))))] H := hP
    have hD : va_D A [(bv, .inl (cB, 16, .inl (upd g (ix + (-1)).toNat (iI (48 + (((-(w / 100)) * 100) - (-w)) % 10)))))] := hD
    refine lv_aload_n hx hb dJ6_getChars_ba4f3_56 rfl (lv_at hl 6 rfl) ?_
    refine lv_iinc (v := iI ((ix + (-1)) + (-1))) (lv' := [(5, .int (iI ((ix + (-1)) + (-1)))), (0, .int (iI (-(w / 100)))), (4, .int (iI (((-(w / 100)) * 100) - (-w)))), (3, .int (iI (-(w / 100)))), (6, .int (iI 0)), (1, .int (iI ix)), (2, .ref bv)]) hx hb dJ6_getChars_ba4f3_57 hl (k := 0) rfl (iI_add _ _) (by decide) rfl (fun ls hl => ?_)
    refine lv_iload hx hb dJ6_getChars_ba4f3_60 (lv_at hl 0 rfl) ?_
    refine va_gets (v := .ref dT) hx hb hX.2.2.1 hS hown kfieldLink_RJ6_87_java_lang_Integer_DigitTens_B (fun _ h9 => h9) dJ6_getChars_ba4f3_62 ?_
    refine lv_iload hx hb dJ6_getChars_ba4f3_65 (lv_at hl 2 rfl) ?_
    refine z_tbT hx hb hX.2.2.2.2.2.1 hS (by omega) dJ6_getChars_ba4f3_67 ?_
    refine z_bast hx hb hK hP hD hS 0 0 rfl rfl (by omega) (by omega) dJ6_getChars_ba4f3_68 (fun H locs hP hD hS => ?_)
    have hP : va_P D vwCl [(bv, .inl (cB, 16, .inl (upd (upd g (ix + (-1)).toNat (iI (48 + (((-(w / 100)) * 100) - (-w)) % 10))) ((ix + (-1)) + (-1)).toNat (iI (48 + (((-(w / 100)) * 100) - (-w)) / 10)))))] H := hP
    have hD : va_D A [(bv, .inl (cB, 16, .inl (upd (upd g (ix + (-1)).toNat (iI (48 + (((-(w / 100)) * 100) - (-w)) % 10))) ((ix + (-1)) + (-1)).toNat (iI (48 + (((-(w / 100)) * 100) - (-w)) / 10)))))] := hD
    refine lv_goto (tgt := 22) hx hb dJ6_getChars_ba4f3_69 (by decide) ?_
    refine lv_iload_n hx hb dJ6_getChars_ba4f3_22 rfl (lv_at hl 1 rfl) ?_
    refine lv_bipush (v := iI (-100)) hx hb dJ6_getChars_ba4f3_23 (by decide) ?_
    refine z_icmp_gt hx hb 72 (by omega) dJ6_getChars_ba4f3_25 (by decide) (fun c25 => ?_) (fun c25 => absurd c25 (by omega))
    refine lv_aload_n hx hb dJ6_getChars_ba4f3_72 rfl (lv_at hl 6 rfl) ?_
    refine lv_iinc (v := iI (((ix + (-1)) + (-1)) + (-1))) (lv' := [(5, .int (iI (((ix + (-1)) + (-1)) + (-1)))), (0, .int (iI (-(w / 100)))), (4, .int (iI (((-(w / 100)) * 100) - (-w)))), (3, .int (iI (-(w / 100)))), (6, .int (iI 0)), (1, .int (iI ix)), (2, .ref bv)]) hx hb dJ6_getChars_ba4f3_73 hl (k := 0) rfl (iI_add _ _) (by decide) rfl (fun ls hl => ?_)
    refine lv_iload hx hb dJ6_getChars_ba4f3_76 (lv_at hl 0 rfl) ?_
    refine va_gets (v := .ref dO) hx hb hX.2.1 hS hown kfieldLink_RJ6_83_java_lang_Integer_DigitOnes_B (fun _ h9 => h9) dJ6_getChars_ba4f3_78 ?_
    refine lv_iload_n hx hb dJ6_getChars_ba4f3_81 rfl (lv_at hl 1 rfl) ?_
    refine z_ineg hx hb dJ6_getChars_ba4f3_82 ?_
    refine z_tbO hx hb hX.2.2.2.2.1 hS (by omega) dJ6_getChars_ba4f3_83 ?_
    refine z_bast hx hb hK hP hD hS 0 0 rfl rfl (by omega) (by omega) dJ6_getChars_ba4f3_84 (fun H locs hP hD hS => ?_)
    have hP : va_P D vwCl [(bv, .inl (cB, 16, .inl (upd (upd (upd g (ix + (-1)).toNat (iI (48 + (((-(w / 100)) * 100) - (-w)) % 10))) ((ix + (-1)) + (-1)).toNat (iI (48 + (((-(w / 100)) * 100) - (-w)) / 10))) (((ix + (-1)) + (-1)) + (-1)).toNat (iI (48 + (-(-(w / 100))) % 10)))))] H := hP
    have hD : va_D A [(bv, .inl (cB, 16, .inl (upd (upd (upd g (ix + (-1)).toNat (iI (48 + (((-(w / 100)) * 100) - (-w)) % 10))) ((ix + (-1)) + (-1)).toNat (iI (48 + (((-(w / 100)) * 100) - (-w)) / 10))) (((ix + (-1)) + (-1)) + (-1)).toNat (iI (48 + (-(-(w / 100))) % 10)))))] := hD
    refine lv_iload_n hx hb dJ6_getChars_ba4f3_85 rfl (lv_at hl 1 rfl) ?_
    refine lv_bipush (v := iI (-9)) hx hb dJ6_getChars_ba4f3_86 (by decide) ?_
    refine z_icmp_ge hx hb 104 (by omega) dJ6_getChars_ba4f3_88 (by decide) (fun c88 => ?_) (fun c88 => absurd c88 (by omega))
    refine lv_iload hx hb dJ6_getChars_ba4f3_104 (lv_at hl 4 rfl) ?_
    refine z_if_eq hx hb 118 (by omega) dJ6_getChars_ba4f3_106 (by decide) (fun c106 => ?_) (fun c106 => absurd c106 (by omega))
    refine lv_iload hx hb dJ6_getChars_ba4f3_118 (lv_at hl 0 rfl) ?_
    have e9 : dec (w) = [48 + w / 100, 48 + w / 10 % 10, 48 + w % 10] := by
      unfold dec digs
      rw [if_neg (show ¬ w < 0 by omega), if_neg (show ¬ w < 10 by omega), if_neg (show ¬ w < 100 by omega), if_pos (show w < 1000 by omega)]
    exact K H locs _ (upd (upd (upd g (ix + (-1)).toNat (iI (48 + (((-(w / 100)) * 100) - (-w)) % 10))) ((ix + (-1)) + (-1)).toNat (iI (48 + (((-(w / 100)) * 100) - (-w)) / 10))) (((ix + (-1)) + (-1)) + (-1)).toNat (iI (48 + (-(-(w / 100))) % 10))) _ ls 0 0 (by omega) (by omega) rfl (by rw [e9]; exact tx_join (tx_keep (tx_keep (tx_keep hT (by omega)) (by omega)) (by omega)) (tb_cons (tb_cons (tb_cons (tb_nil _ _) (by omega) (by omega)) (by omega) (by omega)) (by omega) (by omega))) hP hD hS dJ6_getChars_ba4f3_120
  · skip
    have hd : dLen (w) = 4 := by unfold dLen; omega
    refine lv_iload_n hx hb dJ6_getChars_ba4f3_0 rfl (lv_at hl 1 rfl) ?_
    refine lv_istore (lv' := [(5, .int (iI ix)), (0, .int (iI w)), (1, .int (iI ix)), (2, .ref bv)]) hx hb dJ6_getChars_ba4f3_1 hl (by decide) rfl (fun ls hl => ?_)
    refine lv_iload_n hx hb dJ6_getChars_ba4f3_3 rfl (lv_at hl 1 rfl) ?_
    refine z_if_ge hx hb 11 (by omega) dJ6_getChars_ba4f3_4 (by decide) (fun c4 => ?_) (fun c4 => absurd c4 (by omega))
    refine lv_iconst (v := iI 0) hx hb dJ6_getChars_ba4f3_11 rfl ?_
    refine lv_istore (lv' := [(6, .int (iI 0)), (5, .int (iI ix)), (0, .int (iI w)), (1, .int (iI ix)), (2, .ref bv)]) hx hb dJ6_getChars_ba4f3_12 hl (by decide) rfl (fun ls hl => ?_)
    refine lv_iload hx hb dJ6_getChars_ba4f3_14 (lv_at hl 0 rfl) ?_
    refine z_if_ne hx hb 22 (by omega) dJ6_getChars_ba4f3_16 (by decide) (fun c16 => absurd c16 (by omega)) (fun c16 => ?_)
    refine lv_iload_n hx hb dJ6_getChars_ba4f3_19 rfl (lv_at hl 2 rfl) ?_
    refine z_ineg hx hb dJ6_getChars_ba4f3_20 ?_
    refine lv_istore_n (lv' := [(0, .int (iI (-w))), (6, .int (iI 0)), (5, .int (iI ix)), (1, .int (iI ix)), (2, .ref bv)]) hx hb dJ6_getChars_ba4f3_21 rfl hl (by decide) rfl (fun ls hl => ?_)
    refine lv_iload_n hx hb dJ6_getChars_ba4f3_22 rfl (lv_at hl 0 rfl) ?_
    refine lv_bipush (v := iI (-100)) hx hb dJ6_getChars_ba4f3_23 (by decide) ?_
    refine z_icmp_gt hx hb 72 (by omega) dJ6_getChars_ba4f3_25 (by decide) (fun c25 => absurd c25 (by omega)) (fun c25 => ?_)
    refine lv_iload_n hx hb dJ6_getChars_ba4f3_28 rfl (lv_at hl 0 rfl) ?_
    refine lv_bipush (v := iI 100) hx hb dJ6_getChars_ba4f3_29 (by decide) ?_
    refine z_ndiv hx hb (by omega) dJ6_getChars_ba4f3_31 ?_
    refine lv_istore_n (lv' := [(3, .int (iI (-(w / 100)))), (0, .int (iI (-w))), (6, .int (iI 0)), (5, .int (iI ix)), (1, .int (iI ix)), (2, .ref bv)]) hx hb dJ6_getChars_ba4f3_32 rfl hl (by decide) rfl (fun ls hl => ?_)
    refine lv_iload_n hx hb dJ6_getChars_ba4f3_33 rfl (lv_at hl 0 rfl) ?_
    refine lv_bipush (v := iI 100) hx hb dJ6_getChars_ba4f3_34 (by decide) ?_
    refine z_imul hx hb dJ6_getChars_ba4f3_36 ?_
    refine lv_iload_n hx hb dJ6_getChars_ba4f3_37 rfl (lv_at hl 1 rfl) ?_
    refine z_isub hx hb dJ6_getChars_ba4f3_38 ?_
    refine lv_istore (lv' := [(4, .int (iI (((-(w / 100)) * 100) - (-w)))), (3, .int (iI (-(w / 100)))), (0, .int (iI (-w))), (6, .int (iI 0)), (5, .int (iI ix)), (1, .int (iI ix)), (2, .ref bv)]) hx hb dJ6_getChars_ba4f3_39 hl (by decide) rfl (fun ls hl => ?_)
    refine lv_iload_n hx hb dJ6_getChars_ba4f3_41 rfl (lv_at hl 1 rfl) ?_
    refine lv_istore_n (lv' := [(0, .int (iI (-(w / 100)))), (4, .int (iI (((-(w / 100)) * 100) - (-w)))), (3, .int (iI (-(w / 100)))), (6, .int (iI 0)), (5, .int (iI ix)), (1, .int (iI ix)), (2, .ref bv)]) hx hb dJ6_getChars_ba4f3_42 rfl hl (by decide) rfl (fun ls hl => ?_)
    refine lv_aload_n hx hb dJ6_getChars_ba4f3_43 rfl (lv_at hl 6 rfl) ?_
    refine lv_iinc (v := iI (ix + (-1))) (lv' := [(5, .int (iI (ix + (-1)))), (0, .int (iI (-(w / 100)))), (4, .int (iI (((-(w / 100)) * 100) - (-w)))), (3, .int (iI (-(w / 100)))), (6, .int (iI 0)), (1, .int (iI ix)), (2, .ref bv)]) hx hb dJ6_getChars_ba4f3_44 hl (k := 4) rfl (iI_add _ _) (by decide) rfl (fun ls hl => ?_)
    refine lv_iload hx hb dJ6_getChars_ba4f3_47 (lv_at hl 0 rfl) ?_
    refine va_gets (v := .ref dO) hx hb hX.2.1 hS hown kfieldLink_RJ6_83_java_lang_Integer_DigitOnes_B (fun _ h9 => h9) dJ6_getChars_ba4f3_49 ?_
    refine lv_iload hx hb dJ6_getChars_ba4f3_52 (lv_at hl 2 rfl) ?_
    refine z_tbO hx hb hX.2.2.2.2.1 hS (by omega) dJ6_getChars_ba4f3_54 ?_
    refine z_bast hx hb hK hP hD hS 0 0 rfl rfl (by omega) (by omega) dJ6_getChars_ba4f3_55 (fun H locs hP hD hS => ?_)
    have hP : va_P D vwCl [(bv, .inl (cB, 16, .inl (upd g (ix + (-1)).toNat (iI (48 + (((-(w / 100)) * 100) - (-w)) % 10)))))] H := hP
    have hD : va_D A [(bv, .inl (cB, 16, .inl (upd g (ix + (-1)).toNat (iI (48 + (((-(w / 100)) * 100) - (-w)) % 10)))))] := hD
    refine lv_aload_n hx hb dJ6_getChars_ba4f3_56 rfl (lv_at hl 6 rfl) ?_
    refine lv_iinc (v := iI ((ix + (-1)) + (-1))) (lv' := [(5, .int (iI ((ix + (-1)) + (-1)))), (0, .int (iI (-(w / 100)))), (4, .int (iI (((-(w / 100)) * 100) - (-w)))), (3, .int (iI (-(w / 100)))), (6, .int (iI 0)), (1, .int (iI ix)), (2, .ref bv)]) hx hb dJ6_getChars_ba4f3_57 hl (k := 0) rfl (iI_add _ _) (by decide) rfl (fun ls hl => ?_)
    refine lv_iload hx hb dJ6_getChars_ba4f3_60 (lv_at hl 0 rfl) ?_
    refine va_gets (v := .ref dT) hx hb hX.2.2.1 hS hown kfieldLink_RJ6_87_java_lang_Integer_DigitTens_B (fun _ h9 => h9) dJ6_getChars_ba4f3_62 ?_
    refine lv_iload hx hb dJ6_getChars_ba4f3_65 (lv_at hl 2 rfl) ?_
    refine z_tbT hx hb hX.2.2.2.2.2.1 hS (by omega) dJ6_getChars_ba4f3_67 ?_
    refine z_bast hx hb hK hP hD hS 0 0 rfl rfl (by omega) (by omega) dJ6_getChars_ba4f3_68 (fun H locs hP hD hS => ?_)
    have hP : va_P D vwCl [(bv, .inl (cB, 16, .inl (upd (upd g (ix + (-1)).toNat (iI (48 + (((-(w / 100)) * 100) - (-w)) % 10))) ((ix + (-1)) + (-1)).toNat (iI (48 + (((-(w / 100)) * 100) - (-w)) / 10)))))] H := hP
    have hD : va_D A [(bv, .inl (cB, 16, .inl (upd (upd g (ix + (-1)).toNat (iI (48 + (((-(w / 100)) * 100) - (-w)) % 10))) ((ix + (-1)) + (-1)).toNat (iI (48 + (((-(w / 100)) * 100) - (-w)) / 10)))))] := hD
    refine lv_goto (tgt := 22) hx hb dJ6_getChars_ba4f3_69 (by decide) ?_
    refine lv_iload_n hx hb dJ6_getChars_ba4f3_22 rfl (lv_at hl 1 rfl) ?_
    refine lv_bipush (v := iI (-100)) hx hb dJ6_getChars_ba4f3_23 (by decide) ?_
    refine z_icmp_gt hx hb 72 (by omega) dJ6_getChars_ba4f3_25 (by decide) (fun c25 => ?_) (fun c25 => absurd c25 (by omega))
    refine lv_aload_n hx hb dJ6_getChars_ba4f3_72 rfl (lv_at hl 6 rfl) ?_
    refine lv_iinc (v := iI (((ix + (-1)) + (-1)) + (-1))) (lv' := [(5, .int (iI (((ix + (-1)) + (-1)) + (-1)))), (0, .int (iI (-(w / 100)))), (4, .int (iI (((-(w / 100)) * 100) - (-w)))), (3, .int (iI (-(w / 100)))), (6, .int (iI 0)), (1, .int (iI ix)), (2, .ref bv)]) hx hb dJ6_getChars_ba4f3_73 hl (k := 0) rfl (iI_add _ _) (by decide) rfl (fun ls hl => ?_)
    refine lv_iload hx hb dJ6_getChars_ba4f3_76 (lv_at hl 0 rfl) ?_
    refine va_gets (v := .ref dO) hx hb hX.2.1 hS hown kfieldLink_RJ6_83_java_lang_Integer_DigitOnes_B (fun _ h9 => h9) dJ6_getChars_ba4f3_78 ?_
    refine lv_iload_n hx hb dJ6_getChars_ba4f3_81 rfl (lv_at hl 1 rfl) ?_
    refine z_ineg hx hb dJ6_getChars_ba4f3_82 ?_
    refine z_tbO hx hb hX.2.2.2.2.1 hS (by omega) dJ6_getChars_ba4f3_83 ?_
    refine z_bast hx hb hK hP hD hS 0 0 rfl rfl (by omega) (by omega) dJ6_getChars_ba4f3_84 (fun H locs hP hD hS => ?_)
    have hP : va_P D vwCl [(bv, .inl (cB, 16, .inl (upd (upd (upd g (ix + (-1)).toNat (iI (48 + (((-(w / 100)) * 100) - (-w)) % 10))) ((ix + (-1)) + (-1)).toNat (iI (48 + (((-(w / 100)) * 100) - (-w)) / 10))) (((ix + (-1)) + (-1)) + (-1)).toNat (iI (48 + (-(-(w / 100))) % 10)))))] H := hP
    have hD : va_D A [(bv, .inl (cB, 16, .inl (upd (upd (upd g (ix + (-1)).toNat (iI (48 + (((-(w / 100)) * 100) - (-w)) % 10))) ((ix + (-1)) + (-1)).toNat (iI (48 + (((-(w / 100)) * 100) - (-w)) / 10))) (((ix + (-1)) + (-1)) + (-1)).toNat (iI (48 + (-(-(w / 100))) % 10)))))] := hD
    refine lv_iload_n hx hb dJ6_getChars_ba4f3_85 rfl (lv_at hl 1 rfl) ?_
    refine lv_bipush (v := iI (-9)) hx hb dJ6_getChars_ba4f3_86 (by decide) ?_
    refine z_icmp_ge hx hb 104 (by omega) dJ6_getChars_ba4f3_88 (by decide) (fun c88 => absurd c88 (by omega)) (fun c88 => ?_)
    refine lv_aload_n hx hb dJ6_getChars_ba4f3_91 rfl (lv_at hl 6 rfl) ?_
    refine lv_iinc (v := iI ((((ix + (-1)) + (-1)) + (-1)) + (-1))) (lv' := [(5, .int (iI ((((ix + (-1)) + (-1)) + (-1)) + (-1)))), (0, .int (iI (-(w / 100)))), (4, .int (iI (((-(w / 100)) * 100) - (-w)))), (3, .int (iI (-(w / 100)))), (6, .int (iI 0)), (1, .int (iI ix)), (2, .ref bv)]) hx hb dJ6_getChars_ba4f3_92 hl (k := 0) rfl (iI_add _ _) (by decide) rfl (fun ls hl => ?_)
    refine lv_iload hx hb dJ6_getChars_ba4f3_95 (lv_at hl 0 rfl) ?_
    refine va_gets (v := .ref dT) hx hb hX.2.2.1 hS hown kfieldLink_RJ6_87_java_lang_Integer_DigitTens_B (fun _ h9 => h9) dJ6_getChars_ba4f3_97 ?_
    refine lv_iload_n hx hb dJ6_getChars_ba4f3_100 rfl (lv_at hl 1 rfl) ?_
    refine z_ineg hx hb dJ6_getChars_ba4f3_101 ?_
    refine z_tbT hx hb hX.2.2.2.2.2.1 hS (by omega) dJ6_getChars_ba4f3_102 ?_
    refine z_bast hx hb hK hP hD hS 0 0 rfl rfl (by omega) (by omega) dJ6_getChars_ba4f3_103 (fun H locs hP hD hS => ?_)
    have hP : va_P D vwCl [(bv, .inl (cB, 16, .inl (upd (upd (upd (upd g (ix + (-1)).toNat (iI (48 + (((-(w / 100)) * 100) - (-w)) % 10))) ((ix + (-1)) + (-1)).toNat (iI (48 + (((-(w / 100)) * 100) - (-w)) / 10))) (((ix + (-1)) + (-1)) + (-1)).toNat (iI (48 + (-(-(w / 100))) % 10))) ((((ix + (-1)) + (-1)) + (-1)) + (-1)).toNat (iI (48 + (-(-(w / 100))) / 10)))))] H := hP
    have hD : va_D A [(bv, .inl (cB, 16, .inl (upd (upd (upd (upd g (ix + (-1)).toNat (iI (48 + (((-(w / 100)) * 100) - (-w)) % 10))) ((ix + (-1)) + (-1)).toNat (iI (48 + (((-(w / 100)) * 100) - (-w)) / 10))) (((ix + (-1)) + (-1)) + (-1)).toNat (iI (48 + (-(-(w / 100))) % 10))) ((((ix + (-1)) + (-1)) + (-1)) + (-1)).toNat (iI (48 + (-(-(w / 100))) / 10)))))] := hD
    refine lv_iload hx hb dJ6_getChars_ba4f3_104 (lv_at hl 4 rfl) ?_
    refine z_if_eq hx hb 118 (by omega) dJ6_getChars_ba4f3_106 (by decide) (fun c106 => ?_) (fun c106 => absurd c106 (by omega))
    refine lv_iload hx hb dJ6_getChars_ba4f3_118 (lv_at hl 0 rfl) ?_
    have e9 : dec (w) = [48 + w / 1000, 48 + w / 100 % 10, 48 + w / 10 % 10, 48 + w % 10] := by
      unfold dec digs
      rw [if_neg (show ¬ w < 0 by omega), if_neg (show ¬ w < 10 by omega), if_neg (show ¬ w < 100 by omega), if_neg (show ¬ w < 1000 by omega)]
    exact K H locs _ (upd (upd (upd (upd g (ix + (-1)).toNat (iI (48 + (((-(w / 100)) * 100) - (-w)) % 10))) ((ix + (-1)) + (-1)).toNat (iI (48 + (((-(w / 100)) * 100) - (-w)) / 10))) (((ix + (-1)) + (-1)) + (-1)).toNat (iI (48 + (-(-(w / 100))) % 10))) ((((ix + (-1)) + (-1)) + (-1)) + (-1)).toNat (iI (48 + (-(-(w / 100))) / 10))) _ ls 0 0 (by omega) (by omega) rfl (by rw [e9]; exact tx_join (tx_keep (tx_keep (tx_keep (tx_keep hT (by omega)) (by omega)) (by omega)) (by omega)) (tb_cons (tb_cons (tb_cons (tb_cons (tb_nil _ _) (by omega) (by omega)) (by omega) (by omega)) (by omega) (by omega)) (by omega) (by omega))) hP hD hS dJ6_getChars_ba4f3_120

abbrev rmJ6_getChars_n : Room := { frames := 0, cells := 0, slots := 0, locals := 0 }
set_option maxHeartbeats 4000000 in
set_option maxRecDepth 100000 in
theorem c_J6_getChars_n (l : Launch) (D : va_G) (sz : Nat) (dO dT : Nat) (fm : Option Nat) (aK aV : Nat → Nat) (cB : ClassId) (bv : Nat) (g : Nat → Int32) (tx : List Int) (w ix : Int) (h : 1 ≤ w ∧ w ≤ 9999) (hi : ix = (tx.length : Int) + dLen (-w) ∧ ix ≤ 16) (hT : zTx g tx) : zXi (zJ dO dT fm aK aV) l yJ6_getChars_ba4f3 wsJ6_getChars_ba4f3 rmJ6_getChars_n D [(cB, .byte)] [.int (iI (-w)), .int (iI ix), .ref bv] [(bv, .inl (cB, 16, .inl g))] sz (S := (Nat → Int32)) (fun _ u => zTx u (tx ++ dec (-w))) (fun u => [(bv, .inl (cB, 16, .inl u))]) 0 0 := by
  refine z_startXi (cc := cJ6_getChars_ba4f3) (maxL := 7) (ty := .int) (own := RJ6) (nm := "getChars") (by decide) rfl rfl rfl (Nat.le_of_ble_eq_true rfl) ?_
  intro p e R s m args below meth c A Q ls H locs hBd hX hP hD hS hl K
  obtain ⟨hx, hb, hml, hown, hts, ⟨hRf, hRl, hRc, hRs⟩, hmn, hK, hN, hA⟩ := hBd
  have hl : lv_has ls 7 [(0, .int (iI (-w))), (1, .int (iI ix)), (2, .ref bv)] := hl
  have kfieldLink_RJ6_83_java_lang_Integer_DigitOnes_B := hts (.fieldLink RJ6 83 "java/lang/Integer" "DigitOnes" "[B") (by decide +kernel)
  have kfieldLink_RJ6_87_java_lang_Integer_DigitTens_B := hts (.fieldLink RJ6 87 "java/lang/Integer" "DigitTens" "[B") (by decide +kernel)
  have hP : va_P D vwCl [(bv, .inl (cB, 16, .inl g))] H := hP
  have hD : va_D A [(bv, .inl (cB, 16, .inl g))] := hD
  rcases (show (1 ≤ w ∧ w < 10) ∨ (10 ≤ w ∧ w < 100) ∨ (100 ≤ w ∧ w < 1000) ∨ (1000 ≤ w ∧ w < 10000) by omega) with hc | hc | hc | hc
  · skip
    have hd : dLen (-w) = 2 := by unfold dLen; omega
    refine lv_iload_n hx hb dJ6_getChars_ba4f3_0 rfl (lv_at hl 1 rfl) ?_
    refine lv_istore (lv' := [(5, .int (iI ix)), (0, .int (iI (-w))), (1, .int (iI ix)), (2, .ref bv)]) hx hb dJ6_getChars_ba4f3_1 hl (by decide) rfl (fun ls hl => ?_)
    refine lv_iload_n hx hb dJ6_getChars_ba4f3_3 rfl (lv_at hl 1 rfl) ?_
    refine z_if_ge hx hb 11 (by omega) dJ6_getChars_ba4f3_4 (by decide) (fun c4 => absurd c4 (by omega)) (fun c4 => ?_)
    refine lv_iconst (v := iI 1) hx hb dJ6_getChars_ba4f3_7 rfl ?_
    refine lv_goto (tgt := 12) hx hb dJ6_getChars_ba4f3_8 (by decide) ?_
    refine lv_istore (lv' := [(6, .int (iI 1)), (5, .int (iI ix)), (0, .int (iI (-w))), (1, .int (iI ix)), (2, .ref bv)]) hx hb dJ6_getChars_ba4f3_12 hl (by decide) rfl (fun ls hl => ?_)
    refine lv_iload hx hb dJ6_getChars_ba4f3_14 (lv_at hl 0 rfl) ?_
    refine z_if_ne hx hb 22 (by omega) dJ6_getChars_ba4f3_16 (by decide) (fun c16 => ?_) (fun c16 => absurd c16 (by omega))
    refine lv_iload_n hx hb dJ6_getChars_ba4f3_22 rfl (lv_at hl 2 rfl) ?_
    refine lv_bipush (v := iI (-100)) hx hb dJ6_getChars_ba4f3_23 (by decide) ?_
    refine z_icmp_gt hx hb 72 (by omega) dJ6_getChars_ba4f3_25 (by decide) (fun c25 => ?_) (fun c25 => absurd c25 (by omega))
    refine lv_aload_n hx hb dJ6_getChars_ba4f3_72 rfl (lv_at hl 4 rfl) ?_
    refine lv_iinc (v := iI (ix + (-1))) (lv' := [(5, .int (iI (ix + (-1)))), (6, .int (iI 1)), (0, .int (iI (-w))), (1, .int (iI ix)), (2, .ref bv)]) hx hb dJ6_getChars_ba4f3_73 hl (k := 1) rfl (iI_add _ _) (by decide) rfl (fun ls hl => ?_)
    refine lv_iload hx hb dJ6_getChars_ba4f3_76 (lv_at hl 0 rfl) ?_
    refine va_gets (v := .ref dO) hx hb hX.2.1 hS hown kfieldLink_RJ6_83_java_lang_Integer_DigitOnes_B (fun _ h9 => h9) dJ6_getChars_ba4f3_78 ?_
    refine lv_iload_n hx hb dJ6_getChars_ba4f3_81 rfl (lv_at hl 2 rfl) ?_
    refine z_ineg hx hb dJ6_getChars_ba4f3_82 ?_
    refine z_tbO hx hb hX.2.2.2.2.1 hS (by omega) dJ6_getChars_ba4f3_83 ?_
    refine z_bast hx hb hK hP hD hS 0 0 rfl rfl (by omega) (by omega) dJ6_getChars_ba4f3_84 (fun H locs hP hD hS => ?_)
    have hP : va_P D vwCl [(bv, .inl (cB, 16, .inl (upd g (ix + (-1)).toNat (iI (48 + (-(-w)) % 10)))))] H := hP
    have hD : va_D A [(bv, .inl (cB, 16, .inl (upd g (ix + (-1)).toNat (iI (48 + (-(-w)) % 10)))))] := hD
    refine lv_iload_n hx hb dJ6_getChars_ba4f3_85 rfl (lv_at hl 2 rfl) ?_
    refine lv_bipush (v := iI (-9)) hx hb dJ6_getChars_ba4f3_86 (by decide) ?_
    refine z_icmp_ge hx hb 104 (by omega) dJ6_getChars_ba4f3_88 (by decide) (fun c88 => ?_) (fun c88 => absurd c88 (by omega))
    refine lv_iload hx hb dJ6_getChars_ba4f3_104 (lv_at hl 1 rfl) ?_
    refine z_if_eq hx hb 118 (by omega) dJ6_getChars_ba4f3_106 (by decide) (fun c106 => absurd c106 (by omega)) (fun c106 => ?_)
    refine lv_aload_n hx hb dJ6_getChars_ba4f3_109 rfl (lv_at hl 4 rfl) ?_
    refine lv_iinc (v := iI ((ix + (-1)) + (-1))) (lv' := [(5, .int (iI ((ix + (-1)) + (-1)))), (6, .int (iI 1)), (0, .int (iI (-w))), (1, .int (iI ix)), (2, .ref bv)]) hx hb dJ6_getChars_ba4f3_110 hl (k := 0) rfl (iI_add _ _) (by decide) rfl (fun ls hl => ?_)
    refine lv_iload hx hb dJ6_getChars_ba4f3_113 (lv_at hl 0 rfl) ?_
    refine lv_bipush (v := iI 45) hx hb dJ6_getChars_ba4f3_115 (by decide) ?_
    refine z_bast hx hb hK hP hD hS 0 0 rfl rfl (by omega) (by omega) dJ6_getChars_ba4f3_117 (fun H locs hP hD hS => ?_)
    have hP : va_P D vwCl [(bv, .inl (cB, 16, .inl (upd (upd g (ix + (-1)).toNat (iI (48 + (-(-w)) % 10))) ((ix + (-1)) + (-1)).toNat (iI 45))))] H := hP
    have hD : va_D A [(bv, .inl (cB, 16, .inl (upd (upd g (ix + (-1)).toNat (iI (48 + (-(-w)) % 10))) ((ix + (-1)) + (-1)).toNat (iI 45))))] := hD
    refine lv_iload hx hb dJ6_getChars_ba4f3_118 (lv_at hl 0 rfl) ?_
    have e9 : dec (-w) = [45, 48 + (-(-w))] := by
      unfold dec digs
      rw [if_pos (show -w < 0 by omega), if_pos (show (-(-w)) < 10 by omega)]
    exact K H locs _ (upd (upd g (ix + (-1)).toNat (iI (48 + (-(-w)) % 10))) ((ix + (-1)) + (-1)).toNat (iI 45)) _ ls 0 0 (by omega) (by omega) rfl (by rw [e9]; exact tx_join (tx_keep (tx_keep hT (by omega)) (by omega)) (tb_cons (tb_cons (tb_nil _ _) (by omega) (by omega)) (by omega) (by omega))) hP hD hS dJ6_getChars_ba4f3_120
  · skip
    have hd : dLen (-w) = 3 := by unfold dLen; omega
    refine lv_iload_n hx hb dJ6_getChars_ba4f3_0 rfl (lv_at hl 1 rfl) ?_
    refine lv_istore (lv' := [(5, .int (iI ix)), (0, .int (iI (-w))), (1, .int (iI ix)), (2, .ref bv)]) hx hb dJ6_getChars_ba4f3_1 hl (by decide) rfl (fun ls hl => ?_)
    refine lv_iload_n hx hb dJ6_getChars_ba4f3_3 rfl (lv_at hl 1 rfl) ?_
    refine z_if_ge hx hb 11 (by omega) dJ6_getChars_ba4f3_4 (by decide) (fun c4 => absurd c4 (by omega)) (fun c4 => ?_)
    refine lv_iconst (v := iI 1) hx hb dJ6_getChars_ba4f3_7 rfl ?_
    refine lv_goto (tgt := 12) hx hb dJ6_getChars_ba4f3_8 (by decide) ?_
    refine lv_istore (lv' := [(6, .int (iI 1)), (5, .int (iI ix)), (0, .int (iI (-w))), (1, .int (iI ix)), (2, .ref bv)]) hx hb dJ6_getChars_ba4f3_12 hl (by decide) rfl (fun ls hl => ?_)
    refine lv_iload hx hb dJ6_getChars_ba4f3_14 (lv_at hl 0 rfl) ?_
    refine z_if_ne hx hb 22 (by omega) dJ6_getChars_ba4f3_16 (by decide) (fun c16 => ?_) (fun c16 => absurd c16 (by omega))
    refine lv_iload_n hx hb dJ6_getChars_ba4f3_22 rfl (lv_at hl 2 rfl) ?_
    refine lv_bipush (v := iI (-100)) hx hb dJ6_getChars_ba4f3_23 (by decide) ?_
    refine z_icmp_gt hx hb 72 (by omega) dJ6_getChars_ba4f3_25 (by decide) (fun c25 => ?_) (fun c25 => absurd c25 (by omega))
    refine lv_aload_n hx hb dJ6_getChars_ba4f3_72 rfl (lv_at hl 4 rfl) ?_
    refine lv_iinc (v := iI (ix + (-1))) (lv' := [(5, .int (iI (ix + (-1)))), (6, .int (iI 1)), (0, .int (iI (-w))), (1, .int (iI ix)), (2, .ref bv)]) hx hb dJ6_getChars_ba4f3_73 hl (k := 1) rfl (iI_add _ _) (by decide) rfl (fun ls hl => ?_)
    refine lv_iload hx hb dJ6_getChars_ba4f3_76 (lv_at hl 0 rfl) ?_
    refine va_gets (v := .ref dO) hx hb hX.2.1 hS hown kfieldLink_RJ6_83_java_lang_Integer_DigitOnes_B (fun _ h9 => h9) dJ6_getChars_ba4f3_78 ?_
    refine lv_iload_n hx hb dJ6_getChars_ba4f3_81 rfl (lv_at hl 2 rfl) ?_
    refine z_ineg hx hb dJ6_getChars_ba4f3_82 ?_
    refine z_tbO hx hb hX.2.2.2.2.1 hS (by omega) dJ6_getChars_ba4f3_83 ?_
    refine z_bast hx hb hK hP hD hS 0 0 rfl rfl (by omega) (by omega) dJ6_getChars_ba4f3_84 (fun H locs hP hD hS => ?_)
    have hP : va_P D vwCl [(bv, .inl (cB, 16, .inl (upd g (ix + (-1)).toNat (iI (48 + (-(-w)) % 10)))))] H := hP
    have hD : va_D A [(bv, .inl (cB, 16, .inl (upd g (ix + (-1)).toNat (iI (48 + (-(-w)) % 10)))))] := hD
    refine lv_iload_n hx hb dJ6_getChars_ba4f3_85 rfl (lv_at hl 2 rfl) ?_
    refine lv_bipush (v := iI (-9)) hx hb dJ6_getChars_ba4f3_86 (by decide) ?_
    refine z_icmp_ge hx hb 104 (by omega) dJ6_getChars_ba4f3_88 (by decide) (fun c88 => absurd c88 (by omega)) (fun c88 => ?_)
    refine lv_aload_n hx hb dJ6_getChars_ba4f3_91 rfl (lv_at hl 4 rfl) ?_
    refine lv_iinc (v := iI ((ix + (-1)) + (-1))) (lv' := [(5, .int (iI ((ix + (-1)) + (-1)))), (6, .int (iI 1)), (0, .int (iI (-w))), (1, .int (iI ix)), (2, .ref bv)]) hx hb dJ6_getChars_ba4f3_92 hl (k := 0) rfl (iI_add _ _) (by decide) rfl (fun ls hl => ?_)
    refine lv_iload hx hb dJ6_getChars_ba4f3_95 (lv_at hl 0 rfl) ?_
    refine va_gets (v := .ref dT) hx hb hX.2.2.1 hS hown kfieldLink_RJ6_87_java_lang_Integer_DigitTens_B (fun _ h9 => h9) dJ6_getChars_ba4f3_97 ?_
    refine lv_iload_n hx hb dJ6_getChars_ba4f3_100 rfl (lv_at hl 2 rfl) ?_
    refine z_ineg hx hb dJ6_getChars_ba4f3_101 ?_
    refine z_tbT hx hb hX.2.2.2.2.2.1 hS (by omega) dJ6_getChars_ba4f3_102 ?_
    refine z_bast hx hb hK hP hD hS 0 0 rfl rfl (by omega) (by omega) dJ6_getChars_ba4f3_103 (fun H locs hP hD hS => ?_)
    have hP : va_P D vwCl [(bv, .inl (cB, 16, .inl (upd (upd g (ix + (-1)).toNat (iI (48 + (-(-w)) % 10))) ((ix + (-1)) + (-1)).toNat (iI (48 + (-(-w)) / 10)))))] H := hP
    have hD : va_D A [(bv, .inl (cB, 16, .inl (upd (upd g (ix + (-1)).toNat (iI (48 + (-(-w)) % 10))) ((ix + (-1)) + (-1)).toNat (iI (48 + (-(-w)) / 10)))))] := hD
    refine lv_iload hx hb dJ6_getChars_ba4f3_104 (lv_at hl 1 rfl) ?_
    refine z_if_eq hx hb 118 (by omega) dJ6_getChars_ba4f3_106 (by decide) (fun c106 => absurd c106 (by omega)) (fun c106 => ?_)
    refine lv_aload_n hx hb dJ6_getChars_ba4f3_109 rfl (lv_at hl 4 rfl) ?_
    refine lv_iinc (v := iI (((ix + (-1)) + (-1)) + (-1))) (lv' := [(5, .int (iI (((ix + (-1)) + (-1)) + (-1)))), (6, .int (iI 1)), (0, .int (iI (-w))), (1, .int (iI ix)), (2, .ref bv)]) hx hb dJ6_getChars_ba4f3_110 hl (k := 0) rfl (iI_add _ _) (by decide) rfl (fun ls hl => ?_)
    refine lv_iload hx hb dJ6_getChars_ba4f3_113 (lv_at hl 0 rfl) ?_
    refine lv_bipush (v := iI 45) hx hb dJ6_getChars_ba4f3_115 (by decide) ?_
    refine z_bast hx hb hK hP hD hS 0 0 rfl rfl (by omega) (by omega) dJ6_getChars_ba4f3_117 (fun H locs hP hD hS => ?_)
    have hP : va_P D vwCl [(bv, .inl (cB, 16, .inl (upd (upd (upd g (ix + (-1)).toNat (iI (48 + (-(-w)) % 10))) ((ix + (-1)) + (-1)).toNat (iI (48 + (-(-w)) / 10))) (((ix + (-1)) + (-1)) + (-1)).toNat (iI 45))))] H := hP
    have hD : va_D A [(bv, .inl (cB, 16, .inl (upd (upd (upd g (ix + (-1)).toNat (iI (48 + (-(-w)) % 10))) ((ix + (-1)) + (-1)).toNat (iI (48 + (-(-w)) / 10))) (((ix + (-1)) + (-1)) + (-1)).toNat (iI 45))))] := hD
    refine lv_iload hx hb dJ6_getChars_ba4f3_118 (lv_at hl 0 rfl) ?_
    have e9 : dec (-w) = [45, 48 + (-(-w)) / 10, 48 + (-(-w)) % 10] := by
      unfold dec digs
      rw [if_pos (show -w < 0 by omega), if_neg (show ¬ (-(-w)) < 10 by omega), if_pos (show (-(-w)) < 100 by omega)]
    exact K H locs _ (upd (upd (upd g (ix + (-1)).toNat (iI (48 + (-(-w)) % 10))) ((ix + (-1)) + (-1)).toNat (iI (48 + (-(-w)) / 10))) (((ix + (-1)) + (-1)) + (-1)).toNat (iI 45)) _ ls 0 0 (by omega) (by omega) rfl (by rw [e9]; exact tx_join (tx_keep (tx_keep (tx_keep hT (by omega)) (by omega)) (by omega)) (tb_cons (tb_cons (tb_cons (tb_nil _ _) (by omega) (by omega)) (by omega) (by omega)) (by omega) (by omega))) hP hD hS dJ6_getChars_ba4f3_120
  · skip
    have hd : dLen (-w) = 4 := by unfold dLen; omega
    refine lv_iload_n hx hb dJ6_getChars_ba4f3_0 rfl (lv_at hl 1 rfl) ?_
    refine lv_istore (lv' := [(5, .int (iI ix)), (0, .int (iI (-w))), (1, .int (iI ix)), (2, .ref bv)]) hx hb dJ6_getChars_ba4f3_1 hl (by decide) rfl (fun ls hl => ?_)
    refine lv_iload_n hx hb dJ6_getChars_ba4f3_3 rfl (lv_at hl 1 rfl) ?_
    refine z_if_ge hx hb 11 (by omega) dJ6_getChars_ba4f3_4 (by decide) (fun c4 => absurd c4 (by omega)) (fun c4 => ?_)
    refine lv_iconst (v := iI 1) hx hb dJ6_getChars_ba4f3_7 rfl ?_
    refine lv_goto (tgt := 12) hx hb dJ6_getChars_ba4f3_8 (by decide) ?_
    refine lv_istore (lv' := [(6, .int (iI 1)), (5, .int (iI ix)), (0, .int (iI (-w))), (1, .int (iI ix)), (2, .ref bv)]) hx hb dJ6_getChars_ba4f3_12 hl (by decide) rfl (fun ls hl => ?_)
    refine lv_iload hx hb dJ6_getChars_ba4f3_14 (lv_at hl 0 rfl) ?_
    refine z_if_ne hx hb 22 (by omega) dJ6_getChars_ba4f3_16 (by decide) (fun c16 => ?_) (fun c16 => absurd c16 (by omega))
    refine lv_iload_n hx hb dJ6_getChars_ba4f3_22 rfl (lv_at hl 2 rfl) ?_
    refine lv_bipush (v := iI (-100)) hx hb dJ6_getChars_ba4f3_23 (by decide) ?_
    refine z_icmp_gt hx hb 72 (by omega) dJ6_getChars_ba4f3_25 (by decide) (fun c25 => absurd c25 (by omega)) (fun c25 => ?_)
    refine lv_iload_n hx hb dJ6_getChars_ba4f3_28 rfl (lv_at hl 2 rfl) ?_
    refine lv_bipush (v := iI 100) hx hb dJ6_getChars_ba4f3_29 (by decide) ?_
    refine z_ndiv hx hb (by omega) dJ6_getChars_ba4f3_31 ?_
    refine lv_istore_n (lv' := [(3, .int (iI (-(w / 100)))), (6, .int (iI 1)), (5, .int (iI ix)), (0, .int (iI (-w))), (1, .int (iI ix)), (2, .ref bv)]) hx hb dJ6_getChars_ba4f3_32 rfl hl (by decide) rfl (fun ls hl => ?_)
    refine lv_iload_n hx hb dJ6_getChars_ba4f3_33 rfl (lv_at hl 0 rfl) ?_
    refine lv_bipush (v := iI 100) hx hb dJ6_getChars_ba4f3_34 (by decide) ?_
    refine z_imul hx hb dJ6_getChars_ba4f3_36 ?_
    refine lv_iload_n hx hb dJ6_getChars_ba4f3_37 rfl (lv_at hl 3 rfl) ?_
    refine z_isub hx hb dJ6_getChars_ba4f3_38 ?_
    refine lv_istore (lv' := [(4, .int (iI (((-(w / 100)) * 100) - (-w)))), (3, .int (iI (-(w / 100)))), (6, .int (iI 1)), (5, .int (iI ix)), (0, .int (iI (-w))), (1, .int (iI ix)), (2, .ref bv)]) hx hb dJ6_getChars_ba4f3_39 hl (by decide) rfl (fun ls hl => ?_)
    refine lv_iload_n hx hb dJ6_getChars_ba4f3_41 rfl (lv_at hl 1 rfl) ?_
    refine lv_istore_n (lv' := [(0, .int (iI (-(w / 100)))), (4, .int (iI (((-(w / 100)) * 100) - (-w)))), (3, .int (iI (-(w / 100)))), (6, .int (iI 1)), (5, .int (iI ix)), (1, .int (iI ix)), (2, .ref bv)]) hx hb dJ6_getChars_ba4f3_42 rfl hl (by decide) rfl (fun ls hl => ?_)
    refine lv_aload_n hx hb dJ6_getChars_ba4f3_43 rfl (lv_at hl 6 rfl) ?_
    refine lv_iinc (v := iI (ix + (-1))) (lv' := [(5, .int (iI (ix + (-1)))), (0, .int (iI (-(w / 100)))), (4, .int (iI (((-(w / 100)) * 100) - (-w)))), (3, .int (iI (-(w / 100)))), (6, .int (iI 1)), (1, .int (iI ix)), (2, .ref bv)]) hx hb dJ6_getChars_ba4f3_44 hl (k := 4) rfl (iI_add _ _) (by decide) rfl (fun ls hl => ?_)
    refine lv_iload hx hb dJ6_getChars_ba4f3_47 (lv_at hl 0 rfl) ?_
    refine va_gets (v := .ref dO) hx hb hX.2.1 hS hown kfieldLink_RJ6_83_java_lang_Integer_DigitOnes_B (fun _ h9 => h9) dJ6_getChars_ba4f3_49 ?_
    refine lv_iload hx hb dJ6_getChars_ba4f3_52 (lv_at hl 2 rfl) ?_
    refine z_tbO hx hb hX.2.2.2.2.1 hS (by omega) dJ6_getChars_ba4f3_54 ?_
    refine z_bast hx hb hK hP hD hS 0 0 rfl rfl (by omega) (by omega) dJ6_getChars_ba4f3_55 (fun H locs hP hD hS => ?_)
    have hP : va_P D vwCl [(bv, .inl (cB, 16, .inl (upd g (ix + (-1)).toNat (iI (48 + (((-(w / 100)) * 100) - (-w)) % 10)))))] H := hP
    have hD : va_D A [(bv, .inl (cB, 16, .inl (upd g (ix + (-1)).toNat (iI (48 + (((-(w / 100)) * 100) - (-w)) % 10)))))] := hD
    refine lv_aload_n hx hb dJ6_getChars_ba4f3_56 rfl (lv_at hl 6 rfl) ?_
    refine lv_iinc (v := iI ((ix + (-1)) + (-1))) (lv' := [(5, .int (iI ((ix + (-1)) + (-1)))), (0, .int (iI (-(w / 100)))), (4, .int (iI (((-(w / 100)) * 100) - (-w)))), (3, .int (iI (-(w / 100)))), (6, .int (iI 1)), (1, .int (iI ix)), (2, .ref bv)]) hx hb dJ6_getChars_ba4f3_57 hl (k := 0) rfl (iI_add _ _) (by decide) rfl (fun ls hl => ?_)
    refine lv_iload hx hb dJ6_getChars_ba4f3_60 (lv_at hl 0 rfl) ?_
    refine va_gets (v := .ref dT) hx hb hX.2.2.1 hS hown kfieldLink_RJ6_87_java_lang_Integer_DigitTens_B (fun _ h9 => h9) dJ6_getChars_ba4f3_62 ?_
    refine lv_iload hx hb dJ6_getChars_ba4f3_65 (lv_at hl 2 rfl) ?_
    refine z_tbT hx hb hX.2.2.2.2.2.1 hS (by omega) dJ6_getChars_ba4f3_67 ?_
    refine z_bast hx hb hK hP hD hS 0 0 rfl rfl (by omega) (by omega) dJ6_getChars_ba4f3_68 (fun H locs hP hD hS => ?_)
    have hP : va_P D vwCl [(bv, .inl (cB, 16, .inl (upd (upd g (ix + (-1)).toNat (iI (48 + (((-(w / 100)) * 100) - (-w)) % 10))) ((ix + (-1)) + (-1)).toNat (iI (48 + (((-(w / 100)) * 100) - (-w)) / 10)))))] H := hP
    have hD : va_D A [(bv, .inl (cB, 16, .inl (upd (upd g (ix + (-1)).toNat (iI (48 + (((-(w / 100)) * 100) - (-w)) % 10))) ((ix + (-1)) + (-1)).toNat (iI (48 + (((-(w / 100)) * 100) - (-w)) / 10)))))] := hD
    refine lv_goto (tgt := 22) hx hb dJ6_getChars_ba4f3_69 (by decide) ?_
    refine lv_iload_n hx hb dJ6_getChars_ba4f3_22 rfl (lv_at hl 1 rfl) ?_
    refine lv_bipush (v := iI (-100)) hx hb dJ6_getChars_ba4f3_23 (by decide) ?_
    refine z_icmp_gt hx hb 72 (by omega) dJ6_getChars_ba4f3_25 (by decide) (fun c25 => ?_) (fun c25 => absurd c25 (by omega))
    refine lv_aload_n hx hb dJ6_getChars_ba4f3_72 rfl (lv_at hl 6 rfl) ?_
    refine lv_iinc (v := iI (((ix + (-1)) + (-1)) + (-1))) (lv' := [(5, .int (iI (((ix + (-1)) + (-1)) + (-1)))), (0, .int (iI (-(w / 100)))), (4, .int (iI (((-(w / 100)) * 100) - (-w)))), (3, .int (iI (-(w / 100)))), (6, .int (iI 1)), (1, .int (iI ix)), (2, .ref bv)]) hx hb dJ6_getChars_ba4f3_73 hl (k := 0) rfl (iI_add _ _) (by decide) rfl (fun ls hl => ?_)
    refine lv_iload hx hb dJ6_getChars_ba4f3_76 (lv_at hl 0 rfl) ?_
    refine va_gets (v := .ref dO) hx hb hX.2.1 hS hown kfieldLink_RJ6_83_java_lang_Integer_DigitOnes_B (fun _ h9 => h9) dJ6_getChars_ba4f3_78 ?_
    refine lv_iload_n hx hb dJ6_getChars_ba4f3_81 rfl (lv_at hl 1 rfl) ?_
    refine z_ineg hx hb dJ6_getChars_ba4f3_82 ?_
    refine z_tbO hx hb hX.2.2.2.2.1 hS (by omega) dJ6_getChars_ba4f3_83 ?_
    refine z_bast hx hb hK hP hD hS 0 0 rfl rfl (by omega) (by omega) dJ6_getChars_ba4f3_84 (fun H locs hP hD hS => ?_)
    have hP : va_P D vwCl [(bv, .inl (cB, 16, .inl (upd (upd (upd g (ix + (-1)).toNat (iI (48 + (((-(w / 100)) * 100) - (-w)) % 10))) ((ix + (-1)) + (-1)).toNat (iI (48 + (((-(w / 100)) * 100) - (-w)) / 10))) (((ix + (-1)) + (-1)) + (-1)).toNat (iI (48 + (-(-(w / 100))) % 10)))))] H := hP
    have hD : va_D A [(bv, .inl (cB, 16, .inl (upd (upd (upd g (ix + (-1)).toNat (iI (48 + (((-(w / 100)) * 100) - (-w)) % 10))) ((ix + (-1)) + (-1)).toNat (iI (48 + (((-(w / 100)) * 100) - (-w)) / 10))) (((ix + (-1)) + (-1)) + (-1)).toNat (iI (48 + (-(-(w / 100))) % 10)))))] := hD
    refine lv_iload_n hx hb dJ6_getChars_ba4f3_85 rfl (lv_at hl 1 rfl) ?_
    refine lv_bipush (v := iI (-9)) hx hb dJ6_getChars_ba4f3_86 (by decide) ?_
    refine z_icmp_ge hx hb 104 (by omega) dJ6_getChars_ba4f3_88 (by decide) (fun c88 => ?_) (fun c88 => absurd c88 (by omega))
    refine lv_iload hx hb dJ6_getChars_ba4f3_104 (lv_at hl 4 rfl) ?_
    refine z_if_eq hx hb 118 (by omega) dJ6_getChars_ba4f3_106 (by decide) (fun c106 => absurd c106 (by omega)) (fun c106 => ?_)
    refine lv_aload_n hx hb dJ6_getChars_ba4f3_109 rfl (lv_at hl 6 rfl) ?_
    refine lv_iinc (v := iI ((((ix + (-1)) + (-1)) + (-1)) + (-1))) (lv' := [(5, .int (iI ((((ix + (-1)) + (-1)) + (-1)) + (-1)))), (0, .int (iI (-(w / 100)))), (4, .int (iI (((-(w / 100)) * 100) - (-w)))), (3, .int (iI (-(w / 100)))), (6, .int (iI 1)), (1, .int (iI ix)), (2, .ref bv)]) hx hb dJ6_getChars_ba4f3_110 hl (k := 0) rfl (iI_add _ _) (by decide) rfl (fun ls hl => ?_)
    refine lv_iload hx hb dJ6_getChars_ba4f3_113 (lv_at hl 0 rfl) ?_
    refine lv_bipush (v := iI 45) hx hb dJ6_getChars_ba4f3_115 (by decide) ?_
    refine z_bast hx hb hK hP hD hS 0 0 rfl rfl (by omega) (by omega) dJ6_getChars_ba4f3_117 (fun H locs hP hD hS => ?_)
    have hP : va_P D vwCl [(bv, .inl (cB, 16, .inl (upd (upd (upd (upd g (ix + (-1)).toNat (iI (48 + (((-(w / 100)) * 100) - (-w)) % 10))) ((ix + (-1)) + (-1)).toNat (iI (48 + (((-(w / 100)) * 100) - (-w)) / 10))) (((ix + (-1)) + (-1)) + (-1)).toNat (iI (48 + (-(-(w / 100))) % 10))) ((((ix + (-1)) + (-1)) + (-1)) + (-1)).toNat (iI 45))))] H := hP
    have hD : va_D A [(bv, .inl (cB, 16, .inl (upd (upd (upd (upd g (ix + (-1)).toNat (iI (48 + (((-(w / 100)) * 100) - (-w)) % 10))) ((ix + (-1)) + (-1)).toNat (iI (48 + (((-(w / 100)) * 100) - (-w)) / 10))) (((ix + (-1)) + (-1)) + (-1)).toNat (iI (48 + (-(-(w / 100))) % 10))) ((((ix + (-1)) + (-1)) + (-1)) + (-1)).toNat (iI 45))))] := hD
    refine lv_iload hx hb dJ6_getChars_ba4f3_118 (lv_at hl 0 rfl) ?_
    have e9 : dec (-w) = [45, 48 + (-(-w)) / 100, 48 + (-(-w)) / 10 % 10, 48 + (-(-w)) % 10] := by
      unfold dec digs
      rw [if_pos (show -w < 0 by omega), if_neg (show ¬ (-(-w)) < 10 by omega), if_neg (show ¬ (-(-w)) < 100 by omega), if_pos (show (-(-w)) < 1000 by omega)]
    exact K H locs _ (upd (upd (upd (upd g (ix + (-1)).toNat (iI (48 + (((-(w / 100)) * 100) - (-w)) % 10))) ((ix + (-1)) + (-1)).toNat (iI (48 + (((-(w / 100)) * 100) - (-w)) / 10))) (((ix + (-1)) + (-1)) + (-1)).toNat (iI (48 + (-(-(w / 100))) % 10))) ((((ix + (-1)) + (-1)) + (-1)) + (-1)).toNat (iI 45)) _ ls 0 0 (by omega) (by omega) rfl (by rw [e9]; exact tx_join (tx_keep (tx_keep (tx_keep (tx_keep hT (by omega)) (by omega)) (by omega)) (by omega)) (tb_cons (tb_cons (tb_cons (tb_cons (tb_nil _ _) (by omega) (by omega)) (by omega) (by omega)) (by omega) (by omega)) (by omega) (by omega))) hP hD hS dJ6_getChars_ba4f3_120
  · skip
    have hd : dLen (-w) = 5 := by unfold dLen; omega
    refine lv_iload_n hx hb dJ6_getChars_ba4f3_0 rfl (lv_at hl 1 rfl) ?_
    refine lv_istore (lv' := [(5, .int (iI ix)), (0, .int (iI (-w))), (1, .int (iI ix)), (2, .ref bv)]) hx hb dJ6_getChars_ba4f3_1 hl (by decide) rfl (fun ls hl => ?_)
    refine lv_iload_n hx hb dJ6_getChars_ba4f3_3 rfl (lv_at hl 1 rfl) ?_
    refine z_if_ge hx hb 11 (by omega) dJ6_getChars_ba4f3_4 (by decide) (fun c4 => absurd c4 (by omega)) (fun c4 => ?_)
    refine lv_iconst (v := iI 1) hx hb dJ6_getChars_ba4f3_7 rfl ?_
    refine lv_goto (tgt := 12) hx hb dJ6_getChars_ba4f3_8 (by decide) ?_
    refine lv_istore (lv' := [(6, .int (iI 1)), (5, .int (iI ix)), (0, .int (iI (-w))), (1, .int (iI ix)), (2, .ref bv)]) hx hb dJ6_getChars_ba4f3_12 hl (by decide) rfl (fun ls hl => ?_)
    refine lv_iload hx hb dJ6_getChars_ba4f3_14 (lv_at hl 0 rfl) ?_
    refine z_if_ne hx hb 22 (by omega) dJ6_getChars_ba4f3_16 (by decide) (fun c16 => ?_) (fun c16 => absurd c16 (by omega))
    refine lv_iload_n hx hb dJ6_getChars_ba4f3_22 rfl (lv_at hl 2 rfl) ?_
    refine lv_bipush (v := iI (-100)) hx hb dJ6_getChars_ba4f3_23 (by decide) ?_
    refine z_icmp_gt hx hb 72 (by omega) dJ6_getChars_ba4f3_25 (by decide) (fun c25 => absurd c25 (by omega)) (fun c25 => ?_)
    refine lv_iload_n hx hb dJ6_getChars_ba4f3_28 rfl (lv_at hl 2 rfl) ?_
    refine lv_bipush (v := iI 100) hx hb dJ6_getChars_ba4f3_29 (by decide) ?_
    refine z_ndiv hx hb (by omega) dJ6_getChars_ba4f3_31 ?_
    refine lv_istore_n (lv' := [(3, .int (iI (-(w / 100)))), (6, .int (iI 1)), (5, .int (iI ix)), (0, .int (iI (-w))), (1, .int (iI ix)), (2, .ref bv)]) hx hb dJ6_getChars_ba4f3_32 rfl hl (by decide) rfl (fun ls hl => ?_)
    refine lv_iload_n hx hb dJ6_getChars_ba4f3_33 rfl (lv_at hl 0 rfl) ?_
    refine lv_bipush (v := iI 100) hx hb dJ6_getChars_ba4f3_34 (by decide) ?_
    refine z_imul hx hb dJ6_getChars_ba4f3_36 ?_
    refine lv_iload_n hx hb dJ6_getChars_ba4f3_37 rfl (lv_at hl 3 rfl) ?_
    refine z_isub hx hb dJ6_getChars_ba4f3_38 ?_
    refine lv_istore (lv' := [(4, .int (iI (((-(w / 100)) * 100) - (-w)))), (3, .int (iI (-(w / 100)))), (6, .int (iI 1)), (5, .int (iI ix)), (0, .int (iI (-w))), (1, .int (iI ix)), (2, .ref bv)]) hx hb dJ6_getChars_ba4f3_39 hl (by decide) rfl (fun ls hl => ?_)
    refine lv_iload_n hx hb dJ6_getChars_ba4f3_41 rfl (lv_at hl 1 rfl) ?_
    refine lv_istore_n (lv' := [(0, .int (iI (-(w / 100)))), (4, .int (iI (((-(w / 100)) * 100) - (-w)))), (3, .int (iI (-(w / 100)))), (6, .int (iI 1)), (5, .int (iI ix)), (1, .int (iI ix)), (2, .ref bv)]) hx hb dJ6_getChars_ba4f3_42 rfl hl (by decide) rfl (fun ls hl => ?_)
    refine lv_aload_n hx hb dJ6_getChars_ba4f3_43 rfl (lv_at hl 6 rfl) ?_
    refine lv_iinc (v := iI (ix + (-1))) (lv' := [(5, .int (iI (ix + (-1)))), (0, .int (iI (-(w / 100)))), (4, .int (iI (((-(w / 100)) * 100) - (-w)))), (3, .int (iI (-(w / 100)))), (6, .int (iI 1)), (1, .int (iI ix)), (2, .ref bv)]) hx hb dJ6_getChars_ba4f3_44 hl (k := 4) rfl (iI_add _ _) (by decide) rfl (fun ls hl => ?_)
    refine lv_iload hx hb dJ6_getChars_ba4f3_47 (lv_at hl 0 rfl) ?_
    refine va_gets (v := .ref dO) hx hb hX.2.1 hS hown kfieldLink_RJ6_83_java_lang_Integer_DigitOnes_B (fun _ h9 => h9) dJ6_getChars_ba4f3_49 ?_
    refine lv_iload hx hb dJ6_getChars_ba4f3_52 (lv_at hl 2 rfl) ?_
    refine z_tbO hx hb hX.2.2.2.2.1 hS (by omega) dJ6_getChars_ba4f3_54 ?_
    refine z_bast hx hb hK hP hD hS 0 0 rfl rfl (by omega) (by omega) dJ6_getChars_ba4f3_55 (fun H locs hP hD hS => ?_)
    have hP : va_P D vwCl [(bv, .inl (cB, 16, .inl (upd g (ix + (-1)).toNat (iI (48 + (((-(w / 100)) * 100) - (-w)) % 10)))))] H := hP
    have hD : va_D A [(bv, .inl (cB, 16, .inl (upd g (ix + (-1)).toNat (iI (48 + (((-(w / 100)) * 100) - (-w)) % 10)))))] := hD
    refine lv_aload_n hx hb dJ6_getChars_ba4f3_56 rfl (lv_at hl 6 rfl) ?_
    refine lv_iinc (v := iI ((ix + (-1)) + (-1))) (lv' := [(5, .int (iI ((ix + (-1)) + (-1)))), (0, .int (iI (-(w / 100)))), (4, .int (iI (((-(w / 100)) * 100) - (-w)))), (3, .int (iI (-(w / 100)))), (6, .int (iI 1)), (1, .int (iI ix)), (2, .ref bv)]) hx hb dJ6_getChars_ba4f3_57 hl (k := 0) rfl (iI_add _ _) (by decide) rfl (fun ls hl => ?_)
    refine lv_iload hx hb dJ6_getChars_ba4f3_60 (lv_at hl 0 rfl) ?_
    refine va_gets (v := .ref dT) hx hb hX.2.2.1 hS hown kfieldLink_RJ6_87_java_lang_Integer_DigitTens_B (fun _ h9 => h9) dJ6_getChars_ba4f3_62 ?_
    refine lv_iload hx hb dJ6_getChars_ba4f3_65 (lv_at hl 2 rfl) ?_
    refine z_tbT hx hb hX.2.2.2.2.2.1 hS (by omega) dJ6_getChars_ba4f3_67 ?_
    refine z_bast hx hb hK hP hD hS 0 0 rfl rfl (by omega) (by omega) dJ6_getChars_ba4f3_68 (fun H locs hP hD hS => ?_)
    have hP : va_P D vwCl [(bv, .inl (cB, 16, .inl (upd (upd g (ix + (-1)).toNat (iI (48 + (((-(w / 100)) * 100) - (-w)) % 10))) ((ix + (-1)) + (-1)).toNat (iI (48 + (((-(w / 100)) * 100) - (-w)) / 10)))))] H := hP
    have hD : va_D A [(bv, .inl (cB, 16, .inl (upd (upd g (ix + (-1)).toNat (iI (48 + (((-(w / 100)) * 100) - (-w)) % 10))) ((ix + (-1)) + (-1)).toNat (iI (48 + (((-(w / 100)) * 100) - (-w)) / 10)))))] := hD
    refine lv_goto (tgt := 22) hx hb dJ6_getChars_ba4f3_69 (by decide) ?_
    refine lv_iload_n hx hb dJ6_getChars_ba4f3_22 rfl (lv_at hl 1 rfl) ?_
    refine lv_bipush (v := iI (-100)) hx hb dJ6_getChars_ba4f3_23 (by decide) ?_
    refine z_icmp_gt hx hb 72 (by omega) dJ6_getChars_ba4f3_25 (by decide) (fun c25 => ?_) (fun c25 => absurd c25 (by omega))
    refine lv_aload_n hx hb dJ6_getChars_ba4f3_72 rfl (lv_at hl 6 rfl) ?_
    refine lv_iinc (v := iI (((ix + (-1)) + (-1)) + (-1))) (lv' := [(5, .int (iI (((ix + (-1)) + (-1)) + (-1)))), (0, .int (iI (-(w / 100)))), (4, .int (iI (((-(w / 100)) * 100) - (-w)))), (3, .int (iI (-(w / 100)))), (6, .int (iI 1)), (1, .int (iI ix)), (2, .ref bv)]) hx hb dJ6_getChars_ba4f3_73 hl (k := 0) rfl (iI_add _ _) (by decide) rfl (fun ls hl => ?_)
    refine lv_iload hx hb dJ6_getChars_ba4f3_76 (lv_at hl 0 rfl) ?_
    refine va_gets (v := .ref dO) hx hb hX.2.1 hS hown kfieldLink_RJ6_83_java_lang_Integer_DigitOnes_B (fun _ h9 => h9) dJ6_getChars_ba4f3_78 ?_
    refine lv_iload_n hx hb dJ6_getChars_ba4f3_81 rfl (lv_at hl 1 rfl) ?_
    refine z_ineg hx hb dJ6_getChars_ba4f3_82 ?_
    refine z_tbO hx hb hX.2.2.2.2.1 hS (by omega) dJ6_getChars_ba4f3_83 ?_
    refine z_bast hx hb hK hP hD hS 0 0 rfl rfl (by omega) (by omega) dJ6_getChars_ba4f3_84 (fun H locs hP hD hS => ?_)
    have hP : va_P D vwCl [(bv, .inl (cB, 16, .inl (upd (upd (upd g (ix + (-1)).toNat (iI (48 + (((-(w / 100)) * 100) - (-w)) % 10))) ((ix + (-1)) + (-1)).toNat (iI (48 + (((-(w / 100)) * 100) - (-w)) / 10))) (((ix + (-1)) + (-1)) + (-1)).toNat (iI (48 + (-(-(w / 100))) % 10)))))] H := hP
    have hD : va_D A [(bv, .inl (cB, 16, .inl (upd (upd (upd g (ix + (-1)).toNat (iI (48 + (((-(w / 100)) * 100) - (-w)) % 10))) ((ix + (-1)) + (-1)).toNat (iI (48 + (((-(w / 100)) * 100) - (-w)) / 10))) (((ix + (-1)) + (-1)) + (-1)).toNat (iI (48 + (-(-(w / 100))) % 10)))))] := hD
    refine lv_iload_n hx hb dJ6_getChars_ba4f3_85 rfl (lv_at hl 1 rfl) ?_
    refine lv_bipush (v := iI (-9)) hx hb dJ6_getChars_ba4f3_86 (by decide) ?_
    refine z_icmp_ge hx hb 104 (by omega) dJ6_getChars_ba4f3_88 (by decide) (fun c88 => absurd c88 (by omega)) (fun c88 => ?_)
    refine lv_aload_n hx hb dJ6_getChars_ba4f3_91 rfl (lv_at hl 6 rfl) ?_
    refine lv_iinc (v := iI ((((ix + (-1)) + (-1)) + (-1)) + (-1))) (lv' := [(5, .int (iI ((((ix + (-1)) + (-1)) + (-1)) + (-1)))), (0, .int (iI (-(w / 100)))), (4, .int (iI (((-(w / 100)) * 100) - (-w)))), (3, .int (iI (-(w / 100)))), (6, .int (iI 1)), (1, .int (iI ix)), (2, .ref bv)]) hx hb dJ6_getChars_ba4f3_92 hl (k := 0) rfl (iI_add _ _) (by decide) rfl (fun ls hl => ?_)
    refine lv_iload hx hb dJ6_getChars_ba4f3_95 (lv_at hl 0 rfl) ?_
    refine va_gets (v := .ref dT) hx hb hX.2.2.1 hS hown kfieldLink_RJ6_87_java_lang_Integer_DigitTens_B (fun _ h9 => h9) dJ6_getChars_ba4f3_97 ?_
    refine lv_iload_n hx hb dJ6_getChars_ba4f3_100 rfl (lv_at hl 1 rfl) ?_
    refine z_ineg hx hb dJ6_getChars_ba4f3_101 ?_
    refine z_tbT hx hb hX.2.2.2.2.2.1 hS (by omega) dJ6_getChars_ba4f3_102 ?_
    refine z_bast hx hb hK hP hD hS 0 0 rfl rfl (by omega) (by omega) dJ6_getChars_ba4f3_103 (fun H locs hP hD hS => ?_)
    have hP : va_P D vwCl [(bv, .inl (cB, 16, .inl (upd (upd (upd (upd g (ix + (-1)).toNat (iI (48 + (((-(w / 100)) * 100) - (-w)) % 10))) ((ix + (-1)) + (-1)).toNat (iI (48 + (((-(w / 100)) * 100) - (-w)) / 10))) (((ix + (-1)) + (-1)) + (-1)).toNat (iI (48 + (-(-(w / 100))) % 10))) ((((ix + (-1)) + (-1)) + (-1)) + (-1)).toNat (iI (48 + (-(-(w / 100))) / 10)))))] H := hP
    have hD : va_D A [(bv, .inl (cB, 16, .inl (upd (upd (upd (upd g (ix + (-1)).toNat (iI (48 + (((-(w / 100)) * 100) - (-w)) % 10))) ((ix + (-1)) + (-1)).toNat (iI (48 + (((-(w / 100)) * 100) - (-w)) / 10))) (((ix + (-1)) + (-1)) + (-1)).toNat (iI (48 + (-(-(w / 100))) % 10))) ((((ix + (-1)) + (-1)) + (-1)) + (-1)).toNat (iI (48 + (-(-(w / 100))) / 10)))))] := hD
    refine lv_iload hx hb dJ6_getChars_ba4f3_104 (lv_at hl 4 rfl) ?_
    refine z_if_eq hx hb 118 (by omega) dJ6_getChars_ba4f3_106 (by decide) (fun c106 => absurd c106 (by omega)) (fun c106 => ?_)
    refine lv_aload_n hx hb dJ6_getChars_ba4f3_109 rfl (lv_at hl 6 rfl) ?_
    refine lv_iinc (v := iI (((((ix + (-1)) + (-1)) + (-1)) + (-1)) + (-1))) (lv' := [(5, .int (iI (((((ix + (-1)) + (-1)) + (-1)) + (-1)) + (-1)))), (0, .int (iI (-(w / 100)))), (4, .int (iI (((-(w / 100)) * 100) - (-w)))), (3, .int (iI (-(w / 100)))), (6, .int (iI 1)), (1, .int (iI ix)), (2, .ref bv)]) hx hb dJ6_getChars_ba4f3_110 hl (k := 0) rfl (iI_add _ _) (by decide) rfl (fun ls hl => ?_)
    refine lv_iload hx hb dJ6_getChars_ba4f3_113 (lv_at hl 0 rfl) ?_
    refine lv_bipush (v := iI 45) hx hb dJ6_getChars_ba4f3_115 (by decide) ?_
    refine z_bast hx hb hK hP hD hS 0 0 rfl rfl (by omega) (by omega) dJ6_getChars_ba4f3_117 (fun H locs hP hD hS => ?_)
    have hP : va_P D vwCl [(bv, .inl (cB, 16, .inl (upd (upd (upd (upd (upd g (ix + (-1)).toNat (iI (48 + (((-(w / 100)) * 100) - (-w)) % 10))) ((ix + (-1)) + (-1)).toNat (iI (48 + (((-(w / 100)) * 100) - (-w)) / 10))) (((ix + (-1)) + (-1)) + (-1)).toNat (iI (48 + (-(-(w / 100))) % 10))) ((((ix + (-1)) + (-1)) + (-1)) + (-1)).toNat (iI (48 + (-(-(w / 100))) / 10))) (((((ix + (-1)) + (-1)) + (-1)) + (-1)) + (-1)).toNat (iI 45))))] H := hP
    have hD : va_D A [(bv, .inl (cB, 16, .inl (upd (upd (upd (upd (upd g (ix + (-1)).toNat (iI (48 + (((-(w / 100)) * 100) - (-w)) % 10))) ((ix + (-1)) + (-1)).toNat (iI (48 + (((-(w / 100)) * 100) - (-w)) / 10))) (((ix + (-1)) + (-1)) + (-1)).toNat (iI (48 + (-(-(w / 100))) % 10))) ((((ix + (-1)) + (-1)) + (-1)) + (-1)).toNat (iI (48 + (-(-(w / 100))) / 10))) (((((ix + (-1)) + (-1)) + (-1)) + (-1)) + (-1)).toNat (iI 45))))] := hD
    refine lv_iload hx hb dJ6_getChars_ba4f3_118 (lv_at hl 0 rfl) ?_
    have e9 : dec (-w) = [45, 48 + (-(-w)) / 1000, 48 + (-(-w)) / 100 % 10, 48 + (-(-w)) / 10 % 10, 48 + (-(-w)) % 10] := by
      unfold dec digs
      rw [if_pos (show -w < 0 by omega), if_neg (show ¬ (-(-w)) < 10 by omega), if_neg (show ¬ (-(-w)) < 100 by omega), if_neg (show ¬ (-(-w)) < 1000 by omega)]
    exact K H locs _ (upd (upd (upd (upd (upd g (ix + (-1)).toNat (iI (48 + (((-(w / 100)) * 100) - (-w)) % 10))) ((ix + (-1)) + (-1)).toNat (iI (48 + (((-(w / 100)) * 100) - (-w)) / 10))) (((ix + (-1)) + (-1)) + (-1)).toNat (iI (48 + (-(-(w / 100))) % 10))) ((((ix + (-1)) + (-1)) + (-1)) + (-1)).toNat (iI (48 + (-(-(w / 100))) / 10))) (((((ix + (-1)) + (-1)) + (-1)) + (-1)) + (-1)).toNat (iI 45)) _ ls 0 0 (by omega) (by omega) rfl (by rw [e9]; exact tx_join (tx_keep (tx_keep (tx_keep (tx_keep (tx_keep hT (by omega)) (by omega)) (by omega)) (by omega)) (by omega)) (tb_cons (tb_cons (tb_cons (tb_cons (tb_cons (tb_nil _ _) (by omega) (by omega)) (by omega) (by omega)) (by omega) (by omega)) (by omega) (by omega)) (by omega) (by omega))) hP hD hS dJ6_getChars_ba4f3_120

theorem c_J6_getChars (l : Launch) (D : va_G) (sz : Nat) (dO dT : Nat) (fm : Option Nat) (aK aV : Nat → Nat) (cB : ClassId) (bv : Nat) (g : Nat → Int32) (tx : List Int) (x ix : Int) (h : -9999 ≤ x ∧ x ≤ 9999) (hi : ix = (tx.length : Int) + dLen x ∧ ix ≤ 16) (hT : zTx g tx) : zXi (zJ dO dT fm aK aV) l yJ6_getChars_ba4f3 wsJ6_getChars_ba4f3 rmJ6_getChars_p D [(cB, .byte)] [.int (iI x), .int (iI ix), .ref bv] [(bv, .inl (cB, 16, .inl g))] sz (S := (Nat → Int32)) (fun _ u => zTx u (tx ++ dec x)) (fun u => [(bv, .inl (cB, 16, .inl u))]) 0 0 := by
  by_cases h0 : x < 0
  · obtain ⟨w, rfl⟩ : ∃ w, x = -w := ⟨-x, by omega⟩
    exact c_J6_getChars_n l D sz dO dT fm aK aV cB bv g tx w ix (by omega) hi hT
  · exact c_J6_getChars_p l D sz dO dT fm aK aV cB bv g tx x ix (by omega) hi hT

abbrev rmJ5_append_c97b9 : Room := { frames := 1, cells := 0, slots := 0, locals := 26 }
set_option maxHeartbeats 4000000 in
set_option maxRecDepth 100000 in
theorem c_J5_append_c97b9 (l : Launch) (D : va_G) (sz : Nat) (dO dT : Nat) (fm : Option Nat) (aK aV : Nat → Nat) (cB : ClassId) (sb bv : Nat) (g : Nat → Int32) (n : Int) (tx : List Int) (x : Int) (hn : (tx.length : Int) = n) (hT : zTx g tx) (h : (-9999 ≤ x ∧ x ≤ 9999) ∧ n + dLen x ≤ 16) : zXr sb (zJ dO dT fm aK aV) l yJ5_append_c97b9 wsJ5_append_c97b9 rmJ5_append_c97b9 D [(cB, .byte)] [.ref sb, .int (iI x)] [(sb, .inr (0, [.ref bv, .int (iI 0), .int (iI 0), .int (iI n)])), (bv, .inl (cB, 16, .inl g))] sz (S := (Nat → Int32)) (fun u => zTx u (tx ++ dec x)) (fun u => [(sb, .inr (0, [.ref bv, .int (iI 0), .int (iI 0), .int (iI (n + dLen x))])), (bv, .inl (cB, 16, .inl u))]) 0 0 := by
  have hd : 1 ≤ dLen x ∧ dLen x ≤ 5 := by unfold dLen; omega
  refine z_startXr (cc := cJ5_append_c97b9) (maxL := 4) (rn := "java/lang/AbstractStringBuilder") (own := RJ5) (nm := "append") (by decide) rfl rfl rfl (Nat.le_of_ble_eq_true rfl) ?_
  intro p e R s m args below meth c A Q ls H locs hBd hX hP hD hS hl K
  obtain ⟨hx, hb, hml, hown, hts, ⟨hRf, hRl, hRc, hRs⟩, hmn, hK, hN, hA⟩ := hBd
  have hl : lv_has ls 4 [(0, .ref sb), (1, .int (iI x))] := hl
  have inJ4 : ∀ w ∈ wsJ40, w ∈ wsJ5_append_c97b9 := by decide +kernel
  have kfieldLink_RJ5_15_java_lang_AbstractStringBuilder_value_B := hts (.fieldLink RJ5 15 "java/lang/AbstractStringBuilder" "value" "[B") (by decide +kernel)
  have kfieldLink_RJ5_79_java_lang_AbstractStringBuilder_count_I := hts (.fieldLink RJ5 79 "java/lang/AbstractStringBuilder" "count" "I") (by decide +kernel)
  have hP : va_P D vwCl [(sb, .inr (0, [.ref bv, .int (iI 0), .int (iI 0), .int (iI n)])), (bv, .inl (cB, 16, .inl g))] H := hP
  have hD : va_D A [(sb, .inr (0, [.ref bv, .int (iI 0), .int (iI 0), .int (iI n)])), (bv, .inl (cB, 16, .inl g))] := hD
  refine lv_aload_n hx hb dJ5_append_c97b9_0 rfl (lv_at hl 0 rfl) ?_
  refine va_get (D := D) (ci := 0) (v := .int (iI n)) (C := RJ4) (T := TJ4) (N := 4) hx hb hts inJ4 hown hK hP 0 rfl rfl 3 (by decide) kfieldLink_RJ5_79_java_lang_AbstractStringBuilder_count_I (fun _ h9 => h9) rfl dJ5_append_c97b9_1 ?_
  refine lv_istore_n (lv' := [(2, .int (iI n)), (0, .ref sb), (1, .int (iI x))]) hx hb dJ5_append_c97b9_4 rfl hl (by decide) rfl (fun ls hl => ?_)
  refine lv_iload_n hx hb dJ5_append_c97b9_5 rfl (lv_at hl 0 rfl) ?_
  refine lv_iload_n hx hb dJ5_append_c97b9_6 rfl (lv_at hl 2 rfl) ?_
  refine z_calli (w2 := fun _ => [(sb, .inr (0, [.ref bv, .int (iI 0), .int (iI 0), .int (iI n)])), (bv, .inl (cB, 16, .inl g))]) (wc := []) (wr := [(sb, .inr (0, [.ref bv, .int (iI 0), .int (iI 0), .int (iI n)])), (bv, .inl (cB, 16, .inl g))]) (va_runS (As := [.int (iI x)]) (rest := [.int (iI n)]) ⟨hx, hb, hml, hown, hts⟩ (c_J6_stringSize_0f7a4 l D H.size x (by omega)) (va_cwS 1 hts gJ5_append_c97b9_J6_stringSize_0f7a4 rfl rfl rfl (by decide +kernel) ⟨by rw [hRf]; exact Nat.le_of_ble_eq_true rfl, by rw [hRl]; exact Nat.le_of_ble_eq_true rfl⟩) (z_preS hP hD hK hN [] (by decide) rfl rfl [] rfl) rfl rfl hl.1 rfl (lv_room (Nat.le_of_ble_eq_true rfl)) dJ5_append_c97b9_7 ⟨by rw [hRc]; exact Nat.le_of_ble_eq_true rfl, by rw [hRs]; exact Nat.le_of_ble_eq_true rfl⟩) hP hD hS hA [] [0, 1] rfl rfl (by decide) (by decide) [0, 1] (by decide) (fun _ => rfl) (fun r _ H locs hw hP hD hS => ?_)
  subst hw
  have hP : va_P D vwCl [(sb, .inr (0, [.ref bv, .int (iI 0), .int (iI 0), .int (iI n)])), (bv, .inl (cB, 16, .inl g))] H := hP
  have hD : va_D A [(sb, .inr (0, [.ref bv, .int (iI 0), .int (iI 0), .int (iI n)])), (bv, .inl (cB, 16, .inl g))] := hD
  refine z_iadd hx hb dJ5_append_c97b9_10 ?_
  refine lv_istore_n (lv' := [(3, .int (iI (n + (dLen x)))), (2, .int (iI n)), (0, .ref sb), (1, .int (iI x))]) hx hb dJ5_append_c97b9_11 rfl hl (by decide) rfl (fun ls hl => ?_)
  refine lv_aload_n hx hb dJ5_append_c97b9_12 rfl (lv_at hl 2 rfl) ?_
  refine lv_iload_n hx hb dJ5_append_c97b9_13 rfl (lv_at hl 0 rfl) ?_
  refine z_callv (w2 := fun _ => [(sb, .inr (0, [.ref bv, .int (iI 0), .int (iI 0), .int (iI n)])), (bv, .inl (cB, 16, .inl g))]) (wc := [(sb, .inr (0, [.ref bv, .int (iI 0), .int (iI 0), .int (iI n)])), (bv, .inl (cB, 16, .inl g))]) (wr := []) (va_runU (As := [.int (iI (n + (dLen x)))]) (rest := []) ⟨hx, hb, hml, hown, hts⟩ (c_J5_ensureCapacityInternal_d00df l D H.size cB sb bv g n (n + (dLen x)) (by omega)) (va_cwU 1 hts gJ5_append_c97b9_J5_ensureCapacityInternal_d00df_u100J4 rfl rfl rfl rfl ⟨by decide, by decide, by decide +kernel⟩ ⟨by rw [hRf]; exact Nat.le_of_ble_eq_true rfl, by rw [hRl]; exact Nat.le_of_ble_eq_true rfl⟩) (z_preV hP hD hK hN [0, 1] (by decide) rfl rfl [0] rfl (q0 := 0) rfl (ci := 0) rfl) rfl rfl hl.1 rfl (lv_room (Nat.le_of_ble_eq_true rfl)) dJ5_append_c97b9_14 ⟨by rw [hRc]; exact Nat.le_of_ble_eq_true rfl, by rw [hRs]; exact Nat.le_of_ble_eq_true rfl⟩) hP hD hS hA [0, 1] [] rfl rfl (by decide) (by decide) [0, 1] (by decide) (fun _ => rfl) (fun _ H locs hw hP hD hS => ?_)
  have hP : va_P D vwCl [(sb, .inr (0, [.ref bv, .int (iI 0), .int (iI 0), .int (iI n)])), (bv, .inl (cB, 16, .inl g))] H := hP
  have hD : va_D A [(sb, .inr (0, [.ref bv, .int (iI 0), .int (iI 0), .int (iI n)])), (bv, .inl (cB, 16, .inl g))] := hD
  refine lv_aload_n hx hb dJ5_append_c97b9_17 rfl (lv_at hl 2 rfl) ?_
  refine z_calli (w2 := fun _ => [(sb, .inr (0, [.ref bv, .int (iI 0), .int (iI 0), .int (iI n)])), (bv, .inl (cB, 16, .inl g))]) (wc := [(sb, .inr (0, [.ref bv, .int (iI 0), .int (iI 0), .int (iI n)]))]) (wr := [(bv, .inl (cB, 16, .inl g))]) (va_runU (As := []) (rest := []) ⟨hx, hb, hml, hown, hts⟩ (c_J5_isLatin1_aae02 l D H.size dO dT fm aK aV sb bv n) (va_cwU 0 hts gJ5_append_c97b9_J5_isLatin1_aae02_u83J4 rfl rfl rfl rfl ⟨by decide, by decide, by decide +kernel⟩ ⟨by rw [hRf]; exact Nat.le_of_ble_eq_true rfl, by rw [hRl]; exact Nat.le_of_ble_eq_true rfl⟩) (z_preXV (zJ_ok _ _ _ _ _) hX hS hA hP hD hK hN [0] (by decide) rfl rfl [] rfl (q0 := 0) rfl (ci := 0) rfl) rfl rfl hl.1 rfl (lv_room (Nat.le_of_ble_eq_true rfl)) dJ5_append_c97b9_18 ⟨by rw [hRc]; exact Nat.le_of_ble_eq_true rfl, by rw [hRs]; exact Nat.le_of_ble_eq_true rfl⟩) hP hD hS hA [0] [1] rfl rfl (by decide) (by decide) [1, 0] (by decide) (fun _ => rfl) (fun r _ H locs hw hP hD hS => ?_)
  subst hw
  have hP : va_P D vwCl [(sb, .inr (0, [.ref bv, .int (iI 0), .int (iI 0), .int (iI n)])), (bv, .inl (cB, 16, .inl g))] H := hP
  have hD : va_D A [(sb, .inr (0, [.ref bv, .int (iI 0), .int (iI 0), .int (iI n)])), (bv, .inl (cB, 16, .inl g))] := hD
  refine z_if_eq hx hb 37 (by omega) dJ5_append_c97b9_21 (by decide) (fun c21 => absurd c21 (by omega)) (fun c21 => ?_)
  refine lv_iload_n hx hb dJ5_append_c97b9_24 rfl (lv_at hl 3 rfl) ?_
  refine lv_iload_n hx hb dJ5_append_c97b9_25 rfl (lv_at hl 0 rfl) ?_
  refine lv_aload_n hx hb dJ5_append_c97b9_26 rfl (lv_at hl 2 rfl) ?_
  refine va_get (D := D) (ci := 0) (v := .ref bv) (C := RJ4) (T := TJ4) (N := 4) hx hb hts inJ4 hown hK hP 0 rfl rfl 0 (by decide) kfieldLink_RJ5_15_java_lang_AbstractStringBuilder_value_B (fun _ h9 => h9) rfl dJ5_append_c97b9_27 ?_
  refine z_calli (w2 := fun u => [(sb, .inr (0, [.ref bv, .int (iI 0), .int (iI 0), .int (iI n)])), (bv, .inl (cB, 16, .inl u))]) (wc := [(bv, .inl (cB, 16, .inl g))]) (wr := [(sb, .inr (0, [.ref bv, .int (iI 0), .int (iI 0), .int (iI n)]))]) (va_runS (As := [.int (iI x), .int (iI (n + (dLen x))), .ref bv]) (rest := []) ⟨hx, hb, hml, hown, hts⟩ (c_J6_getChars l D H.size dO dT fm aK aV cB bv g tx x (n + (dLen x)) (by omega) (by omega) hT) (va_cwS 3 hts gJ5_append_c97b9_J6_getChars_ba4f3 rfl rfl rfl (by decide +kernel) ⟨by rw [hRf]; exact Nat.le_of_ble_eq_true rfl, by rw [hRl]; exact Nat.le_of_ble_eq_true rfl⟩) (z_preXS (zJ_ok _ _ _ _ _) hX hS hA hP hD hK hN [1] (by decide) rfl rfl [0] rfl) rfl rfl hl.1 rfl (lv_room (Nat.le_of_ble_eq_true rfl)) dJ5_append_c97b9_30 ⟨by rw [hRc]; exact Nat.le_of_ble_eq_true rfl, by rw [hRs]; exact Nat.le_of_ble_eq_true rfl⟩) hP hD hS hA [1] [0] rfl rfl (by decide) (by decide) [0, 1] (by decide) (fun _ => rfl) (fun r u H locs hw hP hD hS => ?_)
  have hP : va_P D vwCl [(sb, .inr (0, [.ref bv, .int (iI 0), .int (iI 0), .int (iI n)])), (bv, .inl (cB, 16, .inl u))] H := hP
  have hD : va_D A [(sb, .inr (0, [.ref bv, .int (iI 0), .int (iI 0), .int (iI n)])), (bv, .inl (cB, 16, .inl u))] := hD
  refine lv_pop hx hb dJ5_append_c97b9_33 rfl ?_
  refine lv_goto (tgt := 48) hx hb dJ5_append_c97b9_34 (by decide) ?_
  refine lv_aload_n hx hb dJ5_append_c97b9_48 rfl (lv_at hl 2 rfl) ?_
  refine lv_iload_n hx hb dJ5_append_c97b9_49 rfl (lv_at hl 0 rfl) ?_
  refine va_put (D := D) (ci := 0) (v := .int (iI (n + (dLen x)))) (ty := .int) (C := RJ4) (T := TJ4) (N := 4) hx hb hts inJ4 tyJ4 tyJ4_ok nmJ4 hown hK hP hD hS 0 rfl rfl 3 (by decide) kfieldLink_RJ5_79_java_lang_AbstractStringBuilder_count_I (fun _ h9 => h9) rfl (by decide +kernel) rfl rfl (Nat.le_of_ble_eq_true rfl) dJ5_append_c97b9_50 (fun H locs hP hD hS => ?_)
  have hP : va_P D vwCl [(sb, .inr (0, [.ref bv, .int (iI 0), .int (iI 0), .int (iI (n + (dLen x)))])), (bv, .inl (cB, 16, .inl u))] H := hP
  have hD : va_D A [(sb, .inr (0, [.ref bv, .int (iI 0), .int (iI 0), .int (iI (n + (dLen x)))])), (bv, .inl (cB, 16, .inl u))] := hD
  refine lv_aload_n hx hb dJ5_append_c97b9_53 rfl (lv_at hl 2 rfl) ?_
  exact K H locs u _ ls 0 0 (by omega) (by omega) hw hP hD hS dJ5_append_c97b9_54

abbrev rmJ4_append_bf812 : Room := { frames := 2, cells := 0, slots := 0, locals := 49 }
set_option maxHeartbeats 4000000 in
set_option maxRecDepth 100000 in
theorem c_J4_append_bf812 (l : Launch) (D : va_G) (sz : Nat) (dO dT : Nat) (fm : Option Nat) (aK aV : Nat → Nat) (cB : ClassId) (sb bv : Nat) (g : Nat → Int32) (n : Int) (tx : List Int) (x : Int) (hn : (tx.length : Int) = n) (hT : zTx g tx) (h : (-9999 ≤ x ∧ x ≤ 9999) ∧ n + dLen x ≤ 16) : zXr sb (zJ dO dT fm aK aV) l yJ4_append_bf812 wsJ4_append_bf812 rmJ4_append_bf812 D [(cB, .byte)] [.ref sb, .int (iI x)] [(sb, .inr (0, [.ref bv, .int (iI 0), .int (iI 0), .int (iI n)])), (bv, .inl (cB, 16, .inl g))] sz (S := (Nat → Int32)) (fun u => zTx u (tx ++ dec x)) (fun u => [(sb, .inr (0, [.ref bv, .int (iI 0), .int (iI 0), .int (iI (n + dLen x))])), (bv, .inl (cB, 16, .inl u))]) 0 0 := by
  have hd : 1 ≤ dLen x ∧ dLen x ≤ 5 := by unfold dLen; omega
  refine z_startXr (cc := cJ4_append_bf812) (maxL := 2) (rn := "java/lang/StringBuilder") (own := RJ4) (nm := "append") (by decide) rfl rfl rfl (Nat.le_of_ble_eq_true rfl) ?_
  intro p e R s m args below meth c A Q ls H locs hBd hX hP hD hS hl K
  obtain ⟨hx, hb, hml, hown, hts, ⟨hRf, hRl, hRc, hRs⟩, hmn, hK, hN, hA⟩ := hBd
  have hl : lv_has ls 2 [(0, .ref sb), (1, .int (iI x))] := hl
  have hP : va_P D vwCl [(sb, .inr (0, [.ref bv, .int (iI 0), .int (iI 0), .int (iI n)])), (bv, .inl (cB, 16, .inl g))] H := hP
  have hD : va_D A [(sb, .inr (0, [.ref bv, .int (iI 0), .int (iI 0), .int (iI n)])), (bv, .inl (cB, 16, .inl g))] := hD
  refine lv_aload_n hx hb dJ4_append_bf812_0 rfl (lv_at hl 0 rfl) ?_
  refine lv_iload_n hx hb dJ4_append_bf812_1 rfl (lv_at hl 1 rfl) ?_
  refine z_callr (w2 := fun u => [(sb, .inr (0, [.ref bv, .int (iI 0), .int (iI 0), .int (iI (n + dLen x))])), (bv, .inl (cB, 16, .inl u))]) (wc := [(sb, .inr (0, [.ref bv, .int (iI 0), .int (iI 0), .int (iI n)])), (bv, .inl (cB, 16, .inl g))]) (wr := []) (va_runSU (As := [.int (iI x)]) (rest := []) (hK.1 0 _ rfl).2 ⟨hx, hb, hml, hown, hts⟩ (c_J5_append_c97b9 l D H.size dO dT fm aK aV cB sb bv g n tx x hn hT h) (va_cwSU 1 hts gJ4_append_bf812_J5_append_c97b9_s53 rfl rfl rfl ⟨by decide, by decide +kernel⟩ ⟨by rw [hRf]; exact Nat.le_of_ble_eq_true rfl, by rw [hRl]; exact Nat.le_of_ble_eq_true rfl⟩) (z_preXV (zJ_ok _ _ _ _ _) hX hS hA hP hD hK hN [0, 1] (by decide) rfl rfl [0] rfl (q0 := 0) rfl (ci := 0) rfl) rfl rfl hl.1 rfl (lv_room (Nat.le_of_ble_eq_true rfl)) dJ4_append_bf812_2 ⟨by rw [hRc]; exact Nat.le_of_ble_eq_true rfl, by rw [hRs]; exact Nat.le_of_ble_eq_true rfl⟩) hP hD hS hA [0, 1] [] rfl rfl (by decide) (by decide) [0, 1] (by decide) (fun _ => rfl) (fun u H locs hw hP hD hS => ?_)
  have hw : zTx u (tx ++ dec x) := hw
  have hP : va_P D vwCl [(sb, .inr (0, [.ref bv, .int (iI 0), .int (iI 0), .int (iI (n + dLen x))])), (bv, .inl (cB, 16, .inl u))] H := hP
  have hD : va_D A [(sb, .inr (0, [.ref bv, .int (iI 0), .int (iI 0), .int (iI (n + dLen x))])), (bv, .inl (cB, 16, .inl u))] := hD
  refine lv_pop hx hb dJ4_append_bf812_5 rfl ?_
  refine lv_aload_n hx hb dJ4_append_bf812_6 rfl (lv_at hl 0 rfl) ?_
  exact K H locs u _ ls 0 0 (by omega) (by omega) hw hP hD hS dJ4_append_bf812_7

abbrev rmJ1_canEncode_fc78d : Room := { frames := 0, cells := 0, slots := 0, locals := 0 }
set_option maxHeartbeats 4000000 in
set_option maxRecDepth 100000 in
theorem c_J1_canEncode_fc78d (l : Launch) (D : va_G) (sz : Nat) (x : Int) (h : 0 ≤ x ∧ x < 128) : zMi l yJ1_canEncode_fc78d wsJ1_canEncode_fc78d rmJ1_canEncode_fc78d D [] [.int (iI x)] [] sz (S := Unit) (fun r _ => r = iI 1) (fun _ => []) 0 0 := by
  refine z_starti (cc := cJ1_canEncode_fc78d) (maxL := 1) (ty := .boolean) (own := RJ1) (nm := "canEncode") (by decide) rfl rfl rfl (Nat.le_of_ble_eq_true rfl) ?_
  intro p e R s m args below meth c A Q ls H locs hBd hP hD hS hl K
  obtain ⟨hx, hb, hml, hown, hts, ⟨hRf, hRl, hRc, hRs⟩, hmn, hK, hN, hA⟩ := hBd
  have hl : lv_has ls 1 [(0, .int (iI x))] := hl
  have hP : va_P D vwCl [] H := hP
  have hD : va_D A [] := hD
  refine lv_iload_n hx hb dJ1_canEncode_fc78d_0 rfl (lv_at hl 0 rfl) ?_
  refine lv_sipush (v := iI 255) hx hb dJ1_canEncode_fc78d_1 (by decide) ?_
  refine z_icmp_gt hx hb 11 (by omega) dJ1_canEncode_fc78d_4 (by decide) (fun c4 => absurd c4 (by omega)) (fun c4 => ?_)
  refine lv_iconst (v := iI 1) hx hb dJ1_canEncode_fc78d_7 rfl ?_
  refine lv_goto (tgt := 12) hx hb dJ1_canEncode_fc78d_8 (by decide) ?_
  exact K H locs _ () _ ls 0 0 (by omega) (by omega) (by decide) rfl hP hD hS dJ1_canEncode_fc78d_12

abbrev rmJ5_append_3fe6f : Room := { frames := 1, cells := 0, slots := 0, locals := 22 }
set_option maxHeartbeats 4000000 in
set_option maxRecDepth 100000 in
theorem c_J5_append_3fe6f (l : Launch) (D : va_G) (sz : Nat) (dO dT : Nat) (fm : Option Nat) (aK aV : Nat → Nat) (cB : ClassId) (sb bv : Nat) (g : Nat → Int32) (n : Int) (tx : List Int) (x : Int) (hn : (tx.length : Int) = n) (hT : zTx g tx) (h : (0 ≤ x ∧ x < 128) ∧ n + 1 ≤ 16) : zXr sb (zJ dO dT fm aK aV) l yJ5_append_3fe6f wsJ5_append_3fe6f rmJ5_append_3fe6f D [(cB, .byte)] [.ref sb, .int (iI x)] [(sb, .inr (0, [.ref bv, .int (iI 0), .int (iI 0), .int (iI n)])), (bv, .inl (cB, 16, .inl g))] sz (S := (Nat → Int32)) (fun u => zTx u (tx ++ [x])) (fun u => [(sb, .inr (0, [.ref bv, .int (iI 0), .int (iI 0), .int (iI (n + 1))])), (bv, .inl (cB, 16, .inl u))]) 0 0 := by
  refine z_startXr (cc := cJ5_append_3fe6f) (maxL := 2) (rn := "java/lang/AbstractStringBuilder") (own := RJ5) (nm := "append") (by decide) rfl rfl rfl (Nat.le_of_ble_eq_true rfl) ?_
  intro p e R s m args below meth c A Q ls H locs hBd hX hP hD hS hl K
  obtain ⟨hx, hb, hml, hown, hts, ⟨hRf, hRl, hRc, hRs⟩, hmn, hK, hN, hA⟩ := hBd
  have hl : lv_has ls 2 [(0, .ref sb), (1, .int (iI x))] := hl
  have inJ4 : ∀ w ∈ wsJ40, w ∈ wsJ5_append_3fe6f := by decide +kernel
  have kfieldLink_RJ5_15_java_lang_AbstractStringBuilder_value_B := hts (.fieldLink RJ5 15 "java/lang/AbstractStringBuilder" "value" "[B") (by decide +kernel)
  have kfieldLink_RJ5_79_java_lang_AbstractStringBuilder_count_I := hts (.fieldLink RJ5 79 "java/lang/AbstractStringBuilder" "count" "I") (by decide +kernel)
  have hP : va_P D vwCl [(sb, .inr (0, [.ref bv, .int (iI 0), .int (iI 0), .int (iI n)])), (bv, .inl (cB, 16, .inl g))] H := hP
  have hD : va_D A [(sb, .inr (0, [.ref bv, .int (iI 0), .int (iI 0), .int (iI n)])), (bv, .inl (cB, 16, .inl g))] := hD
  refine lv_aload_n hx hb dJ5_append_3fe6f_0 rfl (lv_at hl 0 rfl) ?_
  refine lv_aload_n hx hb dJ5_append_3fe6f_1 rfl (lv_at hl 0 rfl) ?_
  refine va_get (D := D) (ci := 0) (v := .int (iI n)) (C := RJ4) (T := TJ4) (N := 4) hx hb hts inJ4 hown hK hP 0 rfl rfl 3 (by decide) kfieldLink_RJ5_79_java_lang_AbstractStringBuilder_count_I (fun _ h9 => h9) rfl dJ5_append_3fe6f_2 ?_
  refine lv_iconst (v := iI 1) hx hb dJ5_append_3fe6f_5 rfl ?_
  refine z_iadd hx hb dJ5_append_3fe6f_6 ?_
  refine z_callv (w2 := fun _ => [(sb, .inr (0, [.ref bv, .int (iI 0), .int (iI 0), .int (iI n)])), (bv, .inl (cB, 16, .inl g))]) (wc := [(sb, .inr (0, [.ref bv, .int (iI 0), .int (iI 0), .int (iI n)])), (bv, .inl (cB, 16, .inl g))]) (wr := []) (va_runU (As := [.int (iI (n + 1))]) (rest := []) ⟨hx, hb, hml, hown, hts⟩ (c_J5_ensureCapacityInternal_d00df l D H.size cB sb bv g n (n + 1) (by omega)) (va_cwU 1 hts gJ5_append_3fe6f_J5_ensureCapacityInternal_d00df_u100J4 rfl rfl rfl rfl ⟨by decide, by decide, by decide +kernel⟩ ⟨by rw [hRf]; exact Nat.le_of_ble_eq_true rfl, by rw [hRl]; exact Nat.le_of_ble_eq_true rfl⟩) (z_preV hP hD hK hN [0, 1] (by decide) rfl rfl [0] rfl (q0 := 0) rfl (ci := 0) rfl) rfl rfl hl.1 rfl (lv_room (Nat.le_of_ble_eq_true rfl)) dJ5_append_3fe6f_7 ⟨by rw [hRc]; exact Nat.le_of_ble_eq_true rfl, by rw [hRs]; exact Nat.le_of_ble_eq_true rfl⟩) hP hD hS hA [0, 1] [] rfl rfl (by decide) (by decide) [0, 1] (by decide) (fun _ => rfl) (fun _ H locs hw hP hD hS => ?_)
  have hP : va_P D vwCl [(sb, .inr (0, [.ref bv, .int (iI 0), .int (iI 0), .int (iI n)])), (bv, .inl (cB, 16, .inl g))] H := hP
  have hD : va_D A [(sb, .inr (0, [.ref bv, .int (iI 0), .int (iI 0), .int (iI n)])), (bv, .inl (cB, 16, .inl g))] := hD
  refine lv_aload_n hx hb dJ5_append_3fe6f_10 rfl (lv_at hl 0 rfl) ?_
  refine z_calli (w2 := fun _ => [(sb, .inr (0, [.ref bv, .int (iI 0), .int (iI 0), .int (iI n)])), (bv, .inl (cB, 16, .inl g))]) (wc := [(sb, .inr (0, [.ref bv, .int (iI 0), .int (iI 0), .int (iI n)]))]) (wr := [(bv, .inl (cB, 16, .inl g))]) (va_runU (As := []) (rest := []) ⟨hx, hb, hml, hown, hts⟩ (c_J5_isLatin1_aae02 l D H.size dO dT fm aK aV sb bv n) (va_cwU 0 hts gJ5_append_3fe6f_J5_isLatin1_aae02_u83J4 rfl rfl rfl rfl ⟨by decide, by decide, by decide +kernel⟩ ⟨by rw [hRf]; exact Nat.le_of_ble_eq_true rfl, by rw [hRl]; exact Nat.le_of_ble_eq_true rfl⟩) (z_preXV (zJ_ok _ _ _ _ _) hX hS hA hP hD hK hN [0] (by decide) rfl rfl [] rfl (q0 := 0) rfl (ci := 0) rfl) rfl rfl hl.1 rfl (lv_room (Nat.le_of_ble_eq_true rfl)) dJ5_append_3fe6f_11 ⟨by rw [hRc]; exact Nat.le_of_ble_eq_true rfl, by rw [hRs]; exact Nat.le_of_ble_eq_true rfl⟩) hP hD hS hA [0] [1] rfl rfl (by decide) (by decide) [1, 0] (by decide) (fun _ => rfl) (fun r _ H locs hw hP hD hS => ?_)
  subst hw
  have hP : va_P D vwCl [(sb, .inr (0, [.ref bv, .int (iI 0), .int (iI 0), .int (iI n)])), (bv, .inl (cB, 16, .inl g))] H := hP
  have hD : va_D A [(sb, .inr (0, [.ref bv, .int (iI 0), .int (iI 0), .int (iI n)])), (bv, .inl (cB, 16, .inl g))] := hD
  refine z_if_eq hx hb 45 (by omega) dJ5_append_3fe6f_14 (by decide) (fun c14 => absurd c14 (by omega)) (fun c14 => ?_)
  refine lv_iload_n hx hb dJ5_append_3fe6f_17 rfl (lv_at hl 1 rfl) ?_
  refine z_calli (w2 := fun _ => [(sb, .inr (0, [.ref bv, .int (iI 0), .int (iI 0), .int (iI n)])), (bv, .inl (cB, 16, .inl g))]) (wc := []) (wr := [(sb, .inr (0, [.ref bv, .int (iI 0), .int (iI 0), .int (iI n)])), (bv, .inl (cB, 16, .inl g))]) (va_runS (As := [.int (iI x)]) (rest := []) ⟨hx, hb, hml, hown, hts⟩ (c_J1_canEncode_fc78d l D H.size x (by omega)) (va_cwS 1 hts gJ5_append_3fe6f_J1_canEncode_fc78d rfl rfl rfl (by decide +kernel) ⟨by rw [hRf]; exact Nat.le_of_ble_eq_true rfl, by rw [hRl]; exact Nat.le_of_ble_eq_true rfl⟩) (z_preS hP hD hK hN [] (by decide) rfl rfl [] rfl) rfl rfl hl.1 rfl (lv_room (Nat.le_of_ble_eq_true rfl)) dJ5_append_3fe6f_18 ⟨by rw [hRc]; exact Nat.le_of_ble_eq_true rfl, by rw [hRs]; exact Nat.le_of_ble_eq_true rfl⟩) hP hD hS hA [] [0, 1] rfl rfl (by decide) (by decide) [0, 1] (by decide) (fun _ => rfl) (fun r _ H locs hw hP hD hS => ?_)
  subst hw
  have hP : va_P D vwCl [(sb, .inr (0, [.ref bv, .int (iI 0), .int (iI 0), .int (iI n)])), (bv, .inl (cB, 16, .inl g))] H := hP
  have hD : va_D A [(sb, .inr (0, [.ref bv, .int (iI 0), .int (iI 0), .int (iI n)])), (bv, .inl (cB, 16, .inl g))] := hD
  refine z_if_eq hx hb 45 (by omega) dJ5_append_3fe6f_21 (by decide) (fun c21 => absurd c21 (by omega)) (fun c21 => ?_)
  refine lv_aload_n hx hb dJ5_append_3fe6f_24 rfl (lv_at hl 0 rfl) ?_
  refine va_get (D := D) (ci := 0) (v := .ref bv) (C := RJ4) (T := TJ4) (N := 4) hx hb hts inJ4 hown hK hP 0 rfl rfl 0 (by decide) kfieldLink_RJ5_15_java_lang_AbstractStringBuilder_value_B (fun _ h9 => h9) rfl dJ5_append_3fe6f_25 ?_
  refine lv_aload_n hx hb dJ5_append_3fe6f_28 rfl (lv_at hl 0 rfl) ?_
  refine lv_dup hx hb dJ5_append_3fe6f_29 rfl ?_
  refine va_get (D := D) (ci := 0) (v := .int (iI n)) (C := RJ4) (T := TJ4) (N := 4) hx hb hts inJ4 hown hK hP 0 rfl rfl 3 (by decide) kfieldLink_RJ5_79_java_lang_AbstractStringBuilder_count_I (fun _ h9 => h9) rfl dJ5_append_3fe6f_30 ?_
  refine lv_dup_x1 hx hb dJ5_append_3fe6f_33 rfl rfl ?_
  refine lv_iconst (v := iI 1) hx hb dJ5_append_3fe6f_34 rfl ?_
  refine z_iadd hx hb dJ5_append_3fe6f_35 ?_
  refine va_put (D := D) (ci := 0) (v := .int (iI (n + 1))) (ty := .int) (C := RJ4) (T := TJ4) (N := 4) hx hb hts inJ4 tyJ4 tyJ4_ok nmJ4 hown hK hP hD hS 0 rfl rfl 3 (by decide) kfieldLink_RJ5_79_java_lang_AbstractStringBuilder_count_I (fun _ h9 => h9) rfl (by decide +kernel) rfl rfl (Nat.le_of_ble_eq_true rfl) dJ5_append_3fe6f_36 (fun H locs hP hD hS => ?_)
  have hP : va_P D vwCl [(sb, .inr (0, [.ref bv, .int (iI 0), .int (iI 0), .int (iI (n + 1))])), (bv, .inl (cB, 16, .inl g))] H := hP
  have hD : va_D A [(sb, .inr (0, [.ref bv, .int (iI 0), .int (iI 0), .int (iI (n + 1))])), (bv, .inl (cB, 16, .inl g))] := hD
  refine lv_iload_n hx hb dJ5_append_3fe6f_39 rfl (lv_at hl 1 rfl) ?_
  refine z_i2b hx hb (by omega) dJ5_append_3fe6f_40 ?_
  refine z_bast hx hb hK hP hD hS 1 0 rfl rfl (by omega) (by omega) dJ5_append_3fe6f_41 (fun H locs hP hD hS => ?_)
  have hP : va_P D vwCl [(sb, .inr (0, [.ref bv, .int (iI 0), .int (iI 0), .int (iI (n + 1))])), (bv, .inl (cB, 16, .inl (upd g (n).toNat (iI x))))] H := hP
  have hD : va_D A [(sb, .inr (0, [.ref bv, .int (iI 0), .int (iI 0), .int (iI (n + 1))])), (bv, .inl (cB, 16, .inl (upd g (n).toNat (iI x))))] := hD
  refine lv_goto (tgt := 75) hx hb dJ5_append_3fe6f_42 (by decide) ?_
  refine lv_aload_n hx hb dJ5_append_3fe6f_75 rfl (lv_at hl 0 rfl) ?_
  exact K H locs (upd g (n).toNat (iI x)) _ ls 0 0 (by omega) (by omega) (tx_app hT (by omega)) hP hD hS dJ5_append_3fe6f_76

abbrev rmJ4_append_cf468 : Room := { frames := 2, cells := 0, slots := 0, locals := 43 }
set_option maxHeartbeats 4000000 in
set_option maxRecDepth 100000 in
theorem c_J4_append_cf468 (l : Launch) (D : va_G) (sz : Nat) (dO dT : Nat) (fm : Option Nat) (aK aV : Nat → Nat) (cB : ClassId) (sb bv : Nat) (g : Nat → Int32) (n : Int) (tx : List Int) (x : Int) (hn : (tx.length : Int) = n) (hT : zTx g tx) (h : (0 ≤ x ∧ x < 128) ∧ n + 1 ≤ 16) : zXr sb (zJ dO dT fm aK aV) l yJ4_append_cf468 wsJ4_append_cf468 rmJ4_append_cf468 D [(cB, .byte)] [.ref sb, .int (iI x)] [(sb, .inr (0, [.ref bv, .int (iI 0), .int (iI 0), .int (iI n)])), (bv, .inl (cB, 16, .inl g))] sz (S := (Nat → Int32)) (fun u => zTx u (tx ++ [x])) (fun u => [(sb, .inr (0, [.ref bv, .int (iI 0), .int (iI 0), .int (iI (n + 1))])), (bv, .inl (cB, 16, .inl u))]) 0 0 := by
  refine z_startXr (cc := cJ4_append_cf468) (maxL := 2) (rn := "java/lang/StringBuilder") (own := RJ4) (nm := "append") (by decide) rfl rfl rfl (Nat.le_of_ble_eq_true rfl) ?_
  intro p e R s m args below meth c A Q ls H locs hBd hX hP hD hS hl K
  obtain ⟨hx, hb, hml, hown, hts, ⟨hRf, hRl, hRc, hRs⟩, hmn, hK, hN, hA⟩ := hBd
  have hl : lv_has ls 2 [(0, .ref sb), (1, .int (iI x))] := hl
  have hP : va_P D vwCl [(sb, .inr (0, [.ref bv, .int (iI 0), .int (iI 0), .int (iI n)])), (bv, .inl (cB, 16, .inl g))] H := hP
  have hD : va_D A [(sb, .inr (0, [.ref bv, .int (iI 0), .int (iI 0), .int (iI n)])), (bv, .inl (cB, 16, .inl g))] := hD
  refine lv_aload_n hx hb dJ4_append_cf468_0 rfl (lv_at hl 0 rfl) ?_
  refine lv_iload_n hx hb dJ4_append_cf468_1 rfl (lv_at hl 1 rfl) ?_
  refine z_callr (w2 := fun u => [(sb, .inr (0, [.ref bv, .int (iI 0), .int (iI 0), .int (iI (n + 1))])), (bv, .inl (cB, 16, .inl u))]) (wc := [(sb, .inr (0, [.ref bv, .int (iI 0), .int (iI 0), .int (iI n)])), (bv, .inl (cB, 16, .inl g))]) (wr := []) (va_runSU (As := [.int (iI x)]) (rest := []) (hK.1 0 _ rfl).2 ⟨hx, hb, hml, hown, hts⟩ (c_J5_append_3fe6f l D H.size dO dT fm aK aV cB sb bv g n tx x hn hT h) (va_cwSU 1 hts gJ4_append_cf468_J5_append_3fe6f_s50 rfl rfl rfl ⟨by decide, by decide +kernel⟩ ⟨by rw [hRf]; exact Nat.le_of_ble_eq_true rfl, by rw [hRl]; exact Nat.le_of_ble_eq_true rfl⟩) (z_preXV (zJ_ok _ _ _ _ _) hX hS hA hP hD hK hN [0, 1] (by decide) rfl rfl [0] rfl (q0 := 0) rfl (ci := 0) rfl) rfl rfl hl.1 rfl (lv_room (Nat.le_of_ble_eq_true rfl)) dJ4_append_cf468_2 ⟨by rw [hRc]; exact Nat.le_of_ble_eq_true rfl, by rw [hRs]; exact Nat.le_of_ble_eq_true rfl⟩) hP hD hS hA [0, 1] [] rfl rfl (by decide) (by decide) [0, 1] (by decide) (fun _ => rfl) (fun u H locs hw hP hD hS => ?_)
  have hw : zTx u (tx ++ [x]) := hw
  have hP : va_P D vwCl [(sb, .inr (0, [.ref bv, .int (iI 0), .int (iI 0), .int (iI (n + 1))])), (bv, .inl (cB, 16, .inl u))] H := hP
  have hD : va_D A [(sb, .inr (0, [.ref bv, .int (iI 0), .int (iI 0), .int (iI (n + 1))])), (bv, .inl (cB, 16, .inl u))] := hD
  refine lv_pop hx hb dJ4_append_cf468_5 rfl ?_
  refine lv_aload_n hx hb dJ4_append_cf468_6 rfl (lv_at hl 0 rfl) ?_
  exact K H locs u _ ls 0 0 (by omega) (by omega) hw hP hD hS dJ4_append_cf468_7

abbrev rmJ0_coder_7d493 : Room := { frames := 0, cells := 0, slots := 0, locals := 0 }
set_option maxHeartbeats 4000000 in
set_option maxRecDepth 100000 in
theorem c_J0_coder_7d493 (l : Launch) (D : va_G) (sz : Nat) (dO dT : Nat) (fm : Option Nat) (aK aV : Nat → Nat) (k : Nat) (hk : k < 2)  : zXi (zJ dO dT fm aK aV) l yJ0_coder_7d493 wsJ0_coder_7d493 rmJ0_coder_7d493 D [] [.ref (aK k)] [] sz (S := Unit) (fun r _ => r = iI 0) (fun _ => []) 0 0 := by
  refine z_startXi (cc := cJ0_coder_7d493) (maxL := 1) (ty := .byte) (own := RJ0) (nm := "coder") (by decide) rfl rfl rfl (Nat.le_of_ble_eq_true rfl) ?_
  intro p e R s m args below meth c A Q ls H locs hBd hX hP hD hS hl K
  obtain ⟨hx, hb, hml, hown, hts, ⟨hRf, hRl, hRc, hRs⟩, hmn, hK, hN, hA⟩ := hBd
  have hl : lv_has ls 1 [(0, .ref (aK k))] := hl
  have kfieldLink_RJ0_15_java_lang_String_coder_B := hts (.fieldLink RJ0 15 "java/lang/String" "coder" "B") (by decide +kernel)
  have kfieldLink_RJ0_38_java_lang_String_COMPACT_STRINGS_Z := hts (.fieldLink RJ0 38 "java/lang/String" "COMPACT_STRINGS" "Z") (by decide +kernel)
  have hP : va_P D vwCl [] H := hP
  have hD : va_D A [] := hD
  refine va_gets (v := .int (iI 1)) hx hb hX.1 hS hown kfieldLink_RJ0_38_java_lang_String_COMPACT_STRINGS_Z (fun _ h9 => h9) dJ0_coder_7d493_0 ?_
  refine z_if_eq hx hb 13 (by omega) dJ0_coder_7d493_3 (by decide) (fun c3 => absurd c3 (by omega)) (fun c3 => ?_)
  refine lv_aload_n hx hb dJ0_coder_7d493_6 rfl (lv_at hl 0 rfl) ?_
  refine vk_getf hx hb (hX.2.2.2.2.2.2.1 k hk).2.1 hS hown kfieldLink_RJ0_15_java_lang_String_coder_B (fun _ h9 => h9) dJ0_coder_7d493_7 ?_
  refine lv_goto (tgt := 14) hx hb dJ0_coder_7d493_10 (by decide) ?_
  exact K H locs _ () _ ls 0 0 (by omega) (by omega) (by decide) rfl hP hD hS dJ0_coder_7d493_14

abbrev rmJ0_length_8abf5 : Room := { frames := 1, cells := 0, slots := 0, locals := 20 }
set_option maxHeartbeats 4000000 in
set_option maxRecDepth 100000 in
theorem c_J0_length_8abf5 (l : Launch) (D : va_G) (sz : Nat) (dO dT : Nat) (fm : Option Nat) (aK aV : Nat → Nat) (k : Nat) (hk : k < 2)  : zXi (zJ dO dT fm aK aV) l yJ0_length_8abf5 wsJ0_length_8abf5 rmJ0_length_8abf5 D [] [.ref (aK k)] [] sz (S := Unit) (fun r _ => r = iI 2) (fun _ => []) 0 0 := by
  refine z_startXi (cc := cJ0_length_8abf5) (maxL := 1) (ty := .int) (own := RJ0) (nm := "length") (by decide) rfl rfl rfl (Nat.le_of_ble_eq_true rfl) ?_
  intro p e R s m args below meth c A Q ls H locs hBd hX hP hD hS hl K
  obtain ⟨hx, hb, hml, hown, hts, ⟨hRf, hRl, hRc, hRs⟩, hmn, hK, hN, hA⟩ := hBd
  have hl : lv_has ls 1 [(0, .ref (aK k))] := hl
  have kfieldLink_RJ0_9_java_lang_String_value_B := hts (.fieldLink RJ0 9 "java/lang/String" "value" "[B") (by decide +kernel)
  have hP : va_P D vwCl [] H := hP
  have hD : va_D A [] := hD
  refine lv_aload_n hx hb dJ0_length_8abf5_0 rfl (lv_at hl 0 rfl) ?_
  refine vk_getf hx hb (hX.2.2.2.2.2.2.1 k hk).2.2.1 hS hown kfieldLink_RJ0_9_java_lang_String_value_B (fun _ h9 => h9) dJ0_length_8abf5_1 ?_
  refine va_tlen (v := iI 2) hx hb (hX.2.2.2.2.2.2.1 k hk).2.2.2 hS rfl dJ0_length_8abf5_4 ?_
  refine lv_aload_n hx hb dJ0_length_8abf5_5 rfl (lv_at hl 0 rfl) ?_
  refine z_calli (w2 := fun _ => []) (wc := []) (wr := []) (va_runV (As := []) (rest := [.int (iI 2)]) ⟨hx, hb, hml, hown, hts⟩ (c_J0_coder_7d493 l D H.size dO dT fm aK aV k hk) (cwV 0 hts gJ0_length_8abf5_J0_coder_7d493 rfl rfl rfl (by decide +kernel) ⟨by rw [hRf]; exact Nat.le_of_ble_eq_true rfl, by rw [hRl]; exact Nat.le_of_ble_eq_true rfl⟩) (z_preXK (zJ_ok _ _ _ _ _) (hX.2.2.2.2.2.2.1 k hk).1 hX hS hA hP hD hK hN [] (by decide) rfl rfl [] rfl) rfl rfl hl.1 rfl (lv_room (Nat.le_of_ble_eq_true rfl)) dJ0_length_8abf5_6 ⟨by rw [hRc]; exact Nat.le_of_ble_eq_true rfl, by rw [hRs]; exact Nat.le_of_ble_eq_true rfl⟩) hP hD hS hA [] [] rfl rfl (by decide) (by decide) [] (by decide) (fun _ => rfl) (fun r _ H locs hw hP hD hS => ?_)
  subst hw
  have hP : va_P D vwCl [] H := hP
  have hD : va_D A [] := hD
  refine lv_ishr hx hb dJ0_length_8abf5_9 ?_
  rw [z_shr0]
  exact K H locs _ () _ ls 0 0 (by omega) (by omega) rfl rfl hP hD hS dJ0_length_8abf5_10

abbrev rmJ5_inflateIfNeededFor_a7421 : Room := { frames := 1, cells := 0, slots := 0, locals := 20 }
set_option maxHeartbeats 4000000 in
set_option maxRecDepth 100000 in
theorem c_J5_inflateIfNeededFor_a7421 (l : Launch) (D : va_G) (sz : Nat) (dO dT : Nat) (fm : Option Nat) (aK aV : Nat → Nat) (sb bv : Nat) (n : Int) (k : Nat) (hk : k < 2)  : zXv (zJ dO dT fm aK aV) l yJ5_inflateIfNeededFor_a7421 wsJ5_inflateIfNeededFor_a7421 rmJ5_inflateIfNeededFor_a7421 D [] [.ref sb, .ref (aK k)] [(sb, .inr (0, [.ref bv, .int (iI 0), .int (iI 0), .int (iI n)]))] sz (S := Unit) (fun _ => True) (fun _ => [(sb, .inr (0, [.ref bv, .int (iI 0), .int (iI 0), .int (iI n)]))]) 0 0 := by
  refine z_startXv (cc := cJ5_inflateIfNeededFor_a7421) (maxL := 2) (own := RJ5) (nm := "inflateIfNeededFor") (by decide) rfl rfl rfl (Nat.le_of_ble_eq_true rfl) ?_
  intro p e R s m args below meth c A Q ls H locs hBd hX hP hD hS hl K
  obtain ⟨hx, hb, hml, hown, hts, ⟨hRf, hRl, hRc, hRs⟩, hmn, hK, hN, hA⟩ := hBd
  have hl : lv_has ls 2 [(0, .ref sb), (1, .ref (aK k))] := hl
  have inJ4 : ∀ w ∈ wsJ40, w ∈ wsJ5_inflateIfNeededFor_a7421 := by decide +kernel
  have kfieldLink_RJ5_18_java_lang_String_COMPACT_STRINGS_Z := hts (.fieldLink RJ5 18 "java/lang/String" "COMPACT_STRINGS" "Z") (by decide +kernel)
  have kfieldLink_RJ5_22_java_lang_AbstractStringBuilder_coder_B := hts (.fieldLink RJ5 22 "java/lang/AbstractStringBuilder" "coder" "B") (by decide +kernel)
  have hP : va_P D vwCl [(sb, .inr (0, [.ref bv, .int (iI 0), .int (iI 0), .int (iI n)]))] H := hP
  have hD : va_D A [(sb, .inr (0, [.ref bv, .int (iI 0), .int (iI 0), .int (iI n)]))] := hD
  refine va_gets (v := .int (iI 1)) hx hb hX.1 hS hown kfieldLink_RJ5_18_java_lang_String_COMPACT_STRINGS_Z (fun _ h9 => h9) dJ5_inflateIfNeededFor_a7421_0 ?_
  refine z_if_eq hx hb 21 (by omega) dJ5_inflateIfNeededFor_a7421_3 (by decide) (fun c3 => absurd c3 (by omega)) (fun c3 => ?_)
  refine lv_aload_n hx hb dJ5_inflateIfNeededFor_a7421_6 rfl (lv_at hl 0 rfl) ?_
  refine va_get (D := D) (ci := 0) (v := .int (iI 0)) (C := RJ4) (T := TJ4) (N := 4) hx hb hts inJ4 hown hK hP 0 rfl rfl 1 (by decide) kfieldLink_RJ5_22_java_lang_AbstractStringBuilder_coder_B (fun _ h9 => h9) rfl dJ5_inflateIfNeededFor_a7421_7 ?_
  refine lv_aload_n hx hb dJ5_inflateIfNeededFor_a7421_10 rfl (lv_at hl 1 rfl) ?_
  refine z_calli (w2 := fun _ => [(sb, .inr (0, [.ref bv, .int (iI 0), .int (iI 0), .int (iI n)]))]) (wc := []) (wr := [(sb, .inr (0, [.ref bv, .int (iI 0), .int (iI 0), .int (iI n)]))]) (va_runV (As := []) (rest := [.int (iI 0)]) ⟨hx, hb, hml, hown, hts⟩ (c_J0_coder_7d493 l D H.size dO dT fm aK aV k hk) (cwV 0 hts gJ5_inflateIfNeededFor_a7421_J0_coder_7d493 rfl rfl rfl (by decide +kernel) ⟨by rw [hRf]; exact Nat.le_of_ble_eq_true rfl, by rw [hRl]; exact Nat.le_of_ble_eq_true rfl⟩) (z_preXK (zJ_ok _ _ _ _ _) (hX.2.2.2.2.2.2.1 k hk).1 hX hS hA hP hD hK hN [] (by decide) rfl rfl [] rfl) rfl rfl hl.1 rfl (lv_room (Nat.le_of_ble_eq_true rfl)) dJ5_inflateIfNeededFor_a7421_11 ⟨by rw [hRc]; exact Nat.le_of_ble_eq_true rfl, by rw [hRs]; exact Nat.le_of_ble_eq_true rfl⟩) hP hD hS hA [] [0] rfl rfl (by decide) (by decide) [0] (by decide) (fun _ => rfl) (fun r _ H locs hw hP hD hS => ?_)
  subst hw
  have hP : va_P D vwCl [(sb, .inr (0, [.ref bv, .int (iI 0), .int (iI 0), .int (iI n)]))] H := hP
  have hD : va_D A [(sb, .inr (0, [.ref bv, .int (iI 0), .int (iI 0), .int (iI n)]))] := hD
  refine z_icmp_eq hx hb 21 (by omega) dJ5_inflateIfNeededFor_a7421_14 (by decide) (fun c14 => ?_) (fun c14 => absurd c14 (by omega))
  exact K H locs () _ ls 0 0 (by omega) (by omega) trivial hP hD hS dJ5_inflateIfNeededFor_a7421_21

abbrev rmJ0_getBytes_840e7 : Room := { frames := 2, cells := 0, slots := 0, locals := 60 }
set_option maxHeartbeats 4000000 in
set_option maxRecDepth 100000 in
theorem c_J0_getBytes_840e7 (l : Launch) (D : va_G) (sz : Nat) (dO dT : Nat) (fm : Option Nat) (aK aV : Nat → Nat) (cB : ClassId) (bv : Nat) (g : Nat → Int32) (n : Int) (k : Nat) (hk : k < 2) (h : 0 ≤ n ∧ n + 2 ≤ 16) : zXv (zJ dO dT fm aK aV) l yJ0_getBytes_840e7 wsJ0_getBytes_840e7 rmJ0_getBytes_840e7 D [(cB, .byte)] [.ref (aK k), .ref bv, .int (iI n), .int (iI 0)] [(bv, .inl (cB, 16, .inl g))] sz (S := Unit) (fun _ => True) (fun _ => [(bv, .inl (cB, 16, .inl (va_cpy (fun j => iI (if j = 0 then (if k = 0 then 97 else 112) else 109)) g 0 n.toNat 2)))]) 0 0 := by
  refine z_startXv (cc := cJ0_getBytes_840e7) (maxL := 4) (own := RJ0) (nm := "getBytes") (by decide) rfl rfl rfl (Nat.le_of_ble_eq_true rfl) ?_
  intro p e R s m args below meth c A Q ls H locs hBd hX hP hD hS hl K
  obtain ⟨hx, hb, hml, hown, hts, ⟨hRf, hRl, hRc, hRs⟩, hmn, hK, hN, hA⟩ := hBd
  have hl : lv_has ls 4 [(0, .ref (aK k)), (1, .ref bv), (2, .int (iI n)), (3, .int (iI 0))] := hl
  have kfieldLink_RJ0_9_java_lang_String_value_B := hts (.fieldLink RJ0 9 "java/lang/String" "value" "[B") (by decide +kernel)
  have kinitialized_java_lang_System := hts (.initialized "java/lang/System") (by decide +kernel)
  have kmethodLink_RJ0_212_arraycopyName := hts (.methodLink RJ0 212 arraycopyName) (by decide +kernel)
  have knative_arraycopyName := hts (.native arraycopyName) (by decide +kernel)
  have kstatic_arraycopyName := hts (.static arraycopyName) (by decide +kernel)
  have hP : va_P D vwCl [(bv, .inl (cB, 16, .inl g))] H := hP
  have hD : va_D A [(bv, .inl (cB, 16, .inl g))] := hD
  refine lv_aload_n hx hb dJ0_getBytes_840e7_0 rfl (lv_at hl 0 rfl) ?_
  refine z_calli (w2 := fun _ => [(bv, .inl (cB, 16, .inl g))]) (wc := []) (wr := [(bv, .inl (cB, 16, .inl g))]) (va_runV (As := []) (rest := []) ⟨hx, hb, hml, hown, hts⟩ (c_J0_coder_7d493 l D H.size dO dT fm aK aV k hk) (cwV 0 hts gJ0_getBytes_840e7_J0_coder_7d493 rfl rfl rfl (by decide +kernel) ⟨by rw [hRf]; exact Nat.le_of_ble_eq_true rfl, by rw [hRl]; exact Nat.le_of_ble_eq_true rfl⟩) (z_preXK (zJ_ok _ _ _ _ _) (hX.2.2.2.2.2.2.1 k hk).1 hX hS hA hP hD hK hN [] (by decide) rfl rfl [] rfl) rfl rfl hl.1 rfl (lv_room (Nat.le_of_ble_eq_true rfl)) dJ0_getBytes_840e7_1 ⟨by rw [hRc]; exact Nat.le_of_ble_eq_true rfl, by rw [hRs]; exact Nat.le_of_ble_eq_true rfl⟩) hP hD hS hA [] [0] rfl rfl (by decide) (by decide) [0] (by decide) (fun _ => rfl) (fun r _ H locs hw hP hD hS => ?_)
  subst hw
  have hP : va_P D vwCl [(bv, .inl (cB, 16, .inl g))] H := hP
  have hD : va_D A [(bv, .inl (cB, 16, .inl g))] := hD
  refine lv_iload_n hx hb dJ0_getBytes_840e7_4 rfl (lv_at hl 3 rfl) ?_
  refine z_icmp_ne hx hb 28 (by omega) dJ0_getBytes_840e7_5 (by decide) (fun c5 => absurd c5 (by omega)) (fun c5 => ?_)
  refine lv_aload_n hx hb dJ0_getBytes_840e7_8 rfl (lv_at hl 0 rfl) ?_
  refine vk_getf hx hb (hX.2.2.2.2.2.2.1 k hk).2.2.1 hS hown kfieldLink_RJ0_9_java_lang_String_value_B (fun _ h9 => h9) dJ0_getBytes_840e7_9 ?_
  refine lv_iconst (v := iI 0) hx hb dJ0_getBytes_840e7_12 rfl ?_
  refine lv_aload_n hx hb dJ0_getBytes_840e7_13 rfl (lv_at hl 1 rfl) ?_
  refine lv_iload_n hx hb dJ0_getBytes_840e7_14 rfl (lv_at hl 2 rfl) ?_
  refine lv_iload_n hx hb dJ0_getBytes_840e7_15 rfl (lv_at hl 3 rfl) ?_
  refine lv_ishl hx hb dJ0_getBytes_840e7_16 ?_
  rw [z_shl0]
  refine lv_aload_n hx hb dJ0_getBytes_840e7_17 rfl (lv_at hl 0 rfl) ?_
  refine vk_getf hx hb (hX.2.2.2.2.2.2.1 k hk).2.2.1 hS hown kfieldLink_RJ0_9_java_lang_String_value_B (fun _ h9 => h9) dJ0_getBytes_840e7_18 ?_
  refine va_tlen (v := iI 2) hx hb (hX.2.2.2.2.2.2.1 k hk).2.2.2 hS rfl dJ0_getBytes_840e7_21 ?_
  refine z_copyt hx hb (by rw [hml]; exact hl.1.symm) hown kmethodLink_RJ0_212_arraycopyName knative_arraycopyName kstatic_arraycopyName kinitialized_java_lang_System hK hP hD hS (by split <;> omega) (hX.2.2.2.2.2.2.1 k hk).2.2.2 0 0 rfl rfl (by omega) (by rw [hRf]; exact Nat.le_of_ble_eq_true rfl) (by rw [hRl]; exact Nat.le_of_ble_eq_true rfl) dJ0_getBytes_840e7_22 (fun H locs hP hD hS => ?_)
  have hP : va_P D vwCl [(bv, .inl (cB, 16, .inl (va_cpy (fun j => iI (if j = 0 then (if k = 0 then 97 else 112) else 109)) g 0 n.toNat 2)))] H := hP
  have hD : va_D A [(bv, .inl (cB, 16, .inl (va_cpy (fun j => iI (if j = 0 then (if k = 0 then 97 else 112) else 109)) g 0 n.toNat 2)))] := hD
  refine lv_goto (tgt := 43) hx hb dJ0_getBytes_840e7_25 (by decide) ?_
  exact K H locs () _ ls 0 0 (by omega) (by omega) trivial hP hD hS dJ0_getBytes_840e7_43

abbrev rmJ5_putStringAt_47b60 : Room := { frames := 3, cells := 0, slots := 0, locals := 83 }
set_option maxHeartbeats 4000000 in
set_option maxRecDepth 100000 in
theorem c_J5_putStringAt_47b60 (l : Launch) (D : va_G) (sz : Nat) (dO dT : Nat) (fm : Option Nat) (aK aV : Nat → Nat) (cB : ClassId) (sb bv : Nat) (g : Nat → Int32) (n : Int) (k : Nat) (hk : k < 2) (h : 0 ≤ n ∧ n + 2 ≤ 16) : zXv (zJ dO dT fm aK aV) l yJ5_putStringAt_47b60 wsJ5_putStringAt_47b60 rmJ5_putStringAt_47b60 D [(cB, .byte)] [.ref sb, .int (iI n), .ref (aK k)] [(sb, .inr (0, [.ref bv, .int (iI 0), .int (iI 0), .int (iI n)])), (bv, .inl (cB, 16, .inl g))] sz (S := Unit) (fun _ => True) (fun _ => [(sb, .inr (0, [.ref bv, .int (iI 0), .int (iI 0), .int (iI n)])), (bv, .inl (cB, 16, .inl (va_cpy (fun j => iI (if j = 0 then (if k = 0 then 97 else 112) else 109)) g 0 n.toNat 2)))]) 0 0 := by
  refine z_startXv (cc := cJ5_putStringAt_47b60) (maxL := 3) (own := RJ5) (nm := "putStringAt") (by decide) rfl rfl rfl (Nat.le_of_ble_eq_true rfl) ?_
  intro p e R s m args below meth c A Q ls H locs hBd hX hP hD hS hl K
  obtain ⟨hx, hb, hml, hown, hts, ⟨hRf, hRl, hRc, hRs⟩, hmn, hK, hN, hA⟩ := hBd
  have hl : lv_has ls 3 [(0, .ref sb), (1, .int (iI n)), (2, .ref (aK k))] := hl
  have inJ4 : ∀ w ∈ wsJ40, w ∈ wsJ5_putStringAt_47b60 := by decide +kernel
  have kfieldLink_RJ5_15_java_lang_AbstractStringBuilder_value_B := hts (.fieldLink RJ5 15 "java/lang/AbstractStringBuilder" "value" "[B") (by decide +kernel)
  have kfieldLink_RJ5_22_java_lang_AbstractStringBuilder_coder_B := hts (.fieldLink RJ5 22 "java/lang/AbstractStringBuilder" "coder" "B") (by decide +kernel)
  have hP : va_P D vwCl [(sb, .inr (0, [.ref bv, .int (iI 0), .int (iI 0), .int (iI n)])), (bv, .inl (cB, 16, .inl g))] H := hP
  have hD : va_D A [(sb, .inr (0, [.ref bv, .int (iI 0), .int (iI 0), .int (iI n)])), (bv, .inl (cB, 16, .inl g))] := hD
  refine lv_aload_n hx hb dJ5_putStringAt_47b60_0 rfl (lv_at hl 0 rfl) ?_
  refine lv_aload_n hx hb dJ5_putStringAt_47b60_1 rfl (lv_at hl 2 rfl) ?_
  refine z_callv (w2 := fun _ => [(sb, .inr (0, [.ref bv, .int (iI 0), .int (iI 0), .int (iI n)])), (bv, .inl (cB, 16, .inl g))]) (wc := [(sb, .inr (0, [.ref bv, .int (iI 0), .int (iI 0), .int (iI n)]))]) (wr := [(bv, .inl (cB, 16, .inl g))]) (va_runU (As := [.ref (aK k)]) (rest := []) ⟨hx, hb, hml, hown, hts⟩ (c_J5_inflateIfNeededFor_a7421 l D H.size dO dT fm aK aV sb bv n k hk) (va_cwU 1 hts gJ5_putStringAt_47b60_J5_inflateIfNeededFor_a7421_u397J4 rfl rfl rfl rfl ⟨by decide, by decide, by decide +kernel⟩ ⟨by rw [hRf]; exact Nat.le_of_ble_eq_true rfl, by rw [hRl]; exact Nat.le_of_ble_eq_true rfl⟩) (z_preXV (zJ_ok _ _ _ _ _) hX hS hA hP hD hK hN [0] (by decide) rfl rfl [] rfl (q0 := 0) rfl (ci := 0) rfl) rfl rfl hl.1 rfl (lv_room (Nat.le_of_ble_eq_true rfl)) dJ5_putStringAt_47b60_2 ⟨by rw [hRc]; exact Nat.le_of_ble_eq_true rfl, by rw [hRs]; exact Nat.le_of_ble_eq_true rfl⟩) hP hD hS hA [0] [1] rfl rfl (by decide) (by decide) [1, 0] (by decide) (fun _ => rfl) (fun _ H locs hw hP hD hS => ?_)
  have hP : va_P D vwCl [(sb, .inr (0, [.ref bv, .int (iI 0), .int (iI 0), .int (iI n)])), (bv, .inl (cB, 16, .inl g))] H := hP
  have hD : va_D A [(sb, .inr (0, [.ref bv, .int (iI 0), .int (iI 0), .int (iI n)])), (bv, .inl (cB, 16, .inl g))] := hD
  refine lv_aload_n hx hb dJ5_putStringAt_47b60_5 rfl (lv_at hl 2 rfl) ?_
  refine lv_aload_n hx hb dJ5_putStringAt_47b60_6 rfl (lv_at hl 0 rfl) ?_
  refine va_get (D := D) (ci := 0) (v := .ref bv) (C := RJ4) (T := TJ4) (N := 4) hx hb hts inJ4 hown hK hP 0 rfl rfl 0 (by decide) kfieldLink_RJ5_15_java_lang_AbstractStringBuilder_value_B (fun _ h9 => h9) rfl dJ5_putStringAt_47b60_7 ?_
  refine lv_iload_n hx hb dJ5_putStringAt_47b60_10 rfl (lv_at hl 1 rfl) ?_
  refine lv_aload_n hx hb dJ5_putStringAt_47b60_11 rfl (lv_at hl 0 rfl) ?_
  refine va_get (D := D) (ci := 0) (v := .int (iI 0)) (C := RJ4) (T := TJ4) (N := 4) hx hb hts inJ4 hown hK hP 0 rfl rfl 1 (by decide) kfieldLink_RJ5_22_java_lang_AbstractStringBuilder_coder_B (fun _ h9 => h9) rfl dJ5_putStringAt_47b60_12 ?_
  refine z_callv (w2 := fun _ => [(sb, .inr (0, [.ref bv, .int (iI 0), .int (iI 0), .int (iI n)])), (bv, .inl (cB, 16, .inl (va_cpy (fun j => iI (if j = 0 then (if k = 0 then 97 else 112) else 109)) g 0 n.toNat 2)))]) (wc := [(bv, .inl (cB, 16, .inl g))]) (wr := [(sb, .inr (0, [.ref bv, .int (iI 0), .int (iI 0), .int (iI n)]))]) (va_runV (As := [.ref bv, .int (iI n), .int (iI 0)]) (rest := []) ⟨hx, hb, hml, hown, hts⟩ (c_J0_getBytes_840e7 l D H.size dO dT fm aK aV cB bv g n k hk (by omega)) (cwV 3 hts gJ5_putStringAt_47b60_J0_getBytes_840e7 rfl rfl rfl (by decide +kernel) ⟨by rw [hRf]; exact Nat.le_of_ble_eq_true rfl, by rw [hRl]; exact Nat.le_of_ble_eq_true rfl⟩) (z_preXK (zJ_ok _ _ _ _ _) (hX.2.2.2.2.2.2.1 k hk).1 hX hS hA hP hD hK hN [1] (by decide) rfl rfl [0] rfl) rfl rfl hl.1 rfl (lv_room (Nat.le_of_ble_eq_true rfl)) dJ5_putStringAt_47b60_15 ⟨by rw [hRc]; exact Nat.le_of_ble_eq_true rfl, by rw [hRs]; exact Nat.le_of_ble_eq_true rfl⟩) hP hD hS hA [1] [0] rfl rfl (by decide) (by decide) [0, 1] (by decide) (fun _ => rfl) (fun _ H locs hw hP hD hS => ?_)
  have hP : va_P D vwCl [(sb, .inr (0, [.ref bv, .int (iI 0), .int (iI 0), .int (iI n)])), (bv, .inl (cB, 16, .inl (va_cpy (fun j => iI (if j = 0 then (if k = 0 then 97 else 112) else 109)) g 0 n.toNat 2)))] H := hP
  have hD : va_D A [(sb, .inr (0, [.ref bv, .int (iI 0), .int (iI 0), .int (iI n)])), (bv, .inl (cB, 16, .inl (va_cpy (fun j => iI (if j = 0 then (if k = 0 then 97 else 112) else 109)) g 0 n.toNat 2)))] := hD
  exact K H locs () _ ls 0 0 (by omega) (by omega) trivial hP hD hS dJ5_putStringAt_47b60_18

abbrev rmJ5_append_cf1ce : Room := { frames := 4, cells := 0, slots := 0, locals := 105 }
set_option maxHeartbeats 4000000 in
set_option maxRecDepth 100000 in
theorem c_J5_append_cf1ce (l : Launch) (D : va_G) (sz : Nat) (dO dT : Nat) (fm : Option Nat) (aK aV : Nat → Nat) (cB : ClassId) (sb bv : Nat) (g : Nat → Int32) (n : Int) (tx : List Int) (k : Nat) (hk : k < 2) (hn : (tx.length : Int) = n) (hT : zTx g tx) (h : n + 2 ≤ 16) : zXr sb (zJ dO dT fm aK aV) l yJ5_append_cf1ce wsJ5_append_cf1ce rmJ5_append_cf1ce D [(cB, .byte)] [.ref sb, .ref (aK k)] [(sb, .inr (0, [.ref bv, .int (iI 0), .int (iI 0), .int (iI n)])), (bv, .inl (cB, 16, .inl g))] sz (S := (Nat → Int32)) (fun u => zTx u (tx ++ [(if k = 0 then 97 else 112), 109])) (fun u => [(sb, .inr (0, [.ref bv, .int (iI 0), .int (iI 0), .int (iI (n + 2))])), (bv, .inl (cB, 16, .inl u))]) 0 0 := by
  refine z_startXr (cc := cJ5_append_cf1ce) (maxL := 3) (rn := "java/lang/AbstractStringBuilder") (own := RJ5) (nm := "append") (by decide) rfl rfl rfl (Nat.le_of_ble_eq_true rfl) ?_
  intro p e R s m args below meth c A Q ls H locs hBd hX hP hD hS hl K
  obtain ⟨hx, hb, hml, hown, hts, ⟨hRf, hRl, hRc, hRs⟩, hmn, hK, hN, hA⟩ := hBd
  have hl : lv_has ls 3 [(0, .ref sb), (1, .ref (aK k))] := hl
  have inJ4 : ∀ w ∈ wsJ40, w ∈ wsJ5_append_cf1ce := by decide +kernel
  have kfieldLink_RJ5_79_java_lang_AbstractStringBuilder_count_I := hts (.fieldLink RJ5 79 "java/lang/AbstractStringBuilder" "count" "I") (by decide +kernel)
  have hP : va_P D vwCl [(sb, .inr (0, [.ref bv, .int (iI 0), .int (iI 0), .int (iI n)])), (bv, .inl (cB, 16, .inl g))] H := hP
  have hD : va_D A [(sb, .inr (0, [.ref bv, .int (iI 0), .int (iI 0), .int (iI n)])), (bv, .inl (cB, 16, .inl g))] := hD
  refine lv_aload_n hx hb dJ5_append_cf1ce_0 rfl (lv_at hl 1 rfl) ?_
  refine lv_ifnonnull (tgt := 9) hx hb dJ5_append_cf1ce_1 (by decide) ?_
  refine lv_aload_n hx hb dJ5_append_cf1ce_9 rfl (lv_at hl 1 rfl) ?_
  refine z_calli (w2 := fun _ => [(sb, .inr (0, [.ref bv, .int (iI 0), .int (iI 0), .int (iI n)])), (bv, .inl (cB, 16, .inl g))]) (wc := []) (wr := [(sb, .inr (0, [.ref bv, .int (iI 0), .int (iI 0), .int (iI n)])), (bv, .inl (cB, 16, .inl g))]) (va_runV (As := []) (rest := []) ⟨hx, hb, hml, hown, hts⟩ (c_J0_length_8abf5 l D H.size dO dT fm aK aV k hk) (cwV 0 hts gJ5_append_cf1ce_J0_length_8abf5 rfl rfl rfl (by decide +kernel) ⟨by rw [hRf]; exact Nat.le_of_ble_eq_true rfl, by rw [hRl]; exact Nat.le_of_ble_eq_true rfl⟩) (z_preXK (zJ_ok _ _ _ _ _) (hX.2.2.2.2.2.2.1 k hk).1 hX hS hA hP hD hK hN [] (by decide) rfl rfl [] rfl) rfl rfl hl.1 rfl (lv_room (Nat.le_of_ble_eq_true rfl)) dJ5_append_cf1ce_10 ⟨by rw [hRc]; exact Nat.le_of_ble_eq_true rfl, by rw [hRs]; exact Nat.le_of_ble_eq_true rfl⟩) hP hD hS hA [] [0, 1] rfl rfl (by decide) (by decide) [0, 1] (by decide) (fun _ => rfl) (fun r _ H locs hw hP hD hS => ?_)
  subst hw
  have hP : va_P D vwCl [(sb, .inr (0, [.ref bv, .int (iI 0), .int (iI 0), .int (iI n)])), (bv, .inl (cB, 16, .inl g))] H := hP
  have hD : va_D A [(sb, .inr (0, [.ref bv, .int (iI 0), .int (iI 0), .int (iI n)])), (bv, .inl (cB, 16, .inl g))] := hD
  refine lv_istore_n (lv' := [(2, .int (iI 2)), (0, .ref sb), (1, .ref (aK k))]) hx hb dJ5_append_cf1ce_13 rfl hl (by decide) rfl (fun ls hl => ?_)
  refine lv_aload_n hx hb dJ5_append_cf1ce_14 rfl (lv_at hl 1 rfl) ?_
  refine lv_aload_n hx hb dJ5_append_cf1ce_15 rfl (lv_at hl 1 rfl) ?_
  refine va_get (D := D) (ci := 0) (v := .int (iI n)) (C := RJ4) (T := TJ4) (N := 4) hx hb hts inJ4 hown hK hP 0 rfl rfl 3 (by decide) kfieldLink_RJ5_79_java_lang_AbstractStringBuilder_count_I (fun _ h9 => h9) rfl dJ5_append_cf1ce_16 ?_
  refine lv_iload_n hx hb dJ5_append_cf1ce_19 rfl (lv_at hl 0 rfl) ?_
  refine z_iadd hx hb dJ5_append_cf1ce_20 ?_
  refine z_callv (w2 := fun _ => [(sb, .inr (0, [.ref bv, .int (iI 0), .int (iI 0), .int (iI n)])), (bv, .inl (cB, 16, .inl g))]) (wc := [(sb, .inr (0, [.ref bv, .int (iI 0), .int (iI 0), .int (iI n)])), (bv, .inl (cB, 16, .inl g))]) (wr := []) (va_runU (As := [.int (iI (n + 2))]) (rest := []) ⟨hx, hb, hml, hown, hts⟩ (c_J5_ensureCapacityInternal_d00df l D H.size cB sb bv g n (n + 2) (by omega)) (va_cwU 1 hts gJ5_append_cf1ce_J5_ensureCapacityInternal_d00df_u100J4 rfl rfl rfl rfl ⟨by decide, by decide, by decide +kernel⟩ ⟨by rw [hRf]; exact Nat.le_of_ble_eq_true rfl, by rw [hRl]; exact Nat.le_of_ble_eq_true rfl⟩) (z_preV hP hD hK hN [0, 1] (by decide) rfl rfl [0] rfl (q0 := 0) rfl (ci := 0) rfl) rfl rfl hl.1 rfl (lv_room (Nat.le_of_ble_eq_true rfl)) dJ5_append_cf1ce_21 ⟨by rw [hRc]; exact Nat.le_of_ble_eq_true rfl, by rw [hRs]; exact Nat.le_of_ble_eq_true rfl⟩) hP hD hS hA [0, 1] [] rfl rfl (by decide) (by decide) [0, 1] (by decide) (fun _ => rfl) (fun _ H locs hw hP hD hS => ?_)
  have hP : va_P D vwCl [(sb, .inr (0, [.ref bv, .int (iI 0), .int (iI 0), .int (iI n)])), (bv, .inl (cB, 16, .inl g))] H := hP
  have hD : va_D A [(sb, .inr (0, [.ref bv, .int (iI 0), .int (iI 0), .int (iI n)])), (bv, .inl (cB, 16, .inl g))] := hD
  refine lv_aload_n hx hb dJ5_append_cf1ce_24 rfl (lv_at hl 1 rfl) ?_
  refine lv_aload_n hx hb dJ5_append_cf1ce_25 rfl (lv_at hl 1 rfl) ?_
  refine va_get (D := D) (ci := 0) (v := .int (iI n)) (C := RJ4) (T := TJ4) (N := 4) hx hb hts inJ4 hown hK hP 0 rfl rfl 3 (by decide) kfieldLink_RJ5_79_java_lang_AbstractStringBuilder_count_I (fun _ h9 => h9) rfl dJ5_append_cf1ce_26 ?_
  refine lv_aload_n hx hb dJ5_append_cf1ce_29 rfl (lv_at hl 2 rfl) ?_
  refine z_callv (w2 := fun _ => [(sb, .inr (0, [.ref bv, .int (iI 0), .int (iI 0), .int (iI n)])), (bv, .inl (cB, 16, .inl (va_cpy (fun j => iI (if j = 0 then (if k = 0 then 97 else 112) else 109)) g 0 n.toNat 2)))]) (wc := [(sb, .inr (0, [.ref bv, .int (iI 0), .int (iI 0), .int (iI n)])), (bv, .inl (cB, 16, .inl g))]) (wr := []) (va_runU (As := [.int (iI n), .ref (aK k)]) (rest := []) ⟨hx, hb, hml, hown, hts⟩ (c_J5_putStringAt_47b60 l D H.size dO dT fm aK aV cB sb bv g n k hk (by omega)) (va_cwU 2 hts gJ5_append_cf1ce_J5_putStringAt_47b60_u208J4 rfl rfl rfl rfl ⟨by decide, by decide, by decide +kernel⟩ ⟨by rw [hRf]; exact Nat.le_of_ble_eq_true rfl, by rw [hRl]; exact Nat.le_of_ble_eq_true rfl⟩) (z_preXV (zJ_ok _ _ _ _ _) hX hS hA hP hD hK hN [0, 1] (by decide) rfl rfl [0] rfl (q0 := 0) rfl (ci := 0) rfl) rfl rfl hl.1 rfl (lv_room (Nat.le_of_ble_eq_true rfl)) dJ5_append_cf1ce_30 ⟨by rw [hRc]; exact Nat.le_of_ble_eq_true rfl, by rw [hRs]; exact Nat.le_of_ble_eq_true rfl⟩) hP hD hS hA [0, 1] [] rfl rfl (by decide) (by decide) [0, 1] (by decide) (fun _ => rfl) (fun _ H locs hw hP hD hS => ?_)
  have hP : va_P D vwCl [(sb, .inr (0, [.ref bv, .int (iI 0), .int (iI 0), .int (iI n)])), (bv, .inl (cB, 16, .inl (va_cpy (fun j => iI (if j = 0 then (if k = 0 then 97 else 112) else 109)) g 0 n.toNat 2)))] H := hP
  have hD : va_D A [(sb, .inr (0, [.ref bv, .int (iI 0), .int (iI 0), .int (iI n)])), (bv, .inl (cB, 16, .inl (va_cpy (fun j => iI (if j = 0 then (if k = 0 then 97 else 112) else 109)) g 0 n.toNat 2)))] := hD
  refine lv_aload_n hx hb dJ5_append_cf1ce_33 rfl (lv_at hl 1 rfl) ?_
  refine lv_dup hx hb dJ5_append_cf1ce_34 rfl ?_
  refine va_get (D := D) (ci := 0) (v := .int (iI n)) (C := RJ4) (T := TJ4) (N := 4) hx hb hts inJ4 hown hK hP 0 rfl rfl 3 (by decide) kfieldLink_RJ5_79_java_lang_AbstractStringBuilder_count_I (fun _ h9 => h9) rfl dJ5_append_cf1ce_35 ?_
  refine lv_iload_n hx hb dJ5_append_cf1ce_38 rfl (lv_at hl 0 rfl) ?_
  refine z_iadd hx hb dJ5_append_cf1ce_39 ?_
  refine va_put (D := D) (ci := 0) (v := .int (iI (n + 2))) (ty := .int) (C := RJ4) (T := TJ4) (N := 4) hx hb hts inJ4 tyJ4 tyJ4_ok nmJ4 hown hK hP hD hS 0 rfl rfl 3 (by decide) kfieldLink_RJ5_79_java_lang_AbstractStringBuilder_count_I (fun _ h9 => h9) rfl (by decide +kernel) rfl rfl (Nat.le_of_ble_eq_true rfl) dJ5_append_cf1ce_40 (fun H locs hP hD hS => ?_)
  have hP : va_P D vwCl [(sb, .inr (0, [.ref bv, .int (iI 0), .int (iI 0), .int (iI (n + 2))])), (bv, .inl (cB, 16, .inl (va_cpy (fun j => iI (if j = 0 then (if k = 0 then 97 else 112) else 109)) g 0 n.toNat 2)))] H := hP
  have hD : va_D A [(sb, .inr (0, [.ref bv, .int (iI 0), .int (iI 0), .int (iI (n + 2))])), (bv, .inl (cB, 16, .inl (va_cpy (fun j => iI (if j = 0 then (if k = 0 then 97 else 112) else 109)) g 0 n.toNat 2)))] := hD
  refine lv_aload_n hx hb dJ5_append_cf1ce_43 rfl (lv_at hl 1 rfl) ?_
  exact K H locs (va_cpy (fun j => iI (if j = 0 then (if k = 0 then 97 else 112) else 109)) g 0 n.toNat 2) _ ls 0 0 (by omega) (by omega) (tx_cpy hT (by omega)) hP hD hS dJ5_append_cf1ce_44

abbrev rmJ4_append_15ec4 : Room := { frames := 5, cells := 0, slots := 0, locals := 127 }
set_option maxHeartbeats 4000000 in
set_option maxRecDepth 100000 in
theorem c_J4_append_15ec4 (l : Launch) (D : va_G) (sz : Nat) (dO dT : Nat) (fm : Option Nat) (aK aV : Nat → Nat) (cB : ClassId) (sb bv : Nat) (g : Nat → Int32) (n : Int) (tx : List Int) (k : Nat) (hk : k < 2) (hn : (tx.length : Int) = n) (hT : zTx g tx) (h : n + 2 ≤ 16) : zXr sb (zJ dO dT fm aK aV) l yJ4_append_15ec4 wsJ4_append_15ec4 rmJ4_append_15ec4 D [(cB, .byte)] [.ref sb, .ref (aK k)] [(sb, .inr (0, [.ref bv, .int (iI 0), .int (iI 0), .int (iI n)])), (bv, .inl (cB, 16, .inl g))] sz (S := (Nat → Int32)) (fun u => zTx u (tx ++ [(if k = 0 then 97 else 112), 109])) (fun u => [(sb, .inr (0, [.ref bv, .int (iI 0), .int (iI 0), .int (iI (n + 2))])), (bv, .inl (cB, 16, .inl u))]) 0 0 := by
  refine z_startXr (cc := cJ4_append_15ec4) (maxL := 2) (rn := "java/lang/StringBuilder") (own := RJ4) (nm := "append") (by decide) rfl rfl rfl (Nat.le_of_ble_eq_true rfl) ?_
  intro p e R s m args below meth c A Q ls H locs hBd hX hP hD hS hl K
  obtain ⟨hx, hb, hml, hown, hts, ⟨hRf, hRl, hRc, hRs⟩, hmn, hK, hN, hA⟩ := hBd
  have hl : lv_has ls 2 [(0, .ref sb), (1, .ref (aK k))] := hl
  have hP : va_P D vwCl [(sb, .inr (0, [.ref bv, .int (iI 0), .int (iI 0), .int (iI n)])), (bv, .inl (cB, 16, .inl g))] H := hP
  have hD : va_D A [(sb, .inr (0, [.ref bv, .int (iI 0), .int (iI 0), .int (iI n)])), (bv, .inl (cB, 16, .inl g))] := hD
  refine lv_aload_n hx hb dJ4_append_15ec4_0 rfl (lv_at hl 0 rfl) ?_
  refine lv_aload_n hx hb dJ4_append_15ec4_1 rfl (lv_at hl 1 rfl) ?_
  refine z_callr (w2 := fun u => [(sb, .inr (0, [.ref bv, .int (iI 0), .int (iI 0), .int (iI (n + 2))])), (bv, .inl (cB, 16, .inl u))]) (wc := [(sb, .inr (0, [.ref bv, .int (iI 0), .int (iI 0), .int (iI n)])), (bv, .inl (cB, 16, .inl g))]) (wr := []) (va_runSU (As := [.ref (aK k)]) (rest := []) (hK.1 0 _ rfl).2 ⟨hx, hb, hml, hown, hts⟩ (c_J5_append_cf1ce l D H.size dO dT fm aK aV cB sb bv g n tx k hk hn hT h) (va_cwSU 1 hts gJ4_append_15ec4_J5_append_cf1ce_s29 rfl rfl rfl ⟨by decide, by decide +kernel⟩ ⟨by rw [hRf]; exact Nat.le_of_ble_eq_true rfl, by rw [hRl]; exact Nat.le_of_ble_eq_true rfl⟩) (z_preXV (zJ_ok _ _ _ _ _) hX hS hA hP hD hK hN [0, 1] (by decide) rfl rfl [0] rfl (q0 := 0) rfl (ci := 0) rfl) rfl rfl hl.1 rfl (lv_room (Nat.le_of_ble_eq_true rfl)) dJ4_append_15ec4_2 ⟨by rw [hRc]; exact Nat.le_of_ble_eq_true rfl, by rw [hRs]; exact Nat.le_of_ble_eq_true rfl⟩) hP hD hS hA [0, 1] [] rfl rfl (by decide) (by decide) [0, 1] (by decide) (fun _ => rfl) (fun u H locs hw hP hD hS => ?_)
  have hw : zTx u (tx ++ [(if k = 0 then 97 else 112), 109]) := hw
  have hP : va_P D vwCl [(sb, .inr (0, [.ref bv, .int (iI 0), .int (iI 0), .int (iI (n + 2))])), (bv, .inl (cB, 16, .inl u))] H := hP
  have hD : va_D A [(sb, .inr (0, [.ref bv, .int (iI 0), .int (iI 0), .int (iI (n + 2))])), (bv, .inl (cB, 16, .inl u))] := hD
  refine lv_pop hx hb dJ4_append_15ec4_5 rfl ?_
  refine lv_aload_n hx hb dJ4_append_15ec4_6 rfl (lv_at hl 0 rfl) ?_
  exact K H locs u _ ls 0 0 (by omega) (by omega) hw hP hD hS dJ4_append_15ec4_7

abbrev rmJ5_length_8abf5 : Room := { frames := 0, cells := 0, slots := 0, locals := 0 }
set_option maxHeartbeats 4000000 in
set_option maxRecDepth 100000 in
theorem c_J5_length_8abf5 (l : Launch) (D : va_G) (sz : Nat) (sb bv : Nat) (n : Int) : zMi l yJ5_length_8abf5 wsJ5_length_8abf5 rmJ5_length_8abf5 D [] [.ref sb] [(sb, .inr (0, [.ref bv, .int (iI 0), .int (iI 0), .int (iI n)]))] sz (S := Unit) (fun r _ => r = iI n) (fun _ => [(sb, .inr (0, [.ref bv, .int (iI 0), .int (iI 0), .int (iI n)]))]) 0 0 := by
  refine z_starti (cc := cJ5_length_8abf5) (maxL := 1) (ty := .int) (own := RJ5) (nm := "length") (by decide) rfl rfl rfl (Nat.le_of_ble_eq_true rfl) ?_
  intro p e R s m args below meth c A Q ls H locs hBd hP hD hS hl K
  obtain ⟨hx, hb, hml, hown, hts, ⟨hRf, hRl, hRc, hRs⟩, hmn, hK, hN, hA⟩ := hBd
  have hl : lv_has ls 1 [(0, .ref sb)] := hl
  have inJ4 : ∀ w ∈ wsJ40, w ∈ wsJ5_length_8abf5 := by decide +kernel
  have kfieldLink_RJ5_79_java_lang_AbstractStringBuilder_count_I := hts (.fieldLink RJ5 79 "java/lang/AbstractStringBuilder" "count" "I") (by decide +kernel)
  have hP : va_P D vwCl [(sb, .inr (0, [.ref bv, .int (iI 0), .int (iI 0), .int (iI n)]))] H := hP
  have hD : va_D A [(sb, .inr (0, [.ref bv, .int (iI 0), .int (iI 0), .int (iI n)]))] := hD
  refine lv_aload_n hx hb dJ5_length_8abf5_0 rfl (lv_at hl 0 rfl) ?_
  refine va_get (D := D) (ci := 0) (v := .int (iI n)) (C := RJ4) (T := TJ4) (N := 4) hx hb hts inJ4 hown hK hP 0 rfl rfl 3 (by decide) kfieldLink_RJ5_79_java_lang_AbstractStringBuilder_count_I (fun _ h9 => h9) rfl dJ5_length_8abf5_1 ?_
  exact K H locs _ () _ ls 0 0 (by omega) (by omega) rfl rfl hP hD hS dJ5_length_8abf5_4

abbrev rmJ4_length_8abf5 : Room := { frames := 1, cells := 0, slots := 0, locals := 20 }
set_option maxHeartbeats 4000000 in
set_option maxRecDepth 100000 in
theorem c_J4_length_8abf5 (l : Launch) (D : va_G) (sz : Nat) (sb bv : Nat) (n : Int) : zMi l yJ4_length_8abf5 wsJ4_length_8abf5 rmJ4_length_8abf5 D [] [.ref sb] [(sb, .inr (0, [.ref bv, .int (iI 0), .int (iI 0), .int (iI n)]))] sz (S := Unit) (fun r _ => r = iI n) (fun _ => [(sb, .inr (0, [.ref bv, .int (iI 0), .int (iI 0), .int (iI n)]))]) 0 0 := by
  refine z_starti (cc := cJ4_length_8abf5) (maxL := 1) (ty := .int) (own := RJ4) (nm := "length") (by decide) rfl rfl rfl (Nat.le_of_ble_eq_true rfl) ?_
  intro p e R s m args below meth c A Q ls H locs hBd hP hD hS hl K
  obtain ⟨hx, hb, hml, hown, hts, ⟨hRf, hRl, hRc, hRs⟩, hmn, hK, hN, hA⟩ := hBd
  have hl : lv_has ls 1 [(0, .ref sb)] := hl
  have hP : va_P D vwCl [(sb, .inr (0, [.ref bv, .int (iI 0), .int (iI 0), .int (iI n)]))] H := hP
  have hD : va_D A [(sb, .inr (0, [.ref bv, .int (iI 0), .int (iI 0), .int (iI n)]))] := hD
  refine lv_aload_n hx hb dJ4_length_8abf5_0 rfl (lv_at hl 0 rfl) ?_
  refine z_calli (w2 := fun _ => [(sb, .inr (0, [.ref bv, .int (iI 0), .int (iI 0), .int (iI n)]))]) (wc := [(sb, .inr (0, [.ref bv, .int (iI 0), .int (iI 0), .int (iI n)]))]) (wr := []) (va_runSU (As := []) (rest := []) (hK.1 0 _ rfl).2 ⟨hx, hb, hml, hown, hts⟩ (c_J5_length_8abf5 l D H.size sb bv n) (va_cwSU 0 hts gJ4_length_8abf5_J5_length_8abf5_s343 rfl rfl rfl ⟨by decide, by decide +kernel⟩ ⟨by rw [hRf]; exact Nat.le_of_ble_eq_true rfl, by rw [hRl]; exact Nat.le_of_ble_eq_true rfl⟩) (z_preV hP hD hK hN [0] (by decide) rfl rfl [] rfl (q0 := 0) rfl (ci := 0) rfl) rfl rfl hl.1 rfl (lv_room (Nat.le_of_ble_eq_true rfl)) dJ4_length_8abf5_1 ⟨by rw [hRc]; exact Nat.le_of_ble_eq_true rfl, by rw [hRs]; exact Nat.le_of_ble_eq_true rfl⟩) hP hD hS hA [0] [] rfl rfl (by decide) (by decide) [0] (by decide) (fun _ => rfl) (fun r _ H locs hw hP hD hS => ?_)
  subst hw
  have hP : va_P D vwCl [(sb, .inr (0, [.ref bv, .int (iI 0), .int (iI 0), .int (iI n)]))] H := hP
  have hD : va_D A [(sb, .inr (0, [.ref bv, .int (iI 0), .int (iI 0), .int (iI n)]))] := hD
  exact K H locs _ () _ ls 0 0 (by omega) (by omega) rfl rfl hP hD hS dJ4_length_8abf5_4

abbrev rmJ3_checkIndex_z : Room := { frames := 0, cells := 0, slots := 0, locals := 0 }
set_option maxHeartbeats 4000000 in
set_option maxRecDepth 100000 in
theorem c_J3_checkIndex_z (l : Launch) (D : va_G) (sz : Nat) (x n : Int) (h : (0 ≤ x ∧ x < n) ∧ n ≤ 100000) : zMi l yJ3_checkIndex_8e157 wsJ3_checkIndex_8e157 rmJ3_checkIndex_z D [] [.int (iI x), .int (iI n), .null] [] sz (S := Unit) (fun _ _ => True) (fun _ => []) 0 0 := by
  refine z_starti (cc := cJ3_checkIndex_8e157) (maxL := 3) (ty := .int) (own := RJ3) (nm := "checkIndex") (by decide) rfl rfl rfl (Nat.le_of_ble_eq_true rfl) ?_
  intro p e R s m args below meth c A Q ls H locs hBd hP hD hS hl K
  obtain ⟨hx, hb, hml, hown, hts, ⟨hRf, hRl, hRc, hRs⟩, hmn, hK, hN, hA⟩ := hBd
  have hl : lv_has ls 3 [(0, .int (iI x)), (1, .int (iI n)), (2, .null)] := hl
  have hP : va_P D vwCl [] H := hP
  have hD : va_D A [] := hD
  refine lv_iload_n hx hb dJ3_checkIndex_8e157_0 rfl (lv_at hl 0 rfl) ?_
  refine z_if_lt hx hb 9 (by omega) dJ3_checkIndex_8e157_1 (by decide) (fun c1 => absurd c1 (by omega)) (fun c1 => ?_)
  refine lv_iload_n hx hb dJ3_checkIndex_8e157_4 rfl (lv_at hl 0 rfl) ?_
  refine lv_iload_n hx hb dJ3_checkIndex_8e157_5 rfl (lv_at hl 1 rfl) ?_
  refine z_icmp_lt hx hb 16 (by omega) dJ3_checkIndex_8e157_6 (by decide) (fun c6 => ?_) (fun c6 => absurd c6 (by omega))
  refine lv_iload_n hx hb dJ3_checkIndex_8e157_16 rfl (lv_at hl 0 rfl) ?_
  exact K H locs _ () _ ls 0 0 (by omega) (by omega) rfl trivial hP hD hS dJ3_checkIndex_8e157_17

abbrev rmJ0_checkIndex_z : Room := { frames := 1, cells := 0, slots := 0, locals := 22 }
set_option maxHeartbeats 4000000 in
set_option maxRecDepth 100000 in
theorem c_J0_checkIndex_z (l : Launch) (D : va_G) (sz : Nat) (dO dT : Nat) (aK aV : Nat → Nat) (x n : Int) (h : (0 ≤ x ∧ x < n) ∧ n ≤ 100000) : zXv (zJ dO dT none aK aV) l yJ0_checkIndex_df160 wsJ0_checkIndex_df160 rmJ0_checkIndex_z D [] [.int (iI x), .int (iI n)] [] sz (S := Unit) (fun _ => True) (fun _ => []) 0 0 := by
  refine z_startXv (cc := cJ0_checkIndex_df160) (maxL := 2) (own := RJ0) (nm := "checkIndex") (by decide) rfl rfl rfl (Nat.le_of_ble_eq_true rfl) ?_
  intro p e R s m args below meth c A Q ls H locs hBd hX hP hD hS hl K
  obtain ⟨hx, hb, hml, hown, hts, ⟨hRf, hRl, hRc, hRs⟩, hmn, hK, hN, hA⟩ := hBd
  have hl : lv_has ls 2 [(0, .int (iI x)), (1, .int (iI n))] := hl
  have kfieldLink_RJ0_1053_jdk_internal_util_Preconditions_SIOOBE_FO := hts (.fieldLink RJ0 1053 "jdk/internal/util/Preconditions" "SIOOBE_FORMATTER" "Ljava/util/function/BiFunction;") (by decide +kernel)
  have hP : va_P D vwCl [] H := hP
  have hD : va_D A [] := hD
  refine lv_iload_n hx hb dJ0_checkIndex_df160_0 rfl (lv_at hl 0 rfl) ?_
  refine lv_iload_n hx hb dJ0_checkIndex_df160_1 rfl (lv_at hl 1 rfl) ?_
  refine va_gets (v := .null) hx hb hX.2.2.2.1 hS hown kfieldLink_RJ0_1053_jdk_internal_util_Preconditions_SIOOBE_FO (fun _ h9 => h9) dJ0_checkIndex_df160_2 ?_
  refine z_calli (w2 := fun _ => []) (wc := []) (wr := []) (va_runS (As := [.int (iI x), .int (iI n), .null]) (rest := []) ⟨hx, hb, hml, hown, hts⟩ (c_J3_checkIndex_z l D H.size x n h) (va_cwS 3 hts gJ0_checkIndex_df160_J3_checkIndex_8e157 rfl rfl rfl (by decide +kernel) ⟨by rw [hRf]; exact Nat.le_of_ble_eq_true rfl, by rw [hRl]; exact Nat.le_of_ble_eq_true rfl⟩) (z_preS hP hD hK hN [] (by decide) rfl rfl [] rfl) rfl rfl hl.1 rfl (lv_room (Nat.le_of_ble_eq_true rfl)) dJ0_checkIndex_df160_5 ⟨by rw [hRc]; exact Nat.le_of_ble_eq_true rfl, by rw [hRs]; exact Nat.le_of_ble_eq_true rfl⟩) hP hD hS hA [] [] rfl rfl (by decide) (by decide) [] (by decide) (fun _ => rfl) (fun r _ H locs hw hP hD hS => ?_)
  have hP : va_P D vwCl [] H := hP
  have hD : va_D A [] := hD
  refine lv_pop hx hb dJ0_checkIndex_df160_8 rfl ?_
  exact K H locs () _ ls 0 0 (by omega) (by omega) trivial hP hD hS dJ0_checkIndex_df160_9

abbrev rmJ3_checkIndex_r : Room := { frames := 0, cells := 0, slots := 0, locals := 0 }
set_option maxHeartbeats 4000000 in
set_option maxRecDepth 100000 in
theorem c_J3_checkIndex_r (l : Launch) (D : va_G) (sz : Nat) (fm : Nat) (x n : Int) (h : (0 ≤ x ∧ x < n) ∧ n ≤ 100000) : zMi l yJ3_checkIndex_8e157 wsJ3_checkIndex_8e157 rmJ3_checkIndex_r D [] [.int (iI x), .int (iI n), .ref fm] [] sz (S := Unit) (fun _ _ => True) (fun _ => []) 0 0 := by
  refine z_starti (cc := cJ3_checkIndex_8e157) (maxL := 3) (ty := .int) (own := RJ3) (nm := "checkIndex") (by decide) rfl rfl rfl (Nat.le_of_ble_eq_true rfl) ?_
  intro p e R s m args below meth c A Q ls H locs hBd hP hD hS hl K
  obtain ⟨hx, hb, hml, hown, hts, ⟨hRf, hRl, hRc, hRs⟩, hmn, hK, hN, hA⟩ := hBd
  have hl : lv_has ls 3 [(0, .int (iI x)), (1, .int (iI n)), (2, .ref fm)] := hl
  have hP : va_P D vwCl [] H := hP
  have hD : va_D A [] := hD
  refine lv_iload_n hx hb dJ3_checkIndex_8e157_0 rfl (lv_at hl 0 rfl) ?_
  refine z_if_lt hx hb 9 (by omega) dJ3_checkIndex_8e157_1 (by decide) (fun c1 => absurd c1 (by omega)) (fun c1 => ?_)
  refine lv_iload_n hx hb dJ3_checkIndex_8e157_4 rfl (lv_at hl 0 rfl) ?_
  refine lv_iload_n hx hb dJ3_checkIndex_8e157_5 rfl (lv_at hl 1 rfl) ?_
  refine z_icmp_lt hx hb 16 (by omega) dJ3_checkIndex_8e157_6 (by decide) (fun c6 => ?_) (fun c6 => absurd c6 (by omega))
  refine lv_iload_n hx hb dJ3_checkIndex_8e157_16 rfl (lv_at hl 0 rfl) ?_
  exact K H locs _ () _ ls 0 0 (by omega) (by omega) rfl trivial hP hD hS dJ3_checkIndex_8e157_17

abbrev rmJ0_checkIndex_r : Room := { frames := 1, cells := 0, slots := 0, locals := 22 }
set_option maxHeartbeats 4000000 in
set_option maxRecDepth 100000 in
theorem c_J0_checkIndex_r (l : Launch) (D : va_G) (sz : Nat) (dO dT : Nat) (fm : Nat) (aK aV : Nat → Nat) (x n : Int) (h : (0 ≤ x ∧ x < n) ∧ n ≤ 100000) : zXv (zJ dO dT (some fm) aK aV) l yJ0_checkIndex_df160 wsJ0_checkIndex_df160 rmJ0_checkIndex_r D [] [.int (iI x), .int (iI n)] [] sz (S := Unit) (fun _ => True) (fun _ => []) 0 0 := by
  refine z_startXv (cc := cJ0_checkIndex_df160) (maxL := 2) (own := RJ0) (nm := "checkIndex") (by decide) rfl rfl rfl (Nat.le_of_ble_eq_true rfl) ?_
  intro p e R s m args below meth c A Q ls H locs hBd hX hP hD hS hl K
  obtain ⟨hx, hb, hml, hown, hts, ⟨hRf, hRl, hRc, hRs⟩, hmn, hK, hN, hA⟩ := hBd
  have hl : lv_has ls 2 [(0, .int (iI x)), (1, .int (iI n))] := hl
  have kfieldLink_RJ0_1053_jdk_internal_util_Preconditions_SIOOBE_FO := hts (.fieldLink RJ0 1053 "jdk/internal/util/Preconditions" "SIOOBE_FORMATTER" "Ljava/util/function/BiFunction;") (by decide +kernel)
  have hP : va_P D vwCl [] H := hP
  have hD : va_D A [] := hD
  refine lv_iload_n hx hb dJ0_checkIndex_df160_0 rfl (lv_at hl 0 rfl) ?_
  refine lv_iload_n hx hb dJ0_checkIndex_df160_1 rfl (lv_at hl 1 rfl) ?_
  refine va_gets (v := .ref fm) hx hb hX.2.2.2.1 hS hown kfieldLink_RJ0_1053_jdk_internal_util_Preconditions_SIOOBE_FO (fun _ h9 => h9) dJ0_checkIndex_df160_2 ?_
  refine z_calli (w2 := fun _ => []) (wc := []) (wr := []) (va_runS (As := [.int (iI x), .int (iI n), .ref fm]) (rest := []) ⟨hx, hb, hml, hown, hts⟩ (c_J3_checkIndex_r l D H.size fm x n h) (va_cwS 3 hts gJ0_checkIndex_df160_J3_checkIndex_8e157 rfl rfl rfl (by decide +kernel) ⟨by rw [hRf]; exact Nat.le_of_ble_eq_true rfl, by rw [hRl]; exact Nat.le_of_ble_eq_true rfl⟩) (z_preS hP hD hK hN [] (by decide) rfl rfl [] rfl) rfl rfl hl.1 rfl (lv_room (Nat.le_of_ble_eq_true rfl)) dJ0_checkIndex_df160_5 ⟨by rw [hRc]; exact Nat.le_of_ble_eq_true rfl, by rw [hRs]; exact Nat.le_of_ble_eq_true rfl⟩) hP hD hS hA [] [] rfl rfl (by decide) (by decide) [] (by decide) (fun _ => rfl) (fun r _ H locs hw hP hD hS => ?_)
  have hP : va_P D vwCl [] H := hP
  have hD : va_D A [] := hD
  refine lv_pop hx hb dJ0_checkIndex_df160_8 rfl ?_
  exact K H locs () _ ls 0 0 (by omega) (by omega) trivial hP hD hS dJ0_checkIndex_df160_9

theorem c_J0_checkIndex (l : Launch) (D : va_G) (sz : Nat) (dO dT : Nat) (fm : Option Nat) (aK aV : Nat → Nat) (x n : Int) (h : (0 ≤ x ∧ x < n) ∧ n ≤ 100000) : zXv (zJ dO dT fm aK aV) l yJ0_checkIndex_df160 wsJ0_checkIndex_df160 rmJ0_checkIndex_z D [] [.int (iI x), .int (iI n)] [] sz (S := Unit) (fun _ => True) (fun _ => []) 0 0 := by
  cases fm with
  | none => exact c_J0_checkIndex_z l D sz dO dT aK aV x n h
  | some t => exact c_J0_checkIndex_r l D sz dO dT t aK aV x n h

abbrev rmJ5_charAt_5068e : Room := { frames := 2, cells := 0, slots := 0, locals := 43 }
set_option maxHeartbeats 4000000 in
set_option maxRecDepth 100000 in
theorem c_J5_charAt_5068e (l : Launch) (D : va_G) (sz : Nat) (dO dT : Nat) (fm : Option Nat) (aK aV : Nat → Nat) (cB : ClassId) (sb bv : Nat) (g : Nat → Int32) (n x y : Int) (h : (0 ≤ x ∧ x < n) ∧ n ≤ 16 ∧ 0 ≤ y ∧ y < 128) (hc : g x.toNat = iI y) : zXi (zJ dO dT fm aK aV) l yJ5_charAt_5068e wsJ5_charAt_5068e rmJ5_charAt_5068e D [(cB, .byte)] [.ref sb, .int (iI x)] [(sb, .inr (0, [.ref bv, .int (iI 0), .int (iI 0), .int (iI n)])), (bv, .inl (cB, 16, .inl g))] sz (S := Unit) (fun r _ => r = iI y) (fun _ => [(sb, .inr (0, [.ref bv, .int (iI 0), .int (iI 0), .int (iI n)])), (bv, .inl (cB, 16, .inl g))]) 0 0 := by
  refine z_startXi (cc := cJ5_charAt_5068e) (maxL := 5) (ty := .char) (own := RJ5) (nm := "charAt") (by decide) rfl rfl rfl (Nat.le_of_ble_eq_true rfl) ?_
  intro p e R s m args below meth c A Q ls H locs hBd hX hP hD hS hl K
  obtain ⟨hx, hb, hml, hown, hts, ⟨hRf, hRl, hRc, hRs⟩, hmn, hK, hN, hA⟩ := hBd
  have hl : lv_has ls 5 [(0, .ref sb), (1, .int (iI x))] := hl
  have inJ4 : ∀ w ∈ wsJ40, w ∈ wsJ5_charAt_5068e := by decide +kernel
  have kcode_Lib_Math_min_name_Lib_Math_min_code_2_some_int := hts (.code Lib.Math.min.name Lib.Math.min.code 2 (some .int)) (by decide +kernel)
  have kfieldLink_RJ5_15_java_lang_AbstractStringBuilder_value_B := hts (.fieldLink RJ5 15 "java/lang/AbstractStringBuilder" "value" "[B") (by decide +kernel)
  have kfieldLink_RJ5_22_java_lang_AbstractStringBuilder_coder_B := hts (.fieldLink RJ5 22 "java/lang/AbstractStringBuilder" "coder" "B") (by decide +kernel)
  have kfieldLink_RJ5_79_java_lang_AbstractStringBuilder_count_I := hts (.fieldLink RJ5 79 "java/lang/AbstractStringBuilder" "count" "I") (by decide +kernel)
  have kinitialized_java_lang_Math := hts (.initialized "java/lang/Math") (by decide +kernel)
  have kmethodLink_RJ5_138_Lib_Math_min_name := hts (.methodLink RJ5 138 Lib.Math.min.name) (by decide +kernel)
  have kstatic_Lib_Math_min_name := hts (.static Lib.Math.min.name) (by decide +kernel)
  have hP : va_P D vwCl [(sb, .inr (0, [.ref bv, .int (iI 0), .int (iI 0), .int (iI n)])), (bv, .inl (cB, 16, .inl g))] H := hP
  have hD : va_D A [(sb, .inr (0, [.ref bv, .int (iI 0), .int (iI 0), .int (iI n)])), (bv, .inl (cB, 16, .inl g))] := hD
  refine lv_aload_n hx hb dJ5_charAt_5068e_0 rfl (lv_at hl 0 rfl) ?_
  refine va_get (D := D) (ci := 0) (v := .int (iI 0)) (C := RJ4) (T := TJ4) (N := 4) hx hb hts inJ4 hown hK hP 0 rfl rfl 1 (by decide) kfieldLink_RJ5_22_java_lang_AbstractStringBuilder_coder_B (fun _ h9 => h9) rfl dJ5_charAt_5068e_1 ?_
  refine lv_istore_n (lv' := [(2, .int (iI 0)), (0, .ref sb), (1, .int (iI x))]) hx hb dJ5_charAt_5068e_4 rfl hl (by decide) rfl (fun ls hl => ?_)
  refine lv_aload_n hx hb dJ5_charAt_5068e_5 rfl (lv_at hl 1 rfl) ?_
  refine va_get (D := D) (ci := 0) (v := .ref bv) (C := RJ4) (T := TJ4) (N := 4) hx hb hts inJ4 hown hK hP 0 rfl rfl 0 (by decide) kfieldLink_RJ5_15_java_lang_AbstractStringBuilder_value_B (fun _ h9 => h9) rfl dJ5_charAt_5068e_6 ?_
  refine lv_astore_n (lv' := [(3, .ref bv), (2, .int (iI 0)), (0, .ref sb), (1, .int (iI x))]) hx hb dJ5_charAt_5068e_9 rfl hl (by decide) rfl (fun ls hl => ?_)
  refine lv_aload_n hx hb dJ5_charAt_5068e_10 rfl (lv_at hl 2 rfl) ?_
  refine va_get (D := D) (ci := 0) (v := .int (iI n)) (C := RJ4) (T := TJ4) (N := 4) hx hb hts inJ4 hown hK hP 0 rfl rfl 3 (by decide) kfieldLink_RJ5_79_java_lang_AbstractStringBuilder_count_I (fun _ h9 => h9) rfl dJ5_charAt_5068e_11 ?_
  refine lv_aload_n hx hb dJ5_charAt_5068e_14 rfl (lv_at hl 0 rfl) ?_
  refine va_alen hx hb hK hP 1 0 rfl rfl (v := iI 16) rfl dJ5_charAt_5068e_15 ?_
  refine lv_iload_n hx hb dJ5_charAt_5068e_16 rfl (lv_at hl 1 rfl) ?_
  refine lv_ishr hx hb dJ5_charAt_5068e_17 ?_
  rw [z_shr0]
  refine z_min hx hb (by rw [hml]; exact hl.1.symm) hown kmethodLink_RJ5_138_Lib_Math_min_name kstatic_Lib_Math_min_name kinitialized_java_lang_Math kcode_Lib_Math_min_name_Lib_Math_min_code_2_some_int (by rw [hRf]; exact Nat.le_of_ble_eq_true rfl) (by rw [hRl]; exact Nat.le_of_ble_eq_true rfl) (Nat.zero_le _) (Nat.zero_le _) (by omega) dJ5_charAt_5068e_18 ?_
  refine lv_istore (lv' := [(4, .int (iI (min n 16))), (3, .ref bv), (2, .int (iI 0)), (0, .ref sb), (1, .int (iI x))]) hx hb dJ5_charAt_5068e_21 hl (by decide) rfl (fun ls hl => ?_)
  refine lv_iload_n hx hb dJ5_charAt_5068e_23 rfl (lv_at hl 4 rfl) ?_
  refine lv_iload hx hb dJ5_charAt_5068e_24 (lv_at hl 0 rfl) ?_
  refine z_callv (w2 := fun _ => [(sb, .inr (0, [.ref bv, .int (iI 0), .int (iI 0), .int (iI n)])), (bv, .inl (cB, 16, .inl g))]) (wc := []) (wr := [(sb, .inr (0, [.ref bv, .int (iI 0), .int (iI 0), .int (iI n)])), (bv, .inl (cB, 16, .inl g))]) (va_runS (As := [.int (iI x), .int (iI (min n 16))]) (rest := []) ⟨hx, hb, hml, hown, hts⟩ (c_J0_checkIndex l D H.size dO dT fm aK aV x (min n 16) (by omega)) (va_cwS 2 hts gJ5_charAt_5068e_J0_checkIndex_df160 rfl rfl rfl (by decide +kernel) ⟨by rw [hRf]; exact Nat.le_of_ble_eq_true rfl, by rw [hRl]; exact Nat.le_of_ble_eq_true rfl⟩) (z_preXS (zJ_ok _ _ _ _ _) hX hS hA hP hD hK hN [] (by decide) rfl rfl [] rfl) rfl rfl hl.1 rfl (lv_room (Nat.le_of_ble_eq_true rfl)) dJ5_charAt_5068e_26 ⟨by rw [hRc]; exact Nat.le_of_ble_eq_true rfl, by rw [hRs]; exact Nat.le_of_ble_eq_true rfl⟩) hP hD hS hA [] [0, 1] rfl rfl (by decide) (by decide) [0, 1] (by decide) (fun _ => rfl) (fun _ H locs hw hP hD hS => ?_)
  have hP : va_P D vwCl [(sb, .inr (0, [.ref bv, .int (iI 0), .int (iI 0), .int (iI n)])), (bv, .inl (cB, 16, .inl g))] H := hP
  have hD : va_D A [(sb, .inr (0, [.ref bv, .int (iI 0), .int (iI 0), .int (iI n)])), (bv, .inl (cB, 16, .inl g))] := hD
  refine lv_iload_n hx hb dJ5_charAt_5068e_29 rfl (lv_at hl 2 rfl) ?_
  refine z_if_ne hx hb 42 (by omega) dJ5_charAt_5068e_30 (by decide) (fun c30 => absurd c30 (by omega)) (fun c30 => ?_)
  refine lv_aload_n hx hb dJ5_charAt_5068e_33 rfl (lv_at hl 1 rfl) ?_
  refine lv_iload_n hx hb dJ5_charAt_5068e_34 rfl (lv_at hl 4 rfl) ?_
  refine z_bald hx hb hK hP 1 0 rfl rfl (by omega) dJ5_charAt_5068e_35 ?_
  rw [hc]
  refine lv_sipush (v := iI 255) hx hb dJ5_charAt_5068e_36 (by decide) ?_
  refine z_iand255 hx hb (by omega) dJ5_charAt_5068e_39 ?_
  refine z_i2c hx hb (by omega) dJ5_charAt_5068e_40 ?_
  exact K H locs _ () _ ls 0 0 (by omega) (by omega) (z_b8i (by omega)).2.2.2.2.2 rfl hP hD hS dJ5_charAt_5068e_41

abbrev rmJ4_charAt_5068e : Room := { frames := 3, cells := 0, slots := 0, locals := 67 }
set_option maxHeartbeats 4000000 in
set_option maxRecDepth 100000 in
theorem c_J4_charAt_5068e (l : Launch) (D : va_G) (sz : Nat) (dO dT : Nat) (fm : Option Nat) (aK aV : Nat → Nat) (cB : ClassId) (sb bv : Nat) (g : Nat → Int32) (n x y : Int) (h : (0 ≤ x ∧ x < n) ∧ n ≤ 16 ∧ 0 ≤ y ∧ y < 128) (hc : g x.toNat = iI y) : zXi (zJ dO dT fm aK aV) l yJ4_charAt_5068e wsJ4_charAt_5068e rmJ4_charAt_5068e D [(cB, .byte)] [.ref sb, .int (iI x)] [(sb, .inr (0, [.ref bv, .int (iI 0), .int (iI 0), .int (iI n)])), (bv, .inl (cB, 16, .inl g))] sz (S := Unit) (fun r _ => r = iI y) (fun _ => [(sb, .inr (0, [.ref bv, .int (iI 0), .int (iI 0), .int (iI n)])), (bv, .inl (cB, 16, .inl g))]) 0 0 := by
  refine z_startXi (cc := cJ4_charAt_5068e) (maxL := 2) (ty := .char) (own := RJ4) (nm := "charAt") (by decide) rfl rfl rfl (Nat.le_of_ble_eq_true rfl) ?_
  intro p e R s m args below meth c A Q ls H locs hBd hX hP hD hS hl K
  obtain ⟨hx, hb, hml, hown, hts, ⟨hRf, hRl, hRc, hRs⟩, hmn, hK, hN, hA⟩ := hBd
  have hl : lv_has ls 2 [(0, .ref sb), (1, .int (iI x))] := hl
  have hP : va_P D vwCl [(sb, .inr (0, [.ref bv, .int (iI 0), .int (iI 0), .int (iI n)])), (bv, .inl (cB, 16, .inl g))] H := hP
  have hD : va_D A [(sb, .inr (0, [.ref bv, .int (iI 0), .int (iI 0), .int (iI n)])), (bv, .inl (cB, 16, .inl g))] := hD
  refine lv_aload_n hx hb dJ4_charAt_5068e_0 rfl (lv_at hl 0 rfl) ?_
  refine lv_iload_n hx hb dJ4_charAt_5068e_1 rfl (lv_at hl 1 rfl) ?_
  refine z_calli (w2 := fun _ => [(sb, .inr (0, [.ref bv, .int (iI 0), .int (iI 0), .int (iI n)])), (bv, .inl (cB, 16, .inl g))]) (wc := [(sb, .inr (0, [.ref bv, .int (iI 0), .int (iI 0), .int (iI n)])), (bv, .inl (cB, 16, .inl g))]) (wr := []) (va_runSU (As := [.int (iI x)]) (rest := []) (hK.1 0 _ rfl).2 ⟨hx, hb, hml, hown, hts⟩ (c_J5_charAt_5068e l D H.size dO dT fm aK aV cB sb bv g n x y h hc) (va_cwSU 1 hts gJ4_charAt_5068e_J5_charAt_5068e_s329 rfl rfl rfl ⟨by decide, by decide +kernel⟩ ⟨by rw [hRf]; exact Nat.le_of_ble_eq_true rfl, by rw [hRl]; exact Nat.le_of_ble_eq_true rfl⟩) (z_preXV (zJ_ok _ _ _ _ _) hX hS hA hP hD hK hN [0, 1] (by decide) rfl rfl [0] rfl (q0 := 0) rfl (ci := 0) rfl) rfl rfl hl.1 rfl (lv_room (Nat.le_of_ble_eq_true rfl)) dJ4_charAt_5068e_2 ⟨by rw [hRc]; exact Nat.le_of_ble_eq_true rfl, by rw [hRs]; exact Nat.le_of_ble_eq_true rfl⟩) hP hD hS hA [0, 1] [] rfl rfl (by decide) (by decide) [0, 1] (by decide) (fun _ => rfl) (fun r _ H locs hw hP hD hS => ?_)
  subst hw
  have hP : va_P D vwCl [(sb, .inr (0, [.ref bv, .int (iI 0), .int (iI 0), .int (iI n)])), (bv, .inl (cB, 16, .inl g))] H := hP
  have hD : va_D A [(sb, .inr (0, [.ref bv, .int (iI 0), .int (iI 0), .int (iI n)])), (bv, .inl (cB, 16, .inl g))] := hD
  exact K H locs _ () _ ls 0 0 (by omega) (by omega) (z_b8i (by omega)).2.2.2.2.2 rfl hP hD hS dJ4_charAt_5068e_5

abbrev rmX4_appendScore : Room := { frames := 3, cells := 0, slots := 0, locals := 70 }
set_option maxHeartbeats 4000000 in
set_option maxRecDepth 100000 in
theorem c_X4_appendScore (l : Launch) (D : va_G) (sz : Nat) (dO dT : Nat) (fm : Option Nat) (aK aV : Nat → Nat) (cB : ClassId) (sb bv : Nat) (g : Nat → Int32) (x y : Int) (h : (-9999 ≤ x ∧ x ≤ 9999) ∧ -9999 ≤ y ∧ y ≤ 9999) : zXv (zJ dO dT fm aK aV) l yX4_appendScore wsX4_appendScore rmX4_appendScore D [(cB, .byte)] [.ref sb, .int (iI x), .int (iI y)] [(sb, .inr (0, [.ref bv, .int (iI 0), .int (iI 0), .int (iI 0)])), (bv, .inl (cB, 16, .inl g))] sz (S := (Nat → Int32)) (fun u => zTx u (stTx 0 x y)) (fun u => [(sb, .inr (0, [.ref bv, .int (iI 0), .int (iI 0), .int (iI (((stTx 0 x y).length : Int)))])), (bv, .inl (cB, 16, .inl u))]) 0 0 := by
  have hlx := dec_len x
  have hdx : 1 ≤ dLen x ∧ dLen x ≤ 5 := by unfold dLen; omega
  have hly := dec_len y
  have hdy : 1 ≤ dLen y ∧ dLen y ≤ 5 := by unfold dLen; omega
  refine z_startXv (cc := cX4_appendScore) (maxL := 3) (own := RX4) (nm := "appendScore") (by decide) rfl rfl rfl (Nat.le_of_ble_eq_true rfl) ?_
  intro p e R s m args below meth c A Q ls H locs hBd hX hP hD hS hl K
  obtain ⟨hx, hb, hml, hown, hts, ⟨hRf, hRl, hRc, hRs⟩, hmn, hK, hN, hA⟩ := hBd
  have hl : lv_has ls 3 [(0, .ref sb), (1, .int (iI x)), (2, .int (iI y))] := hl
  have hP : va_P D vwCl [(sb, .inr (0, [.ref bv, .int (iI 0), .int (iI 0), .int (iI 0)])), (bv, .inl (cB, 16, .inl g))] H := hP
  have hD : va_D A [(sb, .inr (0, [.ref bv, .int (iI 0), .int (iI 0), .int (iI 0)])), (bv, .inl (cB, 16, .inl g))] := hD
  refine lv_aload_n hx hb dX4_appendScore_0 rfl (lv_at hl 0 rfl) ?_
  refine lv_iload_n hx hb dX4_appendScore_1 rfl (lv_at hl 1 rfl) ?_
  refine z_callr (w2 := fun u2 => [(sb, .inr (0, [.ref bv, .int (iI 0), .int (iI 0), .int (iI (0 + dLen x))])), (bv, .inl (cB, 16, .inl u2))]) (wc := [(sb, .inr (0, [.ref bv, .int (iI 0), .int (iI 0), .int (iI 0)])), (bv, .inl (cB, 16, .inl g))]) (wr := []) (va_runV (As := [.int (iI x)]) (rest := []) ⟨hx, hb, hml, hown, hts⟩ (c_J4_append_bf812 l D H.size dO dT fm aK aV cB sb bv g 0 (([] : List Int)) x (by simp only [List.length_append, List.length_cons, List.length_nil]; omega) (tx_nil _) (by omega)) (cwV 1 hts gX4_appendScore_J4_append_bf812 rfl rfl rfl (by decide +kernel) ⟨by rw [hRf]; exact Nat.le_of_ble_eq_true rfl, by rw [hRl]; exact Nat.le_of_ble_eq_true rfl⟩) (z_preXV (zJ_ok _ _ _ _ _) hX hS hA hP hD hK hN [0, 1] (by decide) rfl rfl [0] rfl (q0 := 0) rfl (ci := 0) rfl) rfl rfl hl.1 rfl (lv_room (Nat.le_of_ble_eq_true rfl)) dX4_appendScore_2 ⟨by rw [hRc]; exact Nat.le_of_ble_eq_true rfl, by rw [hRs]; exact Nat.le_of_ble_eq_true rfl⟩) hP hD hS hA [0, 1] [] rfl rfl (by decide) (by decide) [0, 1] (by decide) (fun _ => rfl) (fun u2 H locs hw hP hD hS => ?_)
  have hw2 : zTx u2 (([] : List Int) ++ dec x) := hw
  have hP : va_P D vwCl [(sb, .inr (0, [.ref bv, .int (iI 0), .int (iI 0), .int (iI (0 + dLen x))])), (bv, .inl (cB, 16, .inl u2))] H := hP
  have hD : va_D A [(sb, .inr (0, [.ref bv, .int (iI 0), .int (iI 0), .int (iI (0 + dLen x))])), (bv, .inl (cB, 16, .inl u2))] := hD
  refine lv_pop hx hb dX4_appendScore_5 rfl ?_
  refine lv_aload_n hx hb dX4_appendScore_6 rfl (lv_at hl 0 rfl) ?_
  refine lv_bipush (v := iI 47) hx hb dX4_appendScore_7 (by decide) ?_
  refine z_callr (w2 := fun u9 => [(sb, .inr (0, [.ref bv, .int (iI 0), .int (iI 0), .int (iI ((0 + dLen x) + 1))])), (bv, .inl (cB, 16, .inl u9))]) (wc := [(sb, .inr (0, [.ref bv, .int (iI 0), .int (iI 0), .int (iI (0 + dLen x))])), (bv, .inl (cB, 16, .inl u2))]) (wr := []) (va_runV (As := [.int (iI 47)]) (rest := []) ⟨hx, hb, hml, hown, hts⟩ (c_J4_append_cf468 l D H.size dO dT fm aK aV cB sb bv u2 (0 + dLen x) (([] : List Int) ++ dec x) 47 (by simp only [List.length_append, List.length_cons, List.length_nil]; omega) hw2 (by omega)) (cwV 1 hts gX4_appendScore_J4_append_cf468 rfl rfl rfl (by decide +kernel) ⟨by rw [hRf]; exact Nat.le_of_ble_eq_true rfl, by rw [hRl]; exact Nat.le_of_ble_eq_true rfl⟩) (z_preXV (zJ_ok _ _ _ _ _) hX hS hA hP hD hK hN [0, 1] (by decide) rfl rfl [0] rfl (q0 := 0) rfl (ci := 0) rfl) rfl rfl hl.1 rfl (lv_room (Nat.le_of_ble_eq_true rfl)) dX4_appendScore_9 ⟨by rw [hRc]; exact Nat.le_of_ble_eq_true rfl, by rw [hRs]; exact Nat.le_of_ble_eq_true rfl⟩) hP hD hS hA [0, 1] [] rfl rfl (by decide) (by decide) [0, 1] (by decide) (fun _ => rfl) (fun u9 H locs hw hP hD hS => ?_)
  have hw9 : zTx u9 (([] : List Int) ++ dec x ++ [47]) := hw
  have hP : va_P D vwCl [(sb, .inr (0, [.ref bv, .int (iI 0), .int (iI 0), .int (iI ((0 + dLen x) + 1))])), (bv, .inl (cB, 16, .inl u9))] H := hP
  have hD : va_D A [(sb, .inr (0, [.ref bv, .int (iI 0), .int (iI 0), .int (iI ((0 + dLen x) + 1))])), (bv, .inl (cB, 16, .inl u9))] := hD
  refine lv_pop hx hb dX4_appendScore_12 rfl ?_
  refine lv_aload_n hx hb dX4_appendScore_13 rfl (lv_at hl 0 rfl) ?_
  refine lv_iload_n hx hb dX4_appendScore_14 rfl (lv_at hl 2 rfl) ?_
  refine z_callr (w2 := fun u15 => [(sb, .inr (0, [.ref bv, .int (iI 0), .int (iI 0), .int (iI (((0 + dLen x) + 1) + dLen y))])), (bv, .inl (cB, 16, .inl u15))]) (wc := [(sb, .inr (0, [.ref bv, .int (iI 0), .int (iI 0), .int (iI ((0 + dLen x) + 1))])), (bv, .inl (cB, 16, .inl u9))]) (wr := []) (va_runV (As := [.int (iI y)]) (rest := []) ⟨hx, hb, hml, hown, hts⟩ (c_J4_append_bf812 l D H.size dO dT fm aK aV cB sb bv u9 ((0 + dLen x) + 1) (([] : List Int) ++ dec x ++ [47]) y (by simp only [List.length_append, List.length_cons, List.length_nil]; omega) hw9 (by omega)) (cwV 1 hts gX4_appendScore_J4_append_bf812 rfl rfl rfl (by decide +kernel) ⟨by rw [hRf]; exact Nat.le_of_ble_eq_true rfl, by rw [hRl]; exact Nat.le_of_ble_eq_true rfl⟩) (z_preXV (zJ_ok _ _ _ _ _) hX hS hA hP hD hK hN [0, 1] (by decide) rfl rfl [0] rfl (q0 := 0) rfl (ci := 0) rfl) rfl rfl hl.1 rfl (lv_room (Nat.le_of_ble_eq_true rfl)) dX4_appendScore_15 ⟨by rw [hRc]; exact Nat.le_of_ble_eq_true rfl, by rw [hRs]; exact Nat.le_of_ble_eq_true rfl⟩) hP hD hS hA [0, 1] [] rfl rfl (by decide) (by decide) [0, 1] (by decide) (fun _ => rfl) (fun u15 H locs hw hP hD hS => ?_)
  have hw15 : zTx u15 (([] : List Int) ++ dec x ++ [47] ++ dec y) := hw
  have hP : va_P D vwCl [(sb, .inr (0, [.ref bv, .int (iI 0), .int (iI 0), .int (iI (((0 + dLen x) + 1) + dLen y))])), (bv, .inl (cB, 16, .inl u15))] H := hP
  have hD : va_D A [(sb, .inr (0, [.ref bv, .int (iI 0), .int (iI 0), .int (iI (((0 + dLen x) + 1) + dLen y))])), (bv, .inl (cB, 16, .inl u15))] := hD
  refine lv_pop hx hb dX4_appendScore_18 rfl ?_
  have e9 : ([] : List Int) ++ dec x ++ [47] ++ dec y = stTx 0 x y := by
    unfold stTx
    rw [if_pos (show (0 : Int) = 0 from rfl)]
    try rfl
  have n9 : (((0 + dLen x) + 1) + dLen y) = ((stTx 0 x y).length : Int) := by rw [← e9]; simp only [List.length_append, List.length_cons, List.length_nil]; omega
  exact K H locs u15 _ ls 0 0 (by omega) (by omega) (by rw [← e9]; exact hw15) (by rw [← n9]; exact hP) (by rw [← n9]; exact hD) hS dX4_appendScore_19

abbrev rmX4_appendTime : Room := { frames := 6, cells := 0, slots := 0, locals := 148 }
set_option maxHeartbeats 4000000 in
set_option maxRecDepth 100000 in
theorem c_X4_appendTime (l : Launch) (D : va_G) (sz : Nat) (dO dT : Nat) (fm : Option Nat) (aK aV : Nat → Nat) (cB : ClassId) (sb bv : Nat) (g : Nat → Int32) (x y : Int) (h : (0 ≤ x ∧ x ≤ 23) ∧ 0 ≤ y ∧ y ≤ 59) : zXv (zJ dO dT fm aK aV) l yX4_appendTime wsX4_appendTime rmX4_appendTime D [(cB, .byte)] [.ref sb, .int (iI x), .int (iI y)] [(sb, .inr (0, [.ref bv, .int (iI 0), .int (iI 0), .int (iI 0)])), (bv, .inl (cB, 16, .inl g))] sz (S := (Nat → Int32)) (fun u => zTx u (stTx 1 x y)) (fun u => [(sb, .inr (0, [.ref bv, .int (iI 0), .int (iI 0), .int (iI (((stTx 1 x y).length : Int)))])), (bv, .inl (cB, 16, .inl u))]) 0 0 := by
  have hly := dec_len y
  have hdy : 1 ≤ dLen y ∧ dLen y ≤ 5 := by unfold dLen; omega
  have d6 : dLen y ≤ 2 := by unfold dLen; omega
  refine z_startXv (cc := cX4_appendTime) (maxL := 3) (own := RX4) (nm := "appendTime") (by decide) rfl rfl rfl (Nat.le_of_ble_eq_true rfl) ?_
  intro p e R s m args below meth c A Q ls H locs hBd hX hP hD hS hl K
  obtain ⟨hx, hb, hml, hown, hts, ⟨hRf, hRl, hRc, hRs⟩, hmn, hK, hN, hA⟩ := hBd
  have hl : lv_has ls 3 [(0, .ref sb), (1, .int (iI x)), (2, .int (iI y))] := hl
  have hP : va_P D vwCl [(sb, .inr (0, [.ref bv, .int (iI 0), .int (iI 0), .int (iI 0)])), (bv, .inl (cB, 16, .inl g))] H := hP
  have hD : va_D A [(sb, .inr (0, [.ref bv, .int (iI 0), .int (iI 0), .int (iI 0)])), (bv, .inl (cB, 16, .inl g))] := hD
  refine lv_aload_n hx hb dX4_appendTime_0 rfl (lv_at hl 0 rfl) ?_
  refine lv_iload_n hx hb dX4_appendTime_1 rfl (lv_at hl 1 rfl) ?_
  refine lv_bipush (v := iI 12) hx hb dX4_appendTime_2 (by decide) ?_
  refine z_irem hx hb (by omega) dX4_appendTime_4 ?_
  suffices J5 : ∀ (v5 : Int), v5 = (if (x % 12) = 0 then 12 else x % 12) → W p l e R s m args below meth c H locs 0 0 Q (F0 m 17 ls [.int (iI v5), .ref sb]) by
    refine z_if_ne hx hb 13 (by omega) dX4_appendTime_5 (by decide) (fun c5 => ?_) (fun c5 => ?_)
    · skip
      refine lv_iload_n hx hb dX4_appendTime_13 rfl (lv_at hl 1 rfl) ?_
      refine lv_bipush (v := iI 12) hx hb dX4_appendTime_14 (by decide) ?_
      refine z_irem hx hb (by omega) dX4_appendTime_16 ?_
      exact J5 _ (if_neg c5).symm
    · skip
      refine lv_bipush (v := iI 12) hx hb dX4_appendTime_8 (by decide) ?_
      refine lv_goto (tgt := 17) hx hb dX4_appendTime_10 (by decide) ?_
      exact J5 _ (if_pos c5).symm
  intro v5 hv5
  have e5 : v5 = h12 x := by rw [hv5]; rfl
  have b5 : 1 ≤ v5 ∧ v5 ≤ 12 := by omega
  have hlv5 := dec_len v5
  have hdv5 : 1 ≤ dLen v5 ∧ dLen v5 ≤ 5 := by unfold dLen; omega
  have d5 : dLen v5 ≤ 2 := by unfold dLen; omega
  refine z_callr (w2 := fun u17 => [(sb, .inr (0, [.ref bv, .int (iI 0), .int (iI 0), .int (iI (0 + dLen v5))])), (bv, .inl (cB, 16, .inl u17))]) (wc := [(sb, .inr (0, [.ref bv, .int (iI 0), .int (iI 0), .int (iI 0)])), (bv, .inl (cB, 16, .inl g))]) (wr := []) (va_runV (As := [.int (iI v5)]) (rest := []) ⟨hx, hb, hml, hown, hts⟩ (c_J4_append_bf812 l D H.size dO dT fm aK aV cB sb bv g 0 (([] : List Int)) v5 (by simp only [List.length_append, List.length_cons, List.length_nil]; omega) (tx_nil _) (by omega)) (cwV 1 hts gX4_appendTime_J4_append_bf812 rfl rfl rfl (by decide +kernel) ⟨by rw [hRf]; exact Nat.le_of_ble_eq_true rfl, by rw [hRl]; exact Nat.le_of_ble_eq_true rfl⟩) (z_preXV (zJ_ok _ _ _ _ _) hX hS hA hP hD hK hN [0, 1] (by decide) rfl rfl [0] rfl (q0 := 0) rfl (ci := 0) rfl) rfl rfl hl.1 rfl (lv_room (Nat.le_of_ble_eq_true rfl)) dX4_appendTime_17 ⟨by rw [hRc]; exact Nat.le_of_ble_eq_true rfl, by rw [hRs]; exact Nat.le_of_ble_eq_true rfl⟩) hP hD hS hA [0, 1] [] rfl rfl (by decide) (by decide) [0, 1] (by decide) (fun _ => rfl) (fun u17 H locs hw hP hD hS => ?_)
  have hw17 : zTx u17 (([] : List Int) ++ dec v5) := hw
  have hP : va_P D vwCl [(sb, .inr (0, [.ref bv, .int (iI 0), .int (iI 0), .int (iI (0 + dLen v5))])), (bv, .inl (cB, 16, .inl u17))] H := hP
  have hD : va_D A [(sb, .inr (0, [.ref bv, .int (iI 0), .int (iI 0), .int (iI (0 + dLen v5))])), (bv, .inl (cB, 16, .inl u17))] := hD
  refine lv_pop hx hb dX4_appendTime_20 rfl ?_
  refine lv_aload_n hx hb dX4_appendTime_21 rfl (lv_at hl 0 rfl) ?_
  refine lv_bipush (v := iI 58) hx hb dX4_appendTime_22 (by decide) ?_
  refine z_callr (w2 := fun u24 => [(sb, .inr (0, [.ref bv, .int (iI 0), .int (iI 0), .int (iI ((0 + dLen v5) + 1))])), (bv, .inl (cB, 16, .inl u24))]) (wc := [(sb, .inr (0, [.ref bv, .int (iI 0), .int (iI 0), .int (iI (0 + dLen v5))])), (bv, .inl (cB, 16, .inl u17))]) (wr := []) (va_runV (As := [.int (iI 58)]) (rest := []) ⟨hx, hb, hml, hown, hts⟩ (c_J4_append_cf468 l D H.size dO dT fm aK aV cB sb bv u17 (0 + dLen v5) (([] : List Int) ++ dec v5) 58 (by simp only [List.length_append, List.length_cons, List.length_nil]; omega) hw17 (by omega)) (cwV 1 hts gX4_appendTime_J4_append_cf468 rfl rfl rfl (by decide +kernel) ⟨by rw [hRf]; exact Nat.le_of_ble_eq_true rfl, by rw [hRl]; exact Nat.le_of_ble_eq_true rfl⟩) (z_preXV (zJ_ok _ _ _ _ _) hX hS hA hP hD hK hN [0, 1] (by decide) rfl rfl [0] rfl (q0 := 0) rfl (ci := 0) rfl) rfl rfl hl.1 rfl (lv_room (Nat.le_of_ble_eq_true rfl)) dX4_appendTime_24 ⟨by rw [hRc]; exact Nat.le_of_ble_eq_true rfl, by rw [hRs]; exact Nat.le_of_ble_eq_true rfl⟩) hP hD hS hA [0, 1] [] rfl rfl (by decide) (by decide) [0, 1] (by decide) (fun _ => rfl) (fun u24 H locs hw hP hD hS => ?_)
  have hw24 : zTx u24 (([] : List Int) ++ dec v5 ++ [58]) := hw
  have hP : va_P D vwCl [(sb, .inr (0, [.ref bv, .int (iI 0), .int (iI 0), .int (iI ((0 + dLen v5) + 1))])), (bv, .inl (cB, 16, .inl u24))] H := hP
  have hD : va_D A [(sb, .inr (0, [.ref bv, .int (iI 0), .int (iI 0), .int (iI ((0 + dLen v5) + 1))])), (bv, .inl (cB, 16, .inl u24))] := hD
  refine lv_pop hx hb dX4_appendTime_27 rfl ?_
  refine lv_iload_n hx hb dX4_appendTime_28 rfl (lv_at hl 2 rfl) ?_
  refine lv_bipush (v := iI 10) hx hb dX4_appendTime_29 (by decide) ?_
  refine z_icmp_ge hx hb 41 (by omega) dX4_appendTime_31 (by decide) (fun c31 => ?_) (fun c31 => ?_)
  · skip
    refine lv_aload_n hx hb dX4_appendTime_41 rfl (lv_at hl 0 rfl) ?_
    refine lv_iload_n hx hb dX4_appendTime_42 rfl (lv_at hl 2 rfl) ?_
    refine z_callr (w2 := fun u43 => [(sb, .inr (0, [.ref bv, .int (iI 0), .int (iI 0), .int (iI (((0 + dLen v5) + 1) + dLen y))])), (bv, .inl (cB, 16, .inl u43))]) (wc := [(sb, .inr (0, [.ref bv, .int (iI 0), .int (iI 0), .int (iI ((0 + dLen v5) + 1))])), (bv, .inl (cB, 16, .inl u24))]) (wr := []) (va_runV (As := [.int (iI y)]) (rest := []) ⟨hx, hb, hml, hown, hts⟩ (c_J4_append_bf812 l D H.size dO dT fm aK aV cB sb bv u24 ((0 + dLen v5) + 1) (([] : List Int) ++ dec v5 ++ [58]) y (by simp only [List.length_append, List.length_cons, List.length_nil]; omega) hw24 (by omega)) (cwV 1 hts gX4_appendTime_J4_append_bf812 rfl rfl rfl (by decide +kernel) ⟨by rw [hRf]; exact Nat.le_of_ble_eq_true rfl, by rw [hRl]; exact Nat.le_of_ble_eq_true rfl⟩) (z_preXV (zJ_ok _ _ _ _ _) hX hS hA hP hD hK hN [0, 1] (by decide) rfl rfl [0] rfl (q0 := 0) rfl (ci := 0) rfl) rfl rfl hl.1 rfl (lv_room (Nat.le_of_ble_eq_true rfl)) dX4_appendTime_43 ⟨by rw [hRc]; exact Nat.le_of_ble_eq_true rfl, by rw [hRs]; exact Nat.le_of_ble_eq_true rfl⟩) hP hD hS hA [0, 1] [] rfl rfl (by decide) (by decide) [0, 1] (by decide) (fun _ => rfl) (fun u43 H locs hw hP hD hS => ?_)
    have hw43 : zTx u43 (([] : List Int) ++ dec v5 ++ [58] ++ dec y) := hw
    have hP : va_P D vwCl [(sb, .inr (0, [.ref bv, .int (iI 0), .int (iI 0), .int (iI (((0 + dLen v5) + 1) + dLen y))])), (bv, .inl (cB, 16, .inl u43))] H := hP
    have hD : va_D A [(sb, .inr (0, [.ref bv, .int (iI 0), .int (iI 0), .int (iI (((0 + dLen v5) + 1) + dLen y))])), (bv, .inl (cB, 16, .inl u43))] := hD
    refine lv_pop hx hb dX4_appendTime_46 rfl ?_
    refine lv_aload_n hx hb dX4_appendTime_47 rfl (lv_at hl 0 rfl) ?_
    refine lv_iload_n hx hb dX4_appendTime_48 rfl (lv_at hl 1 rfl) ?_
    refine lv_bipush (v := iI 12) hx hb dX4_appendTime_49 (by decide) ?_
    refine z_icmp_ge hx hb 59 (by omega) dX4_appendTime_51 (by decide) (fun c51 => ?_) (fun c51 => ?_)
    · skip
      refine va_ldcS hx hb hown hX.2.2.2.2.2.2.2.2 dX4_appendTime_59 ?_
      refine z_callr (w2 := fun u61 => [(sb, .inr (0, [.ref bv, .int (iI 0), .int (iI 0), .int (iI ((((0 + dLen v5) + 1) + dLen y) + 2))])), (bv, .inl (cB, 16, .inl u61))]) (wc := [(sb, .inr (0, [.ref bv, .int (iI 0), .int (iI 0), .int (iI (((0 + dLen v5) + 1) + dLen y))])), (bv, .inl (cB, 16, .inl u43))]) (wr := []) (va_runV (As := [.ref (aK 1)]) (rest := []) ⟨hx, hb, hml, hown, hts⟩ (c_J4_append_15ec4 l D H.size dO dT fm aK aV cB sb bv u43 (((0 + dLen v5) + 1) + dLen y) (([] : List Int) ++ dec v5 ++ [58] ++ dec y) 1 (by decide) (by simp only [List.length_append, List.length_cons, List.length_nil]; omega) hw43 (by omega)) (cwV 1 hts gX4_appendTime_J4_append_15ec4 rfl rfl rfl (by decide +kernel) ⟨by rw [hRf]; exact Nat.le_of_ble_eq_true rfl, by rw [hRl]; exact Nat.le_of_ble_eq_true rfl⟩) (z_preXV (zJ_ok _ _ _ _ _) hX hS hA hP hD hK hN [0, 1] (by decide) rfl rfl [0] rfl (q0 := 0) rfl (ci := 0) rfl) rfl rfl hl.1 rfl (lv_room (Nat.le_of_ble_eq_true rfl)) dX4_appendTime_61 ⟨by rw [hRc]; exact Nat.le_of_ble_eq_true rfl, by rw [hRs]; exact Nat.le_of_ble_eq_true rfl⟩) hP hD hS hA [0, 1] [] rfl rfl (by decide) (by decide) [0, 1] (by decide) (fun _ => rfl) (fun u61 H locs hw hP hD hS => ?_)
      have hw61 : zTx u61 (([] : List Int) ++ dec v5 ++ [58] ++ dec y ++ [if (1 : Nat) = 0 then 97 else 112, 109]) := hw
      have hP : va_P D vwCl [(sb, .inr (0, [.ref bv, .int (iI 0), .int (iI 0), .int (iI ((((0 + dLen v5) + 1) + dLen y) + 2))])), (bv, .inl (cB, 16, .inl u61))] H := hP
      have hD : va_D A [(sb, .inr (0, [.ref bv, .int (iI 0), .int (iI 0), .int (iI ((((0 + dLen v5) + 1) + dLen y) + 2))])), (bv, .inl (cB, 16, .inl u61))] := hD
      refine lv_pop hx hb dX4_appendTime_64 rfl ?_
      have e9 : ([] : List Int) ++ dec v5 ++ [58] ++ dec y ++ [if (1 : Nat) = 0 then 97 else 112, 109] = stTx 1 x y := by
        rw [e5]
        unfold stTx
        rw [if_neg (show ¬ (1 : Int) = 0 by decide)]
        have q1 : dec (h12 x) = digs (h12 x) := if_neg (by omega)
        rw [q1]
        have q2 : dec2 y = dec y := by unfold dec2 dec digs; rw [if_neg (show ¬ y < 10 by omega), if_neg (show ¬ y < 0 by omega), if_neg (show ¬ y < 10 by omega), if_pos (show y < 100 by omega)]
        rw [q2]
        simp only [List.nil_append, List.append_assoc, List.cons_append]
        (try rw [if_neg (show ¬ x < 12 by omega)]); (try rfl)
      have n9 : ((((0 + dLen v5) + 1) + dLen y) + 2) = ((stTx 1 x y).length : Int) := by rw [← e9]; simp only [List.length_append, List.length_cons, List.length_nil]; omega
      exact K H locs u61 _ ls 0 0 (by omega) (by omega) (by rw [← e9]; exact hw61) (by rw [← n9]; exact hP) (by rw [← n9]; exact hD) hS dX4_appendTime_65
    · skip
      refine va_ldcS hx hb hown hX.2.2.2.2.2.2.2.1 dX4_appendTime_54 ?_
      refine lv_goto (tgt := 61) hx hb dX4_appendTime_56 (by decide) ?_
      refine z_callr (w2 := fun u61 => [(sb, .inr (0, [.ref bv, .int (iI 0), .int (iI 0), .int (iI ((((0 + dLen v5) + 1) + dLen y) + 2))])), (bv, .inl (cB, 16, .inl u61))]) (wc := [(sb, .inr (0, [.ref bv, .int (iI 0), .int (iI 0), .int (iI (((0 + dLen v5) + 1) + dLen y))])), (bv, .inl (cB, 16, .inl u43))]) (wr := []) (va_runV (As := [.ref (aK 0)]) (rest := []) ⟨hx, hb, hml, hown, hts⟩ (c_J4_append_15ec4 l D H.size dO dT fm aK aV cB sb bv u43 (((0 + dLen v5) + 1) + dLen y) (([] : List Int) ++ dec v5 ++ [58] ++ dec y) 0 (by decide) (by simp only [List.length_append, List.length_cons, List.length_nil]; omega) hw43 (by omega)) (cwV 1 hts gX4_appendTime_J4_append_15ec4 rfl rfl rfl (by decide +kernel) ⟨by rw [hRf]; exact Nat.le_of_ble_eq_true rfl, by rw [hRl]; exact Nat.le_of_ble_eq_true rfl⟩) (z_preXV (zJ_ok _ _ _ _ _) hX hS hA hP hD hK hN [0, 1] (by decide) rfl rfl [0] rfl (q0 := 0) rfl (ci := 0) rfl) rfl rfl hl.1 rfl (lv_room (Nat.le_of_ble_eq_true rfl)) dX4_appendTime_61 ⟨by rw [hRc]; exact Nat.le_of_ble_eq_true rfl, by rw [hRs]; exact Nat.le_of_ble_eq_true rfl⟩) hP hD hS hA [0, 1] [] rfl rfl (by decide) (by decide) [0, 1] (by decide) (fun _ => rfl) (fun u61 H locs hw hP hD hS => ?_)
      have hw61 : zTx u61 (([] : List Int) ++ dec v5 ++ [58] ++ dec y ++ [if (0 : Nat) = 0 then 97 else 112, 109]) := hw
      have hP : va_P D vwCl [(sb, .inr (0, [.ref bv, .int (iI 0), .int (iI 0), .int (iI ((((0 + dLen v5) + 1) + dLen y) + 2))])), (bv, .inl (cB, 16, .inl u61))] H := hP
      have hD : va_D A [(sb, .inr (0, [.ref bv, .int (iI 0), .int (iI 0), .int (iI ((((0 + dLen v5) + 1) + dLen y) + 2))])), (bv, .inl (cB, 16, .inl u61))] := hD
      refine lv_pop hx hb dX4_appendTime_64 rfl ?_
      have e9 : ([] : List Int) ++ dec v5 ++ [58] ++ dec y ++ [if (0 : Nat) = 0 then 97 else 112, 109] = stTx 1 x y := by
        rw [e5]
        unfold stTx
        rw [if_neg (show ¬ (1 : Int) = 0 by decide)]
        have q1 : dec (h12 x) = digs (h12 x) := if_neg (by omega)
        rw [q1]
        have q2 : dec2 y = dec y := by unfold dec2 dec digs; rw [if_neg (show ¬ y < 10 by omega), if_neg (show ¬ y < 0 by omega), if_neg (show ¬ y < 10 by omega), if_pos (show y < 100 by omega)]
        rw [q2]
        simp only [List.nil_append, List.append_assoc, List.cons_append]
        (try rw [if_pos (show x < 12 by omega)]); (try rfl)
      have n9 : ((((0 + dLen v5) + 1) + dLen y) + 2) = ((stTx 1 x y).length : Int) := by rw [← e9]; simp only [List.length_append, List.length_cons, List.length_nil]; omega
      exact K H locs u61 _ ls 0 0 (by omega) (by omega) (by rw [← e9]; exact hw61) (by rw [← n9]; exact hP) (by rw [← n9]; exact hD) hS dX4_appendTime_65
  · skip
    refine lv_aload_n hx hb dX4_appendTime_34 rfl (lv_at hl 0 rfl) ?_
    refine lv_bipush (v := iI 48) hx hb dX4_appendTime_35 (by decide) ?_
    refine z_callr (w2 := fun u37 => [(sb, .inr (0, [.ref bv, .int (iI 0), .int (iI 0), .int (iI (((0 + dLen v5) + 1) + 1))])), (bv, .inl (cB, 16, .inl u37))]) (wc := [(sb, .inr (0, [.ref bv, .int (iI 0), .int (iI 0), .int (iI ((0 + dLen v5) + 1))])), (bv, .inl (cB, 16, .inl u24))]) (wr := []) (va_runV (As := [.int (iI 48)]) (rest := []) ⟨hx, hb, hml, hown, hts⟩ (c_J4_append_cf468 l D H.size dO dT fm aK aV cB sb bv u24 ((0 + dLen v5) + 1) (([] : List Int) ++ dec v5 ++ [58]) 48 (by simp only [List.length_append, List.length_cons, List.length_nil]; omega) hw24 (by omega)) (cwV 1 hts gX4_appendTime_J4_append_cf468 rfl rfl rfl (by decide +kernel) ⟨by rw [hRf]; exact Nat.le_of_ble_eq_true rfl, by rw [hRl]; exact Nat.le_of_ble_eq_true rfl⟩) (z_preXV (zJ_ok _ _ _ _ _) hX hS hA hP hD hK hN [0, 1] (by decide) rfl rfl [0] rfl (q0 := 0) rfl (ci := 0) rfl) rfl rfl hl.1 rfl (lv_room (Nat.le_of_ble_eq_true rfl)) dX4_appendTime_37 ⟨by rw [hRc]; exact Nat.le_of_ble_eq_true rfl, by rw [hRs]; exact Nat.le_of_ble_eq_true rfl⟩) hP hD hS hA [0, 1] [] rfl rfl (by decide) (by decide) [0, 1] (by decide) (fun _ => rfl) (fun u37 H locs hw hP hD hS => ?_)
    have hw37 : zTx u37 (([] : List Int) ++ dec v5 ++ [58] ++ [48]) := hw
    have hP : va_P D vwCl [(sb, .inr (0, [.ref bv, .int (iI 0), .int (iI 0), .int (iI (((0 + dLen v5) + 1) + 1))])), (bv, .inl (cB, 16, .inl u37))] H := hP
    have hD : va_D A [(sb, .inr (0, [.ref bv, .int (iI 0), .int (iI 0), .int (iI (((0 + dLen v5) + 1) + 1))])), (bv, .inl (cB, 16, .inl u37))] := hD
    refine lv_pop hx hb dX4_appendTime_40 rfl ?_
    refine lv_aload_n hx hb dX4_appendTime_41 rfl (lv_at hl 0 rfl) ?_
    refine lv_iload_n hx hb dX4_appendTime_42 rfl (lv_at hl 2 rfl) ?_
    refine z_callr (w2 := fun u43 => [(sb, .inr (0, [.ref bv, .int (iI 0), .int (iI 0), .int (iI ((((0 + dLen v5) + 1) + 1) + dLen y))])), (bv, .inl (cB, 16, .inl u43))]) (wc := [(sb, .inr (0, [.ref bv, .int (iI 0), .int (iI 0), .int (iI (((0 + dLen v5) + 1) + 1))])), (bv, .inl (cB, 16, .inl u37))]) (wr := []) (va_runV (As := [.int (iI y)]) (rest := []) ⟨hx, hb, hml, hown, hts⟩ (c_J4_append_bf812 l D H.size dO dT fm aK aV cB sb bv u37 (((0 + dLen v5) + 1) + 1) (([] : List Int) ++ dec v5 ++ [58] ++ [48]) y (by simp only [List.length_append, List.length_cons, List.length_nil]; omega) hw37 (by omega)) (cwV 1 hts gX4_appendTime_J4_append_bf812 rfl rfl rfl (by decide +kernel) ⟨by rw [hRf]; exact Nat.le_of_ble_eq_true rfl, by rw [hRl]; exact Nat.le_of_ble_eq_true rfl⟩) (z_preXV (zJ_ok _ _ _ _ _) hX hS hA hP hD hK hN [0, 1] (by decide) rfl rfl [0] rfl (q0 := 0) rfl (ci := 0) rfl) rfl rfl hl.1 rfl (lv_room (Nat.le_of_ble_eq_true rfl)) dX4_appendTime_43 ⟨by rw [hRc]; exact Nat.le_of_ble_eq_true rfl, by rw [hRs]; exact Nat.le_of_ble_eq_true rfl⟩) hP hD hS hA [0, 1] [] rfl rfl (by decide) (by decide) [0, 1] (by decide) (fun _ => rfl) (fun u43 H locs hw hP hD hS => ?_)
    have hw43 : zTx u43 (([] : List Int) ++ dec v5 ++ [58] ++ [48] ++ dec y) := hw
    have hP : va_P D vwCl [(sb, .inr (0, [.ref bv, .int (iI 0), .int (iI 0), .int (iI ((((0 + dLen v5) + 1) + 1) + dLen y))])), (bv, .inl (cB, 16, .inl u43))] H := hP
    have hD : va_D A [(sb, .inr (0, [.ref bv, .int (iI 0), .int (iI 0), .int (iI ((((0 + dLen v5) + 1) + 1) + dLen y))])), (bv, .inl (cB, 16, .inl u43))] := hD
    refine lv_pop hx hb dX4_appendTime_46 rfl ?_
    refine lv_aload_n hx hb dX4_appendTime_47 rfl (lv_at hl 0 rfl) ?_
    refine lv_iload_n hx hb dX4_appendTime_48 rfl (lv_at hl 1 rfl) ?_
    refine lv_bipush (v := iI 12) hx hb dX4_appendTime_49 (by decide) ?_
    refine z_icmp_ge hx hb 59 (by omega) dX4_appendTime_51 (by decide) (fun c51 => ?_) (fun c51 => ?_)
    · skip
      refine va_ldcS hx hb hown hX.2.2.2.2.2.2.2.2 dX4_appendTime_59 ?_
      refine z_callr (w2 := fun u61 => [(sb, .inr (0, [.ref bv, .int (iI 0), .int (iI 0), .int (iI (((((0 + dLen v5) + 1) + 1) + dLen y) + 2))])), (bv, .inl (cB, 16, .inl u61))]) (wc := [(sb, .inr (0, [.ref bv, .int (iI 0), .int (iI 0), .int (iI ((((0 + dLen v5) + 1) + 1) + dLen y))])), (bv, .inl (cB, 16, .inl u43))]) (wr := []) (va_runV (As := [.ref (aK 1)]) (rest := []) ⟨hx, hb, hml, hown, hts⟩ (c_J4_append_15ec4 l D H.size dO dT fm aK aV cB sb bv u43 ((((0 + dLen v5) + 1) + 1) + dLen y) (([] : List Int) ++ dec v5 ++ [58] ++ [48] ++ dec y) 1 (by decide) (by simp only [List.length_append, List.length_cons, List.length_nil]; omega) hw43 (by omega)) (cwV 1 hts gX4_appendTime_J4_append_15ec4 rfl rfl rfl (by decide +kernel) ⟨by rw [hRf]; exact Nat.le_of_ble_eq_true rfl, by rw [hRl]; exact Nat.le_of_ble_eq_true rfl⟩) (z_preXV (zJ_ok _ _ _ _ _) hX hS hA hP hD hK hN [0, 1] (by decide) rfl rfl [0] rfl (q0 := 0) rfl (ci := 0) rfl) rfl rfl hl.1 rfl (lv_room (Nat.le_of_ble_eq_true rfl)) dX4_appendTime_61 ⟨by rw [hRc]; exact Nat.le_of_ble_eq_true rfl, by rw [hRs]; exact Nat.le_of_ble_eq_true rfl⟩) hP hD hS hA [0, 1] [] rfl rfl (by decide) (by decide) [0, 1] (by decide) (fun _ => rfl) (fun u61 H locs hw hP hD hS => ?_)
      have hw61 : zTx u61 (([] : List Int) ++ dec v5 ++ [58] ++ [48] ++ dec y ++ [if (1 : Nat) = 0 then 97 else 112, 109]) := hw
      have hP : va_P D vwCl [(sb, .inr (0, [.ref bv, .int (iI 0), .int (iI 0), .int (iI (((((0 + dLen v5) + 1) + 1) + dLen y) + 2))])), (bv, .inl (cB, 16, .inl u61))] H := hP
      have hD : va_D A [(sb, .inr (0, [.ref bv, .int (iI 0), .int (iI 0), .int (iI (((((0 + dLen v5) + 1) + 1) + dLen y) + 2))])), (bv, .inl (cB, 16, .inl u61))] := hD
      refine lv_pop hx hb dX4_appendTime_64 rfl ?_
      have e9 : ([] : List Int) ++ dec v5 ++ [58] ++ [48] ++ dec y ++ [if (1 : Nat) = 0 then 97 else 112, 109] = stTx 1 x y := by
        rw [e5]
        unfold stTx
        rw [if_neg (show ¬ (1 : Int) = 0 by decide)]
        have q1 : dec (h12 x) = digs (h12 x) := if_neg (by omega)
        rw [q1]
        have q2 : dec2 y = [48] ++ dec y := by unfold dec2 dec digs; rw [if_pos (show y < 10 by omega), if_neg (show ¬ y < 0 by omega), if_pos (show y < 10 by omega)]; rfl
        rw [q2]
        simp only [List.nil_append, List.append_assoc, List.cons_append]
        (try rw [if_neg (show ¬ x < 12 by omega)]); (try rfl)
      have n9 : (((((0 + dLen v5) + 1) + 1) + dLen y) + 2) = ((stTx 1 x y).length : Int) := by rw [← e9]; simp only [List.length_append, List.length_cons, List.length_nil]; omega
      exact K H locs u61 _ ls 0 0 (by omega) (by omega) (by rw [← e9]; exact hw61) (by rw [← n9]; exact hP) (by rw [← n9]; exact hD) hS dX4_appendTime_65
    · skip
      refine va_ldcS hx hb hown hX.2.2.2.2.2.2.2.1 dX4_appendTime_54 ?_
      refine lv_goto (tgt := 61) hx hb dX4_appendTime_56 (by decide) ?_
      refine z_callr (w2 := fun u61 => [(sb, .inr (0, [.ref bv, .int (iI 0), .int (iI 0), .int (iI (((((0 + dLen v5) + 1) + 1) + dLen y) + 2))])), (bv, .inl (cB, 16, .inl u61))]) (wc := [(sb, .inr (0, [.ref bv, .int (iI 0), .int (iI 0), .int (iI ((((0 + dLen v5) + 1) + 1) + dLen y))])), (bv, .inl (cB, 16, .inl u43))]) (wr := []) (va_runV (As := [.ref (aK 0)]) (rest := []) ⟨hx, hb, hml, hown, hts⟩ (c_J4_append_15ec4 l D H.size dO dT fm aK aV cB sb bv u43 ((((0 + dLen v5) + 1) + 1) + dLen y) (([] : List Int) ++ dec v5 ++ [58] ++ [48] ++ dec y) 0 (by decide) (by simp only [List.length_append, List.length_cons, List.length_nil]; omega) hw43 (by omega)) (cwV 1 hts gX4_appendTime_J4_append_15ec4 rfl rfl rfl (by decide +kernel) ⟨by rw [hRf]; exact Nat.le_of_ble_eq_true rfl, by rw [hRl]; exact Nat.le_of_ble_eq_true rfl⟩) (z_preXV (zJ_ok _ _ _ _ _) hX hS hA hP hD hK hN [0, 1] (by decide) rfl rfl [0] rfl (q0 := 0) rfl (ci := 0) rfl) rfl rfl hl.1 rfl (lv_room (Nat.le_of_ble_eq_true rfl)) dX4_appendTime_61 ⟨by rw [hRc]; exact Nat.le_of_ble_eq_true rfl, by rw [hRs]; exact Nat.le_of_ble_eq_true rfl⟩) hP hD hS hA [0, 1] [] rfl rfl (by decide) (by decide) [0, 1] (by decide) (fun _ => rfl) (fun u61 H locs hw hP hD hS => ?_)
      have hw61 : zTx u61 (([] : List Int) ++ dec v5 ++ [58] ++ [48] ++ dec y ++ [if (0 : Nat) = 0 then 97 else 112, 109]) := hw
      have hP : va_P D vwCl [(sb, .inr (0, [.ref bv, .int (iI 0), .int (iI 0), .int (iI (((((0 + dLen v5) + 1) + 1) + dLen y) + 2))])), (bv, .inl (cB, 16, .inl u61))] H := hP
      have hD : va_D A [(sb, .inr (0, [.ref bv, .int (iI 0), .int (iI 0), .int (iI (((((0 + dLen v5) + 1) + 1) + dLen y) + 2))])), (bv, .inl (cB, 16, .inl u61))] := hD
      refine lv_pop hx hb dX4_appendTime_64 rfl ?_
      have e9 : ([] : List Int) ++ dec v5 ++ [58] ++ [48] ++ dec y ++ [if (0 : Nat) = 0 then 97 else 112, 109] = stTx 1 x y := by
        rw [e5]
        unfold stTx
        rw [if_neg (show ¬ (1 : Int) = 0 by decide)]
        have q1 : dec (h12 x) = digs (h12 x) := if_neg (by omega)
        rw [q1]
        have q2 : dec2 y = [48] ++ dec y := by unfold dec2 dec digs; rw [if_pos (show y < 10 by omega), if_neg (show ¬ y < 0 by omega), if_pos (show y < 10 by omega)]; rfl
        rw [q2]
        simp only [List.nil_append, List.append_assoc, List.cons_append]
        (try rw [if_pos (show x < 12 by omega)]); (try rfl)
      have n9 : (((((0 + dLen v5) + 1) + 1) + dLen y) + 2) = ((stTx 1 x y).length : Int) := by rw [← e9]; simp only [List.length_append, List.length_cons, List.length_nil]; omega
      exact K H locs u61 _ ls 0 0 (by omega) (by omega) (by rw [← e9]; exact hw61) (by rw [← n9]; exact hP) (by rw [← n9]; exact hD) hS dX4_appendTime_65
