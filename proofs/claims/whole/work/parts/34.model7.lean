/-! the reference: status (draft) -/
theorem digs_len {m : Int} (h : 0 ≤ m ∧ m ≤ 9999) : 1 ≤ ((digs m).length : Int) ∧ ((digs m).length : Int) ≤ 4 := by
  unfold digs
  split
  · simp
  · split
    · simp
    · split
      · simp
      · simp
theorem rl_len {v w : Int} (h : -9999 ≤ v ∧ v ≤ 9999) : 1 ≤ ((if w = 1 then dec v else dec2 v).length : Int) ∧ ((if w = 1 then dec v else dec2 v).length : Int) ≤ 5 := by
  split
  · unfold dec
    split
    · have h9 := digs_len (m := -v) (by omega)
      rw [List.length_cons]
      omega
    · have h9 := digs_len (m := v) (by omega)
      omega
  · unfold dec2
    split
    · simp
    · simp
abbrev rmX5_status_0 : Room := { frames := 1, cells := 0, slots := 0, locals := 25 }
set_option maxHeartbeats 4000000 in
set_option maxRecDepth 100000 in
theorem c_X5_status_0 (l : Launch) (D : va_G) (sz : Nat) (cA : ClassId) (a : Nat → Nat) (σ : Nat → Int) (dg : Int) (f fo fw ft fs fd : Nat → Int32) (hI : zInv σ) (G : ZG) (hG : zRG encMK f G (σ 1) (σ 2)) (nm : Nat → Int) (hM : ∀ i : Nat, (i : Int) < σ 19 → ft i = iI (nm i)) (x : Int) (hx : (-2147483648 ≤ x ∧ x ≤ 2147483647)) (y : Int) (hy : (-2147483648 ≤ y ∧ y ≤ 2147483647)) (h : σ 0 ≤ 3 ∧ (-9999 ≤ x ∧ x ≤ 9999) ∧ -9999 ≤ y ∧ y ≤ 9999) : zMi l yX5_status wsX5_status rmX5_status_0 D [(cA, .int)] [.ref (a 0), .int (iI 0), .int (iI x), .int (iI y)] (mW cA a σ dg f fo fw ft fs fd) sz (S := ((Nat → Int32) × (Nat → Int32))) (fun r u => r = iI (σ 2 - ((stTx 0 x y).length : Int)) ∧ zRG encMK u.1 (stG σ nm (stTx 0 x y) G) (σ 1) (σ 2)) (fun u => mW cA a (zu σ 19 0) ((stTx 0 x y).length : Int) u.1 fo fw ft fs u.2) 0 0 := by
  obtain ⟨i0, i1, i2, i3, i4, i5, i6, i8, i10, i11, i12, i13, i14, i15, i16, i17, i18, i19, i20, it, j4, j12, j5⟩ := id hI
  have ht9 := ztop_c σ
  refine z_starti (cc := cX5_status) (maxL := 9) (ty := .int) (own := RX5) (nm := "status") (by decide) rfl rfl rfl (Nat.le_of_ble_eq_true rfl) ?_
  intro p e R s m args below meth c A Q ls H locs hBd hP hD hS hl K
  obtain ⟨hx, hb, hml, hown, hts, ⟨hRf, hRl, hRc, hRs⟩, hmn, hK, hN, hA⟩ := hBd
  have hl : lv_has ls 9 [(0, .ref (a 0)), (1, .int (iI 0)), (2, .int (iI x)), (3, .int (iI y))] := hl
  have inX5 : ∀ w ∈ wsX50, w ∈ wsX5_status := by decide +kernel
  have kfieldLink_RX5_142_ZScreensModel_nameSize_I := hts (.fieldLink RX5 142 "ZScreensModel" "nameSize" "I") (by decide +kernel)
  have kfieldLink_RX5_145_ZScreensModel_digits_I := hts (.fieldLink RX5 145 "ZScreensModel" "digits" "I") (by decide +kernel)
  have kfieldLink_RX5_36_ZScreensModel_first_I := hts (.fieldLink RX5 36 "ZScreensModel" "first" "I") (by decide +kernel)
  have kfieldLink_RX5_39_ZScreensModel_second_I := hts (.fieldLink RX5 39 "ZScreensModel" "second" "I") (by decide +kernel)
  have kfieldLink_RX5_42_ZScreensModel_name_I := hts (.fieldLink RX5 42 "ZScreensModel" "name" "[I") (by decide +kernel)
  have kfieldLink_RX5_48_ZScreensModel_digit_I := hts (.fieldLink RX5 48 "ZScreensModel" "digit" "[I") (by decide +kernel)
  have kfieldLink_RX5_55_ZScreensModel_version_I := hts (.fieldLink RX5 55 "ZScreensModel" "version" "I") (by decide +kernel)
  have kfieldLink_RX5_58_ZScreensModel_width_I := hts (.fieldLink RX5 58 "ZScreensModel" "width" "I") (by decide +kernel)
  have kfieldLink_RX5_7_ZScreensModel_cells_I := hts (.fieldLink RX5 7 "ZScreensModel" "cells" "[I") (by decide +kernel)
  have hP : va_P D vwCl [(a 0, .inr (6, [.ref (a 1), .ref (a 2), .int (iI (σ 0)), .int (iI (σ 2)), .int (iI (σ 1)), .int (iI (σ 3)), .int (iI (σ 4)), .int (iI (σ 10)), .int (iI (σ 11)), .int (iI (σ 12)), .int (iI (σ 13)), .int (iI (σ 7)), .int (iI (σ 8)), .int (iI (σ 9)), .int (iI (σ 5)), .ref (a 3), .int (iI (σ 18)), .int (iI (σ 14)), .int (iI (σ 15)), .int (iI (σ 16)), .int (iI (σ 17)), .ref (a 4), .int (iI (σ 19)), .int (iI (σ 6)), .ref (a 5), .int (iI (σ 20)), .ref (a 6), .int (iI dg)])), (a 1, .inl (cA, 3200, .inl f)), (a 2, .inl (cA, 3200, .inl fo)), (a 3, .inl (cA, 80, .inl fw)), (a 4, .inl (cA, 60, .inl ft)), (a 5, .inl (cA, 500, .inl fs)), (a 6, .inl (cA, 20, .inl fd))] H := hP
  have hD : va_D A [(a 0, .inr (6, [.ref (a 1), .ref (a 2), .int (iI (σ 0)), .int (iI (σ 2)), .int (iI (σ 1)), .int (iI (σ 3)), .int (iI (σ 4)), .int (iI (σ 10)), .int (iI (σ 11)), .int (iI (σ 12)), .int (iI (σ 13)), .int (iI (σ 7)), .int (iI (σ 8)), .int (iI (σ 9)), .int (iI (σ 5)), .ref (a 3), .int (iI (σ 18)), .int (iI (σ 14)), .int (iI (σ 15)), .int (iI (σ 16)), .int (iI (σ 17)), .ref (a 4), .int (iI (σ 19)), .int (iI (σ 6)), .ref (a 5), .int (iI (σ 20)), .ref (a 6), .int (iI dg)])), (a 1, .inl (cA, 3200, .inl f)), (a 2, .inl (cA, 3200, .inl fo)), (a 3, .inl (cA, 80, .inl fw)), (a 4, .inl (cA, 60, .inl ft)), (a 5, .inl (cA, 500, .inl fs)), (a 6, .inl (cA, 20, .inl fd))] := hD
  refine lv_iload_n hx hb dX5_status_0 rfl (lv_at hl 1 rfl) ?_
  refine z_if_ne hx hb 38 (by omega) dX5_status_1 (by decide) (fun c1 => absurd c1 (by omega)) (fun c1 => ?_)
  refine lv_iload_n hx hb dX5_status_4 rfl (lv_at hl 2 rfl) ?_
  refine lv_sipush (v := iI (-9999)) hx hb dX5_status_5 (by decide) ?_
  refine lv_sipush (v := iI 9999) hx hb dX5_status_8 (by decide) ?_
  refine z_calli (w2 := fun _ => [(a 0, .inr (6, [.ref (a 1), .ref (a 2), .int (iI (σ 0)), .int (iI (σ 2)), .int (iI (σ 1)), .int (iI (σ 3)), .int (iI (σ 4)), .int (iI (σ 10)), .int (iI (σ 11)), .int (iI (σ 12)), .int (iI (σ 13)), .int (iI (σ 7)), .int (iI (σ 8)), .int (iI (σ 9)), .int (iI (σ 5)), .ref (a 3), .int (iI (σ 18)), .int (iI (σ 14)), .int (iI (σ 15)), .int (iI (σ 16)), .int (iI (σ 17)), .ref (a 4), .int (iI (σ 19)), .int (iI (σ 6)), .ref (a 5), .int (iI (σ 20)), .ref (a 6), .int (iI dg)])), (a 1, .inl (cA, 3200, .inl f)), (a 2, .inl (cA, 3200, .inl fo)), (a 3, .inl (cA, 80, .inl fw)), (a 4, .inl (cA, 60, .inl ft)), (a 5, .inl (cA, 500, .inl fs)), (a 6, .inl (cA, 20, .inl fd))]) (wc := []) (wr := [(a 0, .inr (6, [.ref (a 1), .ref (a 2), .int (iI (σ 0)), .int (iI (σ 2)), .int (iI (σ 1)), .int (iI (σ 3)), .int (iI (σ 4)), .int (iI (σ 10)), .int (iI (σ 11)), .int (iI (σ 12)), .int (iI (σ 13)), .int (iI (σ 7)), .int (iI (σ 8)), .int (iI (σ 9)), .int (iI (σ 5)), .ref (a 3), .int (iI (σ 18)), .int (iI (σ 14)), .int (iI (σ 15)), .int (iI (σ 16)), .int (iI (σ 17)), .ref (a 4), .int (iI (σ 19)), .int (iI (σ 6)), .ref (a 5), .int (iI (σ 20)), .ref (a 6), .int (iI dg)])), (a 1, .inl (cA, 3200, .inl f)), (a 2, .inl (cA, 3200, .inl fo)), (a 3, .inl (cA, 80, .inl fw)), (a 4, .inl (cA, 60, .inl ft)), (a 5, .inl (cA, 500, .inl fs)), (a 6, .inl (cA, 20, .inl fd))]) (va_runS (As := [.int (iI x), .int (iI ((-9999))), .int (iI 9999)]) (rest := []) ⟨hx, hb, hml, hown, hts⟩ (c_X5_out l D H.size x ((-9999)) 9999 (by omega)) (va_cwS 3 hts gX5_status_X5_out rfl rfl rfl (by decide +kernel) ⟨by rw [hRf]; exact Nat.le_of_ble_eq_true rfl, by rw [hRl]; exact Nat.le_of_ble_eq_true rfl⟩) (z_preS hP hD hK hN [] (by decide) rfl rfl [] rfl) rfl rfl hl.1 rfl (lv_room (Nat.le_of_ble_eq_true rfl)) dX5_status_11 ⟨by rw [hRc]; exact Nat.le_of_ble_eq_true rfl, by rw [hRs]; exact Nat.le_of_ble_eq_true rfl⟩) hP hD hS hA [] [0, 1, 2, 3, 4, 5, 6] rfl rfl (by decide) (by decide) [0, 1, 2, 3, 4, 5, 6] (by decide) (fun _ => rfl) (fun r _ H locs hw hP hD hS => ?_)
  subst hw
  have hP : va_P D vwCl [(a 0, .inr (6, [.ref (a 1), .ref (a 2), .int (iI (σ 0)), .int (iI (σ 2)), .int (iI (σ 1)), .int (iI (σ 3)), .int (iI (σ 4)), .int (iI (σ 10)), .int (iI (σ 11)), .int (iI (σ 12)), .int (iI (σ 13)), .int (iI (σ 7)), .int (iI (σ 8)), .int (iI (σ 9)), .int (iI (σ 5)), .ref (a 3), .int (iI (σ 18)), .int (iI (σ 14)), .int (iI (σ 15)), .int (iI (σ 16)), .int (iI (σ 17)), .ref (a 4), .int (iI (σ 19)), .int (iI (σ 6)), .ref (a 5), .int (iI (σ 20)), .ref (a 6), .int (iI dg)])), (a 1, .inl (cA, 3200, .inl f)), (a 2, .inl (cA, 3200, .inl fo)), (a 3, .inl (cA, 80, .inl fw)), (a 4, .inl (cA, 60, .inl ft)), (a 5, .inl (cA, 500, .inl fs)), (a 6, .inl (cA, 20, .inl fd))] H := hP
  have hD : va_D A [(a 0, .inr (6, [.ref (a 1), .ref (a 2), .int (iI (σ 0)), .int (iI (σ 2)), .int (iI (σ 1)), .int (iI (σ 3)), .int (iI (σ 4)), .int (iI (σ 10)), .int (iI (σ 11)), .int (iI (σ 12)), .int (iI (σ 13)), .int (iI (σ 7)), .int (iI (σ 8)), .int (iI (σ 9)), .int (iI (σ 5)), .ref (a 3), .int (iI (σ 18)), .int (iI (σ 14)), .int (iI (σ 15)), .int (iI (σ 16)), .int (iI (σ 17)), .ref (a 4), .int (iI (σ 19)), .int (iI (σ 6)), .ref (a 5), .int (iI (σ 20)), .ref (a 6), .int (iI dg)])), (a 1, .inl (cA, 3200, .inl f)), (a 2, .inl (cA, 3200, .inl fo)), (a 3, .inl (cA, 80, .inl fw)), (a 4, .inl (cA, 60, .inl ft)), (a 5, .inl (cA, 500, .inl fs)), (a 6, .inl (cA, 20, .inl fd))] := hD
  refine z_if_ne hx hb 30 (by omega) dX5_status_14 (by decide) (fun c14 => absurd c14 (by omega)) (fun c14 => ?_)
  refine lv_iload_n hx hb dX5_status_17 rfl (lv_at hl 3 rfl) ?_
  refine lv_sipush (v := iI (-9999)) hx hb dX5_status_18 (by decide) ?_
  refine lv_sipush (v := iI 9999) hx hb dX5_status_21 (by decide) ?_
  refine z_calli (w2 := fun _ => [(a 0, .inr (6, [.ref (a 1), .ref (a 2), .int (iI (σ 0)), .int (iI (σ 2)), .int (iI (σ 1)), .int (iI (σ 3)), .int (iI (σ 4)), .int (iI (σ 10)), .int (iI (σ 11)), .int (iI (σ 12)), .int (iI (σ 13)), .int (iI (σ 7)), .int (iI (σ 8)), .int (iI (σ 9)), .int (iI (σ 5)), .ref (a 3), .int (iI (σ 18)), .int (iI (σ 14)), .int (iI (σ 15)), .int (iI (σ 16)), .int (iI (σ 17)), .ref (a 4), .int (iI (σ 19)), .int (iI (σ 6)), .ref (a 5), .int (iI (σ 20)), .ref (a 6), .int (iI dg)])), (a 1, .inl (cA, 3200, .inl f)), (a 2, .inl (cA, 3200, .inl fo)), (a 3, .inl (cA, 80, .inl fw)), (a 4, .inl (cA, 60, .inl ft)), (a 5, .inl (cA, 500, .inl fs)), (a 6, .inl (cA, 20, .inl fd))]) (wc := []) (wr := [(a 0, .inr (6, [.ref (a 1), .ref (a 2), .int (iI (σ 0)), .int (iI (σ 2)), .int (iI (σ 1)), .int (iI (σ 3)), .int (iI (σ 4)), .int (iI (σ 10)), .int (iI (σ 11)), .int (iI (σ 12)), .int (iI (σ 13)), .int (iI (σ 7)), .int (iI (σ 8)), .int (iI (σ 9)), .int (iI (σ 5)), .ref (a 3), .int (iI (σ 18)), .int (iI (σ 14)), .int (iI (σ 15)), .int (iI (σ 16)), .int (iI (σ 17)), .ref (a 4), .int (iI (σ 19)), .int (iI (σ 6)), .ref (a 5), .int (iI (σ 20)), .ref (a 6), .int (iI dg)])), (a 1, .inl (cA, 3200, .inl f)), (a 2, .inl (cA, 3200, .inl fo)), (a 3, .inl (cA, 80, .inl fw)), (a 4, .inl (cA, 60, .inl ft)), (a 5, .inl (cA, 500, .inl fs)), (a 6, .inl (cA, 20, .inl fd))]) (va_runS (As := [.int (iI y), .int (iI ((-9999))), .int (iI 9999)]) (rest := []) ⟨hx, hb, hml, hown, hts⟩ (c_X5_out l D H.size y ((-9999)) 9999 (by omega)) (va_cwS 3 hts gX5_status_X5_out rfl rfl rfl (by decide +kernel) ⟨by rw [hRf]; exact Nat.le_of_ble_eq_true rfl, by rw [hRl]; exact Nat.le_of_ble_eq_true rfl⟩) (z_preS hP hD hK hN [] (by decide) rfl rfl [] rfl) rfl rfl hl.1 rfl (lv_room (Nat.le_of_ble_eq_true rfl)) dX5_status_24 ⟨by rw [hRc]; exact Nat.le_of_ble_eq_true rfl, by rw [hRs]; exact Nat.le_of_ble_eq_true rfl⟩) hP hD hS hA [] [0, 1, 2, 3, 4, 5, 6] rfl rfl (by decide) (by decide) [0, 1, 2, 3, 4, 5, 6] (by decide) (fun _ => rfl) (fun r _ H locs hw hP hD hS => ?_)
  subst hw
  have hP : va_P D vwCl [(a 0, .inr (6, [.ref (a 1), .ref (a 2), .int (iI (σ 0)), .int (iI (σ 2)), .int (iI (σ 1)), .int (iI (σ 3)), .int (iI (σ 4)), .int (iI (σ 10)), .int (iI (σ 11)), .int (iI (σ 12)), .int (iI (σ 13)), .int (iI (σ 7)), .int (iI (σ 8)), .int (iI (σ 9)), .int (iI (σ 5)), .ref (a 3), .int (iI (σ 18)), .int (iI (σ 14)), .int (iI (σ 15)), .int (iI (σ 16)), .int (iI (σ 17)), .ref (a 4), .int (iI (σ 19)), .int (iI (σ 6)), .ref (a 5), .int (iI (σ 20)), .ref (a 6), .int (iI dg)])), (a 1, .inl (cA, 3200, .inl f)), (a 2, .inl (cA, 3200, .inl fo)), (a 3, .inl (cA, 80, .inl fw)), (a 4, .inl (cA, 60, .inl ft)), (a 5, .inl (cA, 500, .inl fs)), (a 6, .inl (cA, 20, .inl fd))] H := hP
  have hD : va_D A [(a 0, .inr (6, [.ref (a 1), .ref (a 2), .int (iI (σ 0)), .int (iI (σ 2)), .int (iI (σ 1)), .int (iI (σ 3)), .int (iI (σ 4)), .int (iI (σ 10)), .int (iI (σ 11)), .int (iI (σ 12)), .int (iI (σ 13)), .int (iI (σ 7)), .int (iI (σ 8)), .int (iI (σ 9)), .int (iI (σ 5)), .ref (a 3), .int (iI (σ 18)), .int (iI (σ 14)), .int (iI (σ 15)), .int (iI (σ 16)), .int (iI (σ 17)), .ref (a 4), .int (iI (σ 19)), .int (iI (σ 6)), .ref (a 5), .int (iI (σ 20)), .ref (a 6), .int (iI dg)])), (a 1, .inl (cA, 3200, .inl f)), (a 2, .inl (cA, 3200, .inl fo)), (a 3, .inl (cA, 80, .inl fw)), (a 4, .inl (cA, 60, .inl ft)), (a 5, .inl (cA, 500, .inl fs)), (a 6, .inl (cA, 20, .inl fd))] := hD
  refine z_if_eq hx hb 34 (by omega) dX5_status_27 (by decide) (fun c27 => ?_) (fun c27 => absurd c27 (by omega))
  refine lv_iconst (v := iI 0) hx hb dX5_status_34 rfl ?_
  refine lv_goto (tgt := 68) hx hb dX5_status_35 (by decide) ?_
  refine lv_istore (lv' := [(4, .int (iI 0)), (0, .ref (a 0)), (1, .int (iI 0)), (2, .int (iI x)), (3, .int (iI y))]) hx hb dX5_status_68 hl (by decide) rfl (fun ls hl => ?_)
  refine lv_iload hx hb dX5_status_70 (lv_at hl 0 rfl) ?_
  refine z_if_eq hx hb 77 (by omega) dX5_status_72 (by decide) (fun c72 => ?_) (fun c72 => absurd c72 (by omega))
  refine lv_aload_n hx hb dX5_status_77 rfl (lv_at hl 1 rfl) ?_
  refine va_get (D := D) (ci := 6) (v := .int (iI (σ 0))) (C := RX5) (T := TX5) (N := 28) hx hb hts inX5 hown hK hP 0 rfl rfl 2 (by decide) kfieldLink_RX5_55_ZScreensModel_version_I (fun _ h9 => h9) rfl dX5_status_78 ?_
  refine lv_iconst (v := iI 3) hx hb dX5_status_81 rfl ?_
  refine z_icmp_gt hx hb 98 (by omega) dX5_status_82 (by decide) (fun c82 => absurd c82 (by omega)) (fun c82 => ?_)
  refine lv_iload_n hx hb dX5_status_85 rfl (lv_at hl 2 rfl) ?_
  refine lv_iconst (v := iI 1) hx hb dX5_status_86 rfl ?_
  refine z_icmp_ne hx hb 101 (by omega) dX5_status_87 (by decide) (fun c87 => ?_) (fun c87 => absurd c87 (by omega))
  refine lv_aload_n hx hb dX5_status_101 rfl (lv_at hl 1 rfl) ?_
  refine lv_iconst (v := iI 0) hx hb dX5_status_102 rfl ?_
  refine va_put (D := D) (ci := 6) (v := .int (iI 0)) (ty := .int) (C := RX5) (T := TX5) (N := 28) hx hb hts inX5 tyX5 tyX5_ok nmX5 hown hK hP hD hS 0 rfl rfl 27 (by decide) kfieldLink_RX5_145_ZScreensModel_digits_I (fun _ h9 => h9) rfl (by decide +kernel) rfl rfl (Nat.le_of_ble_eq_true rfl) dX5_status_103 (fun H locs hP hD hS => ?_)
  have hP : va_P D vwCl [(a 0, .inr (6, [.ref (a 1), .ref (a 2), .int (iI (σ 0)), .int (iI (σ 2)), .int (iI (σ 1)), .int (iI (σ 3)), .int (iI (σ 4)), .int (iI (σ 10)), .int (iI (σ 11)), .int (iI (σ 12)), .int (iI (σ 13)), .int (iI (σ 7)), .int (iI (σ 8)), .int (iI (σ 9)), .int (iI (σ 5)), .ref (a 3), .int (iI (σ 18)), .int (iI (σ 14)), .int (iI (σ 15)), .int (iI (σ 16)), .int (iI (σ 17)), .ref (a 4), .int (iI (σ 19)), .int (iI (σ 6)), .ref (a 5), .int (iI (σ 20)), .ref (a 6), .int (iI 0)])), (a 1, .inl (cA, 3200, .inl f)), (a 2, .inl (cA, 3200, .inl fo)), (a 3, .inl (cA, 80, .inl fw)), (a 4, .inl (cA, 60, .inl ft)), (a 5, .inl (cA, 500, .inl fs)), (a 6, .inl (cA, 20, .inl fd))] H := hP
  have hD : va_D A [(a 0, .inr (6, [.ref (a 1), .ref (a 2), .int (iI (σ 0)), .int (iI (σ 2)), .int (iI (σ 1)), .int (iI (σ 3)), .int (iI (σ 4)), .int (iI (σ 10)), .int (iI (σ 11)), .int (iI (σ 12)), .int (iI (σ 13)), .int (iI (σ 7)), .int (iI (σ 8)), .int (iI (σ 9)), .int (iI (σ 5)), .ref (a 3), .int (iI (σ 18)), .int (iI (σ 14)), .int (iI (σ 15)), .int (iI (σ 16)), .int (iI (σ 17)), .ref (a 4), .int (iI (σ 19)), .int (iI (σ 6)), .ref (a 5), .int (iI (σ 20)), .ref (a 6), .int (iI 0)])), (a 1, .inl (cA, 3200, .inl f)), (a 2, .inl (cA, 3200, .inl fo)), (a 3, .inl (cA, 80, .inl fw)), (a 4, .inl (cA, 60, .inl ft)), (a 5, .inl (cA, 500, .inl fs)), (a 6, .inl (cA, 20, .inl fd))] := hD
  have hl0 : ((([] : List Int)).length : Int) = 0 := rfl
  refine lv_aload_n hx hb dX5_status_106 rfl (lv_at hl 1 rfl) ?_
  refine lv_iload_n hx hb dX5_status_107 rfl (lv_at hl 2 rfl) ?_
  refine z_if_ne hx hb 115 (by omega) dX5_status_108 (by decide) (fun c108 => absurd c108 (by omega)) (fun c108 => ?_)
  refine lv_iload_n hx hb dX5_status_111 rfl (lv_at hl 3 rfl) ?_
  refine lv_goto (tgt := 131) hx hb dX5_status_112 (by decide) ?_
  refine lv_iconst (v := iI 1) hx hb dX5_status_131 rfl ?_
  refine z_callv (w2 := fun u1 => [(a 0, .inr (6, [.ref (a 1), .ref (a 2), .int (iI (σ 0)), .int (iI (σ 2)), .int (iI (σ 1)), .int (iI (σ 3)), .int (iI (σ 4)), .int (iI (σ 10)), .int (iI (σ 11)), .int (iI (σ 12)), .int (iI (σ 13)), .int (iI (σ 7)), .int (iI (σ 8)), .int (iI (σ 9)), .int (iI (σ 5)), .ref (a 3), .int (iI (σ 18)), .int (iI (σ 14)), .int (iI (σ 15)), .int (iI (σ 16)), .int (iI (σ 17)), .ref (a 4), .int (iI (σ 19)), .int (iI (σ 6)), .ref (a 5), .int (iI (σ 20)), .ref (a 6), .int (iI (0 + (((if (1 : Int) = 1 then dec x else dec2 x)).length : Int)))])), (a 1, .inl (cA, 3200, .inl f)), (a 2, .inl (cA, 3200, .inl fo)), (a 3, .inl (cA, 80, .inl fw)), (a 4, .inl (cA, 60, .inl ft)), (a 5, .inl (cA, 500, .inl fs)), (a 6, .inl (cA, 20, .inl u1))]) (wc := [(a 0, .inr (6, [.ref (a 1), .ref (a 2), .int (iI (σ 0)), .int (iI (σ 2)), .int (iI (σ 1)), .int (iI (σ 3)), .int (iI (σ 4)), .int (iI (σ 10)), .int (iI (σ 11)), .int (iI (σ 12)), .int (iI (σ 13)), .int (iI (σ 7)), .int (iI (σ 8)), .int (iI (σ 9)), .int (iI (σ 5)), .ref (a 3), .int (iI (σ 18)), .int (iI (σ 14)), .int (iI (σ 15)), .int (iI (σ 16)), .int (iI (σ 17)), .ref (a 4), .int (iI (σ 19)), .int (iI (σ 6)), .ref (a 5), .int (iI (σ 20)), .ref (a 6), .int (iI 0)])), (a 6, .inl (cA, 20, .inl fd))]) (wr := [(a 1, .inl (cA, 3200, .inl f)), (a 2, .inl (cA, 3200, .inl fo)), (a 3, .inl (cA, 80, .inl fw)), (a 4, .inl (cA, 60, .inl ft)), (a 5, .inl (cA, 500, .inl fs))]) (va_runV (As := [.int (iI x), .int (iI 1)]) (rest := []) ⟨hx, hb, hml, hown, hts⟩ (c_X5_decimal l D H.size cA a σ 0 fd ([] : List Int) x 1 (by omega) (by omega) (tx_nil _)) (cwV 2 hts gX5_status_X5_decimal rfl rfl rfl (by decide +kernel) ⟨by rw [hRf]; exact Nat.le_of_ble_eq_true rfl, by rw [hRl]; exact Nat.le_of_ble_eq_true rfl⟩) (z_preV hP hD hK hN [0, 6] (by decide) rfl rfl [0] rfl (q0 := 0) rfl (ci := 6) rfl) rfl rfl hl.1 rfl (lv_room (Nat.le_of_ble_eq_true rfl)) dX5_status_132 ⟨by rw [hRc]; exact Nat.le_of_ble_eq_true rfl, by rw [hRs]; exact Nat.le_of_ble_eq_true rfl⟩) hP hD hS hA [0, 6] [1, 2, 3, 4, 5] rfl rfl (by decide) (by decide) [5, 0, 1, 2, 3, 4, 6] (by decide) (fun _ => rfl) (fun u1 H locs hw hP hD hS => ?_)
  obtain ⟨d2, hd2⟩ : ∃ z : Int, z = 0 + (((if (1 : Int) = 1 then dec x else dec2 x)).length : Int) := ⟨_, rfl⟩
  rw [← hd2] at hP hD
  have hT3 : zTx u1 (([] : List Int) ++ (if (1 : Int) = 1 then dec x else dec2 x)) := hw
  have hbd2 := rl_len (v := x) (w := 1) (by omega)
  have hl4 : ((([] : List Int) ++ (if (1 : Int) = 1 then dec x else dec2 x)).length : Int) = d2 := by rw [List.length_append]; omega
  have hP : va_P D vwCl [(a 0, .inr (6, [.ref (a 1), .ref (a 2), .int (iI (σ 0)), .int (iI (σ 2)), .int (iI (σ 1)), .int (iI (σ 3)), .int (iI (σ 4)), .int (iI (σ 10)), .int (iI (σ 11)), .int (iI (σ 12)), .int (iI (σ 13)), .int (iI (σ 7)), .int (iI (σ 8)), .int (iI (σ 9)), .int (iI (σ 5)), .ref (a 3), .int (iI (σ 18)), .int (iI (σ 14)), .int (iI (σ 15)), .int (iI (σ 16)), .int (iI (σ 17)), .ref (a 4), .int (iI (σ 19)), .int (iI (σ 6)), .ref (a 5), .int (iI (σ 20)), .ref (a 6), .int (iI d2)])), (a 1, .inl (cA, 3200, .inl f)), (a 2, .inl (cA, 3200, .inl fo)), (a 3, .inl (cA, 80, .inl fw)), (a 4, .inl (cA, 60, .inl ft)), (a 5, .inl (cA, 500, .inl fs)), (a 6, .inl (cA, 20, .inl u1))] H := hP
  have hD : va_D A [(a 0, .inr (6, [.ref (a 1), .ref (a 2), .int (iI (σ 0)), .int (iI (σ 2)), .int (iI (σ 1)), .int (iI (σ 3)), .int (iI (σ 4)), .int (iI (σ 10)), .int (iI (σ 11)), .int (iI (σ 12)), .int (iI (σ 13)), .int (iI (σ 7)), .int (iI (σ 8)), .int (iI (σ 9)), .int (iI (σ 5)), .ref (a 3), .int (iI (σ 18)), .int (iI (σ 14)), .int (iI (σ 15)), .int (iI (σ 16)), .int (iI (σ 17)), .ref (a 4), .int (iI (σ 19)), .int (iI (σ 6)), .ref (a 5), .int (iI (σ 20)), .ref (a 6), .int (iI d2)])), (a 1, .inl (cA, 3200, .inl f)), (a 2, .inl (cA, 3200, .inl fo)), (a 3, .inl (cA, 80, .inl fw)), (a 4, .inl (cA, 60, .inl ft)), (a 5, .inl (cA, 500, .inl fs)), (a 6, .inl (cA, 20, .inl u1))] := hD
  refine lv_aload_n hx hb dX5_status_135 rfl (lv_at hl 1 rfl) ?_
  refine va_get (D := D) (ci := 6) (v := .ref (a 6)) (C := RX5) (T := TX5) (N := 28) hx hb hts inX5 hown hK hP 0 rfl rfl 26 (by decide) kfieldLink_RX5_48_ZScreensModel_digit_I (fun _ h9 => h9) rfl dX5_status_136 ?_
  refine lv_aload_n hx hb dX5_status_139 rfl (lv_at hl 1 rfl) ?_
  refine va_get (D := D) (ci := 6) (v := .int (iI d2)) (C := RX5) (T := TX5) (N := 28) hx hb hts inX5 hown hK hP 0 rfl rfl 27 (by decide) kfieldLink_RX5_145_ZScreensModel_digits_I (fun _ h9 => h9) rfl dX5_status_140 ?_
  refine lv_iload_n hx hb dX5_status_143 rfl (lv_at hl 2 rfl) ?_
  refine z_if_ne hx hb 152 (by omega) dX5_status_144 (by decide) (fun c144 => absurd c144 (by omega)) (fun c144 => ?_)
  refine lv_bipush (v := iI 47) hx hb dX5_status_147 (by decide) ?_
  refine lv_goto (tgt := 154) hx hb dX5_status_149 (by decide) ?_
  refine z_iast hx hb hK hP hD hS 6 0 rfl rfl (by omega) dX5_status_154 (fun H locs hP hD hS => ?_)
  have hP : va_P D vwCl [(a 0, .inr (6, [.ref (a 1), .ref (a 2), .int (iI (σ 0)), .int (iI (σ 2)), .int (iI (σ 1)), .int (iI (σ 3)), .int (iI (σ 4)), .int (iI (σ 10)), .int (iI (σ 11)), .int (iI (σ 12)), .int (iI (σ 13)), .int (iI (σ 7)), .int (iI (σ 8)), .int (iI (σ 9)), .int (iI (σ 5)), .ref (a 3), .int (iI (σ 18)), .int (iI (σ 14)), .int (iI (σ 15)), .int (iI (σ 16)), .int (iI (σ 17)), .ref (a 4), .int (iI (σ 19)), .int (iI (σ 6)), .ref (a 5), .int (iI (σ 20)), .ref (a 6), .int (iI d2)])), (a 1, .inl (cA, 3200, .inl f)), (a 2, .inl (cA, 3200, .inl fo)), (a 3, .inl (cA, 80, .inl fw)), (a 4, .inl (cA, 60, .inl ft)), (a 5, .inl (cA, 500, .inl fs)), (a 6, .inl (cA, 20, .inl (upd u1 (d2).toNat (iI 47))))] H := hP
  have hD : va_D A [(a 0, .inr (6, [.ref (a 1), .ref (a 2), .int (iI (σ 0)), .int (iI (σ 2)), .int (iI (σ 1)), .int (iI (σ 3)), .int (iI (σ 4)), .int (iI (σ 10)), .int (iI (σ 11)), .int (iI (σ 12)), .int (iI (σ 13)), .int (iI (σ 7)), .int (iI (σ 8)), .int (iI (σ 9)), .int (iI (σ 5)), .ref (a 3), .int (iI (σ 18)), .int (iI (σ 14)), .int (iI (σ 15)), .int (iI (σ 16)), .int (iI (σ 17)), .ref (a 4), .int (iI (σ 19)), .int (iI (σ 6)), .ref (a 5), .int (iI (σ 20)), .ref (a 6), .int (iI d2)])), (a 1, .inl (cA, 3200, .inl f)), (a 2, .inl (cA, 3200, .inl fo)), (a 3, .inl (cA, 80, .inl fw)), (a 4, .inl (cA, 60, .inl ft)), (a 5, .inl (cA, 500, .inl fs)), (a 6, .inl (cA, 20, .inl (upd u1 (d2).toNat (iI 47))))] := hD
  have hT5 : zTx (upd u1 (d2).toNat (iI 47)) ((([] : List Int) ++ (if (1 : Int) = 1 then dec x else dec2 x)) ++ [47]) := tx_app hT3 (by omega)
  have hl6 : (((([] : List Int) ++ (if (1 : Int) = 1 then dec x else dec2 x)) ++ [47]).length : Int) = ((([] : List Int) ++ (if (1 : Int) = 1 then dec x else dec2 x)).length : Int) + 1 := by rw [List.length_append]; simp
  refine lv_aload_n hx hb dX5_status_155 rfl (lv_at hl 1 rfl) ?_
  refine lv_dup hx hb dX5_status_156 rfl ?_
  refine va_get (D := D) (ci := 6) (v := .int (iI d2)) (C := RX5) (T := TX5) (N := 28) hx hb hts inX5 hown hK hP 0 rfl rfl 27 (by decide) kfieldLink_RX5_145_ZScreensModel_digits_I (fun _ h9 => h9) rfl dX5_status_157 ?_
  refine lv_iconst (v := iI 1) hx hb dX5_status_160 rfl ?_
  refine z_iadd hx hb dX5_status_161 ?_
  refine va_put (D := D) (ci := 6) (v := .int (iI (d2 + 1))) (ty := .int) (C := RX5) (T := TX5) (N := 28) hx hb hts inX5 tyX5 tyX5_ok nmX5 hown hK hP hD hS 0 rfl rfl 27 (by decide) kfieldLink_RX5_145_ZScreensModel_digits_I (fun _ h9 => h9) rfl (by decide +kernel) rfl rfl (Nat.le_of_ble_eq_true rfl) dX5_status_162 (fun H locs hP hD hS => ?_)
  have hP : va_P D vwCl [(a 0, .inr (6, [.ref (a 1), .ref (a 2), .int (iI (σ 0)), .int (iI (σ 2)), .int (iI (σ 1)), .int (iI (σ 3)), .int (iI (σ 4)), .int (iI (σ 10)), .int (iI (σ 11)), .int (iI (σ 12)), .int (iI (σ 13)), .int (iI (σ 7)), .int (iI (σ 8)), .int (iI (σ 9)), .int (iI (σ 5)), .ref (a 3), .int (iI (σ 18)), .int (iI (σ 14)), .int (iI (σ 15)), .int (iI (σ 16)), .int (iI (σ 17)), .ref (a 4), .int (iI (σ 19)), .int (iI (σ 6)), .ref (a 5), .int (iI (σ 20)), .ref (a 6), .int (iI (d2 + 1))])), (a 1, .inl (cA, 3200, .inl f)), (a 2, .inl (cA, 3200, .inl fo)), (a 3, .inl (cA, 80, .inl fw)), (a 4, .inl (cA, 60, .inl ft)), (a 5, .inl (cA, 500, .inl fs)), (a 6, .inl (cA, 20, .inl (upd u1 (d2).toNat (iI 47))))] H := hP
  have hD : va_D A [(a 0, .inr (6, [.ref (a 1), .ref (a 2), .int (iI (σ 0)), .int (iI (σ 2)), .int (iI (σ 1)), .int (iI (σ 3)), .int (iI (σ 4)), .int (iI (σ 10)), .int (iI (σ 11)), .int (iI (σ 12)), .int (iI (σ 13)), .int (iI (σ 7)), .int (iI (σ 8)), .int (iI (σ 9)), .int (iI (σ 5)), .ref (a 3), .int (iI (σ 18)), .int (iI (σ 14)), .int (iI (σ 15)), .int (iI (σ 16)), .int (iI (σ 17)), .ref (a 4), .int (iI (σ 19)), .int (iI (σ 6)), .ref (a 5), .int (iI (σ 20)), .ref (a 6), .int (iI (d2 + 1))])), (a 1, .inl (cA, 3200, .inl f)), (a 2, .inl (cA, 3200, .inl fo)), (a 3, .inl (cA, 80, .inl fw)), (a 4, .inl (cA, 60, .inl ft)), (a 5, .inl (cA, 500, .inl fs)), (a 6, .inl (cA, 20, .inl (upd u1 (d2).toNat (iI 47))))] := hD
  refine lv_aload_n hx hb dX5_status_165 rfl (lv_at hl 1 rfl) ?_
  refine lv_iload_n hx hb dX5_status_166 rfl (lv_at hl 4 rfl) ?_
  refine lv_iload_n hx hb dX5_status_167 rfl (lv_at hl 2 rfl) ?_
  refine z_if_ne hx hb 175 (by omega) dX5_status_168 (by decide) (fun c168 => absurd c168 (by omega)) (fun c168 => ?_)
  refine lv_iconst (v := iI 1) hx hb dX5_status_171 rfl ?_
  refine lv_goto (tgt := 176) hx hb dX5_status_172 (by decide) ?_
  refine z_callv (w2 := fun u7 => [(a 0, .inr (6, [.ref (a 1), .ref (a 2), .int (iI (σ 0)), .int (iI (σ 2)), .int (iI (σ 1)), .int (iI (σ 3)), .int (iI (σ 4)), .int (iI (σ 10)), .int (iI (σ 11)), .int (iI (σ 12)), .int (iI (σ 13)), .int (iI (σ 7)), .int (iI (σ 8)), .int (iI (σ 9)), .int (iI (σ 5)), .ref (a 3), .int (iI (σ 18)), .int (iI (σ 14)), .int (iI (σ 15)), .int (iI (σ 16)), .int (iI (σ 17)), .ref (a 4), .int (iI (σ 19)), .int (iI (σ 6)), .ref (a 5), .int (iI (σ 20)), .ref (a 6), .int (iI ((d2 + 1) + (((if (1 : Int) = 1 then dec y else dec2 y)).length : Int)))])), (a 1, .inl (cA, 3200, .inl f)), (a 2, .inl (cA, 3200, .inl fo)), (a 3, .inl (cA, 80, .inl fw)), (a 4, .inl (cA, 60, .inl ft)), (a 5, .inl (cA, 500, .inl fs)), (a 6, .inl (cA, 20, .inl u7))]) (wc := [(a 0, .inr (6, [.ref (a 1), .ref (a 2), .int (iI (σ 0)), .int (iI (σ 2)), .int (iI (σ 1)), .int (iI (σ 3)), .int (iI (σ 4)), .int (iI (σ 10)), .int (iI (σ 11)), .int (iI (σ 12)), .int (iI (σ 13)), .int (iI (σ 7)), .int (iI (σ 8)), .int (iI (σ 9)), .int (iI (σ 5)), .ref (a 3), .int (iI (σ 18)), .int (iI (σ 14)), .int (iI (σ 15)), .int (iI (σ 16)), .int (iI (σ 17)), .ref (a 4), .int (iI (σ 19)), .int (iI (σ 6)), .ref (a 5), .int (iI (σ 20)), .ref (a 6), .int (iI (d2 + 1))])), (a 6, .inl (cA, 20, .inl (upd u1 (d2).toNat (iI 47))))]) (wr := [(a 1, .inl (cA, 3200, .inl f)), (a 2, .inl (cA, 3200, .inl fo)), (a 3, .inl (cA, 80, .inl fw)), (a 4, .inl (cA, 60, .inl ft)), (a 5, .inl (cA, 500, .inl fs))]) (va_runV (As := [.int (iI y), .int (iI 1)]) (rest := []) ⟨hx, hb, hml, hown, hts⟩ (c_X5_decimal l D H.size cA a σ (d2 + 1) (upd u1 (d2).toNat (iI 47)) ((([] : List Int) ++ (if (1 : Int) = 1 then dec x else dec2 x)) ++ [47]) y 1 (by omega) (by omega) hT5) (cwV 2 hts gX5_status_X5_decimal rfl rfl rfl (by decide +kernel) ⟨by rw [hRf]; exact Nat.le_of_ble_eq_true rfl, by rw [hRl]; exact Nat.le_of_ble_eq_true rfl⟩) (z_preV hP hD hK hN [0, 6] (by decide) rfl rfl [0] rfl (q0 := 0) rfl (ci := 6) rfl) rfl rfl hl.1 rfl (lv_room (Nat.le_of_ble_eq_true rfl)) dX5_status_176 ⟨by rw [hRc]; exact Nat.le_of_ble_eq_true rfl, by rw [hRs]; exact Nat.le_of_ble_eq_true rfl⟩) hP hD hS hA [0, 6] [1, 2, 3, 4, 5] rfl rfl (by decide) (by decide) [5, 0, 1, 2, 3, 4, 6] (by decide) (fun _ => rfl) (fun u7 H locs hw hP hD hS => ?_)
  obtain ⟨d8, hd8⟩ : ∃ z : Int, z = (d2 + 1) + (((if (1 : Int) = 1 then dec y else dec2 y)).length : Int) := ⟨_, rfl⟩
  rw [← hd8] at hP hD
  have hT9 : zTx u7 (((([] : List Int) ++ (if (1 : Int) = 1 then dec x else dec2 x)) ++ [47]) ++ (if (1 : Int) = 1 then dec y else dec2 y)) := hw
  have hbd8 := rl_len (v := y) (w := 1) (by omega)
  have hl10 : ((((([] : List Int) ++ (if (1 : Int) = 1 then dec x else dec2 x)) ++ [47]) ++ (if (1 : Int) = 1 then dec y else dec2 y)).length : Int) = d8 := by rw [List.length_append]; omega
  have hP : va_P D vwCl [(a 0, .inr (6, [.ref (a 1), .ref (a 2), .int (iI (σ 0)), .int (iI (σ 2)), .int (iI (σ 1)), .int (iI (σ 3)), .int (iI (σ 4)), .int (iI (σ 10)), .int (iI (σ 11)), .int (iI (σ 12)), .int (iI (σ 13)), .int (iI (σ 7)), .int (iI (σ 8)), .int (iI (σ 9)), .int (iI (σ 5)), .ref (a 3), .int (iI (σ 18)), .int (iI (σ 14)), .int (iI (σ 15)), .int (iI (σ 16)), .int (iI (σ 17)), .ref (a 4), .int (iI (σ 19)), .int (iI (σ 6)), .ref (a 5), .int (iI (σ 20)), .ref (a 6), .int (iI d8)])), (a 1, .inl (cA, 3200, .inl f)), (a 2, .inl (cA, 3200, .inl fo)), (a 3, .inl (cA, 80, .inl fw)), (a 4, .inl (cA, 60, .inl ft)), (a 5, .inl (cA, 500, .inl fs)), (a 6, .inl (cA, 20, .inl u7))] H := hP
  have hD : va_D A [(a 0, .inr (6, [.ref (a 1), .ref (a 2), .int (iI (σ 0)), .int (iI (σ 2)), .int (iI (σ 1)), .int (iI (σ 3)), .int (iI (σ 4)), .int (iI (σ 10)), .int (iI (σ 11)), .int (iI (σ 12)), .int (iI (σ 13)), .int (iI (σ 7)), .int (iI (σ 8)), .int (iI (σ 9)), .int (iI (σ 5)), .ref (a 3), .int (iI (σ 18)), .int (iI (σ 14)), .int (iI (σ 15)), .int (iI (σ 16)), .int (iI (σ 17)), .ref (a 4), .int (iI (σ 19)), .int (iI (σ 6)), .ref (a 5), .int (iI (σ 20)), .ref (a 6), .int (iI d8)])), (a 1, .inl (cA, 3200, .inl f)), (a 2, .inl (cA, 3200, .inl fo)), (a 3, .inl (cA, 80, .inl fw)), (a 4, .inl (cA, 60, .inl ft)), (a 5, .inl (cA, 500, .inl fs)), (a 6, .inl (cA, 20, .inl u7))] := hD
  refine lv_iload_n hx hb dX5_status_179 rfl (lv_at hl 2 rfl) ?_
  refine lv_iconst (v := iI 1) hx hb dX5_status_180 rfl ?_
  refine z_icmp_ne hx hb 229 (by omega) dX5_status_181 (by decide) (fun c181 => ?_) (fun c181 => absurd c181 (by omega))
  obtain ⟨T, hTe⟩ : ∃ T : List Int, T = stTx 0 x y := ⟨_, rfl⟩
  have eT : T = (((([] : List Int) ++ (if (1 : Int) = 1 then dec x else dec2 x)) ++ [47]) ++ (if (1 : Int) = 1 then dec y else dec2 y)) := by rw [hTe]; unfold stTx; simp
  have hX : zTx (u7) T := by rw [eT]; exact hT9
  have hln : (T.length : Int) = d8 := by rw [eT]; omega
  have hP : va_P D vwCl [(a 0, .inr (6, [.ref (a 1), .ref (a 2), .int (iI (σ 0)), .int (iI (σ 2)), .int (iI (σ 1)), .int (iI (σ 3)), .int (iI (σ 4)), .int (iI (σ 10)), .int (iI (σ 11)), .int (iI (σ 12)), .int (iI (σ 13)), .int (iI (σ 7)), .int (iI (σ 8)), .int (iI (σ 9)), .int (iI (σ 5)), .ref (a 3), .int (iI (σ 18)), .int (iI (σ 14)), .int (iI (σ 15)), .int (iI (σ 16)), .int (iI (σ 17)), .ref (a 4), .int (iI (σ 19)), .int (iI (σ 6)), .ref (a 5), .int (iI (σ 20)), .ref (a 6), .int (iI ((T.length : Int)))])), (a 1, .inl (cA, 3200, .inl f)), (a 2, .inl (cA, 3200, .inl fo)), (a 3, .inl (cA, 80, .inl fw)), (a 4, .inl (cA, 60, .inl ft)), (a 5, .inl (cA, 500, .inl fs)), (a 6, .inl (cA, 20, .inl u7))] H := by rw [show ((T.length : Int) : Int) = d8 from hln]; exact hP
  have hD : va_D A [(a 0, .inr (6, [.ref (a 1), .ref (a 2), .int (iI (σ 0)), .int (iI (σ 2)), .int (iI (σ 1)), .int (iI (σ 3)), .int (iI (σ 4)), .int (iI (σ 10)), .int (iI (σ 11)), .int (iI (σ 12)), .int (iI (σ 13)), .int (iI (σ 7)), .int (iI (σ 8)), .int (iI (σ 9)), .int (iI (σ 5)), .ref (a 3), .int (iI (σ 18)), .int (iI (σ 14)), .int (iI (σ 15)), .int (iI (σ 16)), .int (iI (σ 17)), .ref (a 4), .int (iI (σ 19)), .int (iI (σ 6)), .ref (a 5), .int (iI (σ 20)), .ref (a 6), .int (iI ((T.length : Int)))])), (a 1, .inl (cA, 3200, .inl f)), (a 2, .inl (cA, 3200, .inl fo)), (a 3, .inl (cA, 80, .inl fw)), (a 4, .inl (cA, 60, .inl ft)), (a 5, .inl (cA, 500, .inl fs)), (a 6, .inl (cA, 20, .inl u7))] := by rw [show ((T.length : Int) : Int) = d8 from hln]; exact hD
  have hlb : 3 ≤ (T.length : Int) ∧ (T.length : Int) ≤ 13 := by omega
  obtain ⟨fdT, hfdT⟩ : ∃ z, z = u7 := ⟨_, rfl⟩
  rw [← hfdT] at hP hD hX
  refine lv_sipush (v := iI 2176) hx hb dX5_status_229 (by decide) ?_
  refine lv_aload_n hx hb dX5_status_232 rfl (lv_at hl 1 rfl) ?_
  refine va_get (D := D) (ci := 6) (v := .int (iI (σ 16))) (C := RX5) (T := TX5) (N := 28) hx hb hts inX5 hown hK hP 0 rfl rfl 19 (by decide) kfieldLink_RX5_36_ZScreensModel_first_I (fun _ h9 => h9) rfl dX5_status_233 ?_
  refine lv_bipush (v := iI 14) hx hb dX5_status_236 (by decide) ?_
  refine lv_ishl hx hb dX5_status_238 ?_
  refine lv_ior hx hb dX5_status_239 ?_
  refine lv_aload_n hx hb dX5_status_240 rfl (lv_at hl 1 rfl) ?_
  refine va_get (D := D) (ci := 6) (v := .int (iI (σ 17))) (C := RX5) (T := TX5) (N := 28) hx hb hts inX5 hown hK hP 0 rfl rfl 20 (by decide) kfieldLink_RX5_39_ZScreensModel_second_I (fun _ h9 => h9) rfl dX5_status_241 ?_
  refine lv_bipush (v := iI 18) hx hb dX5_status_244 (by decide) ?_
  refine lv_ishl hx hb dX5_status_246 ?_
  refine lv_ior hx hb dX5_status_247 ?_
  refine lv_istore (lv' := [(5, .int (((iI 2176) ||| ((iI (σ 16)) <<< ((iI 14) &&& 31))) ||| ((iI (σ 17)) <<< ((iI 18) &&& 31)))), (4, .int (iI 0)), (0, .ref (a 0)), (1, .int (iI 0)), (2, .int (iI x)), (3, .int (iI y))]) hx hb dX5_status_248 hl (by decide) rfl (fun ls hl => ?_)
  refine lv_aload_n hx hb dX5_status_250 rfl (lv_at hl 2 rfl) ?_
  refine va_get (D := D) (ci := 6) (v := .int (iI (σ 2))) (C := RX5) (T := TX5) (N := 28) hx hb hts inX5 hown hK hP 0 rfl rfl 3 (by decide) kfieldLink_RX5_58_ZScreensModel_width_I (fun _ h9 => h9) rfl dX5_status_251 ?_
  refine lv_aload_n hx hb dX5_status_254 rfl (lv_at hl 2 rfl) ?_
  refine va_get (D := D) (ci := 6) (v := .int (iI ((T.length : Int)))) (C := RX5) (T := TX5) (N := 28) hx hb hts inX5 hown hK hP 0 rfl rfl 27 (by decide) kfieldLink_RX5_145_ZScreensModel_digits_I (fun _ h9 => h9) rfl dX5_status_255 ?_
  refine z_isub hx hb dX5_status_258 ?_
  refine lv_istore (lv' := [(6, .int (iI ((σ 2) - ((T.length : Int))))), (5, .int (((iI 2176) ||| ((iI (σ 16)) <<< ((iI 14) &&& 31))) ||| ((iI (σ 17)) <<< ((iI 18) &&& 31)))), (4, .int (iI 0)), (0, .ref (a 0)), (1, .int (iI 0)), (2, .int (iI x)), (3, .int (iI y))]) hx hb dX5_status_259 hl (by decide) rfl (fun ls hl => ?_)
  refine lv_iconst (v := iI 1) hx hb dX5_status_261 rfl ?_
  refine lv_istore (lv' := [(7, .int (iI 1)), (6, .int (iI ((σ 2) - ((T.length : Int))))), (5, .int (((iI 2176) ||| ((iI (σ 16)) <<< ((iI 14) &&& 31))) ||| ((iI (σ 17)) <<< ((iI 18) &&& 31)))), (4, .int (iI 0)), (0, .ref (a 0)), (1, .int (iI 0)), (2, .int (iI x)), (3, .int (iI y))]) hx hb dX5_status_262 hl (by decide) rfl (fun ls hl => ?_)
  have L264 : ∀ (fuel : Nat) (c2 : Int) (g : Nat → Int32) (H : Heap) (locs : List Loc) (ls : Array Slot), (1 ≤ c2 ∧ c2 ≤ σ 2 + 1) → zRG encMK g (gln G (stK σ nm T) (c2 - 1)) (σ 1) (σ 2) → (σ 2 + 1 - c2).toNat < fuel → va_P D vwCl [(a 0, .inr (6, [.ref (a 1), .ref (a 2), .int (iI (σ 0)), .int (iI (σ 2)), .int (iI (σ 1)), .int (iI (σ 3)), .int (iI (σ 4)), .int (iI (σ 10)), .int (iI (σ 11)), .int (iI (σ 12)), .int (iI (σ 13)), .int (iI (σ 7)), .int (iI (σ 8)), .int (iI (σ 9)), .int (iI (σ 5)), .ref (a 3), .int (iI (σ 18)), .int (iI (σ 14)), .int (iI (σ 15)), .int (iI (σ 16)), .int (iI (σ 17)), .ref (a 4), .int (iI (σ 19)), .int (iI (σ 6)), .ref (a 5), .int (iI (σ 20)), .ref (a 6), .int (iI ((T.length : Int)))])), (a 1, .inl (cA, 3200, .inl g)), (a 2, .inl (cA, 3200, .inl fo)), (a 3, .inl (cA, 80, .inl fw)), (a 4, .inl (cA, 60, .inl ft)), (a 5, .inl (cA, 500, .inl fs)), (a 6, .inl (cA, 20, .inl fdT))] H → va_D A [(a 0, .inr (6, [.ref (a 1), .ref (a 2), .int (iI (σ 0)), .int (iI (σ 2)), .int (iI (σ 1)), .int (iI (σ 3)), .int (iI (σ 4)), .int (iI (σ 10)), .int (iI (σ 11)), .int (iI (σ 12)), .int (iI (σ 13)), .int (iI (σ 7)), .int (iI (σ 8)), .int (iI (σ 9)), .int (iI (σ 5)), .ref (a 3), .int (iI (σ 18)), .int (iI (σ 14)), .int (iI (σ 15)), .int (iI (σ 16)), .int (iI (σ 17)), .ref (a 4), .int (iI (σ 19)), .int (iI (σ 6)), .ref (a 5), .int (iI (σ 20)), .ref (a 6), .int (iI ((T.length : Int)))])), (a 1, .inl (cA, 3200, .inl g)), (a 2, .inl (cA, 3200, .inl fo)), (a 3, .inl (cA, 80, .inl fw)), (a 4, .inl (cA, 60, .inl ft)), (a 5, .inl (cA, 500, .inl fs)), (a 6, .inl (cA, 20, .inl fdT))] → va_S A s.heap H locs → lv_has ls 9 [(7, .int (iI c2)), (6, .int (iI ((σ 2) - ((T.length : Int))))), (5, .int (((iI 2176) ||| ((iI (σ 16)) <<< ((iI 14) &&& 31))) ||| ((iI (σ 17)) <<< ((iI 18) &&& 31)))), (4, .int (iI 0)), (0, .ref (a 0)), (1, .int (iI 0)), (2, .int (iI x)), (3, .int (iI y))] → W p l e R s m args below meth c H locs 0 0 Q (F0 m 264 ls []) := by
    intro fuel
    induction fuel with
    | zero => intro c2 g H locs ls hc2 hg hfu; exact absurd hfu (Nat.not_lt_zero _)
    | succ fuel ih264 =>
      intro c2 g H locs ls hc2 hg hfu hP hD hS hl
      refine lv_iload hx hb dX5_status_264 (lv_at hl 0 rfl) ?_
      refine lv_aload_n hx hb dX5_status_266 rfl (lv_at hl 4 rfl) ?_
      refine va_get (D := D) (ci := 6) (v := .int (iI (σ 2))) (C := RX5) (T := TX5) (N := 28) hx hb hts inX5 hown hK hP 0 rfl rfl 3 (by decide) kfieldLink_RX5_58_ZScreensModel_width_I (fun _ h9 => h9) rfl dX5_status_267 ?_
      refine z_icmp_gt hx hb 368 (by omega) dX5_status_270 (by decide) (fun c270 => ?_) (fun c270 => ?_)
      · skip
        refine lv_aload_n hx hb dX5_status_368 rfl (lv_at hl 4 rfl) ?_
        refine lv_iconst (v := iI 0) hx hb dX5_status_369 rfl ?_
        refine va_put (D := D) (ci := 6) (v := .int (iI 0)) (ty := .int) (C := RX5) (T := TX5) (N := 28) hx hb hts inX5 tyX5 tyX5_ok nmX5 hown hK hP hD hS 0 rfl rfl 22 (by decide) kfieldLink_RX5_142_ZScreensModel_nameSize_I (fun _ h9 => h9) rfl (by decide +kernel) rfl rfl (Nat.le_of_ble_eq_true rfl) dX5_status_370 (fun H locs hP hD hS => ?_)
        have hP : va_P D vwCl [(a 0, .inr (6, [.ref (a 1), .ref (a 2), .int (iI (σ 0)), .int (iI (σ 2)), .int (iI (σ 1)), .int (iI (σ 3)), .int (iI (σ 4)), .int (iI (σ 10)), .int (iI (σ 11)), .int (iI (σ 12)), .int (iI (σ 13)), .int (iI (σ 7)), .int (iI (σ 8)), .int (iI (σ 9)), .int (iI (σ 5)), .ref (a 3), .int (iI (σ 18)), .int (iI (σ 14)), .int (iI (σ 15)), .int (iI (σ 16)), .int (iI (σ 17)), .ref (a 4), .int (iI 0), .int (iI (σ 6)), .ref (a 5), .int (iI (σ 20)), .ref (a 6), .int (iI ((T.length : Int)))])), (a 1, .inl (cA, 3200, .inl g)), (a 2, .inl (cA, 3200, .inl fo)), (a 3, .inl (cA, 80, .inl fw)), (a 4, .inl (cA, 60, .inl ft)), (a 5, .inl (cA, 500, .inl fs)), (a 6, .inl (cA, 20, .inl fdT))] H := hP
        have hD : va_D A [(a 0, .inr (6, [.ref (a 1), .ref (a 2), .int (iI (σ 0)), .int (iI (σ 2)), .int (iI (σ 1)), .int (iI (σ 3)), .int (iI (σ 4)), .int (iI (σ 10)), .int (iI (σ 11)), .int (iI (σ 12)), .int (iI (σ 13)), .int (iI (σ 7)), .int (iI (σ 8)), .int (iI (σ 9)), .int (iI (σ 5)), .ref (a 3), .int (iI (σ 18)), .int (iI (σ 14)), .int (iI (σ 15)), .int (iI (σ 16)), .int (iI (σ 17)), .ref (a 4), .int (iI 0), .int (iI (σ 6)), .ref (a 5), .int (iI (σ 20)), .ref (a 6), .int (iI ((T.length : Int)))])), (a 1, .inl (cA, 3200, .inl g)), (a 2, .inl (cA, 3200, .inl fo)), (a 3, .inl (cA, 80, .inl fw)), (a 4, .inl (cA, 60, .inl ft)), (a 5, .inl (cA, 500, .inl fs)), (a 6, .inl (cA, 20, .inl fdT))] := hD
        refine lv_iload hx hb dX5_status_373 (lv_at hl 1 rfl) ?_
        have hgT : zRG encMK g (stG σ nm T G) (σ 1) (σ 2) := by unfold stG; rw [show σ 2 = c2 - 1 by omega] at hg ⊢; exact hg
        subst hTe
        exact K H locs _ (g, fdT) _ ls 0 0 (by omega) (by omega) rfl ⟨rfl, hgT⟩ hP hD hS dX5_status_375
      · skip
        refine lv_bipush (v := iI 32) hx hb dX5_status_273 (by decide) ?_
        refine lv_istore (lv' := [(8, .int (iI 32)), (7, .int (iI c2)), (6, .int (iI ((σ 2) - ((T.length : Int))))), (5, .int (((iI 2176) ||| ((iI (σ 16)) <<< ((iI 14) &&& 31))) ||| ((iI (σ 17)) <<< ((iI 18) &&& 31)))), (4, .int (iI 0)), (0, .ref (a 0)), (1, .int (iI 0)), (2, .int (iI x)), (3, .int (iI y))]) hx hb dX5_status_275 hl (by decide) rfl (fun ls hl => ?_)
        refine lv_iload hx hb dX5_status_277 (lv_at hl 1 rfl) ?_
        refine lv_iload hx hb dX5_status_279 (lv_at hl 2 rfl) ?_
        refine z_icmp_lt hx hb 311 (by omega) dX5_status_281 (by decide) (fun c281 => ?_) (fun c281 => ?_)
        · skip
          refine lv_iload hx hb dX5_status_311 (lv_at hl 1 rfl) ?_
          refine lv_iconst (v := iI 2) hx hb dX5_status_313 rfl ?_
          refine z_icmp_lt hx hb 348 (by omega) dX5_status_314 (by decide) (fun c314 => ?_) (fun c314 => ?_)
          · skip
            refine lv_aload_n hx hb dX5_status_348 rfl (lv_at hl 5 rfl) ?_
            refine va_get (D := D) (ci := 6) (v := .ref (a 1)) (C := RX5) (T := TX5) (N := 28) hx hb hts inX5 hown hK hP 0 rfl rfl 0 (by decide) kfieldLink_RX5_7_ZScreensModel_cells_I (fun _ h9 => h9) rfl dX5_status_349 ?_
            refine lv_iload hx hb dX5_status_352 (lv_at hl 1 rfl) ?_
            refine lv_iconst (v := iI 1) hx hb dX5_status_354 rfl ?_
            refine z_isub hx hb dX5_status_355 ?_
            refine lv_iload hx hb dX5_status_356 (lv_at hl 0 rfl) ?_
            refine lv_iload hx hb dX5_status_358 (lv_at hl 3 rfl) ?_
            refine lv_ior hx hb dX5_status_360 ?_
            refine z_iast hx hb hK hP hD hS 1 0 rfl rfl (by omega) dX5_status_361 (fun H locs hP hD hS => ?_)
            have hP : va_P D vwCl [(a 0, .inr (6, [.ref (a 1), .ref (a 2), .int (iI (σ 0)), .int (iI (σ 2)), .int (iI (σ 1)), .int (iI (σ 3)), .int (iI (σ 4)), .int (iI (σ 10)), .int (iI (σ 11)), .int (iI (σ 12)), .int (iI (σ 13)), .int (iI (σ 7)), .int (iI (σ 8)), .int (iI (σ 9)), .int (iI (σ 5)), .ref (a 3), .int (iI (σ 18)), .int (iI (σ 14)), .int (iI (σ 15)), .int (iI (σ 16)), .int (iI (σ 17)), .ref (a 4), .int (iI (σ 19)), .int (iI (σ 6)), .ref (a 5), .int (iI (σ 20)), .ref (a 6), .int (iI ((T.length : Int)))])), (a 1, .inl (cA, 3200, .inl (upd g (c2 - 1).toNat ((iI 32) ||| (((iI 2176) ||| ((iI (σ 16)) <<< ((iI 14) &&& 31))) ||| ((iI (σ 17)) <<< ((iI 18) &&& 31))))))), (a 2, .inl (cA, 3200, .inl fo)), (a 3, .inl (cA, 80, .inl fw)), (a 4, .inl (cA, 60, .inl ft)), (a 5, .inl (cA, 500, .inl fs)), (a 6, .inl (cA, 20, .inl fdT))] H := hP
            have hD : va_D A [(a 0, .inr (6, [.ref (a 1), .ref (a 2), .int (iI (σ 0)), .int (iI (σ 2)), .int (iI (σ 1)), .int (iI (σ 3)), .int (iI (σ 4)), .int (iI (σ 10)), .int (iI (σ 11)), .int (iI (σ 12)), .int (iI (σ 13)), .int (iI (σ 7)), .int (iI (σ 8)), .int (iI (σ 9)), .int (iI (σ 5)), .ref (a 3), .int (iI (σ 18)), .int (iI (σ 14)), .int (iI (σ 15)), .int (iI (σ 16)), .int (iI (σ 17)), .ref (a 4), .int (iI (σ 19)), .int (iI (σ 6)), .ref (a 5), .int (iI (σ 20)), .ref (a 6), .int (iI ((T.length : Int)))])), (a 1, .inl (cA, 3200, .inl (upd g (c2 - 1).toNat ((iI 32) ||| (((iI 2176) ||| ((iI (σ 16)) <<< ((iI 14) &&& 31))) ||| ((iI (σ 17)) <<< ((iI 18) &&& 31))))))), (a 2, .inl (cA, 3200, .inl fo)), (a 3, .inl (cA, 80, .inl fw)), (a 4, .inl (cA, 60, .inl ft)), (a 5, .inl (cA, 500, .inl fs)), (a 6, .inl (cA, 20, .inl fdT))] := hD
            refine lv_iinc (v := iI (c2 + 1)) (lv' := [(7, .int (iI (c2 + 1))), (8, .int (iI 32)), (6, .int (iI ((σ 2) - ((T.length : Int))))), (5, .int (((iI 2176) ||| ((iI (σ 16)) <<< ((iI 14) &&& 31))) ||| ((iI (σ 17)) <<< ((iI 18) &&& 31)))), (4, .int (iI 0)), (0, .ref (a 0)), (1, .int (iI 0)), (2, .int (iI x)), (3, .int (iI y))]) hx hb dX5_status_362 hl (k := 1) rfl (iI_add _ _) (by decide) rfl (fun ls hl => ?_)
            refine lv_goto (tgt := 264) hx hb dX5_status_365 (by decide) ?_
            have eV : ((iI 32) ||| (((iI 2176) ||| ((iI (σ 16)) <<< ((iI 14) &&& 31))) ||| ((iI (σ 17)) <<< ((iI 18) &&& 31)))) = encMK (stK σ nm T (c2 - 1).toNat) := by
              have e8 : (((c2 - 1).toNat : Nat) : Int) = c2 - 1 := by omega
              unfold encMK stK stCh
              simp only [e8]
              rw [if_neg (show ¬ (σ 2 - (T.length : Int) ≤ c2 - 1 + 1 ∧ c2 - 1 + 1 < σ 2) by omega), if_neg (show ¬ (2 ≤ c2 - 1 + 1 ∧ c2 - 1 + 1 - 2 < σ 19 ∧ c2 - 1 + 1 ≤ σ 2 - (T.length : Int) - 2) by omega)]
              exact encM_st _ _ _
            exact ih264 (c2 + 1) (upd g (c2 - 1).toNat ((iI 32) ||| (((iI 2176) ||| ((iI (σ 16)) <<< ((iI 14) &&& 31))) ||| ((iI (σ 17)) <<< ((iI 18) &&& 31))))) _ _ _ (by omega) (by rw [eV, show c2 + 1 - 1 = c2 - 1 + 1 by omega, ← gln_step (by omega)]; exact rg_set hg (by omega) _ (by omega) (by omega) (by omega)) (by omega) hP hD hS (lv_sub hl [0, 2, 3, 4, 5, 6, 7, 8] rfl)
          · skip
            refine lv_iload hx hb dX5_status_317 (lv_at hl 1 rfl) ?_
            refine lv_iconst (v := iI 2) hx hb dX5_status_319 rfl ?_
            refine z_isub hx hb dX5_status_320 ?_
            refine lv_aload_n hx hb dX5_status_321 rfl (lv_at hl 5 rfl) ?_
            refine va_get (D := D) (ci := 6) (v := .int (iI (σ 19))) (C := RX5) (T := TX5) (N := 28) hx hb hts inX5 hown hK hP 0 rfl rfl 22 (by decide) kfieldLink_RX5_142_ZScreensModel_nameSize_I (fun _ h9 => h9) rfl dX5_status_322 ?_
            refine z_icmp_ge hx hb 348 (by omega) dX5_status_325 (by decide) (fun c325 => ?_) (fun c325 => ?_)
            · skip
              refine lv_aload_n hx hb dX5_status_348 rfl (lv_at hl 5 rfl) ?_
              refine va_get (D := D) (ci := 6) (v := .ref (a 1)) (C := RX5) (T := TX5) (N := 28) hx hb hts inX5 hown hK hP 0 rfl rfl 0 (by decide) kfieldLink_RX5_7_ZScreensModel_cells_I (fun _ h9 => h9) rfl dX5_status_349 ?_
              refine lv_iload hx hb dX5_status_352 (lv_at hl 1 rfl) ?_
              refine lv_iconst (v := iI 1) hx hb dX5_status_354 rfl ?_
              refine z_isub hx hb dX5_status_355 ?_
              refine lv_iload hx hb dX5_status_356 (lv_at hl 0 rfl) ?_
              refine lv_iload hx hb dX5_status_358 (lv_at hl 3 rfl) ?_
              refine lv_ior hx hb dX5_status_360 ?_
              refine z_iast hx hb hK hP hD hS 1 0 rfl rfl (by omega) dX5_status_361 (fun H locs hP hD hS => ?_)
              have hP : va_P D vwCl [(a 0, .inr (6, [.ref (a 1), .ref (a 2), .int (iI (σ 0)), .int (iI (σ 2)), .int (iI (σ 1)), .int (iI (σ 3)), .int (iI (σ 4)), .int (iI (σ 10)), .int (iI (σ 11)), .int (iI (σ 12)), .int (iI (σ 13)), .int (iI (σ 7)), .int (iI (σ 8)), .int (iI (σ 9)), .int (iI (σ 5)), .ref (a 3), .int (iI (σ 18)), .int (iI (σ 14)), .int (iI (σ 15)), .int (iI (σ 16)), .int (iI (σ 17)), .ref (a 4), .int (iI (σ 19)), .int (iI (σ 6)), .ref (a 5), .int (iI (σ 20)), .ref (a 6), .int (iI ((T.length : Int)))])), (a 1, .inl (cA, 3200, .inl (upd g (c2 - 1).toNat ((iI 32) ||| (((iI 2176) ||| ((iI (σ 16)) <<< ((iI 14) &&& 31))) ||| ((iI (σ 17)) <<< ((iI 18) &&& 31))))))), (a 2, .inl (cA, 3200, .inl fo)), (a 3, .inl (cA, 80, .inl fw)), (a 4, .inl (cA, 60, .inl ft)), (a 5, .inl (cA, 500, .inl fs)), (a 6, .inl (cA, 20, .inl fdT))] H := hP
              have hD : va_D A [(a 0, .inr (6, [.ref (a 1), .ref (a 2), .int (iI (σ 0)), .int (iI (σ 2)), .int (iI (σ 1)), .int (iI (σ 3)), .int (iI (σ 4)), .int (iI (σ 10)), .int (iI (σ 11)), .int (iI (σ 12)), .int (iI (σ 13)), .int (iI (σ 7)), .int (iI (σ 8)), .int (iI (σ 9)), .int (iI (σ 5)), .ref (a 3), .int (iI (σ 18)), .int (iI (σ 14)), .int (iI (σ 15)), .int (iI (σ 16)), .int (iI (σ 17)), .ref (a 4), .int (iI (σ 19)), .int (iI (σ 6)), .ref (a 5), .int (iI (σ 20)), .ref (a 6), .int (iI ((T.length : Int)))])), (a 1, .inl (cA, 3200, .inl (upd g (c2 - 1).toNat ((iI 32) ||| (((iI 2176) ||| ((iI (σ 16)) <<< ((iI 14) &&& 31))) ||| ((iI (σ 17)) <<< ((iI 18) &&& 31))))))), (a 2, .inl (cA, 3200, .inl fo)), (a 3, .inl (cA, 80, .inl fw)), (a 4, .inl (cA, 60, .inl ft)), (a 5, .inl (cA, 500, .inl fs)), (a 6, .inl (cA, 20, .inl fdT))] := hD
              refine lv_iinc (v := iI (c2 + 1)) (lv' := [(7, .int (iI (c2 + 1))), (8, .int (iI 32)), (6, .int (iI ((σ 2) - ((T.length : Int))))), (5, .int (((iI 2176) ||| ((iI (σ 16)) <<< ((iI 14) &&& 31))) ||| ((iI (σ 17)) <<< ((iI 18) &&& 31)))), (4, .int (iI 0)), (0, .ref (a 0)), (1, .int (iI 0)), (2, .int (iI x)), (3, .int (iI y))]) hx hb dX5_status_362 hl (k := 1) rfl (iI_add _ _) (by decide) rfl (fun ls hl => ?_)
              refine lv_goto (tgt := 264) hx hb dX5_status_365 (by decide) ?_
              have eV : ((iI 32) ||| (((iI 2176) ||| ((iI (σ 16)) <<< ((iI 14) &&& 31))) ||| ((iI (σ 17)) <<< ((iI 18) &&& 31)))) = encMK (stK σ nm T (c2 - 1).toNat) := by
                have e8 : (((c2 - 1).toNat : Nat) : Int) = c2 - 1 := by omega
                unfold encMK stK stCh
                simp only [e8]
                rw [if_neg (show ¬ (σ 2 - (T.length : Int) ≤ c2 - 1 + 1 ∧ c2 - 1 + 1 < σ 2) by omega), if_neg (show ¬ (2 ≤ c2 - 1 + 1 ∧ c2 - 1 + 1 - 2 < σ 19 ∧ c2 - 1 + 1 ≤ σ 2 - (T.length : Int) - 2) by omega)]
                exact encM_st _ _ _
              exact ih264 (c2 + 1) (upd g (c2 - 1).toNat ((iI 32) ||| (((iI 2176) ||| ((iI (σ 16)) <<< ((iI 14) &&& 31))) ||| ((iI (σ 17)) <<< ((iI 18) &&& 31))))) _ _ _ (by omega) (by rw [eV, show c2 + 1 - 1 = c2 - 1 + 1 by omega, ← gln_step (by omega)]; exact rg_set hg (by omega) _ (by omega) (by omega) (by omega)) (by omega) hP hD hS (lv_sub hl [0, 2, 3, 4, 5, 6, 7, 8] rfl)
            · skip
              refine lv_iload hx hb dX5_status_328 (lv_at hl 1 rfl) ?_
              refine lv_iload hx hb dX5_status_330 (lv_at hl 2 rfl) ?_
              refine lv_iconst (v := iI 2) hx hb dX5_status_332 rfl ?_
              refine z_isub hx hb dX5_status_333 ?_
              refine z_icmp_gt hx hb 348 (by omega) dX5_status_334 (by decide) (fun c334 => ?_) (fun c334 => ?_)
              · skip
                refine lv_aload_n hx hb dX5_status_348 rfl (lv_at hl 5 rfl) ?_
                refine va_get (D := D) (ci := 6) (v := .ref (a 1)) (C := RX5) (T := TX5) (N := 28) hx hb hts inX5 hown hK hP 0 rfl rfl 0 (by decide) kfieldLink_RX5_7_ZScreensModel_cells_I (fun _ h9 => h9) rfl dX5_status_349 ?_
                refine lv_iload hx hb dX5_status_352 (lv_at hl 1 rfl) ?_
                refine lv_iconst (v := iI 1) hx hb dX5_status_354 rfl ?_
                refine z_isub hx hb dX5_status_355 ?_
                refine lv_iload hx hb dX5_status_356 (lv_at hl 0 rfl) ?_
                refine lv_iload hx hb dX5_status_358 (lv_at hl 3 rfl) ?_
                refine lv_ior hx hb dX5_status_360 ?_
                refine z_iast hx hb hK hP hD hS 1 0 rfl rfl (by omega) dX5_status_361 (fun H locs hP hD hS => ?_)
                have hP : va_P D vwCl [(a 0, .inr (6, [.ref (a 1), .ref (a 2), .int (iI (σ 0)), .int (iI (σ 2)), .int (iI (σ 1)), .int (iI (σ 3)), .int (iI (σ 4)), .int (iI (σ 10)), .int (iI (σ 11)), .int (iI (σ 12)), .int (iI (σ 13)), .int (iI (σ 7)), .int (iI (σ 8)), .int (iI (σ 9)), .int (iI (σ 5)), .ref (a 3), .int (iI (σ 18)), .int (iI (σ 14)), .int (iI (σ 15)), .int (iI (σ 16)), .int (iI (σ 17)), .ref (a 4), .int (iI (σ 19)), .int (iI (σ 6)), .ref (a 5), .int (iI (σ 20)), .ref (a 6), .int (iI ((T.length : Int)))])), (a 1, .inl (cA, 3200, .inl (upd g (c2 - 1).toNat ((iI 32) ||| (((iI 2176) ||| ((iI (σ 16)) <<< ((iI 14) &&& 31))) ||| ((iI (σ 17)) <<< ((iI 18) &&& 31))))))), (a 2, .inl (cA, 3200, .inl fo)), (a 3, .inl (cA, 80, .inl fw)), (a 4, .inl (cA, 60, .inl ft)), (a 5, .inl (cA, 500, .inl fs)), (a 6, .inl (cA, 20, .inl fdT))] H := hP
                have hD : va_D A [(a 0, .inr (6, [.ref (a 1), .ref (a 2), .int (iI (σ 0)), .int (iI (σ 2)), .int (iI (σ 1)), .int (iI (σ 3)), .int (iI (σ 4)), .int (iI (σ 10)), .int (iI (σ 11)), .int (iI (σ 12)), .int (iI (σ 13)), .int (iI (σ 7)), .int (iI (σ 8)), .int (iI (σ 9)), .int (iI (σ 5)), .ref (a 3), .int (iI (σ 18)), .int (iI (σ 14)), .int (iI (σ 15)), .int (iI (σ 16)), .int (iI (σ 17)), .ref (a 4), .int (iI (σ 19)), .int (iI (σ 6)), .ref (a 5), .int (iI (σ 20)), .ref (a 6), .int (iI ((T.length : Int)))])), (a 1, .inl (cA, 3200, .inl (upd g (c2 - 1).toNat ((iI 32) ||| (((iI 2176) ||| ((iI (σ 16)) <<< ((iI 14) &&& 31))) ||| ((iI (σ 17)) <<< ((iI 18) &&& 31))))))), (a 2, .inl (cA, 3200, .inl fo)), (a 3, .inl (cA, 80, .inl fw)), (a 4, .inl (cA, 60, .inl ft)), (a 5, .inl (cA, 500, .inl fs)), (a 6, .inl (cA, 20, .inl fdT))] := hD
                refine lv_iinc (v := iI (c2 + 1)) (lv' := [(7, .int (iI (c2 + 1))), (8, .int (iI 32)), (6, .int (iI ((σ 2) - ((T.length : Int))))), (5, .int (((iI 2176) ||| ((iI (σ 16)) <<< ((iI 14) &&& 31))) ||| ((iI (σ 17)) <<< ((iI 18) &&& 31)))), (4, .int (iI 0)), (0, .ref (a 0)), (1, .int (iI 0)), (2, .int (iI x)), (3, .int (iI y))]) hx hb dX5_status_362 hl (k := 1) rfl (iI_add _ _) (by decide) rfl (fun ls hl => ?_)
                refine lv_goto (tgt := 264) hx hb dX5_status_365 (by decide) ?_
                have eV : ((iI 32) ||| (((iI 2176) ||| ((iI (σ 16)) <<< ((iI 14) &&& 31))) ||| ((iI (σ 17)) <<< ((iI 18) &&& 31)))) = encMK (stK σ nm T (c2 - 1).toNat) := by
                  have e8 : (((c2 - 1).toNat : Nat) : Int) = c2 - 1 := by omega
                  unfold encMK stK stCh
                  simp only [e8]
                  rw [if_neg (show ¬ (σ 2 - (T.length : Int) ≤ c2 - 1 + 1 ∧ c2 - 1 + 1 < σ 2) by omega), if_neg (show ¬ (2 ≤ c2 - 1 + 1 ∧ c2 - 1 + 1 - 2 < σ 19 ∧ c2 - 1 + 1 ≤ σ 2 - (T.length : Int) - 2) by omega)]
                  exact encM_st _ _ _
                exact ih264 (c2 + 1) (upd g (c2 - 1).toNat ((iI 32) ||| (((iI 2176) ||| ((iI (σ 16)) <<< ((iI 14) &&& 31))) ||| ((iI (σ 17)) <<< ((iI 18) &&& 31))))) _ _ _ (by omega) (by rw [eV, show c2 + 1 - 1 = c2 - 1 + 1 by omega, ← gln_step (by omega)]; exact rg_set hg (by omega) _ (by omega) (by omega) (by omega)) (by omega) hP hD hS (lv_sub hl [0, 2, 3, 4, 5, 6, 7, 8] rfl)
              · skip
                refine lv_aload_n hx hb dX5_status_337 rfl (lv_at hl 5 rfl) ?_
                refine va_get (D := D) (ci := 6) (v := .ref (a 4)) (C := RX5) (T := TX5) (N := 28) hx hb hts inX5 hown hK hP 0 rfl rfl 21 (by decide) kfieldLink_RX5_42_ZScreensModel_name_I (fun _ h9 => h9) rfl dX5_status_338 ?_
                refine lv_iload hx hb dX5_status_341 (lv_at hl 1 rfl) ?_
                refine lv_iconst (v := iI 2) hx hb dX5_status_343 rfl ?_
                refine z_isub hx hb dX5_status_344 ?_
                refine z_iald hx hb hK hP 4 0 rfl rfl (by omega) dX5_status_345 ?_
                refine lv_istore (lv' := [(8, .int (ft (c2 - 2).toNat)), (7, .int (iI c2)), (6, .int (iI ((σ 2) - ((T.length : Int))))), (5, .int (((iI 2176) ||| ((iI (σ 16)) <<< ((iI 14) &&& 31))) ||| ((iI (σ 17)) <<< ((iI 18) &&& 31)))), (4, .int (iI 0)), (0, .ref (a 0)), (1, .int (iI 0)), (2, .int (iI x)), (3, .int (iI y))]) hx hb dX5_status_346 hl (by decide) rfl (fun ls hl => ?_)
                refine lv_aload_n hx hb dX5_status_348 rfl (lv_at hl 5 rfl) ?_
                refine va_get (D := D) (ci := 6) (v := .ref (a 1)) (C := RX5) (T := TX5) (N := 28) hx hb hts inX5 hown hK hP 0 rfl rfl 0 (by decide) kfieldLink_RX5_7_ZScreensModel_cells_I (fun _ h9 => h9) rfl dX5_status_349 ?_
                refine lv_iload hx hb dX5_status_352 (lv_at hl 1 rfl) ?_
                refine lv_iconst (v := iI 1) hx hb dX5_status_354 rfl ?_
                refine z_isub hx hb dX5_status_355 ?_
                refine lv_iload hx hb dX5_status_356 (lv_at hl 0 rfl) ?_
                refine lv_iload hx hb dX5_status_358 (lv_at hl 3 rfl) ?_
                refine lv_ior hx hb dX5_status_360 ?_
                refine z_iast hx hb hK hP hD hS 1 0 rfl rfl (by omega) dX5_status_361 (fun H locs hP hD hS => ?_)
                have hP : va_P D vwCl [(a 0, .inr (6, [.ref (a 1), .ref (a 2), .int (iI (σ 0)), .int (iI (σ 2)), .int (iI (σ 1)), .int (iI (σ 3)), .int (iI (σ 4)), .int (iI (σ 10)), .int (iI (σ 11)), .int (iI (σ 12)), .int (iI (σ 13)), .int (iI (σ 7)), .int (iI (σ 8)), .int (iI (σ 9)), .int (iI (σ 5)), .ref (a 3), .int (iI (σ 18)), .int (iI (σ 14)), .int (iI (σ 15)), .int (iI (σ 16)), .int (iI (σ 17)), .ref (a 4), .int (iI (σ 19)), .int (iI (σ 6)), .ref (a 5), .int (iI (σ 20)), .ref (a 6), .int (iI ((T.length : Int)))])), (a 1, .inl (cA, 3200, .inl (upd g (c2 - 1).toNat ((ft (c2 - 2).toNat) ||| (((iI 2176) ||| ((iI (σ 16)) <<< ((iI 14) &&& 31))) ||| ((iI (σ 17)) <<< ((iI 18) &&& 31))))))), (a 2, .inl (cA, 3200, .inl fo)), (a 3, .inl (cA, 80, .inl fw)), (a 4, .inl (cA, 60, .inl ft)), (a 5, .inl (cA, 500, .inl fs)), (a 6, .inl (cA, 20, .inl fdT))] H := hP
                have hD : va_D A [(a 0, .inr (6, [.ref (a 1), .ref (a 2), .int (iI (σ 0)), .int (iI (σ 2)), .int (iI (σ 1)), .int (iI (σ 3)), .int (iI (σ 4)), .int (iI (σ 10)), .int (iI (σ 11)), .int (iI (σ 12)), .int (iI (σ 13)), .int (iI (σ 7)), .int (iI (σ 8)), .int (iI (σ 9)), .int (iI (σ 5)), .ref (a 3), .int (iI (σ 18)), .int (iI (σ 14)), .int (iI (σ 15)), .int (iI (σ 16)), .int (iI (σ 17)), .ref (a 4), .int (iI (σ 19)), .int (iI (σ 6)), .ref (a 5), .int (iI (σ 20)), .ref (a 6), .int (iI ((T.length : Int)))])), (a 1, .inl (cA, 3200, .inl (upd g (c2 - 1).toNat ((ft (c2 - 2).toNat) ||| (((iI 2176) ||| ((iI (σ 16)) <<< ((iI 14) &&& 31))) ||| ((iI (σ 17)) <<< ((iI 18) &&& 31))))))), (a 2, .inl (cA, 3200, .inl fo)), (a 3, .inl (cA, 80, .inl fw)), (a 4, .inl (cA, 60, .inl ft)), (a 5, .inl (cA, 500, .inl fs)), (a 6, .inl (cA, 20, .inl fdT))] := hD
                refine lv_iinc (v := iI (c2 + 1)) (lv' := [(7, .int (iI (c2 + 1))), (8, .int (ft (c2 - 2).toNat)), (6, .int (iI ((σ 2) - ((T.length : Int))))), (5, .int (((iI 2176) ||| ((iI (σ 16)) <<< ((iI 14) &&& 31))) ||| ((iI (σ 17)) <<< ((iI 18) &&& 31)))), (4, .int (iI 0)), (0, .ref (a 0)), (1, .int (iI 0)), (2, .int (iI x)), (3, .int (iI y))]) hx hb dX5_status_362 hl (k := 1) rfl (iI_add _ _) (by decide) rfl (fun ls hl => ?_)
                refine lv_goto (tgt := 264) hx hb dX5_status_365 (by decide) ?_
                have eV : ((ft (c2 - 2).toNat) ||| (((iI 2176) ||| ((iI (σ 16)) <<< ((iI 14) &&& 31))) ||| ((iI (σ 17)) <<< ((iI 18) &&& 31)))) = encMK (stK σ nm T (c2 - 1).toNat) := by
                  rw [hM _ (by omega)]
                  have e8 : (((c2 - 1).toNat : Nat) : Int) = c2 - 1 := by omega
                  unfold encMK stK stCh
                  simp only [e8]
                  rw [if_neg (show ¬ (σ 2 - (T.length : Int) ≤ c2 - 1 + 1 ∧ c2 - 1 + 1 < σ 2) by omega), if_pos (show 2 ≤ c2 - 1 + 1 ∧ c2 - 1 + 1 - 2 < σ 19 ∧ c2 - 1 + 1 ≤ σ 2 - (T.length : Int) - 2 by omega)]
                  rw [show (c2 - 1 + 1 - 2).toNat = (c2 - 2).toNat by omega]; exact encM_st _ _ _
                exact ih264 (c2 + 1) (upd g (c2 - 1).toNat ((ft (c2 - 2).toNat) ||| (((iI 2176) ||| ((iI (σ 16)) <<< ((iI 14) &&& 31))) ||| ((iI (σ 17)) <<< ((iI 18) &&& 31))))) _ _ _ (by omega) (by rw [eV, show c2 + 1 - 1 = c2 - 1 + 1 by omega, ← gln_step (by omega)]; exact rg_set hg (by omega) _ (by omega) (by omega) (by omega)) (by omega) hP hD hS (lv_sub hl [0, 2, 3, 4, 5, 6, 7, 8] rfl)
        · skip
          refine lv_iload hx hb dX5_status_284 (lv_at hl 1 rfl) ?_
          refine lv_iload hx hb dX5_status_286 (lv_at hl 2 rfl) ?_
          refine lv_aload_n hx hb dX5_status_288 rfl (lv_at hl 5 rfl) ?_
          refine va_get (D := D) (ci := 6) (v := .int (iI ((T.length : Int)))) (C := RX5) (T := TX5) (N := 28) hx hb hts inX5 hown hK hP 0 rfl rfl 27 (by decide) kfieldLink_RX5_145_ZScreensModel_digits_I (fun _ h9 => h9) rfl dX5_status_289 ?_
          refine z_iadd hx hb dX5_status_292 ?_
          refine z_icmp_ge hx hb 311 (by omega) dX5_status_293 (by decide) (fun c293 => ?_) (fun c293 => ?_)
          · skip
            refine lv_iload hx hb dX5_status_311 (lv_at hl 1 rfl) ?_
            refine lv_iconst (v := iI 2) hx hb dX5_status_313 rfl ?_
            refine z_icmp_lt hx hb 348 (by omega) dX5_status_314 (by decide) (fun c314 => ?_) (fun c314 => ?_)
            · skip
              refine lv_aload_n hx hb dX5_status_348 rfl (lv_at hl 5 rfl) ?_
              refine va_get (D := D) (ci := 6) (v := .ref (a 1)) (C := RX5) (T := TX5) (N := 28) hx hb hts inX5 hown hK hP 0 rfl rfl 0 (by decide) kfieldLink_RX5_7_ZScreensModel_cells_I (fun _ h9 => h9) rfl dX5_status_349 ?_
              refine lv_iload hx hb dX5_status_352 (lv_at hl 1 rfl) ?_
              refine lv_iconst (v := iI 1) hx hb dX5_status_354 rfl ?_
              refine z_isub hx hb dX5_status_355 ?_
              refine lv_iload hx hb dX5_status_356 (lv_at hl 0 rfl) ?_
              refine lv_iload hx hb dX5_status_358 (lv_at hl 3 rfl) ?_
              refine lv_ior hx hb dX5_status_360 ?_
              refine z_iast hx hb hK hP hD hS 1 0 rfl rfl (by omega) dX5_status_361 (fun H locs hP hD hS => ?_)
              have hP : va_P D vwCl [(a 0, .inr (6, [.ref (a 1), .ref (a 2), .int (iI (σ 0)), .int (iI (σ 2)), .int (iI (σ 1)), .int (iI (σ 3)), .int (iI (σ 4)), .int (iI (σ 10)), .int (iI (σ 11)), .int (iI (σ 12)), .int (iI (σ 13)), .int (iI (σ 7)), .int (iI (σ 8)), .int (iI (σ 9)), .int (iI (σ 5)), .ref (a 3), .int (iI (σ 18)), .int (iI (σ 14)), .int (iI (σ 15)), .int (iI (σ 16)), .int (iI (σ 17)), .ref (a 4), .int (iI (σ 19)), .int (iI (σ 6)), .ref (a 5), .int (iI (σ 20)), .ref (a 6), .int (iI ((T.length : Int)))])), (a 1, .inl (cA, 3200, .inl (upd g (c2 - 1).toNat ((iI 32) ||| (((iI 2176) ||| ((iI (σ 16)) <<< ((iI 14) &&& 31))) ||| ((iI (σ 17)) <<< ((iI 18) &&& 31))))))), (a 2, .inl (cA, 3200, .inl fo)), (a 3, .inl (cA, 80, .inl fw)), (a 4, .inl (cA, 60, .inl ft)), (a 5, .inl (cA, 500, .inl fs)), (a 6, .inl (cA, 20, .inl fdT))] H := hP
              have hD : va_D A [(a 0, .inr (6, [.ref (a 1), .ref (a 2), .int (iI (σ 0)), .int (iI (σ 2)), .int (iI (σ 1)), .int (iI (σ 3)), .int (iI (σ 4)), .int (iI (σ 10)), .int (iI (σ 11)), .int (iI (σ 12)), .int (iI (σ 13)), .int (iI (σ 7)), .int (iI (σ 8)), .int (iI (σ 9)), .int (iI (σ 5)), .ref (a 3), .int (iI (σ 18)), .int (iI (σ 14)), .int (iI (σ 15)), .int (iI (σ 16)), .int (iI (σ 17)), .ref (a 4), .int (iI (σ 19)), .int (iI (σ 6)), .ref (a 5), .int (iI (σ 20)), .ref (a 6), .int (iI ((T.length : Int)))])), (a 1, .inl (cA, 3200, .inl (upd g (c2 - 1).toNat ((iI 32) ||| (((iI 2176) ||| ((iI (σ 16)) <<< ((iI 14) &&& 31))) ||| ((iI (σ 17)) <<< ((iI 18) &&& 31))))))), (a 2, .inl (cA, 3200, .inl fo)), (a 3, .inl (cA, 80, .inl fw)), (a 4, .inl (cA, 60, .inl ft)), (a 5, .inl (cA, 500, .inl fs)), (a 6, .inl (cA, 20, .inl fdT))] := hD
              refine lv_iinc (v := iI (c2 + 1)) (lv' := [(7, .int (iI (c2 + 1))), (8, .int (iI 32)), (6, .int (iI ((σ 2) - ((T.length : Int))))), (5, .int (((iI 2176) ||| ((iI (σ 16)) <<< ((iI 14) &&& 31))) ||| ((iI (σ 17)) <<< ((iI 18) &&& 31)))), (4, .int (iI 0)), (0, .ref (a 0)), (1, .int (iI 0)), (2, .int (iI x)), (3, .int (iI y))]) hx hb dX5_status_362 hl (k := 1) rfl (iI_add _ _) (by decide) rfl (fun ls hl => ?_)
              refine lv_goto (tgt := 264) hx hb dX5_status_365 (by decide) ?_
              have eV : ((iI 32) ||| (((iI 2176) ||| ((iI (σ 16)) <<< ((iI 14) &&& 31))) ||| ((iI (σ 17)) <<< ((iI 18) &&& 31)))) = encMK (stK σ nm T (c2 - 1).toNat) := by
                have e8 : (((c2 - 1).toNat : Nat) : Int) = c2 - 1 := by omega
                unfold encMK stK stCh
                simp only [e8]
                rw [if_neg (show ¬ (σ 2 - (T.length : Int) ≤ c2 - 1 + 1 ∧ c2 - 1 + 1 < σ 2) by omega), if_neg (show ¬ (2 ≤ c2 - 1 + 1 ∧ c2 - 1 + 1 - 2 < σ 19 ∧ c2 - 1 + 1 ≤ σ 2 - (T.length : Int) - 2) by omega)]
                exact encM_st _ _ _
              exact ih264 (c2 + 1) (upd g (c2 - 1).toNat ((iI 32) ||| (((iI 2176) ||| ((iI (σ 16)) <<< ((iI 14) &&& 31))) ||| ((iI (σ 17)) <<< ((iI 18) &&& 31))))) _ _ _ (by omega) (by rw [eV, show c2 + 1 - 1 = c2 - 1 + 1 by omega, ← gln_step (by omega)]; exact rg_set hg (by omega) _ (by omega) (by omega) (by omega)) (by omega) hP hD hS (lv_sub hl [0, 2, 3, 4, 5, 6, 7, 8] rfl)
            · skip
              refine lv_iload hx hb dX5_status_317 (lv_at hl 1 rfl) ?_
              refine lv_iconst (v := iI 2) hx hb dX5_status_319 rfl ?_
              refine z_isub hx hb dX5_status_320 ?_
              refine lv_aload_n hx hb dX5_status_321 rfl (lv_at hl 5 rfl) ?_
              refine va_get (D := D) (ci := 6) (v := .int (iI (σ 19))) (C := RX5) (T := TX5) (N := 28) hx hb hts inX5 hown hK hP 0 rfl rfl 22 (by decide) kfieldLink_RX5_142_ZScreensModel_nameSize_I (fun _ h9 => h9) rfl dX5_status_322 ?_
              refine z_icmp_ge hx hb 348 (by omega) dX5_status_325 (by decide) (fun c325 => ?_) (fun c325 => ?_)
              · skip
                refine lv_aload_n hx hb dX5_status_348 rfl (lv_at hl 5 rfl) ?_
                refine va_get (D := D) (ci := 6) (v := .ref (a 1)) (C := RX5) (T := TX5) (N := 28) hx hb hts inX5 hown hK hP 0 rfl rfl 0 (by decide) kfieldLink_RX5_7_ZScreensModel_cells_I (fun _ h9 => h9) rfl dX5_status_349 ?_
                refine lv_iload hx hb dX5_status_352 (lv_at hl 1 rfl) ?_
                refine lv_iconst (v := iI 1) hx hb dX5_status_354 rfl ?_
                refine z_isub hx hb dX5_status_355 ?_
                refine lv_iload hx hb dX5_status_356 (lv_at hl 0 rfl) ?_
                refine lv_iload hx hb dX5_status_358 (lv_at hl 3 rfl) ?_
                refine lv_ior hx hb dX5_status_360 ?_
                refine z_iast hx hb hK hP hD hS 1 0 rfl rfl (by omega) dX5_status_361 (fun H locs hP hD hS => ?_)
                have hP : va_P D vwCl [(a 0, .inr (6, [.ref (a 1), .ref (a 2), .int (iI (σ 0)), .int (iI (σ 2)), .int (iI (σ 1)), .int (iI (σ 3)), .int (iI (σ 4)), .int (iI (σ 10)), .int (iI (σ 11)), .int (iI (σ 12)), .int (iI (σ 13)), .int (iI (σ 7)), .int (iI (σ 8)), .int (iI (σ 9)), .int (iI (σ 5)), .ref (a 3), .int (iI (σ 18)), .int (iI (σ 14)), .int (iI (σ 15)), .int (iI (σ 16)), .int (iI (σ 17)), .ref (a 4), .int (iI (σ 19)), .int (iI (σ 6)), .ref (a 5), .int (iI (σ 20)), .ref (a 6), .int (iI ((T.length : Int)))])), (a 1, .inl (cA, 3200, .inl (upd g (c2 - 1).toNat ((iI 32) ||| (((iI 2176) ||| ((iI (σ 16)) <<< ((iI 14) &&& 31))) ||| ((iI (σ 17)) <<< ((iI 18) &&& 31))))))), (a 2, .inl (cA, 3200, .inl fo)), (a 3, .inl (cA, 80, .inl fw)), (a 4, .inl (cA, 60, .inl ft)), (a 5, .inl (cA, 500, .inl fs)), (a 6, .inl (cA, 20, .inl fdT))] H := hP
                have hD : va_D A [(a 0, .inr (6, [.ref (a 1), .ref (a 2), .int (iI (σ 0)), .int (iI (σ 2)), .int (iI (σ 1)), .int (iI (σ 3)), .int (iI (σ 4)), .int (iI (σ 10)), .int (iI (σ 11)), .int (iI (σ 12)), .int (iI (σ 13)), .int (iI (σ 7)), .int (iI (σ 8)), .int (iI (σ 9)), .int (iI (σ 5)), .ref (a 3), .int (iI (σ 18)), .int (iI (σ 14)), .int (iI (σ 15)), .int (iI (σ 16)), .int (iI (σ 17)), .ref (a 4), .int (iI (σ 19)), .int (iI (σ 6)), .ref (a 5), .int (iI (σ 20)), .ref (a 6), .int (iI ((T.length : Int)))])), (a 1, .inl (cA, 3200, .inl (upd g (c2 - 1).toNat ((iI 32) ||| (((iI 2176) ||| ((iI (σ 16)) <<< ((iI 14) &&& 31))) ||| ((iI (σ 17)) <<< ((iI 18) &&& 31))))))), (a 2, .inl (cA, 3200, .inl fo)), (a 3, .inl (cA, 80, .inl fw)), (a 4, .inl (cA, 60, .inl ft)), (a 5, .inl (cA, 500, .inl fs)), (a 6, .inl (cA, 20, .inl fdT))] := hD
                refine lv_iinc (v := iI (c2 + 1)) (lv' := [(7, .int (iI (c2 + 1))), (8, .int (iI 32)), (6, .int (iI ((σ 2) - ((T.length : Int))))), (5, .int (((iI 2176) ||| ((iI (σ 16)) <<< ((iI 14) &&& 31))) ||| ((iI (σ 17)) <<< ((iI 18) &&& 31)))), (4, .int (iI 0)), (0, .ref (a 0)), (1, .int (iI 0)), (2, .int (iI x)), (3, .int (iI y))]) hx hb dX5_status_362 hl (k := 1) rfl (iI_add _ _) (by decide) rfl (fun ls hl => ?_)
                refine lv_goto (tgt := 264) hx hb dX5_status_365 (by decide) ?_
                have eV : ((iI 32) ||| (((iI 2176) ||| ((iI (σ 16)) <<< ((iI 14) &&& 31))) ||| ((iI (σ 17)) <<< ((iI 18) &&& 31)))) = encMK (stK σ nm T (c2 - 1).toNat) := by
                  have e8 : (((c2 - 1).toNat : Nat) : Int) = c2 - 1 := by omega
                  unfold encMK stK stCh
                  simp only [e8]
                  rw [if_neg (show ¬ (σ 2 - (T.length : Int) ≤ c2 - 1 + 1 ∧ c2 - 1 + 1 < σ 2) by omega), if_neg (show ¬ (2 ≤ c2 - 1 + 1 ∧ c2 - 1 + 1 - 2 < σ 19 ∧ c2 - 1 + 1 ≤ σ 2 - (T.length : Int) - 2) by omega)]
                  exact encM_st _ _ _
                exact ih264 (c2 + 1) (upd g (c2 - 1).toNat ((iI 32) ||| (((iI 2176) ||| ((iI (σ 16)) <<< ((iI 14) &&& 31))) ||| ((iI (σ 17)) <<< ((iI 18) &&& 31))))) _ _ _ (by omega) (by rw [eV, show c2 + 1 - 1 = c2 - 1 + 1 by omega, ← gln_step (by omega)]; exact rg_set hg (by omega) _ (by omega) (by omega) (by omega)) (by omega) hP hD hS (lv_sub hl [0, 2, 3, 4, 5, 6, 7, 8] rfl)
              · skip
                refine lv_iload hx hb dX5_status_328 (lv_at hl 1 rfl) ?_
                refine lv_iload hx hb dX5_status_330 (lv_at hl 2 rfl) ?_
                refine lv_iconst (v := iI 2) hx hb dX5_status_332 rfl ?_
                refine z_isub hx hb dX5_status_333 ?_
                refine z_icmp_gt hx hb 348 (by omega) dX5_status_334 (by decide) (fun c334 => ?_) (fun c334 => ?_)
                · skip
                  refine lv_aload_n hx hb dX5_status_348 rfl (lv_at hl 5 rfl) ?_
                  refine va_get (D := D) (ci := 6) (v := .ref (a 1)) (C := RX5) (T := TX5) (N := 28) hx hb hts inX5 hown hK hP 0 rfl rfl 0 (by decide) kfieldLink_RX5_7_ZScreensModel_cells_I (fun _ h9 => h9) rfl dX5_status_349 ?_
                  refine lv_iload hx hb dX5_status_352 (lv_at hl 1 rfl) ?_
                  refine lv_iconst (v := iI 1) hx hb dX5_status_354 rfl ?_
                  refine z_isub hx hb dX5_status_355 ?_
                  refine lv_iload hx hb dX5_status_356 (lv_at hl 0 rfl) ?_
                  refine lv_iload hx hb dX5_status_358 (lv_at hl 3 rfl) ?_
                  refine lv_ior hx hb dX5_status_360 ?_
                  refine z_iast hx hb hK hP hD hS 1 0 rfl rfl (by omega) dX5_status_361 (fun H locs hP hD hS => ?_)
                  have hP : va_P D vwCl [(a 0, .inr (6, [.ref (a 1), .ref (a 2), .int (iI (σ 0)), .int (iI (σ 2)), .int (iI (σ 1)), .int (iI (σ 3)), .int (iI (σ 4)), .int (iI (σ 10)), .int (iI (σ 11)), .int (iI (σ 12)), .int (iI (σ 13)), .int (iI (σ 7)), .int (iI (σ 8)), .int (iI (σ 9)), .int (iI (σ 5)), .ref (a 3), .int (iI (σ 18)), .int (iI (σ 14)), .int (iI (σ 15)), .int (iI (σ 16)), .int (iI (σ 17)), .ref (a 4), .int (iI (σ 19)), .int (iI (σ 6)), .ref (a 5), .int (iI (σ 20)), .ref (a 6), .int (iI ((T.length : Int)))])), (a 1, .inl (cA, 3200, .inl (upd g (c2 - 1).toNat ((iI 32) ||| (((iI 2176) ||| ((iI (σ 16)) <<< ((iI 14) &&& 31))) ||| ((iI (σ 17)) <<< ((iI 18) &&& 31))))))), (a 2, .inl (cA, 3200, .inl fo)), (a 3, .inl (cA, 80, .inl fw)), (a 4, .inl (cA, 60, .inl ft)), (a 5, .inl (cA, 500, .inl fs)), (a 6, .inl (cA, 20, .inl fdT))] H := hP
                  have hD : va_D A [(a 0, .inr (6, [.ref (a 1), .ref (a 2), .int (iI (σ 0)), .int (iI (σ 2)), .int (iI (σ 1)), .int (iI (σ 3)), .int (iI (σ 4)), .int (iI (σ 10)), .int (iI (σ 11)), .int (iI (σ 12)), .int (iI (σ 13)), .int (iI (σ 7)), .int (iI (σ 8)), .int (iI (σ 9)), .int (iI (σ 5)), .ref (a 3), .int (iI (σ 18)), .int (iI (σ 14)), .int (iI (σ 15)), .int (iI (σ 16)), .int (iI (σ 17)), .ref (a 4), .int (iI (σ 19)), .int (iI (σ 6)), .ref (a 5), .int (iI (σ 20)), .ref (a 6), .int (iI ((T.length : Int)))])), (a 1, .inl (cA, 3200, .inl (upd g (c2 - 1).toNat ((iI 32) ||| (((iI 2176) ||| ((iI (σ 16)) <<< ((iI 14) &&& 31))) ||| ((iI (σ 17)) <<< ((iI 18) &&& 31))))))), (a 2, .inl (cA, 3200, .inl fo)), (a 3, .inl (cA, 80, .inl fw)), (a 4, .inl (cA, 60, .inl ft)), (a 5, .inl (cA, 500, .inl fs)), (a 6, .inl (cA, 20, .inl fdT))] := hD
                  refine lv_iinc (v := iI (c2 + 1)) (lv' := [(7, .int (iI (c2 + 1))), (8, .int (iI 32)), (6, .int (iI ((σ 2) - ((T.length : Int))))), (5, .int (((iI 2176) ||| ((iI (σ 16)) <<< ((iI 14) &&& 31))) ||| ((iI (σ 17)) <<< ((iI 18) &&& 31)))), (4, .int (iI 0)), (0, .ref (a 0)), (1, .int (iI 0)), (2, .int (iI x)), (3, .int (iI y))]) hx hb dX5_status_362 hl (k := 1) rfl (iI_add _ _) (by decide) rfl (fun ls hl => ?_)
                  refine lv_goto (tgt := 264) hx hb dX5_status_365 (by decide) ?_
                  have eV : ((iI 32) ||| (((iI 2176) ||| ((iI (σ 16)) <<< ((iI 14) &&& 31))) ||| ((iI (σ 17)) <<< ((iI 18) &&& 31)))) = encMK (stK σ nm T (c2 - 1).toNat) := by
                    have e8 : (((c2 - 1).toNat : Nat) : Int) = c2 - 1 := by omega
                    unfold encMK stK stCh
                    simp only [e8]
                    rw [if_neg (show ¬ (σ 2 - (T.length : Int) ≤ c2 - 1 + 1 ∧ c2 - 1 + 1 < σ 2) by omega), if_neg (show ¬ (2 ≤ c2 - 1 + 1 ∧ c2 - 1 + 1 - 2 < σ 19 ∧ c2 - 1 + 1 ≤ σ 2 - (T.length : Int) - 2) by omega)]
                    exact encM_st _ _ _
                  exact ih264 (c2 + 1) (upd g (c2 - 1).toNat ((iI 32) ||| (((iI 2176) ||| ((iI (σ 16)) <<< ((iI 14) &&& 31))) ||| ((iI (σ 17)) <<< ((iI 18) &&& 31))))) _ _ _ (by omega) (by rw [eV, show c2 + 1 - 1 = c2 - 1 + 1 by omega, ← gln_step (by omega)]; exact rg_set hg (by omega) _ (by omega) (by omega) (by omega)) (by omega) hP hD hS (lv_sub hl [0, 2, 3, 4, 5, 6, 7, 8] rfl)
                · skip
                  refine lv_aload_n hx hb dX5_status_337 rfl (lv_at hl 5 rfl) ?_
                  refine va_get (D := D) (ci := 6) (v := .ref (a 4)) (C := RX5) (T := TX5) (N := 28) hx hb hts inX5 hown hK hP 0 rfl rfl 21 (by decide) kfieldLink_RX5_42_ZScreensModel_name_I (fun _ h9 => h9) rfl dX5_status_338 ?_
                  refine lv_iload hx hb dX5_status_341 (lv_at hl 1 rfl) ?_
                  refine lv_iconst (v := iI 2) hx hb dX5_status_343 rfl ?_
                  refine z_isub hx hb dX5_status_344 ?_
                  refine z_iald hx hb hK hP 4 0 rfl rfl (by omega) dX5_status_345 ?_
                  refine lv_istore (lv' := [(8, .int (ft (c2 - 2).toNat)), (7, .int (iI c2)), (6, .int (iI ((σ 2) - ((T.length : Int))))), (5, .int (((iI 2176) ||| ((iI (σ 16)) <<< ((iI 14) &&& 31))) ||| ((iI (σ 17)) <<< ((iI 18) &&& 31)))), (4, .int (iI 0)), (0, .ref (a 0)), (1, .int (iI 0)), (2, .int (iI x)), (3, .int (iI y))]) hx hb dX5_status_346 hl (by decide) rfl (fun ls hl => ?_)
                  refine lv_aload_n hx hb dX5_status_348 rfl (lv_at hl 5 rfl) ?_
                  refine va_get (D := D) (ci := 6) (v := .ref (a 1)) (C := RX5) (T := TX5) (N := 28) hx hb hts inX5 hown hK hP 0 rfl rfl 0 (by decide) kfieldLink_RX5_7_ZScreensModel_cells_I (fun _ h9 => h9) rfl dX5_status_349 ?_
                  refine lv_iload hx hb dX5_status_352 (lv_at hl 1 rfl) ?_
                  refine lv_iconst (v := iI 1) hx hb dX5_status_354 rfl ?_
                  refine z_isub hx hb dX5_status_355 ?_
                  refine lv_iload hx hb dX5_status_356 (lv_at hl 0 rfl) ?_
                  refine lv_iload hx hb dX5_status_358 (lv_at hl 3 rfl) ?_
                  refine lv_ior hx hb dX5_status_360 ?_
                  refine z_iast hx hb hK hP hD hS 1 0 rfl rfl (by omega) dX5_status_361 (fun H locs hP hD hS => ?_)
                  have hP : va_P D vwCl [(a 0, .inr (6, [.ref (a 1), .ref (a 2), .int (iI (σ 0)), .int (iI (σ 2)), .int (iI (σ 1)), .int (iI (σ 3)), .int (iI (σ 4)), .int (iI (σ 10)), .int (iI (σ 11)), .int (iI (σ 12)), .int (iI (σ 13)), .int (iI (σ 7)), .int (iI (σ 8)), .int (iI (σ 9)), .int (iI (σ 5)), .ref (a 3), .int (iI (σ 18)), .int (iI (σ 14)), .int (iI (σ 15)), .int (iI (σ 16)), .int (iI (σ 17)), .ref (a 4), .int (iI (σ 19)), .int (iI (σ 6)), .ref (a 5), .int (iI (σ 20)), .ref (a 6), .int (iI ((T.length : Int)))])), (a 1, .inl (cA, 3200, .inl (upd g (c2 - 1).toNat ((ft (c2 - 2).toNat) ||| (((iI 2176) ||| ((iI (σ 16)) <<< ((iI 14) &&& 31))) ||| ((iI (σ 17)) <<< ((iI 18) &&& 31))))))), (a 2, .inl (cA, 3200, .inl fo)), (a 3, .inl (cA, 80, .inl fw)), (a 4, .inl (cA, 60, .inl ft)), (a 5, .inl (cA, 500, .inl fs)), (a 6, .inl (cA, 20, .inl fdT))] H := hP
                  have hD : va_D A [(a 0, .inr (6, [.ref (a 1), .ref (a 2), .int (iI (σ 0)), .int (iI (σ 2)), .int (iI (σ 1)), .int (iI (σ 3)), .int (iI (σ 4)), .int (iI (σ 10)), .int (iI (σ 11)), .int (iI (σ 12)), .int (iI (σ 13)), .int (iI (σ 7)), .int (iI (σ 8)), .int (iI (σ 9)), .int (iI (σ 5)), .ref (a 3), .int (iI (σ 18)), .int (iI (σ 14)), .int (iI (σ 15)), .int (iI (σ 16)), .int (iI (σ 17)), .ref (a 4), .int (iI (σ 19)), .int (iI (σ 6)), .ref (a 5), .int (iI (σ 20)), .ref (a 6), .int (iI ((T.length : Int)))])), (a 1, .inl (cA, 3200, .inl (upd g (c2 - 1).toNat ((ft (c2 - 2).toNat) ||| (((iI 2176) ||| ((iI (σ 16)) <<< ((iI 14) &&& 31))) ||| ((iI (σ 17)) <<< ((iI 18) &&& 31))))))), (a 2, .inl (cA, 3200, .inl fo)), (a 3, .inl (cA, 80, .inl fw)), (a 4, .inl (cA, 60, .inl ft)), (a 5, .inl (cA, 500, .inl fs)), (a 6, .inl (cA, 20, .inl fdT))] := hD
                  refine lv_iinc (v := iI (c2 + 1)) (lv' := [(7, .int (iI (c2 + 1))), (8, .int (ft (c2 - 2).toNat)), (6, .int (iI ((σ 2) - ((T.length : Int))))), (5, .int (((iI 2176) ||| ((iI (σ 16)) <<< ((iI 14) &&& 31))) ||| ((iI (σ 17)) <<< ((iI 18) &&& 31)))), (4, .int (iI 0)), (0, .ref (a 0)), (1, .int (iI 0)), (2, .int (iI x)), (3, .int (iI y))]) hx hb dX5_status_362 hl (k := 1) rfl (iI_add _ _) (by decide) rfl (fun ls hl => ?_)
                  refine lv_goto (tgt := 264) hx hb dX5_status_365 (by decide) ?_
                  have eV : ((ft (c2 - 2).toNat) ||| (((iI 2176) ||| ((iI (σ 16)) <<< ((iI 14) &&& 31))) ||| ((iI (σ 17)) <<< ((iI 18) &&& 31)))) = encMK (stK σ nm T (c2 - 1).toNat) := by
                    rw [hM _ (by omega)]
                    have e8 : (((c2 - 1).toNat : Nat) : Int) = c2 - 1 := by omega
                    unfold encMK stK stCh
                    simp only [e8]
                    rw [if_neg (show ¬ (σ 2 - (T.length : Int) ≤ c2 - 1 + 1 ∧ c2 - 1 + 1 < σ 2) by omega), if_pos (show 2 ≤ c2 - 1 + 1 ∧ c2 - 1 + 1 - 2 < σ 19 ∧ c2 - 1 + 1 ≤ σ 2 - (T.length : Int) - 2 by omega)]
                    rw [show (c2 - 1 + 1 - 2).toNat = (c2 - 2).toNat by omega]; exact encM_st _ _ _
                  exact ih264 (c2 + 1) (upd g (c2 - 1).toNat ((ft (c2 - 2).toNat) ||| (((iI 2176) ||| ((iI (σ 16)) <<< ((iI 14) &&& 31))) ||| ((iI (σ 17)) <<< ((iI 18) &&& 31))))) _ _ _ (by omega) (by rw [eV, show c2 + 1 - 1 = c2 - 1 + 1 by omega, ← gln_step (by omega)]; exact rg_set hg (by omega) _ (by omega) (by omega) (by omega)) (by omega) hP hD hS (lv_sub hl [0, 2, 3, 4, 5, 6, 7, 8] rfl)
          · skip
            refine lv_aload_n hx hb dX5_status_296 rfl (lv_at hl 5 rfl) ?_
            refine va_get (D := D) (ci := 6) (v := .ref (a 6)) (C := RX5) (T := TX5) (N := 28) hx hb hts inX5 hown hK hP 0 rfl rfl 26 (by decide) kfieldLink_RX5_48_ZScreensModel_digit_I (fun _ h9 => h9) rfl dX5_status_297 ?_
            refine lv_iload hx hb dX5_status_300 (lv_at hl 1 rfl) ?_
            refine lv_iload hx hb dX5_status_302 (lv_at hl 2 rfl) ?_
            refine z_isub hx hb dX5_status_304 ?_
            refine z_iald hx hb hK hP 6 0 rfl rfl (by omega) dX5_status_305 ?_
            refine lv_istore (lv' := [(8, .int (fdT (c2 - ((σ 2) - ((T.length : Int)))).toNat)), (7, .int (iI c2)), (6, .int (iI ((σ 2) - ((T.length : Int))))), (5, .int (((iI 2176) ||| ((iI (σ 16)) <<< ((iI 14) &&& 31))) ||| ((iI (σ 17)) <<< ((iI 18) &&& 31)))), (4, .int (iI 0)), (0, .ref (a 0)), (1, .int (iI 0)), (2, .int (iI x)), (3, .int (iI y))]) hx hb dX5_status_306 hl (by decide) rfl (fun ls hl => ?_)
            refine lv_goto (tgt := 348) hx hb dX5_status_308 (by decide) ?_
            refine lv_aload_n hx hb dX5_status_348 rfl (lv_at hl 5 rfl) ?_
            refine va_get (D := D) (ci := 6) (v := .ref (a 1)) (C := RX5) (T := TX5) (N := 28) hx hb hts inX5 hown hK hP 0 rfl rfl 0 (by decide) kfieldLink_RX5_7_ZScreensModel_cells_I (fun _ h9 => h9) rfl dX5_status_349 ?_
            refine lv_iload hx hb dX5_status_352 (lv_at hl 1 rfl) ?_
            refine lv_iconst (v := iI 1) hx hb dX5_status_354 rfl ?_
            refine z_isub hx hb dX5_status_355 ?_
            refine lv_iload hx hb dX5_status_356 (lv_at hl 0 rfl) ?_
            refine lv_iload hx hb dX5_status_358 (lv_at hl 3 rfl) ?_
            refine lv_ior hx hb dX5_status_360 ?_
            refine z_iast hx hb hK hP hD hS 1 0 rfl rfl (by omega) dX5_status_361 (fun H locs hP hD hS => ?_)
            have hP : va_P D vwCl [(a 0, .inr (6, [.ref (a 1), .ref (a 2), .int (iI (σ 0)), .int (iI (σ 2)), .int (iI (σ 1)), .int (iI (σ 3)), .int (iI (σ 4)), .int (iI (σ 10)), .int (iI (σ 11)), .int (iI (σ 12)), .int (iI (σ 13)), .int (iI (σ 7)), .int (iI (σ 8)), .int (iI (σ 9)), .int (iI (σ 5)), .ref (a 3), .int (iI (σ 18)), .int (iI (σ 14)), .int (iI (σ 15)), .int (iI (σ 16)), .int (iI (σ 17)), .ref (a 4), .int (iI (σ 19)), .int (iI (σ 6)), .ref (a 5), .int (iI (σ 20)), .ref (a 6), .int (iI ((T.length : Int)))])), (a 1, .inl (cA, 3200, .inl (upd g (c2 - 1).toNat ((fdT (c2 - ((σ 2) - ((T.length : Int)))).toNat) ||| (((iI 2176) ||| ((iI (σ 16)) <<< ((iI 14) &&& 31))) ||| ((iI (σ 17)) <<< ((iI 18) &&& 31))))))), (a 2, .inl (cA, 3200, .inl fo)), (a 3, .inl (cA, 80, .inl fw)), (a 4, .inl (cA, 60, .inl ft)), (a 5, .inl (cA, 500, .inl fs)), (a 6, .inl (cA, 20, .inl fdT))] H := hP
            have hD : va_D A [(a 0, .inr (6, [.ref (a 1), .ref (a 2), .int (iI (σ 0)), .int (iI (σ 2)), .int (iI (σ 1)), .int (iI (σ 3)), .int (iI (σ 4)), .int (iI (σ 10)), .int (iI (σ 11)), .int (iI (σ 12)), .int (iI (σ 13)), .int (iI (σ 7)), .int (iI (σ 8)), .int (iI (σ 9)), .int (iI (σ 5)), .ref (a 3), .int (iI (σ 18)), .int (iI (σ 14)), .int (iI (σ 15)), .int (iI (σ 16)), .int (iI (σ 17)), .ref (a 4), .int (iI (σ 19)), .int (iI (σ 6)), .ref (a 5), .int (iI (σ 20)), .ref (a 6), .int (iI ((T.length : Int)))])), (a 1, .inl (cA, 3200, .inl (upd g (c2 - 1).toNat ((fdT (c2 - ((σ 2) - ((T.length : Int)))).toNat) ||| (((iI 2176) ||| ((iI (σ 16)) <<< ((iI 14) &&& 31))) ||| ((iI (σ 17)) <<< ((iI 18) &&& 31))))))), (a 2, .inl (cA, 3200, .inl fo)), (a 3, .inl (cA, 80, .inl fw)), (a 4, .inl (cA, 60, .inl ft)), (a 5, .inl (cA, 500, .inl fs)), (a 6, .inl (cA, 20, .inl fdT))] := hD
            refine lv_iinc (v := iI (c2 + 1)) (lv' := [(7, .int (iI (c2 + 1))), (8, .int (fdT (c2 - ((σ 2) - ((T.length : Int)))).toNat)), (6, .int (iI ((σ 2) - ((T.length : Int))))), (5, .int (((iI 2176) ||| ((iI (σ 16)) <<< ((iI 14) &&& 31))) ||| ((iI (σ 17)) <<< ((iI 18) &&& 31)))), (4, .int (iI 0)), (0, .ref (a 0)), (1, .int (iI 0)), (2, .int (iI x)), (3, .int (iI y))]) hx hb dX5_status_362 hl (k := 1) rfl (iI_add _ _) (by decide) rfl (fun ls hl => ?_)
            refine lv_goto (tgt := 264) hx hb dX5_status_365 (by decide) ?_
            have eV : ((fdT (c2 - ((σ 2) - ((T.length : Int)))).toNat) ||| (((iI 2176) ||| ((iI (σ 16)) <<< ((iI 14) &&& 31))) ||| ((iI (σ 17)) <<< ((iI 18) &&& 31)))) = encMK (stK σ nm T (c2 - 1).toNat) := by
              rw [hX _ (by omega)]
              have e8 : (((c2 - 1).toNat : Nat) : Int) = c2 - 1 := by omega
              unfold encMK stK stCh
              simp only [e8]
              rw [if_pos (show σ 2 - (T.length : Int) ≤ c2 - 1 + 1 ∧ c2 - 1 + 1 < σ 2 by omega)]
              rw [show (c2 - 1 + 1 - (σ 2 - (T.length : Int))).toNat = (c2 - (σ 2 - (T.length : Int))).toNat by omega]; exact encM_st _ _ _
            exact ih264 (c2 + 1) (upd g (c2 - 1).toNat ((fdT (c2 - ((σ 2) - ((T.length : Int)))).toNat) ||| (((iI 2176) ||| ((iI (σ 16)) <<< ((iI 14) &&& 31))) ||| ((iI (σ 17)) <<< ((iI 18) &&& 31))))) _ _ _ (by omega) (by rw [eV, show c2 + 1 - 1 = c2 - 1 + 1 by omega, ← gln_step (by omega)]; exact rg_set hg (by omega) _ (by omega) (by omega) (by omega)) (by omega) hP hD hS (lv_sub hl [0, 2, 3, 4, 5, 6, 7, 8] rfl)
  exact L264 ((σ 2).toNat + 1) (1) (f) _ _ _ (by omega) (by rw [gln_nil (by omega)]; exact hG) (by omega) hP hD hS (lv_sub hl [0, 1, 2, 3, 4, 5, 6, 7] rfl)

abbrev rmX5_status_1 : Room := { frames := 1, cells := 0, slots := 0, locals := 25 }
set_option maxHeartbeats 4000000 in
set_option maxRecDepth 100000 in
theorem c_X5_status_1 (l : Launch) (D : va_G) (sz : Nat) (cA : ClassId) (a : Nat → Nat) (σ : Nat → Int) (dg : Int) (f fo fw ft fs fd : Nat → Int32) (hI : zInv σ) (G : ZG) (hG : zRG encMK f G (σ 1) (σ 2)) (nm : Nat → Int) (hM : ∀ i : Nat, (i : Int) < σ 19 → ft i = iI (nm i)) (x : Int) (hx : (-2147483648 ≤ x ∧ x ≤ 2147483647)) (y : Int) (hy : (-2147483648 ≤ y ∧ y ≤ 2147483647)) (h : σ 0 = 3 ∧ (0 ≤ x ∧ x ≤ 23) ∧ 0 ≤ y ∧ y ≤ 59) : zMi l yX5_status wsX5_status rmX5_status_1 D [(cA, .int)] [.ref (a 0), .int (iI 1), .int (iI x), .int (iI y)] (mW cA a σ dg f fo fw ft fs fd) sz (S := ((Nat → Int32) × (Nat → Int32))) (fun r u => r = iI (σ 2 - ((stTx 1 x y).length : Int)) ∧ zRG encMK u.1 (stG σ nm (stTx 1 x y) G) (σ 1) (σ 2)) (fun u => mW cA a (zu σ 19 0) ((stTx 1 x y).length : Int) u.1 fo fw ft fs u.2) 0 0 := by
  obtain ⟨i0, i1, i2, i3, i4, i5, i6, i8, i10, i11, i12, i13, i14, i15, i16, i17, i18, i19, i20, it, j4, j12, j5⟩ := id hI
  have ht9 := ztop_c σ
  refine z_starti (cc := cX5_status) (maxL := 9) (ty := .int) (own := RX5) (nm := "status") (by decide) rfl rfl rfl (Nat.le_of_ble_eq_true rfl) ?_
  intro p e R s m args below meth c A Q ls H locs hBd hP hD hS hl K
  obtain ⟨hx, hb, hml, hown, hts, ⟨hRf, hRl, hRc, hRs⟩, hmn, hK, hN, hA⟩ := hBd
  have hl : lv_has ls 9 [(0, .ref (a 0)), (1, .int (iI 1)), (2, .int (iI x)), (3, .int (iI y))] := hl
  have inX5 : ∀ w ∈ wsX50, w ∈ wsX5_status := by decide +kernel
  have kfieldLink_RX5_142_ZScreensModel_nameSize_I := hts (.fieldLink RX5 142 "ZScreensModel" "nameSize" "I") (by decide +kernel)
  have kfieldLink_RX5_145_ZScreensModel_digits_I := hts (.fieldLink RX5 145 "ZScreensModel" "digits" "I") (by decide +kernel)
  have kfieldLink_RX5_36_ZScreensModel_first_I := hts (.fieldLink RX5 36 "ZScreensModel" "first" "I") (by decide +kernel)
  have kfieldLink_RX5_39_ZScreensModel_second_I := hts (.fieldLink RX5 39 "ZScreensModel" "second" "I") (by decide +kernel)
  have kfieldLink_RX5_42_ZScreensModel_name_I := hts (.fieldLink RX5 42 "ZScreensModel" "name" "[I") (by decide +kernel)
  have kfieldLink_RX5_48_ZScreensModel_digit_I := hts (.fieldLink RX5 48 "ZScreensModel" "digit" "[I") (by decide +kernel)
  have kfieldLink_RX5_55_ZScreensModel_version_I := hts (.fieldLink RX5 55 "ZScreensModel" "version" "I") (by decide +kernel)
  have kfieldLink_RX5_58_ZScreensModel_width_I := hts (.fieldLink RX5 58 "ZScreensModel" "width" "I") (by decide +kernel)
  have kfieldLink_RX5_7_ZScreensModel_cells_I := hts (.fieldLink RX5 7 "ZScreensModel" "cells" "[I") (by decide +kernel)
  have hP : va_P D vwCl [(a 0, .inr (6, [.ref (a 1), .ref (a 2), .int (iI (σ 0)), .int (iI (σ 2)), .int (iI (σ 1)), .int (iI (σ 3)), .int (iI (σ 4)), .int (iI (σ 10)), .int (iI (σ 11)), .int (iI (σ 12)), .int (iI (σ 13)), .int (iI (σ 7)), .int (iI (σ 8)), .int (iI (σ 9)), .int (iI (σ 5)), .ref (a 3), .int (iI (σ 18)), .int (iI (σ 14)), .int (iI (σ 15)), .int (iI (σ 16)), .int (iI (σ 17)), .ref (a 4), .int (iI (σ 19)), .int (iI (σ 6)), .ref (a 5), .int (iI (σ 20)), .ref (a 6), .int (iI dg)])), (a 1, .inl (cA, 3200, .inl f)), (a 2, .inl (cA, 3200, .inl fo)), (a 3, .inl (cA, 80, .inl fw)), (a 4, .inl (cA, 60, .inl ft)), (a 5, .inl (cA, 500, .inl fs)), (a 6, .inl (cA, 20, .inl fd))] H := hP
  have hD : va_D A [(a 0, .inr (6, [.ref (a 1), .ref (a 2), .int (iI (σ 0)), .int (iI (σ 2)), .int (iI (σ 1)), .int (iI (σ 3)), .int (iI (σ 4)), .int (iI (σ 10)), .int (iI (σ 11)), .int (iI (σ 12)), .int (iI (σ 13)), .int (iI (σ 7)), .int (iI (σ 8)), .int (iI (σ 9)), .int (iI (σ 5)), .ref (a 3), .int (iI (σ 18)), .int (iI (σ 14)), .int (iI (σ 15)), .int (iI (σ 16)), .int (iI (σ 17)), .ref (a 4), .int (iI (σ 19)), .int (iI (σ 6)), .ref (a 5), .int (iI (σ 20)), .ref (a 6), .int (iI dg)])), (a 1, .inl (cA, 3200, .inl f)), (a 2, .inl (cA, 3200, .inl fo)), (a 3, .inl (cA, 80, .inl fw)), (a 4, .inl (cA, 60, .inl ft)), (a 5, .inl (cA, 500, .inl fs)), (a 6, .inl (cA, 20, .inl fd))] := hD
  refine lv_iload_n hx hb dX5_status_0 rfl (lv_at hl 1 rfl) ?_
  refine z_if_ne hx hb 38 (by omega) dX5_status_1 (by decide) (fun c1 => ?_) (fun c1 => absurd c1 (by omega))
  refine lv_iload_n hx hb dX5_status_38 rfl (lv_at hl 1 rfl) ?_
  refine lv_iconst (v := iI 1) hx hb dX5_status_39 rfl ?_
  refine z_icmp_ne hx hb 63 (by omega) dX5_status_40 (by decide) (fun c40 => absurd c40 (by omega)) (fun c40 => ?_)
  refine lv_iload_n hx hb dX5_status_43 rfl (lv_at hl 2 rfl) ?_
  refine lv_iconst (v := iI 0) hx hb dX5_status_44 rfl ?_
  refine lv_bipush (v := iI 23) hx hb dX5_status_45 (by decide) ?_
  refine z_calli (w2 := fun _ => [(a 0, .inr (6, [.ref (a 1), .ref (a 2), .int (iI (σ 0)), .int (iI (σ 2)), .int (iI (σ 1)), .int (iI (σ 3)), .int (iI (σ 4)), .int (iI (σ 10)), .int (iI (σ 11)), .int (iI (σ 12)), .int (iI (σ 13)), .int (iI (σ 7)), .int (iI (σ 8)), .int (iI (σ 9)), .int (iI (σ 5)), .ref (a 3), .int (iI (σ 18)), .int (iI (σ 14)), .int (iI (σ 15)), .int (iI (σ 16)), .int (iI (σ 17)), .ref (a 4), .int (iI (σ 19)), .int (iI (σ 6)), .ref (a 5), .int (iI (σ 20)), .ref (a 6), .int (iI dg)])), (a 1, .inl (cA, 3200, .inl f)), (a 2, .inl (cA, 3200, .inl fo)), (a 3, .inl (cA, 80, .inl fw)), (a 4, .inl (cA, 60, .inl ft)), (a 5, .inl (cA, 500, .inl fs)), (a 6, .inl (cA, 20, .inl fd))]) (wc := []) (wr := [(a 0, .inr (6, [.ref (a 1), .ref (a 2), .int (iI (σ 0)), .int (iI (σ 2)), .int (iI (σ 1)), .int (iI (σ 3)), .int (iI (σ 4)), .int (iI (σ 10)), .int (iI (σ 11)), .int (iI (σ 12)), .int (iI (σ 13)), .int (iI (σ 7)), .int (iI (σ 8)), .int (iI (σ 9)), .int (iI (σ 5)), .ref (a 3), .int (iI (σ 18)), .int (iI (σ 14)), .int (iI (σ 15)), .int (iI (σ 16)), .int (iI (σ 17)), .ref (a 4), .int (iI (σ 19)), .int (iI (σ 6)), .ref (a 5), .int (iI (σ 20)), .ref (a 6), .int (iI dg)])), (a 1, .inl (cA, 3200, .inl f)), (a 2, .inl (cA, 3200, .inl fo)), (a 3, .inl (cA, 80, .inl fw)), (a 4, .inl (cA, 60, .inl ft)), (a 5, .inl (cA, 500, .inl fs)), (a 6, .inl (cA, 20, .inl fd))]) (va_runS (As := [.int (iI x), .int (iI 0), .int (iI 23)]) (rest := []) ⟨hx, hb, hml, hown, hts⟩ (c_X5_out l D H.size x 0 23 (by omega)) (va_cwS 3 hts gX5_status_X5_out rfl rfl rfl (by decide +kernel) ⟨by rw [hRf]; exact Nat.le_of_ble_eq_true rfl, by rw [hRl]; exact Nat.le_of_ble_eq_true rfl⟩) (z_preS hP hD hK hN [] (by decide) rfl rfl [] rfl) rfl rfl hl.1 rfl (lv_room (Nat.le_of_ble_eq_true rfl)) dX5_status_47 ⟨by rw [hRc]; exact Nat.le_of_ble_eq_true rfl, by rw [hRs]; exact Nat.le_of_ble_eq_true rfl⟩) hP hD hS hA [] [0, 1, 2, 3, 4, 5, 6] rfl rfl (by decide) (by decide) [0, 1, 2, 3, 4, 5, 6] (by decide) (fun _ => rfl) (fun r _ H locs hw hP hD hS => ?_)
  subst hw
  have hP : va_P D vwCl [(a 0, .inr (6, [.ref (a 1), .ref (a 2), .int (iI (σ 0)), .int (iI (σ 2)), .int (iI (σ 1)), .int (iI (σ 3)), .int (iI (σ 4)), .int (iI (σ 10)), .int (iI (σ 11)), .int (iI (σ 12)), .int (iI (σ 13)), .int (iI (σ 7)), .int (iI (σ 8)), .int (iI (σ 9)), .int (iI (σ 5)), .ref (a 3), .int (iI (σ 18)), .int (iI (σ 14)), .int (iI (σ 15)), .int (iI (σ 16)), .int (iI (σ 17)), .ref (a 4), .int (iI (σ 19)), .int (iI (σ 6)), .ref (a 5), .int (iI (σ 20)), .ref (a 6), .int (iI dg)])), (a 1, .inl (cA, 3200, .inl f)), (a 2, .inl (cA, 3200, .inl fo)), (a 3, .inl (cA, 80, .inl fw)), (a 4, .inl (cA, 60, .inl ft)), (a 5, .inl (cA, 500, .inl fs)), (a 6, .inl (cA, 20, .inl fd))] H := hP
  have hD : va_D A [(a 0, .inr (6, [.ref (a 1), .ref (a 2), .int (iI (σ 0)), .int (iI (σ 2)), .int (iI (σ 1)), .int (iI (σ 3)), .int (iI (σ 4)), .int (iI (σ 10)), .int (iI (σ 11)), .int (iI (σ 12)), .int (iI (σ 13)), .int (iI (σ 7)), .int (iI (σ 8)), .int (iI (σ 9)), .int (iI (σ 5)), .ref (a 3), .int (iI (σ 18)), .int (iI (σ 14)), .int (iI (σ 15)), .int (iI (σ 16)), .int (iI (σ 17)), .ref (a 4), .int (iI (σ 19)), .int (iI (σ 6)), .ref (a 5), .int (iI (σ 20)), .ref (a 6), .int (iI dg)])), (a 1, .inl (cA, 3200, .inl f)), (a 2, .inl (cA, 3200, .inl fo)), (a 3, .inl (cA, 80, .inl fw)), (a 4, .inl (cA, 60, .inl ft)), (a 5, .inl (cA, 500, .inl fs)), (a 6, .inl (cA, 20, .inl fd))] := hD
  refine z_if_ne hx hb 63 (by omega) dX5_status_50 (by decide) (fun c50 => absurd c50 (by omega)) (fun c50 => ?_)
  refine lv_iload_n hx hb dX5_status_53 rfl (lv_at hl 3 rfl) ?_
  refine lv_iconst (v := iI 0) hx hb dX5_status_54 rfl ?_
  refine lv_bipush (v := iI 59) hx hb dX5_status_55 (by decide) ?_
  refine z_calli (w2 := fun _ => [(a 0, .inr (6, [.ref (a 1), .ref (a 2), .int (iI (σ 0)), .int (iI (σ 2)), .int (iI (σ 1)), .int (iI (σ 3)), .int (iI (σ 4)), .int (iI (σ 10)), .int (iI (σ 11)), .int (iI (σ 12)), .int (iI (σ 13)), .int (iI (σ 7)), .int (iI (σ 8)), .int (iI (σ 9)), .int (iI (σ 5)), .ref (a 3), .int (iI (σ 18)), .int (iI (σ 14)), .int (iI (σ 15)), .int (iI (σ 16)), .int (iI (σ 17)), .ref (a 4), .int (iI (σ 19)), .int (iI (σ 6)), .ref (a 5), .int (iI (σ 20)), .ref (a 6), .int (iI dg)])), (a 1, .inl (cA, 3200, .inl f)), (a 2, .inl (cA, 3200, .inl fo)), (a 3, .inl (cA, 80, .inl fw)), (a 4, .inl (cA, 60, .inl ft)), (a 5, .inl (cA, 500, .inl fs)), (a 6, .inl (cA, 20, .inl fd))]) (wc := []) (wr := [(a 0, .inr (6, [.ref (a 1), .ref (a 2), .int (iI (σ 0)), .int (iI (σ 2)), .int (iI (σ 1)), .int (iI (σ 3)), .int (iI (σ 4)), .int (iI (σ 10)), .int (iI (σ 11)), .int (iI (σ 12)), .int (iI (σ 13)), .int (iI (σ 7)), .int (iI (σ 8)), .int (iI (σ 9)), .int (iI (σ 5)), .ref (a 3), .int (iI (σ 18)), .int (iI (σ 14)), .int (iI (σ 15)), .int (iI (σ 16)), .int (iI (σ 17)), .ref (a 4), .int (iI (σ 19)), .int (iI (σ 6)), .ref (a 5), .int (iI (σ 20)), .ref (a 6), .int (iI dg)])), (a 1, .inl (cA, 3200, .inl f)), (a 2, .inl (cA, 3200, .inl fo)), (a 3, .inl (cA, 80, .inl fw)), (a 4, .inl (cA, 60, .inl ft)), (a 5, .inl (cA, 500, .inl fs)), (a 6, .inl (cA, 20, .inl fd))]) (va_runS (As := [.int (iI y), .int (iI 0), .int (iI 59)]) (rest := []) ⟨hx, hb, hml, hown, hts⟩ (c_X5_out l D H.size y 0 59 (by omega)) (va_cwS 3 hts gX5_status_X5_out rfl rfl rfl (by decide +kernel) ⟨by rw [hRf]; exact Nat.le_of_ble_eq_true rfl, by rw [hRl]; exact Nat.le_of_ble_eq_true rfl⟩) (z_preS hP hD hK hN [] (by decide) rfl rfl [] rfl) rfl rfl hl.1 rfl (lv_room (Nat.le_of_ble_eq_true rfl)) dX5_status_57 ⟨by rw [hRc]; exact Nat.le_of_ble_eq_true rfl, by rw [hRs]; exact Nat.le_of_ble_eq_true rfl⟩) hP hD hS hA [] [0, 1, 2, 3, 4, 5, 6] rfl rfl (by decide) (by decide) [0, 1, 2, 3, 4, 5, 6] (by decide) (fun _ => rfl) (fun r _ H locs hw hP hD hS => ?_)
  subst hw
  have hP : va_P D vwCl [(a 0, .inr (6, [.ref (a 1), .ref (a 2), .int (iI (σ 0)), .int (iI (σ 2)), .int (iI (σ 1)), .int (iI (σ 3)), .int (iI (σ 4)), .int (iI (σ 10)), .int (iI (σ 11)), .int (iI (σ 12)), .int (iI (σ 13)), .int (iI (σ 7)), .int (iI (σ 8)), .int (iI (σ 9)), .int (iI (σ 5)), .ref (a 3), .int (iI (σ 18)), .int (iI (σ 14)), .int (iI (σ 15)), .int (iI (σ 16)), .int (iI (σ 17)), .ref (a 4), .int (iI (σ 19)), .int (iI (σ 6)), .ref (a 5), .int (iI (σ 20)), .ref (a 6), .int (iI dg)])), (a 1, .inl (cA, 3200, .inl f)), (a 2, .inl (cA, 3200, .inl fo)), (a 3, .inl (cA, 80, .inl fw)), (a 4, .inl (cA, 60, .inl ft)), (a 5, .inl (cA, 500, .inl fs)), (a 6, .inl (cA, 20, .inl fd))] H := hP
  have hD : va_D A [(a 0, .inr (6, [.ref (a 1), .ref (a 2), .int (iI (σ 0)), .int (iI (σ 2)), .int (iI (σ 1)), .int (iI (σ 3)), .int (iI (σ 4)), .int (iI (σ 10)), .int (iI (σ 11)), .int (iI (σ 12)), .int (iI (σ 13)), .int (iI (σ 7)), .int (iI (σ 8)), .int (iI (σ 9)), .int (iI (σ 5)), .ref (a 3), .int (iI (σ 18)), .int (iI (σ 14)), .int (iI (σ 15)), .int (iI (σ 16)), .int (iI (σ 17)), .ref (a 4), .int (iI (σ 19)), .int (iI (σ 6)), .ref (a 5), .int (iI (σ 20)), .ref (a 6), .int (iI dg)])), (a 1, .inl (cA, 3200, .inl f)), (a 2, .inl (cA, 3200, .inl fo)), (a 3, .inl (cA, 80, .inl fw)), (a 4, .inl (cA, 60, .inl ft)), (a 5, .inl (cA, 500, .inl fs)), (a 6, .inl (cA, 20, .inl fd))] := hD
  refine z_if_eq hx hb 67 (by omega) dX5_status_60 (by decide) (fun c60 => ?_) (fun c60 => absurd c60 (by omega))
  refine lv_iconst (v := iI 0) hx hb dX5_status_67 rfl ?_
  refine lv_istore (lv' := [(4, .int (iI 0)), (0, .ref (a 0)), (1, .int (iI 1)), (2, .int (iI x)), (3, .int (iI y))]) hx hb dX5_status_68 hl (by decide) rfl (fun ls hl => ?_)
  refine lv_iload hx hb dX5_status_70 (lv_at hl 0 rfl) ?_
  refine z_if_eq hx hb 77 (by omega) dX5_status_72 (by decide) (fun c72 => ?_) (fun c72 => absurd c72 (by omega))
  refine lv_aload_n hx hb dX5_status_77 rfl (lv_at hl 1 rfl) ?_
  refine va_get (D := D) (ci := 6) (v := .int (iI (σ 0))) (C := RX5) (T := TX5) (N := 28) hx hb hts inX5 hown hK hP 0 rfl rfl 2 (by decide) kfieldLink_RX5_55_ZScreensModel_version_I (fun _ h9 => h9) rfl dX5_status_78 ?_
  refine lv_iconst (v := iI 3) hx hb dX5_status_81 rfl ?_
  refine z_icmp_gt hx hb 98 (by omega) dX5_status_82 (by decide) (fun c82 => absurd c82 (by omega)) (fun c82 => ?_)
  refine lv_iload_n hx hb dX5_status_85 rfl (lv_at hl 2 rfl) ?_
  refine lv_iconst (v := iI 1) hx hb dX5_status_86 rfl ?_
  refine z_icmp_ne hx hb 101 (by omega) dX5_status_87 (by decide) (fun c87 => absurd c87 (by omega)) (fun c87 => ?_)
  refine lv_aload_n hx hb dX5_status_90 rfl (lv_at hl 1 rfl) ?_
  refine va_get (D := D) (ci := 6) (v := .int (iI (σ 0))) (C := RX5) (T := TX5) (N := 28) hx hb hts inX5 hown hK hP 0 rfl rfl 2 (by decide) kfieldLink_RX5_55_ZScreensModel_version_I (fun _ h9 => h9) rfl dX5_status_91 ?_
  refine lv_iconst (v := iI 3) hx hb dX5_status_94 rfl ?_
  refine z_icmp_eq hx hb 101 (by omega) dX5_status_95 (by decide) (fun c95 => ?_) (fun c95 => absurd c95 (by omega))
  refine lv_aload_n hx hb dX5_status_101 rfl (lv_at hl 1 rfl) ?_
  refine lv_iconst (v := iI 0) hx hb dX5_status_102 rfl ?_
  refine va_put (D := D) (ci := 6) (v := .int (iI 0)) (ty := .int) (C := RX5) (T := TX5) (N := 28) hx hb hts inX5 tyX5 tyX5_ok nmX5 hown hK hP hD hS 0 rfl rfl 27 (by decide) kfieldLink_RX5_145_ZScreensModel_digits_I (fun _ h9 => h9) rfl (by decide +kernel) rfl rfl (Nat.le_of_ble_eq_true rfl) dX5_status_103 (fun H locs hP hD hS => ?_)
  have hP : va_P D vwCl [(a 0, .inr (6, [.ref (a 1), .ref (a 2), .int (iI (σ 0)), .int (iI (σ 2)), .int (iI (σ 1)), .int (iI (σ 3)), .int (iI (σ 4)), .int (iI (σ 10)), .int (iI (σ 11)), .int (iI (σ 12)), .int (iI (σ 13)), .int (iI (σ 7)), .int (iI (σ 8)), .int (iI (σ 9)), .int (iI (σ 5)), .ref (a 3), .int (iI (σ 18)), .int (iI (σ 14)), .int (iI (σ 15)), .int (iI (σ 16)), .int (iI (σ 17)), .ref (a 4), .int (iI (σ 19)), .int (iI (σ 6)), .ref (a 5), .int (iI (σ 20)), .ref (a 6), .int (iI 0)])), (a 1, .inl (cA, 3200, .inl f)), (a 2, .inl (cA, 3200, .inl fo)), (a 3, .inl (cA, 80, .inl fw)), (a 4, .inl (cA, 60, .inl ft)), (a 5, .inl (cA, 500, .inl fs)), (a 6, .inl (cA, 20, .inl fd))] H := hP
  have hD : va_D A [(a 0, .inr (6, [.ref (a 1), .ref (a 2), .int (iI (σ 0)), .int (iI (σ 2)), .int (iI (σ 1)), .int (iI (σ 3)), .int (iI (σ 4)), .int (iI (σ 10)), .int (iI (σ 11)), .int (iI (σ 12)), .int (iI (σ 13)), .int (iI (σ 7)), .int (iI (σ 8)), .int (iI (σ 9)), .int (iI (σ 5)), .ref (a 3), .int (iI (σ 18)), .int (iI (σ 14)), .int (iI (σ 15)), .int (iI (σ 16)), .int (iI (σ 17)), .ref (a 4), .int (iI (σ 19)), .int (iI (σ 6)), .ref (a 5), .int (iI (σ 20)), .ref (a 6), .int (iI 0)])), (a 1, .inl (cA, 3200, .inl f)), (a 2, .inl (cA, 3200, .inl fo)), (a 3, .inl (cA, 80, .inl fw)), (a 4, .inl (cA, 60, .inl ft)), (a 5, .inl (cA, 500, .inl fs)), (a 6, .inl (cA, 20, .inl fd))] := hD
  have hl0 : ((([] : List Int)).length : Int) = 0 := rfl
  refine lv_aload_n hx hb dX5_status_106 rfl (lv_at hl 1 rfl) ?_
  refine lv_iload_n hx hb dX5_status_107 rfl (lv_at hl 2 rfl) ?_
  refine z_if_ne hx hb 115 (by omega) dX5_status_108 (by decide) (fun c108 => ?_) (fun c108 => absurd c108 (by omega))
  refine lv_iload_n hx hb dX5_status_115 rfl (lv_at hl 3 rfl) ?_
  refine lv_bipush (v := iI 12) hx hb dX5_status_116 (by decide) ?_
  refine z_irem hx hb (by omega) dX5_status_118 ?_
  suffices J119 : ∀ (v119 : Int), v119 = (if (x % 12) = 0 then 12 else x % 12) → W p l e R s m args below meth c H locs 0 0 Q (F0 m 131 ls [.int (iI v119), .ref (a 0)]) by
    refine z_if_ne hx hb 127 (by omega) dX5_status_119 (by decide) (fun c119 => ?_) (fun c119 => ?_)
    · skip
      refine lv_iload_n hx hb dX5_status_127 rfl (lv_at hl 3 rfl) ?_
      refine lv_bipush (v := iI 12) hx hb dX5_status_128 (by decide) ?_
      refine z_irem hx hb (by omega) dX5_status_130 ?_
      exact J119 _ (if_neg c119).symm
    · skip
      refine lv_bipush (v := iI 12) hx hb dX5_status_122 (by decide) ?_
      refine lv_goto (tgt := 131) hx hb dX5_status_124 (by decide) ?_
      exact J119 _ (if_pos c119).symm
  intro v119 hv119
  refine lv_iconst (v := iI 1) hx hb dX5_status_131 rfl ?_
  refine z_callv (w2 := fun u1 => [(a 0, .inr (6, [.ref (a 1), .ref (a 2), .int (iI (σ 0)), .int (iI (σ 2)), .int (iI (σ 1)), .int (iI (σ 3)), .int (iI (σ 4)), .int (iI (σ 10)), .int (iI (σ 11)), .int (iI (σ 12)), .int (iI (σ 13)), .int (iI (σ 7)), .int (iI (σ 8)), .int (iI (σ 9)), .int (iI (σ 5)), .ref (a 3), .int (iI (σ 18)), .int (iI (σ 14)), .int (iI (σ 15)), .int (iI (σ 16)), .int (iI (σ 17)), .ref (a 4), .int (iI (σ 19)), .int (iI (σ 6)), .ref (a 5), .int (iI (σ 20)), .ref (a 6), .int (iI (0 + (((if (1 : Int) = 1 then dec v119 else dec2 v119)).length : Int)))])), (a 1, .inl (cA, 3200, .inl f)), (a 2, .inl (cA, 3200, .inl fo)), (a 3, .inl (cA, 80, .inl fw)), (a 4, .inl (cA, 60, .inl ft)), (a 5, .inl (cA, 500, .inl fs)), (a 6, .inl (cA, 20, .inl u1))]) (wc := [(a 0, .inr (6, [.ref (a 1), .ref (a 2), .int (iI (σ 0)), .int (iI (σ 2)), .int (iI (σ 1)), .int (iI (σ 3)), .int (iI (σ 4)), .int (iI (σ 10)), .int (iI (σ 11)), .int (iI (σ 12)), .int (iI (σ 13)), .int (iI (σ 7)), .int (iI (σ 8)), .int (iI (σ 9)), .int (iI (σ 5)), .ref (a 3), .int (iI (σ 18)), .int (iI (σ 14)), .int (iI (σ 15)), .int (iI (σ 16)), .int (iI (σ 17)), .ref (a 4), .int (iI (σ 19)), .int (iI (σ 6)), .ref (a 5), .int (iI (σ 20)), .ref (a 6), .int (iI 0)])), (a 6, .inl (cA, 20, .inl fd))]) (wr := [(a 1, .inl (cA, 3200, .inl f)), (a 2, .inl (cA, 3200, .inl fo)), (a 3, .inl (cA, 80, .inl fw)), (a 4, .inl (cA, 60, .inl ft)), (a 5, .inl (cA, 500, .inl fs))]) (va_runV (As := [.int (iI v119), .int (iI 1)]) (rest := []) ⟨hx, hb, hml, hown, hts⟩ (c_X5_decimal l D H.size cA a σ 0 fd ([] : List Int) v119 1 (by omega) (by omega) (tx_nil _)) (cwV 2 hts gX5_status_X5_decimal rfl rfl rfl (by decide +kernel) ⟨by rw [hRf]; exact Nat.le_of_ble_eq_true rfl, by rw [hRl]; exact Nat.le_of_ble_eq_true rfl⟩) (z_preV hP hD hK hN [0, 6] (by decide) rfl rfl [0] rfl (q0 := 0) rfl (ci := 6) rfl) rfl rfl hl.1 rfl (lv_room (Nat.le_of_ble_eq_true rfl)) dX5_status_132 ⟨by rw [hRc]; exact Nat.le_of_ble_eq_true rfl, by rw [hRs]; exact Nat.le_of_ble_eq_true rfl⟩) hP hD hS hA [0, 6] [1, 2, 3, 4, 5] rfl rfl (by decide) (by decide) [5, 0, 1, 2, 3, 4, 6] (by decide) (fun _ => rfl) (fun u1 H locs hw hP hD hS => ?_)
  obtain ⟨d2, hd2⟩ : ∃ z : Int, z = 0 + (((if (1 : Int) = 1 then dec v119 else dec2 v119)).length : Int) := ⟨_, rfl⟩
  rw [← hd2] at hP hD
  have hT3 : zTx u1 (([] : List Int) ++ (if (1 : Int) = 1 then dec v119 else dec2 v119)) := hw
  have hbd2 := rl_len (v := v119) (w := 1) (by omega)
  have hl4 : ((([] : List Int) ++ (if (1 : Int) = 1 then dec v119 else dec2 v119)).length : Int) = d2 := by rw [List.length_append]; omega
  have hP : va_P D vwCl [(a 0, .inr (6, [.ref (a 1), .ref (a 2), .int (iI (σ 0)), .int (iI (σ 2)), .int (iI (σ 1)), .int (iI (σ 3)), .int (iI (σ 4)), .int (iI (σ 10)), .int (iI (σ 11)), .int (iI (σ 12)), .int (iI (σ 13)), .int (iI (σ 7)), .int (iI (σ 8)), .int (iI (σ 9)), .int (iI (σ 5)), .ref (a 3), .int (iI (σ 18)), .int (iI (σ 14)), .int (iI (σ 15)), .int (iI (σ 16)), .int (iI (σ 17)), .ref (a 4), .int (iI (σ 19)), .int (iI (σ 6)), .ref (a 5), .int (iI (σ 20)), .ref (a 6), .int (iI d2)])), (a 1, .inl (cA, 3200, .inl f)), (a 2, .inl (cA, 3200, .inl fo)), (a 3, .inl (cA, 80, .inl fw)), (a 4, .inl (cA, 60, .inl ft)), (a 5, .inl (cA, 500, .inl fs)), (a 6, .inl (cA, 20, .inl u1))] H := hP
  have hD : va_D A [(a 0, .inr (6, [.ref (a 1), .ref (a 2), .int (iI (σ 0)), .int (iI (σ 2)), .int (iI (σ 1)), .int (iI (σ 3)), .int (iI (σ 4)), .int (iI (σ 10)), .int (iI (σ 11)), .int (iI (σ 12)), .int (iI (σ 13)), .int (iI (σ 7)), .int (iI (σ 8)), .int (iI (σ 9)), .int (iI (σ 5)), .ref (a 3), .int (iI (σ 18)), .int (iI (σ 14)), .int (iI (σ 15)), .int (iI (σ 16)), .int (iI (σ 17)), .ref (a 4), .int (iI (σ 19)), .int (iI (σ 6)), .ref (a 5), .int (iI (σ 20)), .ref (a 6), .int (iI d2)])), (a 1, .inl (cA, 3200, .inl f)), (a 2, .inl (cA, 3200, .inl fo)), (a 3, .inl (cA, 80, .inl fw)), (a 4, .inl (cA, 60, .inl ft)), (a 5, .inl (cA, 500, .inl fs)), (a 6, .inl (cA, 20, .inl u1))] := hD
  refine lv_aload_n hx hb dX5_status_135 rfl (lv_at hl 1 rfl) ?_
  refine va_get (D := D) (ci := 6) (v := .ref (a 6)) (C := RX5) (T := TX5) (N := 28) hx hb hts inX5 hown hK hP 0 rfl rfl 26 (by decide) kfieldLink_RX5_48_ZScreensModel_digit_I (fun _ h9 => h9) rfl dX5_status_136 ?_
  refine lv_aload_n hx hb dX5_status_139 rfl (lv_at hl 1 rfl) ?_
  refine va_get (D := D) (ci := 6) (v := .int (iI d2)) (C := RX5) (T := TX5) (N := 28) hx hb hts inX5 hown hK hP 0 rfl rfl 27 (by decide) kfieldLink_RX5_145_ZScreensModel_digits_I (fun _ h9 => h9) rfl dX5_status_140 ?_
  refine lv_iload_n hx hb dX5_status_143 rfl (lv_at hl 2 rfl) ?_
  refine z_if_ne hx hb 152 (by omega) dX5_status_144 (by decide) (fun c144 => ?_) (fun c144 => absurd c144 (by omega))
  refine lv_bipush (v := iI 58) hx hb dX5_status_152 (by decide) ?_
  refine z_iast hx hb hK hP hD hS 6 0 rfl rfl (by omega) dX5_status_154 (fun H locs hP hD hS => ?_)
  have hP : va_P D vwCl [(a 0, .inr (6, [.ref (a 1), .ref (a 2), .int (iI (σ 0)), .int (iI (σ 2)), .int (iI (σ 1)), .int (iI (σ 3)), .int (iI (σ 4)), .int (iI (σ 10)), .int (iI (σ 11)), .int (iI (σ 12)), .int (iI (σ 13)), .int (iI (σ 7)), .int (iI (σ 8)), .int (iI (σ 9)), .int (iI (σ 5)), .ref (a 3), .int (iI (σ 18)), .int (iI (σ 14)), .int (iI (σ 15)), .int (iI (σ 16)), .int (iI (σ 17)), .ref (a 4), .int (iI (σ 19)), .int (iI (σ 6)), .ref (a 5), .int (iI (σ 20)), .ref (a 6), .int (iI d2)])), (a 1, .inl (cA, 3200, .inl f)), (a 2, .inl (cA, 3200, .inl fo)), (a 3, .inl (cA, 80, .inl fw)), (a 4, .inl (cA, 60, .inl ft)), (a 5, .inl (cA, 500, .inl fs)), (a 6, .inl (cA, 20, .inl (upd u1 (d2).toNat (iI 58))))] H := hP
  have hD : va_D A [(a 0, .inr (6, [.ref (a 1), .ref (a 2), .int (iI (σ 0)), .int (iI (σ 2)), .int (iI (σ 1)), .int (iI (σ 3)), .int (iI (σ 4)), .int (iI (σ 10)), .int (iI (σ 11)), .int (iI (σ 12)), .int (iI (σ 13)), .int (iI (σ 7)), .int (iI (σ 8)), .int (iI (σ 9)), .int (iI (σ 5)), .ref (a 3), .int (iI (σ 18)), .int (iI (σ 14)), .int (iI (σ 15)), .int (iI (σ 16)), .int (iI (σ 17)), .ref (a 4), .int (iI (σ 19)), .int (iI (σ 6)), .ref (a 5), .int (iI (σ 20)), .ref (a 6), .int (iI d2)])), (a 1, .inl (cA, 3200, .inl f)), (a 2, .inl (cA, 3200, .inl fo)), (a 3, .inl (cA, 80, .inl fw)), (a 4, .inl (cA, 60, .inl ft)), (a 5, .inl (cA, 500, .inl fs)), (a 6, .inl (cA, 20, .inl (upd u1 (d2).toNat (iI 58))))] := hD
  have hT5 : zTx (upd u1 (d2).toNat (iI 58)) ((([] : List Int) ++ (if (1 : Int) = 1 then dec v119 else dec2 v119)) ++ [58]) := tx_app hT3 (by omega)
  have hl6 : (((([] : List Int) ++ (if (1 : Int) = 1 then dec v119 else dec2 v119)) ++ [58]).length : Int) = ((([] : List Int) ++ (if (1 : Int) = 1 then dec v119 else dec2 v119)).length : Int) + 1 := by rw [List.length_append]; simp
  refine lv_aload_n hx hb dX5_status_155 rfl (lv_at hl 1 rfl) ?_
  refine lv_dup hx hb dX5_status_156 rfl ?_
  refine va_get (D := D) (ci := 6) (v := .int (iI d2)) (C := RX5) (T := TX5) (N := 28) hx hb hts inX5 hown hK hP 0 rfl rfl 27 (by decide) kfieldLink_RX5_145_ZScreensModel_digits_I (fun _ h9 => h9) rfl dX5_status_157 ?_
  refine lv_iconst (v := iI 1) hx hb dX5_status_160 rfl ?_
  refine z_iadd hx hb dX5_status_161 ?_
  refine va_put (D := D) (ci := 6) (v := .int (iI (d2 + 1))) (ty := .int) (C := RX5) (T := TX5) (N := 28) hx hb hts inX5 tyX5 tyX5_ok nmX5 hown hK hP hD hS 0 rfl rfl 27 (by decide) kfieldLink_RX5_145_ZScreensModel_digits_I (fun _ h9 => h9) rfl (by decide +kernel) rfl rfl (Nat.le_of_ble_eq_true rfl) dX5_status_162 (fun H locs hP hD hS => ?_)
  have hP : va_P D vwCl [(a 0, .inr (6, [.ref (a 1), .ref (a 2), .int (iI (σ 0)), .int (iI (σ 2)), .int (iI (σ 1)), .int (iI (σ 3)), .int (iI (σ 4)), .int (iI (σ 10)), .int (iI (σ 11)), .int (iI (σ 12)), .int (iI (σ 13)), .int (iI (σ 7)), .int (iI (σ 8)), .int (iI (σ 9)), .int (iI (σ 5)), .ref (a 3), .int (iI (σ 18)), .int (iI (σ 14)), .int (iI (σ 15)), .int (iI (σ 16)), .int (iI (σ 17)), .ref (a 4), .int (iI (σ 19)), .int (iI (σ 6)), .ref (a 5), .int (iI (σ 20)), .ref (a 6), .int (iI (d2 + 1))])), (a 1, .inl (cA, 3200, .inl f)), (a 2, .inl (cA, 3200, .inl fo)), (a 3, .inl (cA, 80, .inl fw)), (a 4, .inl (cA, 60, .inl ft)), (a 5, .inl (cA, 500, .inl fs)), (a 6, .inl (cA, 20, .inl (upd u1 (d2).toNat (iI 58))))] H := hP
  have hD : va_D A [(a 0, .inr (6, [.ref (a 1), .ref (a 2), .int (iI (σ 0)), .int (iI (σ 2)), .int (iI (σ 1)), .int (iI (σ 3)), .int (iI (σ 4)), .int (iI (σ 10)), .int (iI (σ 11)), .int (iI (σ 12)), .int (iI (σ 13)), .int (iI (σ 7)), .int (iI (σ 8)), .int (iI (σ 9)), .int (iI (σ 5)), .ref (a 3), .int (iI (σ 18)), .int (iI (σ 14)), .int (iI (σ 15)), .int (iI (σ 16)), .int (iI (σ 17)), .ref (a 4), .int (iI (σ 19)), .int (iI (σ 6)), .ref (a 5), .int (iI (σ 20)), .ref (a 6), .int (iI (d2 + 1))])), (a 1, .inl (cA, 3200, .inl f)), (a 2, .inl (cA, 3200, .inl fo)), (a 3, .inl (cA, 80, .inl fw)), (a 4, .inl (cA, 60, .inl ft)), (a 5, .inl (cA, 500, .inl fs)), (a 6, .inl (cA, 20, .inl (upd u1 (d2).toNat (iI 58))))] := hD
  refine lv_aload_n hx hb dX5_status_165 rfl (lv_at hl 1 rfl) ?_
  refine lv_iload_n hx hb dX5_status_166 rfl (lv_at hl 4 rfl) ?_
  refine lv_iload_n hx hb dX5_status_167 rfl (lv_at hl 2 rfl) ?_
  refine z_if_ne hx hb 175 (by omega) dX5_status_168 (by decide) (fun c168 => ?_) (fun c168 => absurd c168 (by omega))
  refine lv_iconst (v := iI 2) hx hb dX5_status_175 rfl ?_
  refine z_callv (w2 := fun u7 => [(a 0, .inr (6, [.ref (a 1), .ref (a 2), .int (iI (σ 0)), .int (iI (σ 2)), .int (iI (σ 1)), .int (iI (σ 3)), .int (iI (σ 4)), .int (iI (σ 10)), .int (iI (σ 11)), .int (iI (σ 12)), .int (iI (σ 13)), .int (iI (σ 7)), .int (iI (σ 8)), .int (iI (σ 9)), .int (iI (σ 5)), .ref (a 3), .int (iI (σ 18)), .int (iI (σ 14)), .int (iI (σ 15)), .int (iI (σ 16)), .int (iI (σ 17)), .ref (a 4), .int (iI (σ 19)), .int (iI (σ 6)), .ref (a 5), .int (iI (σ 20)), .ref (a 6), .int (iI ((d2 + 1) + (((if (2 : Int) = 1 then dec y else dec2 y)).length : Int)))])), (a 1, .inl (cA, 3200, .inl f)), (a 2, .inl (cA, 3200, .inl fo)), (a 3, .inl (cA, 80, .inl fw)), (a 4, .inl (cA, 60, .inl ft)), (a 5, .inl (cA, 500, .inl fs)), (a 6, .inl (cA, 20, .inl u7))]) (wc := [(a 0, .inr (6, [.ref (a 1), .ref (a 2), .int (iI (σ 0)), .int (iI (σ 2)), .int (iI (σ 1)), .int (iI (σ 3)), .int (iI (σ 4)), .int (iI (σ 10)), .int (iI (σ 11)), .int (iI (σ 12)), .int (iI (σ 13)), .int (iI (σ 7)), .int (iI (σ 8)), .int (iI (σ 9)), .int (iI (σ 5)), .ref (a 3), .int (iI (σ 18)), .int (iI (σ 14)), .int (iI (σ 15)), .int (iI (σ 16)), .int (iI (σ 17)), .ref (a 4), .int (iI (σ 19)), .int (iI (σ 6)), .ref (a 5), .int (iI (σ 20)), .ref (a 6), .int (iI (d2 + 1))])), (a 6, .inl (cA, 20, .inl (upd u1 (d2).toNat (iI 58))))]) (wr := [(a 1, .inl (cA, 3200, .inl f)), (a 2, .inl (cA, 3200, .inl fo)), (a 3, .inl (cA, 80, .inl fw)), (a 4, .inl (cA, 60, .inl ft)), (a 5, .inl (cA, 500, .inl fs))]) (va_runV (As := [.int (iI y), .int (iI 2)]) (rest := []) ⟨hx, hb, hml, hown, hts⟩ (c_X5_decimal l D H.size cA a σ (d2 + 1) (upd u1 (d2).toNat (iI 58)) ((([] : List Int) ++ (if (1 : Int) = 1 then dec v119 else dec2 v119)) ++ [58]) y 2 (by omega) (by omega) hT5) (cwV 2 hts gX5_status_X5_decimal rfl rfl rfl (by decide +kernel) ⟨by rw [hRf]; exact Nat.le_of_ble_eq_true rfl, by rw [hRl]; exact Nat.le_of_ble_eq_true rfl⟩) (z_preV hP hD hK hN [0, 6] (by decide) rfl rfl [0] rfl (q0 := 0) rfl (ci := 6) rfl) rfl rfl hl.1 rfl (lv_room (Nat.le_of_ble_eq_true rfl)) dX5_status_176 ⟨by rw [hRc]; exact Nat.le_of_ble_eq_true rfl, by rw [hRs]; exact Nat.le_of_ble_eq_true rfl⟩) hP hD hS hA [0, 6] [1, 2, 3, 4, 5] rfl rfl (by decide) (by decide) [5, 0, 1, 2, 3, 4, 6] (by decide) (fun _ => rfl) (fun u7 H locs hw hP hD hS => ?_)
  obtain ⟨d8, hd8⟩ : ∃ z : Int, z = (d2 + 1) + (((if (2 : Int) = 1 then dec y else dec2 y)).length : Int) := ⟨_, rfl⟩
  rw [← hd8] at hP hD
  have hT9 : zTx u7 (((([] : List Int) ++ (if (1 : Int) = 1 then dec v119 else dec2 v119)) ++ [58]) ++ (if (2 : Int) = 1 then dec y else dec2 y)) := hw
  have hbd8 := rl_len (v := y) (w := 2) (by omega)
  have hl10 : ((((([] : List Int) ++ (if (1 : Int) = 1 then dec v119 else dec2 v119)) ++ [58]) ++ (if (2 : Int) = 1 then dec y else dec2 y)).length : Int) = d8 := by rw [List.length_append]; omega
  have hP : va_P D vwCl [(a 0, .inr (6, [.ref (a 1), .ref (a 2), .int (iI (σ 0)), .int (iI (σ 2)), .int (iI (σ 1)), .int (iI (σ 3)), .int (iI (σ 4)), .int (iI (σ 10)), .int (iI (σ 11)), .int (iI (σ 12)), .int (iI (σ 13)), .int (iI (σ 7)), .int (iI (σ 8)), .int (iI (σ 9)), .int (iI (σ 5)), .ref (a 3), .int (iI (σ 18)), .int (iI (σ 14)), .int (iI (σ 15)), .int (iI (σ 16)), .int (iI (σ 17)), .ref (a 4), .int (iI (σ 19)), .int (iI (σ 6)), .ref (a 5), .int (iI (σ 20)), .ref (a 6), .int (iI d8)])), (a 1, .inl (cA, 3200, .inl f)), (a 2, .inl (cA, 3200, .inl fo)), (a 3, .inl (cA, 80, .inl fw)), (a 4, .inl (cA, 60, .inl ft)), (a 5, .inl (cA, 500, .inl fs)), (a 6, .inl (cA, 20, .inl u7))] H := hP
  have hD : va_D A [(a 0, .inr (6, [.ref (a 1), .ref (a 2), .int (iI (σ 0)), .int (iI (σ 2)), .int (iI (σ 1)), .int (iI (σ 3)), .int (iI (σ 4)), .int (iI (σ 10)), .int (iI (σ 11)), .int (iI (σ 12)), .int (iI (σ 13)), .int (iI (σ 7)), .int (iI (σ 8)), .int (iI (σ 9)), .int (iI (σ 5)), .ref (a 3), .int (iI (σ 18)), .int (iI (σ 14)), .int (iI (σ 15)), .int (iI (σ 16)), .int (iI (σ 17)), .ref (a 4), .int (iI (σ 19)), .int (iI (σ 6)), .ref (a 5), .int (iI (σ 20)), .ref (a 6), .int (iI d8)])), (a 1, .inl (cA, 3200, .inl f)), (a 2, .inl (cA, 3200, .inl fo)), (a 3, .inl (cA, 80, .inl fw)), (a 4, .inl (cA, 60, .inl ft)), (a 5, .inl (cA, 500, .inl fs)), (a 6, .inl (cA, 20, .inl u7))] := hD
  refine lv_iload_n hx hb dX5_status_179 rfl (lv_at hl 2 rfl) ?_
  refine lv_iconst (v := iI 1) hx hb dX5_status_180 rfl ?_
  refine z_icmp_ne hx hb 229 (by omega) dX5_status_181 (by decide) (fun c181 => absurd c181 (by omega)) (fun c181 => ?_)
  refine lv_aload_n hx hb dX5_status_184 rfl (lv_at hl 1 rfl) ?_
  refine va_get (D := D) (ci := 6) (v := .ref (a 6)) (C := RX5) (T := TX5) (N := 28) hx hb hts inX5 hown hK hP 0 rfl rfl 26 (by decide) kfieldLink_RX5_48_ZScreensModel_digit_I (fun _ h9 => h9) rfl dX5_status_185 ?_
  refine lv_aload_n hx hb dX5_status_188 rfl (lv_at hl 1 rfl) ?_
  refine va_get (D := D) (ci := 6) (v := .int (iI d8)) (C := RX5) (T := TX5) (N := 28) hx hb hts inX5 hown hK hP 0 rfl rfl 27 (by decide) kfieldLink_RX5_145_ZScreensModel_digits_I (fun _ h9 => h9) rfl dX5_status_189 ?_
  refine lv_iload_n hx hb dX5_status_192 rfl (lv_at hl 3 rfl) ?_
  refine lv_bipush (v := iI 12) hx hb dX5_status_193 (by decide) ?_
  suffices J195 : ∀ (v195 : Int), v195 = (if 12 ≤ x then 112 else 97) → W p l e R s m args below meth c H locs 0 0 Q (F0 m 205 ls [.int (iI v195), .int (iI d8), .ref (a 6)]) by
    refine z_icmp_ge hx hb 203 (by omega) dX5_status_195 (by decide) (fun c195 => ?_) (fun c195 => ?_)
    · skip
      refine lv_bipush (v := iI 112) hx hb dX5_status_203 (by decide) ?_
      exact J195 _ (if_pos c195).symm
    · skip
      refine lv_bipush (v := iI 97) hx hb dX5_status_198 (by decide) ?_
      refine lv_goto (tgt := 205) hx hb dX5_status_200 (by decide) ?_
      exact J195 _ (if_neg c195).symm
  intro v195 hv195
  refine z_iast hx hb hK hP hD hS 6 0 rfl rfl (by omega) dX5_status_205 (fun H locs hP hD hS => ?_)
  have hP : va_P D vwCl [(a 0, .inr (6, [.ref (a 1), .ref (a 2), .int (iI (σ 0)), .int (iI (σ 2)), .int (iI (σ 1)), .int (iI (σ 3)), .int (iI (σ 4)), .int (iI (σ 10)), .int (iI (σ 11)), .int (iI (σ 12)), .int (iI (σ 13)), .int (iI (σ 7)), .int (iI (σ 8)), .int (iI (σ 9)), .int (iI (σ 5)), .ref (a 3), .int (iI (σ 18)), .int (iI (σ 14)), .int (iI (σ 15)), .int (iI (σ 16)), .int (iI (σ 17)), .ref (a 4), .int (iI (σ 19)), .int (iI (σ 6)), .ref (a 5), .int (iI (σ 20)), .ref (a 6), .int (iI d8)])), (a 1, .inl (cA, 3200, .inl f)), (a 2, .inl (cA, 3200, .inl fo)), (a 3, .inl (cA, 80, .inl fw)), (a 4, .inl (cA, 60, .inl ft)), (a 5, .inl (cA, 500, .inl fs)), (a 6, .inl (cA, 20, .inl (upd u7 (d8).toNat (iI v195))))] H := hP
  have hD : va_D A [(a 0, .inr (6, [.ref (a 1), .ref (a 2), .int (iI (σ 0)), .int (iI (σ 2)), .int (iI (σ 1)), .int (iI (σ 3)), .int (iI (σ 4)), .int (iI (σ 10)), .int (iI (σ 11)), .int (iI (σ 12)), .int (iI (σ 13)), .int (iI (σ 7)), .int (iI (σ 8)), .int (iI (σ 9)), .int (iI (σ 5)), .ref (a 3), .int (iI (σ 18)), .int (iI (σ 14)), .int (iI (σ 15)), .int (iI (σ 16)), .int (iI (σ 17)), .ref (a 4), .int (iI (σ 19)), .int (iI (σ 6)), .ref (a 5), .int (iI (σ 20)), .ref (a 6), .int (iI d8)])), (a 1, .inl (cA, 3200, .inl f)), (a 2, .inl (cA, 3200, .inl fo)), (a 3, .inl (cA, 80, .inl fw)), (a 4, .inl (cA, 60, .inl ft)), (a 5, .inl (cA, 500, .inl fs)), (a 6, .inl (cA, 20, .inl (upd u7 (d8).toNat (iI v195))))] := hD
  have hT11 : zTx (upd u7 (d8).toNat (iI v195)) ((((([] : List Int) ++ (if (1 : Int) = 1 then dec v119 else dec2 v119)) ++ [58]) ++ (if (2 : Int) = 1 then dec y else dec2 y)) ++ [v195]) := tx_app hT9 (by omega)
  have hl12 : (((((([] : List Int) ++ (if (1 : Int) = 1 then dec v119 else dec2 v119)) ++ [58]) ++ (if (2 : Int) = 1 then dec y else dec2 y)) ++ [v195]).length : Int) = ((((([] : List Int) ++ (if (1 : Int) = 1 then dec v119 else dec2 v119)) ++ [58]) ++ (if (2 : Int) = 1 then dec y else dec2 y)).length : Int) + 1 := by rw [List.length_append]; simp
  refine lv_aload_n hx hb dX5_status_206 rfl (lv_at hl 1 rfl) ?_
  refine va_get (D := D) (ci := 6) (v := .ref (a 6)) (C := RX5) (T := TX5) (N := 28) hx hb hts inX5 hown hK hP 0 rfl rfl 26 (by decide) kfieldLink_RX5_48_ZScreensModel_digit_I (fun _ h9 => h9) rfl dX5_status_207 ?_
  refine lv_aload_n hx hb dX5_status_210 rfl (lv_at hl 1 rfl) ?_
  refine va_get (D := D) (ci := 6) (v := .int (iI d8)) (C := RX5) (T := TX5) (N := 28) hx hb hts inX5 hown hK hP 0 rfl rfl 27 (by decide) kfieldLink_RX5_145_ZScreensModel_digits_I (fun _ h9 => h9) rfl dX5_status_211 ?_
  refine lv_iconst (v := iI 1) hx hb dX5_status_214 rfl ?_
  refine z_iadd hx hb dX5_status_215 ?_
  refine lv_bipush (v := iI 109) hx hb dX5_status_216 (by decide) ?_
  refine z_iast hx hb hK hP hD hS 6 0 rfl rfl (by omega) dX5_status_218 (fun H locs hP hD hS => ?_)
  have hP : va_P D vwCl [(a 0, .inr (6, [.ref (a 1), .ref (a 2), .int (iI (σ 0)), .int (iI (σ 2)), .int (iI (σ 1)), .int (iI (σ 3)), .int (iI (σ 4)), .int (iI (σ 10)), .int (iI (σ 11)), .int (iI (σ 12)), .int (iI (σ 13)), .int (iI (σ 7)), .int (iI (σ 8)), .int (iI (σ 9)), .int (iI (σ 5)), .ref (a 3), .int (iI (σ 18)), .int (iI (σ 14)), .int (iI (σ 15)), .int (iI (σ 16)), .int (iI (σ 17)), .ref (a 4), .int (iI (σ 19)), .int (iI (σ 6)), .ref (a 5), .int (iI (σ 20)), .ref (a 6), .int (iI d8)])), (a 1, .inl (cA, 3200, .inl f)), (a 2, .inl (cA, 3200, .inl fo)), (a 3, .inl (cA, 80, .inl fw)), (a 4, .inl (cA, 60, .inl ft)), (a 5, .inl (cA, 500, .inl fs)), (a 6, .inl (cA, 20, .inl (upd (upd u7 (d8).toNat (iI v195)) (d8 + 1).toNat (iI 109))))] H := hP
  have hD : va_D A [(a 0, .inr (6, [.ref (a 1), .ref (a 2), .int (iI (σ 0)), .int (iI (σ 2)), .int (iI (σ 1)), .int (iI (σ 3)), .int (iI (σ 4)), .int (iI (σ 10)), .int (iI (σ 11)), .int (iI (σ 12)), .int (iI (σ 13)), .int (iI (σ 7)), .int (iI (σ 8)), .int (iI (σ 9)), .int (iI (σ 5)), .ref (a 3), .int (iI (σ 18)), .int (iI (σ 14)), .int (iI (σ 15)), .int (iI (σ 16)), .int (iI (σ 17)), .ref (a 4), .int (iI (σ 19)), .int (iI (σ 6)), .ref (a 5), .int (iI (σ 20)), .ref (a 6), .int (iI d8)])), (a 1, .inl (cA, 3200, .inl f)), (a 2, .inl (cA, 3200, .inl fo)), (a 3, .inl (cA, 80, .inl fw)), (a 4, .inl (cA, 60, .inl ft)), (a 5, .inl (cA, 500, .inl fs)), (a 6, .inl (cA, 20, .inl (upd (upd u7 (d8).toNat (iI v195)) (d8 + 1).toNat (iI 109))))] := hD
  have hT13 : zTx (upd (upd u7 (d8).toNat (iI v195)) (d8 + 1).toNat (iI 109)) (((((([] : List Int) ++ (if (1 : Int) = 1 then dec v119 else dec2 v119)) ++ [58]) ++ (if (2 : Int) = 1 then dec y else dec2 y)) ++ [v195]) ++ [109]) := tx_app hT11 (by omega)
  have hl14 : ((((((([] : List Int) ++ (if (1 : Int) = 1 then dec v119 else dec2 v119)) ++ [58]) ++ (if (2 : Int) = 1 then dec y else dec2 y)) ++ [v195]) ++ [109]).length : Int) = (((((([] : List Int) ++ (if (1 : Int) = 1 then dec v119 else dec2 v119)) ++ [58]) ++ (if (2 : Int) = 1 then dec y else dec2 y)) ++ [v195]).length : Int) + 1 := by rw [List.length_append]; simp
  refine lv_aload_n hx hb dX5_status_219 rfl (lv_at hl 1 rfl) ?_
  refine lv_dup hx hb dX5_status_220 rfl ?_
  refine va_get (D := D) (ci := 6) (v := .int (iI d8)) (C := RX5) (T := TX5) (N := 28) hx hb hts inX5 hown hK hP 0 rfl rfl 27 (by decide) kfieldLink_RX5_145_ZScreensModel_digits_I (fun _ h9 => h9) rfl dX5_status_221 ?_
  refine lv_iconst (v := iI 2) hx hb dX5_status_224 rfl ?_
  refine z_iadd hx hb dX5_status_225 ?_
  refine va_put (D := D) (ci := 6) (v := .int (iI (d8 + 2))) (ty := .int) (C := RX5) (T := TX5) (N := 28) hx hb hts inX5 tyX5 tyX5_ok nmX5 hown hK hP hD hS 0 rfl rfl 27 (by decide) kfieldLink_RX5_145_ZScreensModel_digits_I (fun _ h9 => h9) rfl (by decide +kernel) rfl rfl (Nat.le_of_ble_eq_true rfl) dX5_status_226 (fun H locs hP hD hS => ?_)
  have hP : va_P D vwCl [(a 0, .inr (6, [.ref (a 1), .ref (a 2), .int (iI (σ 0)), .int (iI (σ 2)), .int (iI (σ 1)), .int (iI (σ 3)), .int (iI (σ 4)), .int (iI (σ 10)), .int (iI (σ 11)), .int (iI (σ 12)), .int (iI (σ 13)), .int (iI (σ 7)), .int (iI (σ 8)), .int (iI (σ 9)), .int (iI (σ 5)), .ref (a 3), .int (iI (σ 18)), .int (iI (σ 14)), .int (iI (σ 15)), .int (iI (σ 16)), .int (iI (σ 17)), .ref (a 4), .int (iI (σ 19)), .int (iI (σ 6)), .ref (a 5), .int (iI (σ 20)), .ref (a 6), .int (iI (d8 + 2))])), (a 1, .inl (cA, 3200, .inl f)), (a 2, .inl (cA, 3200, .inl fo)), (a 3, .inl (cA, 80, .inl fw)), (a 4, .inl (cA, 60, .inl ft)), (a 5, .inl (cA, 500, .inl fs)), (a 6, .inl (cA, 20, .inl (upd (upd u7 (d8).toNat (iI v195)) (d8 + 1).toNat (iI 109))))] H := hP
  have hD : va_D A [(a 0, .inr (6, [.ref (a 1), .ref (a 2), .int (iI (σ 0)), .int (iI (σ 2)), .int (iI (σ 1)), .int (iI (σ 3)), .int (iI (σ 4)), .int (iI (σ 10)), .int (iI (σ 11)), .int (iI (σ 12)), .int (iI (σ 13)), .int (iI (σ 7)), .int (iI (σ 8)), .int (iI (σ 9)), .int (iI (σ 5)), .ref (a 3), .int (iI (σ 18)), .int (iI (σ 14)), .int (iI (σ 15)), .int (iI (σ 16)), .int (iI (σ 17)), .ref (a 4), .int (iI (σ 19)), .int (iI (σ 6)), .ref (a 5), .int (iI (σ 20)), .ref (a 6), .int (iI (d8 + 2))])), (a 1, .inl (cA, 3200, .inl f)), (a 2, .inl (cA, 3200, .inl fo)), (a 3, .inl (cA, 80, .inl fw)), (a 4, .inl (cA, 60, .inl ft)), (a 5, .inl (cA, 500, .inl fs)), (a 6, .inl (cA, 20, .inl (upd (upd u7 (d8).toNat (iI v195)) (d8 + 1).toNat (iI 109))))] := hD
  obtain ⟨T, hTe⟩ : ∃ T : List Int, T = stTx 1 x y := ⟨_, rfl⟩
  have q1 : dec v119 = digs (h12 x) := by rw [show v119 = h12 x from hv119]; exact if_neg (by unfold h12; omega)
  have q2 : v195 = (if x < 12 then 97 else 112) := by omega
  have eT : T = (((((([] : List Int) ++ (if (1 : Int) = 1 then dec v119 else dec2 v119)) ++ [58]) ++ (if (2 : Int) = 1 then dec y else dec2 y)) ++ [v195]) ++ [109]) := by rw [hTe]; unfold stTx; rw [if_neg (show ¬ (1 : Int) = 0 by decide), ← q2, ← q1]; simp
  have hX : zTx (upd (upd u7 (d8).toNat (iI v195)) (d8 + 1).toNat (iI 109)) T := by rw [eT]; exact hT13
  have hln : (T.length : Int) = d8 + 2 := by rw [eT]; omega
  have hP : va_P D vwCl [(a 0, .inr (6, [.ref (a 1), .ref (a 2), .int (iI (σ 0)), .int (iI (σ 2)), .int (iI (σ 1)), .int (iI (σ 3)), .int (iI (σ 4)), .int (iI (σ 10)), .int (iI (σ 11)), .int (iI (σ 12)), .int (iI (σ 13)), .int (iI (σ 7)), .int (iI (σ 8)), .int (iI (σ 9)), .int (iI (σ 5)), .ref (a 3), .int (iI (σ 18)), .int (iI (σ 14)), .int (iI (σ 15)), .int (iI (σ 16)), .int (iI (σ 17)), .ref (a 4), .int (iI (σ 19)), .int (iI (σ 6)), .ref (a 5), .int (iI (σ 20)), .ref (a 6), .int (iI ((T.length : Int)))])), (a 1, .inl (cA, 3200, .inl f)), (a 2, .inl (cA, 3200, .inl fo)), (a 3, .inl (cA, 80, .inl fw)), (a 4, .inl (cA, 60, .inl ft)), (a 5, .inl (cA, 500, .inl fs)), (a 6, .inl (cA, 20, .inl (upd (upd u7 (d8).toNat (iI v195)) (d8 + 1).toNat (iI 109))))] H := by rw [show ((T.length : Int) : Int) = d8 + 2 from hln]; exact hP
  have hD : va_D A [(a 0, .inr (6, [.ref (a 1), .ref (a 2), .int (iI (σ 0)), .int (iI (σ 2)), .int (iI (σ 1)), .int (iI (σ 3)), .int (iI (σ 4)), .int (iI (σ 10)), .int (iI (σ 11)), .int (iI (σ 12)), .int (iI (σ 13)), .int (iI (σ 7)), .int (iI (σ 8)), .int (iI (σ 9)), .int (iI (σ 5)), .ref (a 3), .int (iI (σ 18)), .int (iI (σ 14)), .int (iI (σ 15)), .int (iI (σ 16)), .int (iI (σ 17)), .ref (a 4), .int (iI (σ 19)), .int (iI (σ 6)), .ref (a 5), .int (iI (σ 20)), .ref (a 6), .int (iI ((T.length : Int)))])), (a 1, .inl (cA, 3200, .inl f)), (a 2, .inl (cA, 3200, .inl fo)), (a 3, .inl (cA, 80, .inl fw)), (a 4, .inl (cA, 60, .inl ft)), (a 5, .inl (cA, 500, .inl fs)), (a 6, .inl (cA, 20, .inl (upd (upd u7 (d8).toNat (iI v195)) (d8 + 1).toNat (iI 109))))] := by rw [show ((T.length : Int) : Int) = d8 + 2 from hln]; exact hD
  have hlb : 3 ≤ (T.length : Int) ∧ (T.length : Int) ≤ 13 := by omega
  obtain ⟨fdT, hfdT⟩ : ∃ z, z = upd (upd u7 (d8).toNat (iI v195)) (d8 + 1).toNat (iI 109) := ⟨_, rfl⟩
  rw [← hfdT] at hP hD hX
  refine lv_sipush (v := iI 2176) hx hb dX5_status_229 (by decide) ?_
  refine lv_aload_n hx hb dX5_status_232 rfl (lv_at hl 1 rfl) ?_
  refine va_get (D := D) (ci := 6) (v := .int (iI (σ 16))) (C := RX5) (T := TX5) (N := 28) hx hb hts inX5 hown hK hP 0 rfl rfl 19 (by decide) kfieldLink_RX5_36_ZScreensModel_first_I (fun _ h9 => h9) rfl dX5_status_233 ?_
  refine lv_bipush (v := iI 14) hx hb dX5_status_236 (by decide) ?_
  refine lv_ishl hx hb dX5_status_238 ?_
  refine lv_ior hx hb dX5_status_239 ?_
  refine lv_aload_n hx hb dX5_status_240 rfl (lv_at hl 1 rfl) ?_
  refine va_get (D := D) (ci := 6) (v := .int (iI (σ 17))) (C := RX5) (T := TX5) (N := 28) hx hb hts inX5 hown hK hP 0 rfl rfl 20 (by decide) kfieldLink_RX5_39_ZScreensModel_second_I (fun _ h9 => h9) rfl dX5_status_241 ?_
  refine lv_bipush (v := iI 18) hx hb dX5_status_244 (by decide) ?_
  refine lv_ishl hx hb dX5_status_246 ?_
  refine lv_ior hx hb dX5_status_247 ?_
  refine lv_istore (lv' := [(5, .int (((iI 2176) ||| ((iI (σ 16)) <<< ((iI 14) &&& 31))) ||| ((iI (σ 17)) <<< ((iI 18) &&& 31)))), (4, .int (iI 0)), (0, .ref (a 0)), (1, .int (iI 1)), (2, .int (iI x)), (3, .int (iI y))]) hx hb dX5_status_248 hl (by decide) rfl (fun ls hl => ?_)
  refine lv_aload_n hx hb dX5_status_250 rfl (lv_at hl 2 rfl) ?_
  refine va_get (D := D) (ci := 6) (v := .int (iI (σ 2))) (C := RX5) (T := TX5) (N := 28) hx hb hts inX5 hown hK hP 0 rfl rfl 3 (by decide) kfieldLink_RX5_58_ZScreensModel_width_I (fun _ h9 => h9) rfl dX5_status_251 ?_
  refine lv_aload_n hx hb dX5_status_254 rfl (lv_at hl 2 rfl) ?_
  refine va_get (D := D) (ci := 6) (v := .int (iI ((T.length : Int)))) (C := RX5) (T := TX5) (N := 28) hx hb hts inX5 hown hK hP 0 rfl rfl 27 (by decide) kfieldLink_RX5_145_ZScreensModel_digits_I (fun _ h9 => h9) rfl dX5_status_255 ?_
  refine z_isub hx hb dX5_status_258 ?_
  refine lv_istore (lv' := [(6, .int (iI ((σ 2) - ((T.length : Int))))), (5, .int (((iI 2176) ||| ((iI (σ 16)) <<< ((iI 14) &&& 31))) ||| ((iI (σ 17)) <<< ((iI 18) &&& 31)))), (4, .int (iI 0)), (0, .ref (a 0)), (1, .int (iI 1)), (2, .int (iI x)), (3, .int (iI y))]) hx hb dX5_status_259 hl (by decide) rfl (fun ls hl => ?_)
  refine lv_iconst (v := iI 1) hx hb dX5_status_261 rfl ?_
  refine lv_istore (lv' := [(7, .int (iI 1)), (6, .int (iI ((σ 2) - ((T.length : Int))))), (5, .int (((iI 2176) ||| ((iI (σ 16)) <<< ((iI 14) &&& 31))) ||| ((iI (σ 17)) <<< ((iI 18) &&& 31)))), (4, .int (iI 0)), (0, .ref (a 0)), (1, .int (iI 1)), (2, .int (iI x)), (3, .int (iI y))]) hx hb dX5_status_262 hl (by decide) rfl (fun ls hl => ?_)
  have L264 : ∀ (fuel : Nat) (c2 : Int) (g : Nat → Int32) (H : Heap) (locs : List Loc) (ls : Array Slot), (1 ≤ c2 ∧ c2 ≤ σ 2 + 1) → zRG encMK g (gln G (stK σ nm T) (c2 - 1)) (σ 1) (σ 2) → (σ 2 + 1 - c2).toNat < fuel → va_P D vwCl [(a 0, .inr (6, [.ref (a 1), .ref (a 2), .int (iI (σ 0)), .int (iI (σ 2)), .int (iI (σ 1)), .int (iI (σ 3)), .int (iI (σ 4)), .int (iI (σ 10)), .int (iI (σ 11)), .int (iI (σ 12)), .int (iI (σ 13)), .int (iI (σ 7)), .int (iI (σ 8)), .int (iI (σ 9)), .int (iI (σ 5)), .ref (a 3), .int (iI (σ 18)), .int (iI (σ 14)), .int (iI (σ 15)), .int (iI (σ 16)), .int (iI (σ 17)), .ref (a 4), .int (iI (σ 19)), .int (iI (σ 6)), .ref (a 5), .int (iI (σ 20)), .ref (a 6), .int (iI ((T.length : Int)))])), (a 1, .inl (cA, 3200, .inl g)), (a 2, .inl (cA, 3200, .inl fo)), (a 3, .inl (cA, 80, .inl fw)), (a 4, .inl (cA, 60, .inl ft)), (a 5, .inl (cA, 500, .inl fs)), (a 6, .inl (cA, 20, .inl fdT))] H → va_D A [(a 0, .inr (6, [.ref (a 1), .ref (a 2), .int (iI (σ 0)), .int (iI (σ 2)), .int (iI (σ 1)), .int (iI (σ 3)), .int (iI (σ 4)), .int (iI (σ 10)), .int (iI (σ 11)), .int (iI (σ 12)), .int (iI (σ 13)), .int (iI (σ 7)), .int (iI (σ 8)), .int (iI (σ 9)), .int (iI (σ 5)), .ref (a 3), .int (iI (σ 18)), .int (iI (σ 14)), .int (iI (σ 15)), .int (iI (σ 16)), .int (iI (σ 17)), .ref (a 4), .int (iI (σ 19)), .int (iI (σ 6)), .ref (a 5), .int (iI (σ 20)), .ref (a 6), .int (iI ((T.length : Int)))])), (a 1, .inl (cA, 3200, .inl g)), (a 2, .inl (cA, 3200, .inl fo)), (a 3, .inl (cA, 80, .inl fw)), (a 4, .inl (cA, 60, .inl ft)), (a 5, .inl (cA, 500, .inl fs)), (a 6, .inl (cA, 20, .inl fdT))] → va_S A s.heap H locs → lv_has ls 9 [(7, .int (iI c2)), (6, .int (iI ((σ 2) - ((T.length : Int))))), (5, .int (((iI 2176) ||| ((iI (σ 16)) <<< ((iI 14) &&& 31))) ||| ((iI (σ 17)) <<< ((iI 18) &&& 31)))), (4, .int (iI 0)), (0, .ref (a 0)), (1, .int (iI 1)), (2, .int (iI x)), (3, .int (iI y))] → W p l e R s m args below meth c H locs 0 0 Q (F0 m 264 ls []) := by
    intro fuel
    induction fuel with
    | zero => intro c2 g H locs ls hc2 hg hfu; exact absurd hfu (Nat.not_lt_zero _)
    | succ fuel ih264 =>
      intro c2 g H locs ls hc2 hg hfu hP hD hS hl
      refine lv_iload hx hb dX5_status_264 (lv_at hl 0 rfl) ?_
      refine lv_aload_n hx hb dX5_status_266 rfl (lv_at hl 4 rfl) ?_
      refine va_get (D := D) (ci := 6) (v := .int (iI (σ 2))) (C := RX5) (T := TX5) (N := 28) hx hb hts inX5 hown hK hP 0 rfl rfl 3 (by decide) kfieldLink_RX5_58_ZScreensModel_width_I (fun _ h9 => h9) rfl dX5_status_267 ?_
      refine z_icmp_gt hx hb 368 (by omega) dX5_status_270 (by decide) (fun c270 => ?_) (fun c270 => ?_)
      · skip
        refine lv_aload_n hx hb dX5_status_368 rfl (lv_at hl 4 rfl) ?_
        refine lv_iconst (v := iI 0) hx hb dX5_status_369 rfl ?_
        refine va_put (D := D) (ci := 6) (v := .int (iI 0)) (ty := .int) (C := RX5) (T := TX5) (N := 28) hx hb hts inX5 tyX5 tyX5_ok nmX5 hown hK hP hD hS 0 rfl rfl 22 (by decide) kfieldLink_RX5_142_ZScreensModel_nameSize_I (fun _ h9 => h9) rfl (by decide +kernel) rfl rfl (Nat.le_of_ble_eq_true rfl) dX5_status_370 (fun H locs hP hD hS => ?_)
        have hP : va_P D vwCl [(a 0, .inr (6, [.ref (a 1), .ref (a 2), .int (iI (σ 0)), .int (iI (σ 2)), .int (iI (σ 1)), .int (iI (σ 3)), .int (iI (σ 4)), .int (iI (σ 10)), .int (iI (σ 11)), .int (iI (σ 12)), .int (iI (σ 13)), .int (iI (σ 7)), .int (iI (σ 8)), .int (iI (σ 9)), .int (iI (σ 5)), .ref (a 3), .int (iI (σ 18)), .int (iI (σ 14)), .int (iI (σ 15)), .int (iI (σ 16)), .int (iI (σ 17)), .ref (a 4), .int (iI 0), .int (iI (σ 6)), .ref (a 5), .int (iI (σ 20)), .ref (a 6), .int (iI ((T.length : Int)))])), (a 1, .inl (cA, 3200, .inl g)), (a 2, .inl (cA, 3200, .inl fo)), (a 3, .inl (cA, 80, .inl fw)), (a 4, .inl (cA, 60, .inl ft)), (a 5, .inl (cA, 500, .inl fs)), (a 6, .inl (cA, 20, .inl fdT))] H := hP
        have hD : va_D A [(a 0, .inr (6, [.ref (a 1), .ref (a 2), .int (iI (σ 0)), .int (iI (σ 2)), .int (iI (σ 1)), .int (iI (σ 3)), .int (iI (σ 4)), .int (iI (σ 10)), .int (iI (σ 11)), .int (iI (σ 12)), .int (iI (σ 13)), .int (iI (σ 7)), .int (iI (σ 8)), .int (iI (σ 9)), .int (iI (σ 5)), .ref (a 3), .int (iI (σ 18)), .int (iI (σ 14)), .int (iI (σ 15)), .int (iI (σ 16)), .int (iI (σ 17)), .ref (a 4), .int (iI 0), .int (iI (σ 6)), .ref (a 5), .int (iI (σ 20)), .ref (a 6), .int (iI ((T.length : Int)))])), (a 1, .inl (cA, 3200, .inl g)), (a 2, .inl (cA, 3200, .inl fo)), (a 3, .inl (cA, 80, .inl fw)), (a 4, .inl (cA, 60, .inl ft)), (a 5, .inl (cA, 500, .inl fs)), (a 6, .inl (cA, 20, .inl fdT))] := hD
        refine lv_iload hx hb dX5_status_373 (lv_at hl 1 rfl) ?_
        have hgT : zRG encMK g (stG σ nm T G) (σ 1) (σ 2) := by unfold stG; rw [show σ 2 = c2 - 1 by omega] at hg ⊢; exact hg
        subst hTe
        exact K H locs _ (g, fdT) _ ls 0 0 (by omega) (by omega) rfl ⟨rfl, hgT⟩ hP hD hS dX5_status_375
      · skip
        refine lv_bipush (v := iI 32) hx hb dX5_status_273 (by decide) ?_
        refine lv_istore (lv' := [(8, .int (iI 32)), (7, .int (iI c2)), (6, .int (iI ((σ 2) - ((T.length : Int))))), (5, .int (((iI 2176) ||| ((iI (σ 16)) <<< ((iI 14) &&& 31))) ||| ((iI (σ 17)) <<< ((iI 18) &&& 31)))), (4, .int (iI 0)), (0, .ref (a 0)), (1, .int (iI 1)), (2, .int (iI x)), (3, .int (iI y))]) hx hb dX5_status_275 hl (by decide) rfl (fun ls hl => ?_)
        refine lv_iload hx hb dX5_status_277 (lv_at hl 1 rfl) ?_
        refine lv_iload hx hb dX5_status_279 (lv_at hl 2 rfl) ?_
        refine z_icmp_lt hx hb 311 (by omega) dX5_status_281 (by decide) (fun c281 => ?_) (fun c281 => ?_)
        · skip
          refine lv_iload hx hb dX5_status_311 (lv_at hl 1 rfl) ?_
          refine lv_iconst (v := iI 2) hx hb dX5_status_313 rfl ?_
          refine z_icmp_lt hx hb 348 (by omega) dX5_status_314 (by decide) (fun c314 => ?_) (fun c314 => ?_)
          · skip
            refine lv_aload_n hx hb dX5_status_348 rfl (lv_at hl 5 rfl) ?_
            refine va_get (D := D) (ci := 6) (v := .ref (a 1)) (C := RX5) (T := TX5) (N := 28) hx hb hts inX5 hown hK hP 0 rfl rfl 0 (by decide) kfieldLink_RX5_7_ZScreensModel_cells_I (fun _ h9 => h9) rfl dX5_status_349 ?_
            refine lv_iload hx hb dX5_status_352 (lv_at hl 1 rfl) ?_
            refine lv_iconst (v := iI 1) hx hb dX5_status_354 rfl ?_
            refine z_isub hx hb dX5_status_355 ?_
            refine lv_iload hx hb dX5_status_356 (lv_at hl 0 rfl) ?_
            refine lv_iload hx hb dX5_status_358 (lv_at hl 3 rfl) ?_
            refine lv_ior hx hb dX5_status_360 ?_
            refine z_iast hx hb hK hP hD hS 1 0 rfl rfl (by omega) dX5_status_361 (fun H locs hP hD hS => ?_)
            have hP : va_P D vwCl [(a 0, .inr (6, [.ref (a 1), .ref (a 2), .int (iI (σ 0)), .int (iI (σ 2)), .int (iI (σ 1)), .int (iI (σ 3)), .int (iI (σ 4)), .int (iI (σ 10)), .int (iI (σ 11)), .int (iI (σ 12)), .int (iI (σ 13)), .int (iI (σ 7)), .int (iI (σ 8)), .int (iI (σ 9)), .int (iI (σ 5)), .ref (a 3), .int (iI (σ 18)), .int (iI (σ 14)), .int (iI (σ 15)), .int (iI (σ 16)), .int (iI (σ 17)), .ref (a 4), .int (iI (σ 19)), .int (iI (σ 6)), .ref (a 5), .int (iI (σ 20)), .ref (a 6), .int (iI ((T.length : Int)))])), (a 1, .inl (cA, 3200, .inl (upd g (c2 - 1).toNat ((iI 32) ||| (((iI 2176) ||| ((iI (σ 16)) <<< ((iI 14) &&& 31))) ||| ((iI (σ 17)) <<< ((iI 18) &&& 31))))))), (a 2, .inl (cA, 3200, .inl fo)), (a 3, .inl (cA, 80, .inl fw)), (a 4, .inl (cA, 60, .inl ft)), (a 5, .inl (cA, 500, .inl fs)), (a 6, .inl (cA, 20, .inl fdT))] H := hP
            have hD : va_D A [(a 0, .inr (6, [.ref (a 1), .ref (a 2), .int (iI (σ 0)), .int (iI (σ 2)), .int (iI (σ 1)), .int (iI (σ 3)), .int (iI (σ 4)), .int (iI (σ 10)), .int (iI (σ 11)), .int (iI (σ 12)), .int (iI (σ 13)), .int (iI (σ 7)), .int (iI (σ 8)), .int (iI (σ 9)), .int (iI (σ 5)), .ref (a 3), .int (iI (σ 18)), .int (iI (σ 14)), .int (iI (σ 15)), .int (iI (σ 16)), .int (iI (σ 17)), .ref (a 4), .int (iI (σ 19)), .int (iI (σ 6)), .ref (a 5), .int (iI (σ 20)), .ref (a 6), .int (iI ((T.length : Int)))])), (a 1, .inl (cA, 3200, .inl (upd g (c2 - 1).toNat ((iI 32) ||| (((iI 2176) ||| ((iI (σ 16)) <<< ((iI 14) &&& 31))) ||| ((iI (σ 17)) <<< ((iI 18) &&& 31))))))), (a 2, .inl (cA, 3200, .inl fo)), (a 3, .inl (cA, 80, .inl fw)), (a 4, .inl (cA, 60, .inl ft)), (a 5, .inl (cA, 500, .inl fs)), (a 6, .inl (cA, 20, .inl fdT))] := hD
            refine lv_iinc (v := iI (c2 + 1)) (lv' := [(7, .int (iI (c2 + 1))), (8, .int (iI 32)), (6, .int (iI ((σ 2) - ((T.length : Int))))), (5, .int (((iI 2176) ||| ((iI (σ 16)) <<< ((iI 14) &&& 31))) ||| ((iI (σ 17)) <<< ((iI 18) &&& 31)))), (4, .int (iI 0)), (0, .ref (a 0)), (1, .int (iI 1)), (2, .int (iI x)), (3, .int (iI y))]) hx hb dX5_status_362 hl (k := 1) rfl (iI_add _ _) (by decide) rfl (fun ls hl => ?_)
            refine lv_goto (tgt := 264) hx hb dX5_status_365 (by decide) ?_
            have eV : ((iI 32) ||| (((iI 2176) ||| ((iI (σ 16)) <<< ((iI 14) &&& 31))) ||| ((iI (σ 17)) <<< ((iI 18) &&& 31)))) = encMK (stK σ nm T (c2 - 1).toNat) := by
              have e8 : (((c2 - 1).toNat : Nat) : Int) = c2 - 1 := by omega
              unfold encMK stK stCh
              simp only [e8]
              rw [if_neg (show ¬ (σ 2 - (T.length : Int) ≤ c2 - 1 + 1 ∧ c2 - 1 + 1 < σ 2) by omega), if_neg (show ¬ (2 ≤ c2 - 1 + 1 ∧ c2 - 1 + 1 - 2 < σ 19 ∧ c2 - 1 + 1 ≤ σ 2 - (T.length : Int) - 2) by omega)]
              exact encM_st _ _ _
            exact ih264 (c2 + 1) (upd g (c2 - 1).toNat ((iI 32) ||| (((iI 2176) ||| ((iI (σ 16)) <<< ((iI 14) &&& 31))) ||| ((iI (σ 17)) <<< ((iI 18) &&& 31))))) _ _ _ (by omega) (by rw [eV, show c2 + 1 - 1 = c2 - 1 + 1 by omega, ← gln_step (by omega)]; exact rg_set hg (by omega) _ (by omega) (by omega) (by omega)) (by omega) hP hD hS (lv_sub hl [0, 2, 3, 4, 5, 6, 7, 8] rfl)
          · skip
            refine lv_iload hx hb dX5_status_317 (lv_at hl 1 rfl) ?_
            refine lv_iconst (v := iI 2) hx hb dX5_status_319 rfl ?_
            refine z_isub hx hb dX5_status_320 ?_
            refine lv_aload_n hx hb dX5_status_321 rfl (lv_at hl 5 rfl) ?_
            refine va_get (D := D) (ci := 6) (v := .int (iI (σ 19))) (C := RX5) (T := TX5) (N := 28) hx hb hts inX5 hown hK hP 0 rfl rfl 22 (by decide) kfieldLink_RX5_142_ZScreensModel_nameSize_I (fun _ h9 => h9) rfl dX5_status_322 ?_
            refine z_icmp_ge hx hb 348 (by omega) dX5_status_325 (by decide) (fun c325 => ?_) (fun c325 => ?_)
            · skip
              refine lv_aload_n hx hb dX5_status_348 rfl (lv_at hl 5 rfl) ?_
              refine va_get (D := D) (ci := 6) (v := .ref (a 1)) (C := RX5) (T := TX5) (N := 28) hx hb hts inX5 hown hK hP 0 rfl rfl 0 (by decide) kfieldLink_RX5_7_ZScreensModel_cells_I (fun _ h9 => h9) rfl dX5_status_349 ?_
              refine lv_iload hx hb dX5_status_352 (lv_at hl 1 rfl) ?_
              refine lv_iconst (v := iI 1) hx hb dX5_status_354 rfl ?_
              refine z_isub hx hb dX5_status_355 ?_
              refine lv_iload hx hb dX5_status_356 (lv_at hl 0 rfl) ?_
              refine lv_iload hx hb dX5_status_358 (lv_at hl 3 rfl) ?_
              refine lv_ior hx hb dX5_status_360 ?_
              refine z_iast hx hb hK hP hD hS 1 0 rfl rfl (by omega) dX5_status_361 (fun H locs hP hD hS => ?_)
              have hP : va_P D vwCl [(a 0, .inr (6, [.ref (a 1), .ref (a 2), .int (iI (σ 0)), .int (iI (σ 2)), .int (iI (σ 1)), .int (iI (σ 3)), .int (iI (σ 4)), .int (iI (σ 10)), .int (iI (σ 11)), .int (iI (σ 12)), .int (iI (σ 13)), .int (iI (σ 7)), .int (iI (σ 8)), .int (iI (σ 9)), .int (iI (σ 5)), .ref (a 3), .int (iI (σ 18)), .int (iI (σ 14)), .int (iI (σ 15)), .int (iI (σ 16)), .int (iI (σ 17)), .ref (a 4), .int (iI (σ 19)), .int (iI (σ 6)), .ref (a 5), .int (iI (σ 20)), .ref (a 6), .int (iI ((T.length : Int)))])), (a 1, .inl (cA, 3200, .inl (upd g (c2 - 1).toNat ((iI 32) ||| (((iI 2176) ||| ((iI (σ 16)) <<< ((iI 14) &&& 31))) ||| ((iI (σ 17)) <<< ((iI 18) &&& 31))))))), (a 2, .inl (cA, 3200, .inl fo)), (a 3, .inl (cA, 80, .inl fw)), (a 4, .inl (cA, 60, .inl ft)), (a 5, .inl (cA, 500, .inl fs)), (a 6, .inl (cA, 20, .inl fdT))] H := hP
              have hD : va_D A [(a 0, .inr (6, [.ref (a 1), .ref (a 2), .int (iI (σ 0)), .int (iI (σ 2)), .int (iI (σ 1)), .int (iI (σ 3)), .int (iI (σ 4)), .int (iI (σ 10)), .int (iI (σ 11)), .int (iI (σ 12)), .int (iI (σ 13)), .int (iI (σ 7)), .int (iI (σ 8)), .int (iI (σ 9)), .int (iI (σ 5)), .ref (a 3), .int (iI (σ 18)), .int (iI (σ 14)), .int (iI (σ 15)), .int (iI (σ 16)), .int (iI (σ 17)), .ref (a 4), .int (iI (σ 19)), .int (iI (σ 6)), .ref (a 5), .int (iI (σ 20)), .ref (a 6), .int (iI ((T.length : Int)))])), (a 1, .inl (cA, 3200, .inl (upd g (c2 - 1).toNat ((iI 32) ||| (((iI 2176) ||| ((iI (σ 16)) <<< ((iI 14) &&& 31))) ||| ((iI (σ 17)) <<< ((iI 18) &&& 31))))))), (a 2, .inl (cA, 3200, .inl fo)), (a 3, .inl (cA, 80, .inl fw)), (a 4, .inl (cA, 60, .inl ft)), (a 5, .inl (cA, 500, .inl fs)), (a 6, .inl (cA, 20, .inl fdT))] := hD
              refine lv_iinc (v := iI (c2 + 1)) (lv' := [(7, .int (iI (c2 + 1))), (8, .int (iI 32)), (6, .int (iI ((σ 2) - ((T.length : Int))))), (5, .int (((iI 2176) ||| ((iI (σ 16)) <<< ((iI 14) &&& 31))) ||| ((iI (σ 17)) <<< ((iI 18) &&& 31)))), (4, .int (iI 0)), (0, .ref (a 0)), (1, .int (iI 1)), (2, .int (iI x)), (3, .int (iI y))]) hx hb dX5_status_362 hl (k := 1) rfl (iI_add _ _) (by decide) rfl (fun ls hl => ?_)
              refine lv_goto (tgt := 264) hx hb dX5_status_365 (by decide) ?_
              have eV : ((iI 32) ||| (((iI 2176) ||| ((iI (σ 16)) <<< ((iI 14) &&& 31))) ||| ((iI (σ 17)) <<< ((iI 18) &&& 31)))) = encMK (stK σ nm T (c2 - 1).toNat) := by
                have e8 : (((c2 - 1).toNat : Nat) : Int) = c2 - 1 := by omega
                unfold encMK stK stCh
                simp only [e8]
                rw [if_neg (show ¬ (σ 2 - (T.length : Int) ≤ c2 - 1 + 1 ∧ c2 - 1 + 1 < σ 2) by omega), if_neg (show ¬ (2 ≤ c2 - 1 + 1 ∧ c2 - 1 + 1 - 2 < σ 19 ∧ c2 - 1 + 1 ≤ σ 2 - (T.length : Int) - 2) by omega)]
                exact encM_st _ _ _
              exact ih264 (c2 + 1) (upd g (c2 - 1).toNat ((iI 32) ||| (((iI 2176) ||| ((iI (σ 16)) <<< ((iI 14) &&& 31))) ||| ((iI (σ 17)) <<< ((iI 18) &&& 31))))) _ _ _ (by omega) (by rw [eV, show c2 + 1 - 1 = c2 - 1 + 1 by omega, ← gln_step (by omega)]; exact rg_set hg (by omega) _ (by omega) (by omega) (by omega)) (by omega) hP hD hS (lv_sub hl [0, 2, 3, 4, 5, 6, 7, 8] rfl)
            · skip
              refine lv_iload hx hb dX5_status_328 (lv_at hl 1 rfl) ?_
              refine lv_iload hx hb dX5_status_330 (lv_at hl 2 rfl) ?_
              refine lv_iconst (v := iI 2) hx hb dX5_status_332 rfl ?_
              refine z_isub hx hb dX5_status_333 ?_
              refine z_icmp_gt hx hb 348 (by omega) dX5_status_334 (by decide) (fun c334 => ?_) (fun c334 => ?_)
              · skip
                refine lv_aload_n hx hb dX5_status_348 rfl (lv_at hl 5 rfl) ?_
                refine va_get (D := D) (ci := 6) (v := .ref (a 1)) (C := RX5) (T := TX5) (N := 28) hx hb hts inX5 hown hK hP 0 rfl rfl 0 (by decide) kfieldLink_RX5_7_ZScreensModel_cells_I (fun _ h9 => h9) rfl dX5_status_349 ?_
                refine lv_iload hx hb dX5_status_352 (lv_at hl 1 rfl) ?_
                refine lv_iconst (v := iI 1) hx hb dX5_status_354 rfl ?_
                refine z_isub hx hb dX5_status_355 ?_
                refine lv_iload hx hb dX5_status_356 (lv_at hl 0 rfl) ?_
                refine lv_iload hx hb dX5_status_358 (lv_at hl 3 rfl) ?_
                refine lv_ior hx hb dX5_status_360 ?_
                refine z_iast hx hb hK hP hD hS 1 0 rfl rfl (by omega) dX5_status_361 (fun H locs hP hD hS => ?_)
                have hP : va_P D vwCl [(a 0, .inr (6, [.ref (a 1), .ref (a 2), .int (iI (σ 0)), .int (iI (σ 2)), .int (iI (σ 1)), .int (iI (σ 3)), .int (iI (σ 4)), .int (iI (σ 10)), .int (iI (σ 11)), .int (iI (σ 12)), .int (iI (σ 13)), .int (iI (σ 7)), .int (iI (σ 8)), .int (iI (σ 9)), .int (iI (σ 5)), .ref (a 3), .int (iI (σ 18)), .int (iI (σ 14)), .int (iI (σ 15)), .int (iI (σ 16)), .int (iI (σ 17)), .ref (a 4), .int (iI (σ 19)), .int (iI (σ 6)), .ref (a 5), .int (iI (σ 20)), .ref (a 6), .int (iI ((T.length : Int)))])), (a 1, .inl (cA, 3200, .inl (upd g (c2 - 1).toNat ((iI 32) ||| (((iI 2176) ||| ((iI (σ 16)) <<< ((iI 14) &&& 31))) ||| ((iI (σ 17)) <<< ((iI 18) &&& 31))))))), (a 2, .inl (cA, 3200, .inl fo)), (a 3, .inl (cA, 80, .inl fw)), (a 4, .inl (cA, 60, .inl ft)), (a 5, .inl (cA, 500, .inl fs)), (a 6, .inl (cA, 20, .inl fdT))] H := hP
                have hD : va_D A [(a 0, .inr (6, [.ref (a 1), .ref (a 2), .int (iI (σ 0)), .int (iI (σ 2)), .int (iI (σ 1)), .int (iI (σ 3)), .int (iI (σ 4)), .int (iI (σ 10)), .int (iI (σ 11)), .int (iI (σ 12)), .int (iI (σ 13)), .int (iI (σ 7)), .int (iI (σ 8)), .int (iI (σ 9)), .int (iI (σ 5)), .ref (a 3), .int (iI (σ 18)), .int (iI (σ 14)), .int (iI (σ 15)), .int (iI (σ 16)), .int (iI (σ 17)), .ref (a 4), .int (iI (σ 19)), .int (iI (σ 6)), .ref (a 5), .int (iI (σ 20)), .ref (a 6), .int (iI ((T.length : Int)))])), (a 1, .inl (cA, 3200, .inl (upd g (c2 - 1).toNat ((iI 32) ||| (((iI 2176) ||| ((iI (σ 16)) <<< ((iI 14) &&& 31))) ||| ((iI (σ 17)) <<< ((iI 18) &&& 31))))))), (a 2, .inl (cA, 3200, .inl fo)), (a 3, .inl (cA, 80, .inl fw)), (a 4, .inl (cA, 60, .inl ft)), (a 5, .inl (cA, 500, .inl fs)), (a 6, .inl (cA, 20, .inl fdT))] := hD
                refine lv_iinc (v := iI (c2 + 1)) (lv' := [(7, .int (iI (c2 + 1))), (8, .int (iI 32)), (6, .int (iI ((σ 2) - ((T.length : Int))))), (5, .int (((iI 2176) ||| ((iI (σ 16)) <<< ((iI 14) &&& 31))) ||| ((iI (σ 17)) <<< ((iI 18) &&& 31)))), (4, .int (iI 0)), (0, .ref (a 0)), (1, .int (iI 1)), (2, .int (iI x)), (3, .int (iI y))]) hx hb dX5_status_362 hl (k := 1) rfl (iI_add _ _) (by decide) rfl (fun ls hl => ?_)
                refine lv_goto (tgt := 264) hx hb dX5_status_365 (by decide) ?_
                have eV : ((iI 32) ||| (((iI 2176) ||| ((iI (σ 16)) <<< ((iI 14) &&& 31))) ||| ((iI (σ 17)) <<< ((iI 18) &&& 31)))) = encMK (stK σ nm T (c2 - 1).toNat) := by
                  have e8 : (((c2 - 1).toNat : Nat) : Int) = c2 - 1 := by omega
                  unfold encMK stK stCh
                  simp only [e8]
                  rw [if_neg (show ¬ (σ 2 - (T.length : Int) ≤ c2 - 1 + 1 ∧ c2 - 1 + 1 < σ 2) by omega), if_neg (show ¬ (2 ≤ c2 - 1 + 1 ∧ c2 - 1 + 1 - 2 < σ 19 ∧ c2 - 1 + 1 ≤ σ 2 - (T.length : Int) - 2) by omega)]
                  exact encM_st _ _ _
                exact ih264 (c2 + 1) (upd g (c2 - 1).toNat ((iI 32) ||| (((iI 2176) ||| ((iI (σ 16)) <<< ((iI 14) &&& 31))) ||| ((iI (σ 17)) <<< ((iI 18) &&& 31))))) _ _ _ (by omega) (by rw [eV, show c2 + 1 - 1 = c2 - 1 + 1 by omega, ← gln_step (by omega)]; exact rg_set hg (by omega) _ (by omega) (by omega) (by omega)) (by omega) hP hD hS (lv_sub hl [0, 2, 3, 4, 5, 6, 7, 8] rfl)
              · skip
                refine lv_aload_n hx hb dX5_status_337 rfl (lv_at hl 5 rfl) ?_
                refine va_get (D := D) (ci := 6) (v := .ref (a 4)) (C := RX5) (T := TX5) (N := 28) hx hb hts inX5 hown hK hP 0 rfl rfl 21 (by decide) kfieldLink_RX5_42_ZScreensModel_name_I (fun _ h9 => h9) rfl dX5_status_338 ?_
                refine lv_iload hx hb dX5_status_341 (lv_at hl 1 rfl) ?_
                refine lv_iconst (v := iI 2) hx hb dX5_status_343 rfl ?_
                refine z_isub hx hb dX5_status_344 ?_
                refine z_iald hx hb hK hP 4 0 rfl rfl (by omega) dX5_status_345 ?_
                refine lv_istore (lv' := [(8, .int (ft (c2 - 2).toNat)), (7, .int (iI c2)), (6, .int (iI ((σ 2) - ((T.length : Int))))), (5, .int (((iI 2176) ||| ((iI (σ 16)) <<< ((iI 14) &&& 31))) ||| ((iI (σ 17)) <<< ((iI 18) &&& 31)))), (4, .int (iI 0)), (0, .ref (a 0)), (1, .int (iI 1)), (2, .int (iI x)), (3, .int (iI y))]) hx hb dX5_status_346 hl (by decide) rfl (fun ls hl => ?_)
                refine lv_aload_n hx hb dX5_status_348 rfl (lv_at hl 5 rfl) ?_
                refine va_get (D := D) (ci := 6) (v := .ref (a 1)) (C := RX5) (T := TX5) (N := 28) hx hb hts inX5 hown hK hP 0 rfl rfl 0 (by decide) kfieldLink_RX5_7_ZScreensModel_cells_I (fun _ h9 => h9) rfl dX5_status_349 ?_
                refine lv_iload hx hb dX5_status_352 (lv_at hl 1 rfl) ?_
                refine lv_iconst (v := iI 1) hx hb dX5_status_354 rfl ?_
                refine z_isub hx hb dX5_status_355 ?_
                refine lv_iload hx hb dX5_status_356 (lv_at hl 0 rfl) ?_
                refine lv_iload hx hb dX5_status_358 (lv_at hl 3 rfl) ?_
                refine lv_ior hx hb dX5_status_360 ?_
                refine z_iast hx hb hK hP hD hS 1 0 rfl rfl (by omega) dX5_status_361 (fun H locs hP hD hS => ?_)
                have hP : va_P D vwCl [(a 0, .inr (6, [.ref (a 1), .ref (a 2), .int (iI (σ 0)), .int (iI (σ 2)), .int (iI (σ 1)), .int (iI (σ 3)), .int (iI (σ 4)), .int (iI (σ 10)), .int (iI (σ 11)), .int (iI (σ 12)), .int (iI (σ 13)), .int (iI (σ 7)), .int (iI (σ 8)), .int (iI (σ 9)), .int (iI (σ 5)), .ref (a 3), .int (iI (σ 18)), .int (iI (σ 14)), .int (iI (σ 15)), .int (iI (σ 16)), .int (iI (σ 17)), .ref (a 4), .int (iI (σ 19)), .int (iI (σ 6)), .ref (a 5), .int (iI (σ 20)), .ref (a 6), .int (iI ((T.length : Int)))])), (a 1, .inl (cA, 3200, .inl (upd g (c2 - 1).toNat ((ft (c2 - 2).toNat) ||| (((iI 2176) ||| ((iI (σ 16)) <<< ((iI 14) &&& 31))) ||| ((iI (σ 17)) <<< ((iI 18) &&& 31))))))), (a 2, .inl (cA, 3200, .inl fo)), (a 3, .inl (cA, 80, .inl fw)), (a 4, .inl (cA, 60, .inl ft)), (a 5, .inl (cA, 500, .inl fs)), (a 6, .inl (cA, 20, .inl fdT))] H := hP
                have hD : va_D A [(a 0, .inr (6, [.ref (a 1), .ref (a 2), .int (iI (σ 0)), .int (iI (σ 2)), .int (iI (σ 1)), .int (iI (σ 3)), .int (iI (σ 4)), .int (iI (σ 10)), .int (iI (σ 11)), .int (iI (σ 12)), .int (iI (σ 13)), .int (iI (σ 7)), .int (iI (σ 8)), .int (iI (σ 9)), .int (iI (σ 5)), .ref (a 3), .int (iI (σ 18)), .int (iI (σ 14)), .int (iI (σ 15)), .int (iI (σ 16)), .int (iI (σ 17)), .ref (a 4), .int (iI (σ 19)), .int (iI (σ 6)), .ref (a 5), .int (iI (σ 20)), .ref (a 6), .int (iI ((T.length : Int)))])), (a 1, .inl (cA, 3200, .inl (upd g (c2 - 1).toNat ((ft (c2 - 2).toNat) ||| (((iI 2176) ||| ((iI (σ 16)) <<< ((iI 14) &&& 31))) ||| ((iI (σ 17)) <<< ((iI 18) &&& 31))))))), (a 2, .inl (cA, 3200, .inl fo)), (a 3, .inl (cA, 80, .inl fw)), (a 4, .inl (cA, 60, .inl ft)), (a 5, .inl (cA, 500, .inl fs)), (a 6, .inl (cA, 20, .inl fdT))] := hD
                refine lv_iinc (v := iI (c2 + 1)) (lv' := [(7, .int (iI (c2 + 1))), (8, .int (ft (c2 - 2).toNat)), (6, .int (iI ((σ 2) - ((T.length : Int))))), (5, .int (((iI 2176) ||| ((iI (σ 16)) <<< ((iI 14) &&& 31))) ||| ((iI (σ 17)) <<< ((iI 18) &&& 31)))), (4, .int (iI 0)), (0, .ref (a 0)), (1, .int (iI 1)), (2, .int (iI x)), (3, .int (iI y))]) hx hb dX5_status_362 hl (k := 1) rfl (iI_add _ _) (by decide) rfl (fun ls hl => ?_)
                refine lv_goto (tgt := 264) hx hb dX5_status_365 (by decide) ?_
                have eV : ((ft (c2 - 2).toNat) ||| (((iI 2176) ||| ((iI (σ 16)) <<< ((iI 14) &&& 31))) ||| ((iI (σ 17)) <<< ((iI 18) &&& 31)))) = encMK (stK σ nm T (c2 - 1).toNat) := by
                  rw [hM _ (by omega)]
                  have e8 : (((c2 - 1).toNat : Nat) : Int) = c2 - 1 := by omega
                  unfold encMK stK stCh
                  simp only [e8]
                  rw [if_neg (show ¬ (σ 2 - (T.length : Int) ≤ c2 - 1 + 1 ∧ c2 - 1 + 1 < σ 2) by omega), if_pos (show 2 ≤ c2 - 1 + 1 ∧ c2 - 1 + 1 - 2 < σ 19 ∧ c2 - 1 + 1 ≤ σ 2 - (T.length : Int) - 2 by omega)]
                  rw [show (c2 - 1 + 1 - 2).toNat = (c2 - 2).toNat by omega]; exact encM_st _ _ _
                exact ih264 (c2 + 1) (upd g (c2 - 1).toNat ((ft (c2 - 2).toNat) ||| (((iI 2176) ||| ((iI (σ 16)) <<< ((iI 14) &&& 31))) ||| ((iI (σ 17)) <<< ((iI 18) &&& 31))))) _ _ _ (by omega) (by rw [eV, show c2 + 1 - 1 = c2 - 1 + 1 by omega, ← gln_step (by omega)]; exact rg_set hg (by omega) _ (by omega) (by omega) (by omega)) (by omega) hP hD hS (lv_sub hl [0, 2, 3, 4, 5, 6, 7, 8] rfl)
        · skip
          refine lv_iload hx hb dX5_status_284 (lv_at hl 1 rfl) ?_
          refine lv_iload hx hb dX5_status_286 (lv_at hl 2 rfl) ?_
          refine lv_aload_n hx hb dX5_status_288 rfl (lv_at hl 5 rfl) ?_
          refine va_get (D := D) (ci := 6) (v := .int (iI ((T.length : Int)))) (C := RX5) (T := TX5) (N := 28) hx hb hts inX5 hown hK hP 0 rfl rfl 27 (by decide) kfieldLink_RX5_145_ZScreensModel_digits_I (fun _ h9 => h9) rfl dX5_status_289 ?_
          refine z_iadd hx hb dX5_status_292 ?_
          refine z_icmp_ge hx hb 311 (by omega) dX5_status_293 (by decide) (fun c293 => ?_) (fun c293 => ?_)
          · skip
            refine lv_iload hx hb dX5_status_311 (lv_at hl 1 rfl) ?_
            refine lv_iconst (v := iI 2) hx hb dX5_status_313 rfl ?_
            refine z_icmp_lt hx hb 348 (by omega) dX5_status_314 (by decide) (fun c314 => ?_) (fun c314 => ?_)
            · skip
              refine lv_aload_n hx hb dX5_status_348 rfl (lv_at hl 5 rfl) ?_
              refine va_get (D := D) (ci := 6) (v := .ref (a 1)) (C := RX5) (T := TX5) (N := 28) hx hb hts inX5 hown hK hP 0 rfl rfl 0 (by decide) kfieldLink_RX5_7_ZScreensModel_cells_I (fun _ h9 => h9) rfl dX5_status_349 ?_
              refine lv_iload hx hb dX5_status_352 (lv_at hl 1 rfl) ?_
              refine lv_iconst (v := iI 1) hx hb dX5_status_354 rfl ?_
              refine z_isub hx hb dX5_status_355 ?_
              refine lv_iload hx hb dX5_status_356 (lv_at hl 0 rfl) ?_
              refine lv_iload hx hb dX5_status_358 (lv_at hl 3 rfl) ?_
              refine lv_ior hx hb dX5_status_360 ?_
              refine z_iast hx hb hK hP hD hS 1 0 rfl rfl (by omega) dX5_status_361 (fun H locs hP hD hS => ?_)
              have hP : va_P D vwCl [(a 0, .inr (6, [.ref (a 1), .ref (a 2), .int (iI (σ 0)), .int (iI (σ 2)), .int (iI (σ 1)), .int (iI (σ 3)), .int (iI (σ 4)), .int (iI (σ 10)), .int (iI (σ 11)), .int (iI (σ 12)), .int (iI (σ 13)), .int (iI (σ 7)), .int (iI (σ 8)), .int (iI (σ 9)), .int (iI (σ 5)), .ref (a 3), .int (iI (σ 18)), .int (iI (σ 14)), .int (iI (σ 15)), .int (iI (σ 16)), .int (iI (σ 17)), .ref (a 4), .int (iI (σ 19)), .int (iI (σ 6)), .ref (a 5), .int (iI (σ 20)), .ref (a 6), .int (iI ((T.length : Int)))])), (a 1, .inl (cA, 3200, .inl (upd g (c2 - 1).toNat ((iI 32) ||| (((iI 2176) ||| ((iI (σ 16)) <<< ((iI 14) &&& 31))) ||| ((iI (σ 17)) <<< ((iI 18) &&& 31))))))), (a 2, .inl (cA, 3200, .inl fo)), (a 3, .inl (cA, 80, .inl fw)), (a 4, .inl (cA, 60, .inl ft)), (a 5, .inl (cA, 500, .inl fs)), (a 6, .inl (cA, 20, .inl fdT))] H := hP
              have hD : va_D A [(a 0, .inr (6, [.ref (a 1), .ref (a 2), .int (iI (σ 0)), .int (iI (σ 2)), .int (iI (σ 1)), .int (iI (σ 3)), .int (iI (σ 4)), .int (iI (σ 10)), .int (iI (σ 11)), .int (iI (σ 12)), .int (iI (σ 13)), .int (iI (σ 7)), .int (iI (σ 8)), .int (iI (σ 9)), .int (iI (σ 5)), .ref (a 3), .int (iI (σ 18)), .int (iI (σ 14)), .int (iI (σ 15)), .int (iI (σ 16)), .int (iI (σ 17)), .ref (a 4), .int (iI (σ 19)), .int (iI (σ 6)), .ref (a 5), .int (iI (σ 20)), .ref (a 6), .int (iI ((T.length : Int)))])), (a 1, .inl (cA, 3200, .inl (upd g (c2 - 1).toNat ((iI 32) ||| (((iI 2176) ||| ((iI (σ 16)) <<< ((iI 14) &&& 31))) ||| ((iI (σ 17)) <<< ((iI 18) &&& 31))))))), (a 2, .inl (cA, 3200, .inl fo)), (a 3, .inl (cA, 80, .inl fw)), (a 4, .inl (cA, 60, .inl ft)), (a 5, .inl (cA, 500, .inl fs)), (a 6, .inl (cA, 20, .inl fdT))] := hD
              refine lv_iinc (v := iI (c2 + 1)) (lv' := [(7, .int (iI (c2 + 1))), (8, .int (iI 32)), (6, .int (iI ((σ 2) - ((T.length : Int))))), (5, .int (((iI 2176) ||| ((iI (σ 16)) <<< ((iI 14) &&& 31))) ||| ((iI (σ 17)) <<< ((iI 18) &&& 31)))), (4, .int (iI 0)), (0, .ref (a 0)), (1, .int (iI 1)), (2, .int (iI x)), (3, .int (iI y))]) hx hb dX5_status_362 hl (k := 1) rfl (iI_add _ _) (by decide) rfl (fun ls hl => ?_)
              refine lv_goto (tgt := 264) hx hb dX5_status_365 (by decide) ?_
              have eV : ((iI 32) ||| (((iI 2176) ||| ((iI (σ 16)) <<< ((iI 14) &&& 31))) ||| ((iI (σ 17)) <<< ((iI 18) &&& 31)))) = encMK (stK σ nm T (c2 - 1).toNat) := by
                have e8 : (((c2 - 1).toNat : Nat) : Int) = c2 - 1 := by omega
                unfold encMK stK stCh
                simp only [e8]
                rw [if_neg (show ¬ (σ 2 - (T.length : Int) ≤ c2 - 1 + 1 ∧ c2 - 1 + 1 < σ 2) by omega), if_neg (show ¬ (2 ≤ c2 - 1 + 1 ∧ c2 - 1 + 1 - 2 < σ 19 ∧ c2 - 1 + 1 ≤ σ 2 - (T.length : Int) - 2) by omega)]
                exact encM_st _ _ _
              exact ih264 (c2 + 1) (upd g (c2 - 1).toNat ((iI 32) ||| (((iI 2176) ||| ((iI (σ 16)) <<< ((iI 14) &&& 31))) ||| ((iI (σ 17)) <<< ((iI 18) &&& 31))))) _ _ _ (by omega) (by rw [eV, show c2 + 1 - 1 = c2 - 1 + 1 by omega, ← gln_step (by omega)]; exact rg_set hg (by omega) _ (by omega) (by omega) (by omega)) (by omega) hP hD hS (lv_sub hl [0, 2, 3, 4, 5, 6, 7, 8] rfl)
            · skip
              refine lv_iload hx hb dX5_status_317 (lv_at hl 1 rfl) ?_
              refine lv_iconst (v := iI 2) hx hb dX5_status_319 rfl ?_
              refine z_isub hx hb dX5_status_320 ?_
              refine lv_aload_n hx hb dX5_status_321 rfl (lv_at hl 5 rfl) ?_
              refine va_get (D := D) (ci := 6) (v := .int (iI (σ 19))) (C := RX5) (T := TX5) (N := 28) hx hb hts inX5 hown hK hP 0 rfl rfl 22 (by decide) kfieldLink_RX5_142_ZScreensModel_nameSize_I (fun _ h9 => h9) rfl dX5_status_322 ?_
              refine z_icmp_ge hx hb 348 (by omega) dX5_status_325 (by decide) (fun c325 => ?_) (fun c325 => ?_)
              · skip
                refine lv_aload_n hx hb dX5_status_348 rfl (lv_at hl 5 rfl) ?_
                refine va_get (D := D) (ci := 6) (v := .ref (a 1)) (C := RX5) (T := TX5) (N := 28) hx hb hts inX5 hown hK hP 0 rfl rfl 0 (by decide) kfieldLink_RX5_7_ZScreensModel_cells_I (fun _ h9 => h9) rfl dX5_status_349 ?_
                refine lv_iload hx hb dX5_status_352 (lv_at hl 1 rfl) ?_
                refine lv_iconst (v := iI 1) hx hb dX5_status_354 rfl ?_
                refine z_isub hx hb dX5_status_355 ?_
                refine lv_iload hx hb dX5_status_356 (lv_at hl 0 rfl) ?_
                refine lv_iload hx hb dX5_status_358 (lv_at hl 3 rfl) ?_
                refine lv_ior hx hb dX5_status_360 ?_
                refine z_iast hx hb hK hP hD hS 1 0 rfl rfl (by omega) dX5_status_361 (fun H locs hP hD hS => ?_)
                have hP : va_P D vwCl [(a 0, .inr (6, [.ref (a 1), .ref (a 2), .int (iI (σ 0)), .int (iI (σ 2)), .int (iI (σ 1)), .int (iI (σ 3)), .int (iI (σ 4)), .int (iI (σ 10)), .int (iI (σ 11)), .int (iI (σ 12)), .int (iI (σ 13)), .int (iI (σ 7)), .int (iI (σ 8)), .int (iI (σ 9)), .int (iI (σ 5)), .ref (a 3), .int (iI (σ 18)), .int (iI (σ 14)), .int (iI (σ 15)), .int (iI (σ 16)), .int (iI (σ 17)), .ref (a 4), .int (iI (σ 19)), .int (iI (σ 6)), .ref (a 5), .int (iI (σ 20)), .ref (a 6), .int (iI ((T.length : Int)))])), (a 1, .inl (cA, 3200, .inl (upd g (c2 - 1).toNat ((iI 32) ||| (((iI 2176) ||| ((iI (σ 16)) <<< ((iI 14) &&& 31))) ||| ((iI (σ 17)) <<< ((iI 18) &&& 31))))))), (a 2, .inl (cA, 3200, .inl fo)), (a 3, .inl (cA, 80, .inl fw)), (a 4, .inl (cA, 60, .inl ft)), (a 5, .inl (cA, 500, .inl fs)), (a 6, .inl (cA, 20, .inl fdT))] H := hP
                have hD : va_D A [(a 0, .inr (6, [.ref (a 1), .ref (a 2), .int (iI (σ 0)), .int (iI (σ 2)), .int (iI (σ 1)), .int (iI (σ 3)), .int (iI (σ 4)), .int (iI (σ 10)), .int (iI (σ 11)), .int (iI (σ 12)), .int (iI (σ 13)), .int (iI (σ 7)), .int (iI (σ 8)), .int (iI (σ 9)), .int (iI (σ 5)), .ref (a 3), .int (iI (σ 18)), .int (iI (σ 14)), .int (iI (σ 15)), .int (iI (σ 16)), .int (iI (σ 17)), .ref (a 4), .int (iI (σ 19)), .int (iI (σ 6)), .ref (a 5), .int (iI (σ 20)), .ref (a 6), .int (iI ((T.length : Int)))])), (a 1, .inl (cA, 3200, .inl (upd g (c2 - 1).toNat ((iI 32) ||| (((iI 2176) ||| ((iI (σ 16)) <<< ((iI 14) &&& 31))) ||| ((iI (σ 17)) <<< ((iI 18) &&& 31))))))), (a 2, .inl (cA, 3200, .inl fo)), (a 3, .inl (cA, 80, .inl fw)), (a 4, .inl (cA, 60, .inl ft)), (a 5, .inl (cA, 500, .inl fs)), (a 6, .inl (cA, 20, .inl fdT))] := hD
                refine lv_iinc (v := iI (c2 + 1)) (lv' := [(7, .int (iI (c2 + 1))), (8, .int (iI 32)), (6, .int (iI ((σ 2) - ((T.length : Int))))), (5, .int (((iI 2176) ||| ((iI (σ 16)) <<< ((iI 14) &&& 31))) ||| ((iI (σ 17)) <<< ((iI 18) &&& 31)))), (4, .int (iI 0)), (0, .ref (a 0)), (1, .int (iI 1)), (2, .int (iI x)), (3, .int (iI y))]) hx hb dX5_status_362 hl (k := 1) rfl (iI_add _ _) (by decide) rfl (fun ls hl => ?_)
                refine lv_goto (tgt := 264) hx hb dX5_status_365 (by decide) ?_
                have eV : ((iI 32) ||| (((iI 2176) ||| ((iI (σ 16)) <<< ((iI 14) &&& 31))) ||| ((iI (σ 17)) <<< ((iI 18) &&& 31)))) = encMK (stK σ nm T (c2 - 1).toNat) := by
                  have e8 : (((c2 - 1).toNat : Nat) : Int) = c2 - 1 := by omega
                  unfold encMK stK stCh
                  simp only [e8]
                  rw [if_neg (show ¬ (σ 2 - (T.length : Int) ≤ c2 - 1 + 1 ∧ c2 - 1 + 1 < σ 2) by omega), if_neg (show ¬ (2 ≤ c2 - 1 + 1 ∧ c2 - 1 + 1 - 2 < σ 19 ∧ c2 - 1 + 1 ≤ σ 2 - (T.length : Int) - 2) by omega)]
                  exact encM_st _ _ _
                exact ih264 (c2 + 1) (upd g (c2 - 1).toNat ((iI 32) ||| (((iI 2176) ||| ((iI (σ 16)) <<< ((iI 14) &&& 31))) ||| ((iI (σ 17)) <<< ((iI 18) &&& 31))))) _ _ _ (by omega) (by rw [eV, show c2 + 1 - 1 = c2 - 1 + 1 by omega, ← gln_step (by omega)]; exact rg_set hg (by omega) _ (by omega) (by omega) (by omega)) (by omega) hP hD hS (lv_sub hl [0, 2, 3, 4, 5, 6, 7, 8] rfl)
              · skip
                refine lv_iload hx hb dX5_status_328 (lv_at hl 1 rfl) ?_
                refine lv_iload hx hb dX5_status_330 (lv_at hl 2 rfl) ?_
                refine lv_iconst (v := iI 2) hx hb dX5_status_332 rfl ?_
                refine z_isub hx hb dX5_status_333 ?_
                refine z_icmp_gt hx hb 348 (by omega) dX5_status_334 (by decide) (fun c334 => ?_) (fun c334 => ?_)
                · skip
                  refine lv_aload_n hx hb dX5_status_348 rfl (lv_at hl 5 rfl) ?_
                  refine va_get (D := D) (ci := 6) (v := .ref (a 1)) (C := RX5) (T := TX5) (N := 28) hx hb hts inX5 hown hK hP 0 rfl rfl 0 (by decide) kfieldLink_RX5_7_ZScreensModel_cells_I (fun _ h9 => h9) rfl dX5_status_349 ?_
                  refine lv_iload hx hb dX5_status_352 (lv_at hl 1 rfl) ?_
                  refine lv_iconst (v := iI 1) hx hb dX5_status_354 rfl ?_
                  refine z_isub hx hb dX5_status_355 ?_
                  refine lv_iload hx hb dX5_status_356 (lv_at hl 0 rfl) ?_
                  refine lv_iload hx hb dX5_status_358 (lv_at hl 3 rfl) ?_
                  refine lv_ior hx hb dX5_status_360 ?_
                  refine z_iast hx hb hK hP hD hS 1 0 rfl rfl (by omega) dX5_status_361 (fun H locs hP hD hS => ?_)
                  have hP : va_P D vwCl [(a 0, .inr (6, [.ref (a 1), .ref (a 2), .int (iI (σ 0)), .int (iI (σ 2)), .int (iI (σ 1)), .int (iI (σ 3)), .int (iI (σ 4)), .int (iI (σ 10)), .int (iI (σ 11)), .int (iI (σ 12)), .int (iI (σ 13)), .int (iI (σ 7)), .int (iI (σ 8)), .int (iI (σ 9)), .int (iI (σ 5)), .ref (a 3), .int (iI (σ 18)), .int (iI (σ 14)), .int (iI (σ 15)), .int (iI (σ 16)), .int (iI (σ 17)), .ref (a 4), .int (iI (σ 19)), .int (iI (σ 6)), .ref (a 5), .int (iI (σ 20)), .ref (a 6), .int (iI ((T.length : Int)))])), (a 1, .inl (cA, 3200, .inl (upd g (c2 - 1).toNat ((iI 32) ||| (((iI 2176) ||| ((iI (σ 16)) <<< ((iI 14) &&& 31))) ||| ((iI (σ 17)) <<< ((iI 18) &&& 31))))))), (a 2, .inl (cA, 3200, .inl fo)), (a 3, .inl (cA, 80, .inl fw)), (a 4, .inl (cA, 60, .inl ft)), (a 5, .inl (cA, 500, .inl fs)), (a 6, .inl (cA, 20, .inl fdT))] H := hP
                  have hD : va_D A [(a 0, .inr (6, [.ref (a 1), .ref (a 2), .int (iI (σ 0)), .int (iI (σ 2)), .int (iI (σ 1)), .int (iI (σ 3)), .int (iI (σ 4)), .int (iI (σ 10)), .int (iI (σ 11)), .int (iI (σ 12)), .int (iI (σ 13)), .int (iI (σ 7)), .int (iI (σ 8)), .int (iI (σ 9)), .int (iI (σ 5)), .ref (a 3), .int (iI (σ 18)), .int (iI (σ 14)), .int (iI (σ 15)), .int (iI (σ 16)), .int (iI (σ 17)), .ref (a 4), .int (iI (σ 19)), .int (iI (σ 6)), .ref (a 5), .int (iI (σ 20)), .ref (a 6), .int (iI ((T.length : Int)))])), (a 1, .inl (cA, 3200, .inl (upd g (c2 - 1).toNat ((iI 32) ||| (((iI 2176) ||| ((iI (σ 16)) <<< ((iI 14) &&& 31))) ||| ((iI (σ 17)) <<< ((iI 18) &&& 31))))))), (a 2, .inl (cA, 3200, .inl fo)), (a 3, .inl (cA, 80, .inl fw)), (a 4, .inl (cA, 60, .inl ft)), (a 5, .inl (cA, 500, .inl fs)), (a 6, .inl (cA, 20, .inl fdT))] := hD
                  refine lv_iinc (v := iI (c2 + 1)) (lv' := [(7, .int (iI (c2 + 1))), (8, .int (iI 32)), (6, .int (iI ((σ 2) - ((T.length : Int))))), (5, .int (((iI 2176) ||| ((iI (σ 16)) <<< ((iI 14) &&& 31))) ||| ((iI (σ 17)) <<< ((iI 18) &&& 31)))), (4, .int (iI 0)), (0, .ref (a 0)), (1, .int (iI 1)), (2, .int (iI x)), (3, .int (iI y))]) hx hb dX5_status_362 hl (k := 1) rfl (iI_add _ _) (by decide) rfl (fun ls hl => ?_)
                  refine lv_goto (tgt := 264) hx hb dX5_status_365 (by decide) ?_
                  have eV : ((iI 32) ||| (((iI 2176) ||| ((iI (σ 16)) <<< ((iI 14) &&& 31))) ||| ((iI (σ 17)) <<< ((iI 18) &&& 31)))) = encMK (stK σ nm T (c2 - 1).toNat) := by
                    have e8 : (((c2 - 1).toNat : Nat) : Int) = c2 - 1 := by omega
                    unfold encMK stK stCh
                    simp only [e8]
                    rw [if_neg (show ¬ (σ 2 - (T.length : Int) ≤ c2 - 1 + 1 ∧ c2 - 1 + 1 < σ 2) by omega), if_neg (show ¬ (2 ≤ c2 - 1 + 1 ∧ c2 - 1 + 1 - 2 < σ 19 ∧ c2 - 1 + 1 ≤ σ 2 - (T.length : Int) - 2) by omega)]
                    exact encM_st _ _ _
                  exact ih264 (c2 + 1) (upd g (c2 - 1).toNat ((iI 32) ||| (((iI 2176) ||| ((iI (σ 16)) <<< ((iI 14) &&& 31))) ||| ((iI (σ 17)) <<< ((iI 18) &&& 31))))) _ _ _ (by omega) (by rw [eV, show c2 + 1 - 1 = c2 - 1 + 1 by omega, ← gln_step (by omega)]; exact rg_set hg (by omega) _ (by omega) (by omega) (by omega)) (by omega) hP hD hS (lv_sub hl [0, 2, 3, 4, 5, 6, 7, 8] rfl)
                · skip
                  refine lv_aload_n hx hb dX5_status_337 rfl (lv_at hl 5 rfl) ?_
                  refine va_get (D := D) (ci := 6) (v := .ref (a 4)) (C := RX5) (T := TX5) (N := 28) hx hb hts inX5 hown hK hP 0 rfl rfl 21 (by decide) kfieldLink_RX5_42_ZScreensModel_name_I (fun _ h9 => h9) rfl dX5_status_338 ?_
                  refine lv_iload hx hb dX5_status_341 (lv_at hl 1 rfl) ?_
                  refine lv_iconst (v := iI 2) hx hb dX5_status_343 rfl ?_
                  refine z_isub hx hb dX5_status_344 ?_
                  refine z_iald hx hb hK hP 4 0 rfl rfl (by omega) dX5_status_345 ?_
                  refine lv_istore (lv' := [(8, .int (ft (c2 - 2).toNat)), (7, .int (iI c2)), (6, .int (iI ((σ 2) - ((T.length : Int))))), (5, .int (((iI 2176) ||| ((iI (σ 16)) <<< ((iI 14) &&& 31))) ||| ((iI (σ 17)) <<< ((iI 18) &&& 31)))), (4, .int (iI 0)), (0, .ref (a 0)), (1, .int (iI 1)), (2, .int (iI x)), (3, .int (iI y))]) hx hb dX5_status_346 hl (by decide) rfl (fun ls hl => ?_)
                  refine lv_aload_n hx hb dX5_status_348 rfl (lv_at hl 5 rfl) ?_
                  refine va_get (D := D) (ci := 6) (v := .ref (a 1)) (C := RX5) (T := TX5) (N := 28) hx hb hts inX5 hown hK hP 0 rfl rfl 0 (by decide) kfieldLink_RX5_7_ZScreensModel_cells_I (fun _ h9 => h9) rfl dX5_status_349 ?_
                  refine lv_iload hx hb dX5_status_352 (lv_at hl 1 rfl) ?_
                  refine lv_iconst (v := iI 1) hx hb dX5_status_354 rfl ?_
                  refine z_isub hx hb dX5_status_355 ?_
                  refine lv_iload hx hb dX5_status_356 (lv_at hl 0 rfl) ?_
                  refine lv_iload hx hb dX5_status_358 (lv_at hl 3 rfl) ?_
                  refine lv_ior hx hb dX5_status_360 ?_
                  refine z_iast hx hb hK hP hD hS 1 0 rfl rfl (by omega) dX5_status_361 (fun H locs hP hD hS => ?_)
                  have hP : va_P D vwCl [(a 0, .inr (6, [.ref (a 1), .ref (a 2), .int (iI (σ 0)), .int (iI (σ 2)), .int (iI (σ 1)), .int (iI (σ 3)), .int (iI (σ 4)), .int (iI (σ 10)), .int (iI (σ 11)), .int (iI (σ 12)), .int (iI (σ 13)), .int (iI (σ 7)), .int (iI (σ 8)), .int (iI (σ 9)), .int (iI (σ 5)), .ref (a 3), .int (iI (σ 18)), .int (iI (σ 14)), .int (iI (σ 15)), .int (iI (σ 16)), .int (iI (σ 17)), .ref (a 4), .int (iI (σ 19)), .int (iI (σ 6)), .ref (a 5), .int (iI (σ 20)), .ref (a 6), .int (iI ((T.length : Int)))])), (a 1, .inl (cA, 3200, .inl (upd g (c2 - 1).toNat ((ft (c2 - 2).toNat) ||| (((iI 2176) ||| ((iI (σ 16)) <<< ((iI 14) &&& 31))) ||| ((iI (σ 17)) <<< ((iI 18) &&& 31))))))), (a 2, .inl (cA, 3200, .inl fo)), (a 3, .inl (cA, 80, .inl fw)), (a 4, .inl (cA, 60, .inl ft)), (a 5, .inl (cA, 500, .inl fs)), (a 6, .inl (cA, 20, .inl fdT))] H := hP
                  have hD : va_D A [(a 0, .inr (6, [.ref (a 1), .ref (a 2), .int (iI (σ 0)), .int (iI (σ 2)), .int (iI (σ 1)), .int (iI (σ 3)), .int (iI (σ 4)), .int (iI (σ 10)), .int (iI (σ 11)), .int (iI (σ 12)), .int (iI (σ 13)), .int (iI (σ 7)), .int (iI (σ 8)), .int (iI (σ 9)), .int (iI (σ 5)), .ref (a 3), .int (iI (σ 18)), .int (iI (σ 14)), .int (iI (σ 15)), .int (iI (σ 16)), .int (iI (σ 17)), .ref (a 4), .int (iI (σ 19)), .int (iI (σ 6)), .ref (a 5), .int (iI (σ 20)), .ref (a 6), .int (iI ((T.length : Int)))])), (a 1, .inl (cA, 3200, .inl (upd g (c2 - 1).toNat ((ft (c2 - 2).toNat) ||| (((iI 2176) ||| ((iI (σ 16)) <<< ((iI 14) &&& 31))) ||| ((iI (σ 17)) <<< ((iI 18) &&& 31))))))), (a 2, .inl (cA, 3200, .inl fo)), (a 3, .inl (cA, 80, .inl fw)), (a 4, .inl (cA, 60, .inl ft)), (a 5, .inl (cA, 500, .inl fs)), (a 6, .inl (cA, 20, .inl fdT))] := hD
                  refine lv_iinc (v := iI (c2 + 1)) (lv' := [(7, .int (iI (c2 + 1))), (8, .int (ft (c2 - 2).toNat)), (6, .int (iI ((σ 2) - ((T.length : Int))))), (5, .int (((iI 2176) ||| ((iI (σ 16)) <<< ((iI 14) &&& 31))) ||| ((iI (σ 17)) <<< ((iI 18) &&& 31)))), (4, .int (iI 0)), (0, .ref (a 0)), (1, .int (iI 1)), (2, .int (iI x)), (3, .int (iI y))]) hx hb dX5_status_362 hl (k := 1) rfl (iI_add _ _) (by decide) rfl (fun ls hl => ?_)
                  refine lv_goto (tgt := 264) hx hb dX5_status_365 (by decide) ?_
                  have eV : ((ft (c2 - 2).toNat) ||| (((iI 2176) ||| ((iI (σ 16)) <<< ((iI 14) &&& 31))) ||| ((iI (σ 17)) <<< ((iI 18) &&& 31)))) = encMK (stK σ nm T (c2 - 1).toNat) := by
                    rw [hM _ (by omega)]
                    have e8 : (((c2 - 1).toNat : Nat) : Int) = c2 - 1 := by omega
                    unfold encMK stK stCh
                    simp only [e8]
                    rw [if_neg (show ¬ (σ 2 - (T.length : Int) ≤ c2 - 1 + 1 ∧ c2 - 1 + 1 < σ 2) by omega), if_pos (show 2 ≤ c2 - 1 + 1 ∧ c2 - 1 + 1 - 2 < σ 19 ∧ c2 - 1 + 1 ≤ σ 2 - (T.length : Int) - 2 by omega)]
                    rw [show (c2 - 1 + 1 - 2).toNat = (c2 - 2).toNat by omega]; exact encM_st _ _ _
                  exact ih264 (c2 + 1) (upd g (c2 - 1).toNat ((ft (c2 - 2).toNat) ||| (((iI 2176) ||| ((iI (σ 16)) <<< ((iI 14) &&& 31))) ||| ((iI (σ 17)) <<< ((iI 18) &&& 31))))) _ _ _ (by omega) (by rw [eV, show c2 + 1 - 1 = c2 - 1 + 1 by omega, ← gln_step (by omega)]; exact rg_set hg (by omega) _ (by omega) (by omega) (by omega)) (by omega) hP hD hS (lv_sub hl [0, 2, 3, 4, 5, 6, 7, 8] rfl)
          · skip
            refine lv_aload_n hx hb dX5_status_296 rfl (lv_at hl 5 rfl) ?_
            refine va_get (D := D) (ci := 6) (v := .ref (a 6)) (C := RX5) (T := TX5) (N := 28) hx hb hts inX5 hown hK hP 0 rfl rfl 26 (by decide) kfieldLink_RX5_48_ZScreensModel_digit_I (fun _ h9 => h9) rfl dX5_status_297 ?_
            refine lv_iload hx hb dX5_status_300 (lv_at hl 1 rfl) ?_
            refine lv_iload hx hb dX5_status_302 (lv_at hl 2 rfl) ?_
            refine z_isub hx hb dX5_status_304 ?_
            refine z_iald hx hb hK hP 6 0 rfl rfl (by omega) dX5_status_305 ?_
            refine lv_istore (lv' := [(8, .int (fdT (c2 - ((σ 2) - ((T.length : Int)))).toNat)), (7, .int (iI c2)), (6, .int (iI ((σ 2) - ((T.length : Int))))), (5, .int (((iI 2176) ||| ((iI (σ 16)) <<< ((iI 14) &&& 31))) ||| ((iI (σ 17)) <<< ((iI 18) &&& 31)))), (4, .int (iI 0)), (0, .ref (a 0)), (1, .int (iI 1)), (2, .int (iI x)), (3, .int (iI y))]) hx hb dX5_status_306 hl (by decide) rfl (fun ls hl => ?_)
            refine lv_goto (tgt := 348) hx hb dX5_status_308 (by decide) ?_
            refine lv_aload_n hx hb dX5_status_348 rfl (lv_at hl 5 rfl) ?_
            refine va_get (D := D) (ci := 6) (v := .ref (a 1)) (C := RX5) (T := TX5) (N := 28) hx hb hts inX5 hown hK hP 0 rfl rfl 0 (by decide) kfieldLink_RX5_7_ZScreensModel_cells_I (fun _ h9 => h9) rfl dX5_status_349 ?_
            refine lv_iload hx hb dX5_status_352 (lv_at hl 1 rfl) ?_
            refine lv_iconst (v := iI 1) hx hb dX5_status_354 rfl ?_
            refine z_isub hx hb dX5_status_355 ?_
            refine lv_iload hx hb dX5_status_356 (lv_at hl 0 rfl) ?_
            refine lv_iload hx hb dX5_status_358 (lv_at hl 3 rfl) ?_
            refine lv_ior hx hb dX5_status_360 ?_
            refine z_iast hx hb hK hP hD hS 1 0 rfl rfl (by omega) dX5_status_361 (fun H locs hP hD hS => ?_)
            have hP : va_P D vwCl [(a 0, .inr (6, [.ref (a 1), .ref (a 2), .int (iI (σ 0)), .int (iI (σ 2)), .int (iI (σ 1)), .int (iI (σ 3)), .int (iI (σ 4)), .int (iI (σ 10)), .int (iI (σ 11)), .int (iI (σ 12)), .int (iI (σ 13)), .int (iI (σ 7)), .int (iI (σ 8)), .int (iI (σ 9)), .int (iI (σ 5)), .ref (a 3), .int (iI (σ 18)), .int (iI (σ 14)), .int (iI (σ 15)), .int (iI (σ 16)), .int (iI (σ 17)), .ref (a 4), .int (iI (σ 19)), .int (iI (σ 6)), .ref (a 5), .int (iI (σ 20)), .ref (a 6), .int (iI ((T.length : Int)))])), (a 1, .inl (cA, 3200, .inl (upd g (c2 - 1).toNat ((fdT (c2 - ((σ 2) - ((T.length : Int)))).toNat) ||| (((iI 2176) ||| ((iI (σ 16)) <<< ((iI 14) &&& 31))) ||| ((iI (σ 17)) <<< ((iI 18) &&& 31))))))), (a 2, .inl (cA, 3200, .inl fo)), (a 3, .inl (cA, 80, .inl fw)), (a 4, .inl (cA, 60, .inl ft)), (a 5, .inl (cA, 500, .inl fs)), (a 6, .inl (cA, 20, .inl fdT))] H := hP
            have hD : va_D A [(a 0, .inr (6, [.ref (a 1), .ref (a 2), .int (iI (σ 0)), .int (iI (σ 2)), .int (iI (σ 1)), .int (iI (σ 3)), .int (iI (σ 4)), .int (iI (σ 10)), .int (iI (σ 11)), .int (iI (σ 12)), .int (iI (σ 13)), .int (iI (σ 7)), .int (iI (σ 8)), .int (iI (σ 9)), .int (iI (σ 5)), .ref (a 3), .int (iI (σ 18)), .int (iI (σ 14)), .int (iI (σ 15)), .int (iI (σ 16)), .int (iI (σ 17)), .ref (a 4), .int (iI (σ 19)), .int (iI (σ 6)), .ref (a 5), .int (iI (σ 20)), .ref (a 6), .int (iI ((T.length : Int)))])), (a 1, .inl (cA, 3200, .inl (upd g (c2 - 1).toNat ((fdT (c2 - ((σ 2) - ((T.length : Int)))).toNat) ||| (((iI 2176) ||| ((iI (σ 16)) <<< ((iI 14) &&& 31))) ||| ((iI (σ 17)) <<< ((iI 18) &&& 31))))))), (a 2, .inl (cA, 3200, .inl fo)), (a 3, .inl (cA, 80, .inl fw)), (a 4, .inl (cA, 60, .inl ft)), (a 5, .inl (cA, 500, .inl fs)), (a 6, .inl (cA, 20, .inl fdT))] := hD
            refine lv_iinc (v := iI (c2 + 1)) (lv' := [(7, .int (iI (c2 + 1))), (8, .int (fdT (c2 - ((σ 2) - ((T.length : Int)))).toNat)), (6, .int (iI ((σ 2) - ((T.length : Int))))), (5, .int (((iI 2176) ||| ((iI (σ 16)) <<< ((iI 14) &&& 31))) ||| ((iI (σ 17)) <<< ((iI 18) &&& 31)))), (4, .int (iI 0)), (0, .ref (a 0)), (1, .int (iI 1)), (2, .int (iI x)), (3, .int (iI y))]) hx hb dX5_status_362 hl (k := 1) rfl (iI_add _ _) (by decide) rfl (fun ls hl => ?_)
            refine lv_goto (tgt := 264) hx hb dX5_status_365 (by decide) ?_
            have eV : ((fdT (c2 - ((σ 2) - ((T.length : Int)))).toNat) ||| (((iI 2176) ||| ((iI (σ 16)) <<< ((iI 14) &&& 31))) ||| ((iI (σ 17)) <<< ((iI 18) &&& 31)))) = encMK (stK σ nm T (c2 - 1).toNat) := by
              rw [hX _ (by omega)]
              have e8 : (((c2 - 1).toNat : Nat) : Int) = c2 - 1 := by omega
              unfold encMK stK stCh
              simp only [e8]
              rw [if_pos (show σ 2 - (T.length : Int) ≤ c2 - 1 + 1 ∧ c2 - 1 + 1 < σ 2 by omega)]
              rw [show (c2 - 1 + 1 - (σ 2 - (T.length : Int))).toNat = (c2 - (σ 2 - (T.length : Int))).toNat by omega]; exact encM_st _ _ _
            exact ih264 (c2 + 1) (upd g (c2 - 1).toNat ((fdT (c2 - ((σ 2) - ((T.length : Int)))).toNat) ||| (((iI 2176) ||| ((iI (σ 16)) <<< ((iI 14) &&& 31))) ||| ((iI (σ 17)) <<< ((iI 18) &&& 31))))) _ _ _ (by omega) (by rw [eV, show c2 + 1 - 1 = c2 - 1 + 1 by omega, ← gln_step (by omega)]; exact rg_set hg (by omega) _ (by omega) (by omega) (by omega)) (by omega) hP hD hS (lv_sub hl [0, 2, 3, 4, 5, 6, 7, 8] rfl)
  exact L264 ((σ 2).toNat + 1) (1) (f) _ _ _ (by omega) (by rw [gln_nil (by omega)]; exact hG) (by omega) hP hD hS (lv_sub hl [0, 1, 2, 3, 4, 5, 6, 7] rfl)

abbrev rmX5_status_o : Room := { frames := 1, cells := 0, slots := 0, locals := 22 }
set_option maxHeartbeats 4000000 in
set_option maxRecDepth 100000 in
theorem c_X5_status_o (l : Launch) (D : va_G) (sz : Nat) (cA : ClassId) (a : Nat → Nat) (σ : Nat → Int) (dg : Int) (f fo fw ft fs fd : Nat → Int32) (hI : zInv σ) (k : Int) (hk : (-2147483648 ≤ k ∧ k ≤ 2147483647)) (x : Int) (hx : (-2147483648 ≤ x ∧ x ≤ 2147483647)) (y : Int) (hy : (-2147483648 ≤ y ∧ y ≤ 2147483647)) (h : ¬ ((k = 0 ∧ (-9999 ≤ x ∧ x ≤ 9999) ∧ -9999 ≤ y ∧ y ≤ 9999) ∨ (k = 1 ∧ (0 ≤ x ∧ x ≤ 23) ∧ 0 ≤ y ∧ y ≤ 59))) : zMi l yX5_status wsX5_status rmX5_status_o D [(cA, .int)] [.ref (a 0), .int (iI k), .int (iI x), .int (iI y)] (mW cA a σ dg f fo fw ft fs fd) sz (S := Unit) (fun r _ => r = iI (-1)) (fun _ => mW cA a σ dg f fo fw ft fs fd) 0 0 := by
  obtain ⟨i0, i1, i2, i3, i4, i5, i6, i8, i10, i11, i12, i13, i14, i15, i16, i17, i18, i19, i20, it, j4, j12, j5⟩ := id hI
  have ht9 := ztop_c σ
  refine z_starti (cc := cX5_status) (maxL := 9) (ty := .int) (own := RX5) (nm := "status") (by decide) rfl rfl rfl (Nat.le_of_ble_eq_true rfl) ?_
  intro p e R s m args below meth c A Q ls H locs hBd hP hD hS hl K
  obtain ⟨hx, hb, hml, hown, hts, ⟨hRf, hRl, hRc, hRs⟩, hmn, hK, hN, hA⟩ := hBd
  have hl : lv_has ls 9 [(0, .ref (a 0)), (1, .int (iI k)), (2, .int (iI x)), (3, .int (iI y))] := hl
  have hP : va_P D vwCl [(a 0, .inr (6, [.ref (a 1), .ref (a 2), .int (iI (σ 0)), .int (iI (σ 2)), .int (iI (σ 1)), .int (iI (σ 3)), .int (iI (σ 4)), .int (iI (σ 10)), .int (iI (σ 11)), .int (iI (σ 12)), .int (iI (σ 13)), .int (iI (σ 7)), .int (iI (σ 8)), .int (iI (σ 9)), .int (iI (σ 5)), .ref (a 3), .int (iI (σ 18)), .int (iI (σ 14)), .int (iI (σ 15)), .int (iI (σ 16)), .int (iI (σ 17)), .ref (a 4), .int (iI (σ 19)), .int (iI (σ 6)), .ref (a 5), .int (iI (σ 20)), .ref (a 6), .int (iI dg)])), (a 1, .inl (cA, 3200, .inl f)), (a 2, .inl (cA, 3200, .inl fo)), (a 3, .inl (cA, 80, .inl fw)), (a 4, .inl (cA, 60, .inl ft)), (a 5, .inl (cA, 500, .inl fs)), (a 6, .inl (cA, 20, .inl fd))] H := hP
  have hD : va_D A [(a 0, .inr (6, [.ref (a 1), .ref (a 2), .int (iI (σ 0)), .int (iI (σ 2)), .int (iI (σ 1)), .int (iI (σ 3)), .int (iI (σ 4)), .int (iI (σ 10)), .int (iI (σ 11)), .int (iI (σ 12)), .int (iI (σ 13)), .int (iI (σ 7)), .int (iI (σ 8)), .int (iI (σ 9)), .int (iI (σ 5)), .ref (a 3), .int (iI (σ 18)), .int (iI (σ 14)), .int (iI (σ 15)), .int (iI (σ 16)), .int (iI (σ 17)), .ref (a 4), .int (iI (σ 19)), .int (iI (σ 6)), .ref (a 5), .int (iI (σ 20)), .ref (a 6), .int (iI dg)])), (a 1, .inl (cA, 3200, .inl f)), (a 2, .inl (cA, 3200, .inl fo)), (a 3, .inl (cA, 80, .inl fw)), (a 4, .inl (cA, 60, .inl ft)), (a 5, .inl (cA, 500, .inl fs)), (a 6, .inl (cA, 20, .inl fd))] := hD
  refine lv_iload_n hx hb dX5_status_0 rfl (lv_at hl 1 rfl) ?_
  refine z_if_ne hx hb 38 (by omega) dX5_status_1 (by decide) (fun c1 => ?_) (fun c1 => ?_)
  · skip
    refine lv_iload_n hx hb dX5_status_38 rfl (lv_at hl 1 rfl) ?_
    refine lv_iconst (v := iI 1) hx hb dX5_status_39 rfl ?_
    refine z_icmp_ne hx hb 63 (by omega) dX5_status_40 (by decide) (fun c40 => ?_) (fun c40 => ?_)
    · skip
      refine lv_iconst (v := iI 1) hx hb dX5_status_63 rfl ?_
      refine lv_goto (tgt := 68) hx hb dX5_status_64 (by decide) ?_
      refine lv_istore (lv' := [(4, .int (iI 1)), (0, .ref (a 0)), (1, .int (iI k)), (2, .int (iI x)), (3, .int (iI y))]) hx hb dX5_status_68 hl (by decide) rfl (fun ls hl => ?_)
      refine lv_iload hx hb dX5_status_70 (lv_at hl 0 rfl) ?_
      refine z_if_eq hx hb 77 (by omega) dX5_status_72 (by decide) (fun c72 => absurd c72 (by omega)) (fun c72 => ?_)
      refine lv_iconst (v := iI (-1)) hx hb dX5_status_75 rfl ?_
      exact K H locs _ () _ ls 0 0 (by omega) (by omega) rfl rfl hP hD hS dX5_status_76
    · skip
      refine lv_iload_n hx hb dX5_status_43 rfl (lv_at hl 2 rfl) ?_
      refine lv_iconst (v := iI 0) hx hb dX5_status_44 rfl ?_
      refine lv_bipush (v := iI 23) hx hb dX5_status_45 (by decide) ?_
      refine z_calli (w2 := fun _ => [(a 0, .inr (6, [.ref (a 1), .ref (a 2), .int (iI (σ 0)), .int (iI (σ 2)), .int (iI (σ 1)), .int (iI (σ 3)), .int (iI (σ 4)), .int (iI (σ 10)), .int (iI (σ 11)), .int (iI (σ 12)), .int (iI (σ 13)), .int (iI (σ 7)), .int (iI (σ 8)), .int (iI (σ 9)), .int (iI (σ 5)), .ref (a 3), .int (iI (σ 18)), .int (iI (σ 14)), .int (iI (σ 15)), .int (iI (σ 16)), .int (iI (σ 17)), .ref (a 4), .int (iI (σ 19)), .int (iI (σ 6)), .ref (a 5), .int (iI (σ 20)), .ref (a 6), .int (iI dg)])), (a 1, .inl (cA, 3200, .inl f)), (a 2, .inl (cA, 3200, .inl fo)), (a 3, .inl (cA, 80, .inl fw)), (a 4, .inl (cA, 60, .inl ft)), (a 5, .inl (cA, 500, .inl fs)), (a 6, .inl (cA, 20, .inl fd))]) (wc := []) (wr := [(a 0, .inr (6, [.ref (a 1), .ref (a 2), .int (iI (σ 0)), .int (iI (σ 2)), .int (iI (σ 1)), .int (iI (σ 3)), .int (iI (σ 4)), .int (iI (σ 10)), .int (iI (σ 11)), .int (iI (σ 12)), .int (iI (σ 13)), .int (iI (σ 7)), .int (iI (σ 8)), .int (iI (σ 9)), .int (iI (σ 5)), .ref (a 3), .int (iI (σ 18)), .int (iI (σ 14)), .int (iI (σ 15)), .int (iI (σ 16)), .int (iI (σ 17)), .ref (a 4), .int (iI (σ 19)), .int (iI (σ 6)), .ref (a 5), .int (iI (σ 20)), .ref (a 6), .int (iI dg)])), (a 1, .inl (cA, 3200, .inl f)), (a 2, .inl (cA, 3200, .inl fo)), (a 3, .inl (cA, 80, .inl fw)), (a 4, .inl (cA, 60, .inl ft)), (a 5, .inl (cA, 500, .inl fs)), (a 6, .inl (cA, 20, .inl fd))]) (va_runS (As := [.int (iI x), .int (iI 0), .int (iI 23)]) (rest := []) ⟨hx, hb, hml, hown, hts⟩ (c_X5_out l D H.size x 0 23 (by omega)) (va_cwS 3 hts gX5_status_X5_out rfl rfl rfl (by decide +kernel) ⟨by rw [hRf]; exact Nat.le_of_ble_eq_true rfl, by rw [hRl]; exact Nat.le_of_ble_eq_true rfl⟩) (z_preS hP hD hK hN [] (by decide) rfl rfl [] rfl) rfl rfl hl.1 rfl (lv_room (Nat.le_of_ble_eq_true rfl)) dX5_status_47 ⟨by rw [hRc]; exact Nat.le_of_ble_eq_true rfl, by rw [hRs]; exact Nat.le_of_ble_eq_true rfl⟩) hP hD hS hA [] [0, 1, 2, 3, 4, 5, 6] rfl rfl (by decide) (by decide) [0, 1, 2, 3, 4, 5, 6] (by decide) (fun _ => rfl) (fun r _ H locs hw hP hD hS => ?_)
      subst hw
      have hP : va_P D vwCl [(a 0, .inr (6, [.ref (a 1), .ref (a 2), .int (iI (σ 0)), .int (iI (σ 2)), .int (iI (σ 1)), .int (iI (σ 3)), .int (iI (σ 4)), .int (iI (σ 10)), .int (iI (σ 11)), .int (iI (σ 12)), .int (iI (σ 13)), .int (iI (σ 7)), .int (iI (σ 8)), .int (iI (σ 9)), .int (iI (σ 5)), .ref (a 3), .int (iI (σ 18)), .int (iI (σ 14)), .int (iI (σ 15)), .int (iI (σ 16)), .int (iI (σ 17)), .ref (a 4), .int (iI (σ 19)), .int (iI (σ 6)), .ref (a 5), .int (iI (σ 20)), .ref (a 6), .int (iI dg)])), (a 1, .inl (cA, 3200, .inl f)), (a 2, .inl (cA, 3200, .inl fo)), (a 3, .inl (cA, 80, .inl fw)), (a 4, .inl (cA, 60, .inl ft)), (a 5, .inl (cA, 500, .inl fs)), (a 6, .inl (cA, 20, .inl fd))] H := hP
      have hD : va_D A [(a 0, .inr (6, [.ref (a 1), .ref (a 2), .int (iI (σ 0)), .int (iI (σ 2)), .int (iI (σ 1)), .int (iI (σ 3)), .int (iI (σ 4)), .int (iI (σ 10)), .int (iI (σ 11)), .int (iI (σ 12)), .int (iI (σ 13)), .int (iI (σ 7)), .int (iI (σ 8)), .int (iI (σ 9)), .int (iI (σ 5)), .ref (a 3), .int (iI (σ 18)), .int (iI (σ 14)), .int (iI (σ 15)), .int (iI (σ 16)), .int (iI (σ 17)), .ref (a 4), .int (iI (σ 19)), .int (iI (σ 6)), .ref (a 5), .int (iI (σ 20)), .ref (a 6), .int (iI dg)])), (a 1, .inl (cA, 3200, .inl f)), (a 2, .inl (cA, 3200, .inl fo)), (a 3, .inl (cA, 80, .inl fw)), (a 4, .inl (cA, 60, .inl ft)), (a 5, .inl (cA, 500, .inl fs)), (a 6, .inl (cA, 20, .inl fd))] := hD
      refine z_if_ne hx hb 63 (by omega) dX5_status_50 (by decide) (fun c50 => ?_) (fun c50 => ?_)
      · skip
        refine lv_iconst (v := iI 1) hx hb dX5_status_63 rfl ?_
        refine lv_goto (tgt := 68) hx hb dX5_status_64 (by decide) ?_
        refine lv_istore (lv' := [(4, .int (iI 1)), (0, .ref (a 0)), (1, .int (iI k)), (2, .int (iI x)), (3, .int (iI y))]) hx hb dX5_status_68 hl (by decide) rfl (fun ls hl => ?_)
        refine lv_iload hx hb dX5_status_70 (lv_at hl 0 rfl) ?_
        refine z_if_eq hx hb 77 (by omega) dX5_status_72 (by decide) (fun c72 => absurd c72 (by omega)) (fun c72 => ?_)
        refine lv_iconst (v := iI (-1)) hx hb dX5_status_75 rfl ?_
        exact K H locs _ () _ ls 0 0 (by omega) (by omega) rfl rfl hP hD hS dX5_status_76
      · skip
        refine lv_iload_n hx hb dX5_status_53 rfl (lv_at hl 3 rfl) ?_
        refine lv_iconst (v := iI 0) hx hb dX5_status_54 rfl ?_
        refine lv_bipush (v := iI 59) hx hb dX5_status_55 (by decide) ?_
        refine z_calli (w2 := fun _ => [(a 0, .inr (6, [.ref (a 1), .ref (a 2), .int (iI (σ 0)), .int (iI (σ 2)), .int (iI (σ 1)), .int (iI (σ 3)), .int (iI (σ 4)), .int (iI (σ 10)), .int (iI (σ 11)), .int (iI (σ 12)), .int (iI (σ 13)), .int (iI (σ 7)), .int (iI (σ 8)), .int (iI (σ 9)), .int (iI (σ 5)), .ref (a 3), .int (iI (σ 18)), .int (iI (σ 14)), .int (iI (σ 15)), .int (iI (σ 16)), .int (iI (σ 17)), .ref (a 4), .int (iI (σ 19)), .int (iI (σ 6)), .ref (a 5), .int (iI (σ 20)), .ref (a 6), .int (iI dg)])), (a 1, .inl (cA, 3200, .inl f)), (a 2, .inl (cA, 3200, .inl fo)), (a 3, .inl (cA, 80, .inl fw)), (a 4, .inl (cA, 60, .inl ft)), (a 5, .inl (cA, 500, .inl fs)), (a 6, .inl (cA, 20, .inl fd))]) (wc := []) (wr := [(a 0, .inr (6, [.ref (a 1), .ref (a 2), .int (iI (σ 0)), .int (iI (σ 2)), .int (iI (σ 1)), .int (iI (σ 3)), .int (iI (σ 4)), .int (iI (σ 10)), .int (iI (σ 11)), .int (iI (σ 12)), .int (iI (σ 13)), .int (iI (σ 7)), .int (iI (σ 8)), .int (iI (σ 9)), .int (iI (σ 5)), .ref (a 3), .int (iI (σ 18)), .int (iI (σ 14)), .int (iI (σ 15)), .int (iI (σ 16)), .int (iI (σ 17)), .ref (a 4), .int (iI (σ 19)), .int (iI (σ 6)), .ref (a 5), .int (iI (σ 20)), .ref (a 6), .int (iI dg)])), (a 1, .inl (cA, 3200, .inl f)), (a 2, .inl (cA, 3200, .inl fo)), (a 3, .inl (cA, 80, .inl fw)), (a 4, .inl (cA, 60, .inl ft)), (a 5, .inl (cA, 500, .inl fs)), (a 6, .inl (cA, 20, .inl fd))]) (va_runS (As := [.int (iI y), .int (iI 0), .int (iI 59)]) (rest := []) ⟨hx, hb, hml, hown, hts⟩ (c_X5_out l D H.size y 0 59 (by omega)) (va_cwS 3 hts gX5_status_X5_out rfl rfl rfl (by decide +kernel) ⟨by rw [hRf]; exact Nat.le_of_ble_eq_true rfl, by rw [hRl]; exact Nat.le_of_ble_eq_true rfl⟩) (z_preS hP hD hK hN [] (by decide) rfl rfl [] rfl) rfl rfl hl.1 rfl (lv_room (Nat.le_of_ble_eq_true rfl)) dX5_status_57 ⟨by rw [hRc]; exact Nat.le_of_ble_eq_true rfl, by rw [hRs]; exact Nat.le_of_ble_eq_true rfl⟩) hP hD hS hA [] [0, 1, 2, 3, 4, 5, 6] rfl rfl (by decide) (by decide) [0, 1, 2, 3, 4, 5, 6] (by decide) (fun _ => rfl) (fun r _ H locs hw hP hD hS => ?_)
        subst hw
        have hP : va_P D vwCl [(a 0, .inr (6, [.ref (a 1), .ref (a 2), .int (iI (σ 0)), .int (iI (σ 2)), .int (iI (σ 1)), .int (iI (σ 3)), .int (iI (σ 4)), .int (iI (σ 10)), .int (iI (σ 11)), .int (iI (σ 12)), .int (iI (σ 13)), .int (iI (σ 7)), .int (iI (σ 8)), .int (iI (σ 9)), .int (iI (σ 5)), .ref (a 3), .int (iI (σ 18)), .int (iI (σ 14)), .int (iI (σ 15)), .int (iI (σ 16)), .int (iI (σ 17)), .ref (a 4), .int (iI (σ 19)), .int (iI (σ 6)), .ref (a 5), .int (iI (σ 20)), .ref (a 6), .int (iI dg)])), (a 1, .inl (cA, 3200, .inl f)), (a 2, .inl (cA, 3200, .inl fo)), (a 3, .inl (cA, 80, .inl fw)), (a 4, .inl (cA, 60, .inl ft)), (a 5, .inl (cA, 500, .inl fs)), (a 6, .inl (cA, 20, .inl fd))] H := hP
        have hD : va_D A [(a 0, .inr (6, [.ref (a 1), .ref (a 2), .int (iI (σ 0)), .int (iI (σ 2)), .int (iI (σ 1)), .int (iI (σ 3)), .int (iI (σ 4)), .int (iI (σ 10)), .int (iI (σ 11)), .int (iI (σ 12)), .int (iI (σ 13)), .int (iI (σ 7)), .int (iI (σ 8)), .int (iI (σ 9)), .int (iI (σ 5)), .ref (a 3), .int (iI (σ 18)), .int (iI (σ 14)), .int (iI (σ 15)), .int (iI (σ 16)), .int (iI (σ 17)), .ref (a 4), .int (iI (σ 19)), .int (iI (σ 6)), .ref (a 5), .int (iI (σ 20)), .ref (a 6), .int (iI dg)])), (a 1, .inl (cA, 3200, .inl f)), (a 2, .inl (cA, 3200, .inl fo)), (a 3, .inl (cA, 80, .inl fw)), (a 4, .inl (cA, 60, .inl ft)), (a 5, .inl (cA, 500, .inl fs)), (a 6, .inl (cA, 20, .inl fd))] := hD
        refine z_if_eq hx hb 67 (by omega) dX5_status_60 (by decide) (fun c60 => ?_) (fun c60 => ?_)
        · skip
          refine lv_iconst (v := iI 0) hx hb dX5_status_67 rfl ?_
          refine lv_istore (lv' := [(4, .int (iI 0)), (0, .ref (a 0)), (1, .int (iI k)), (2, .int (iI x)), (3, .int (iI y))]) hx hb dX5_status_68 hl (by decide) rfl (fun ls hl => ?_)
          exfalso; omega
        · skip
          refine lv_iconst (v := iI 1) hx hb dX5_status_63 rfl ?_
          refine lv_goto (tgt := 68) hx hb dX5_status_64 (by decide) ?_
          refine lv_istore (lv' := [(4, .int (iI 1)), (0, .ref (a 0)), (1, .int (iI k)), (2, .int (iI x)), (3, .int (iI y))]) hx hb dX5_status_68 hl (by decide) rfl (fun ls hl => ?_)
          refine lv_iload hx hb dX5_status_70 (lv_at hl 0 rfl) ?_
          refine z_if_eq hx hb 77 (by omega) dX5_status_72 (by decide) (fun c72 => absurd c72 (by omega)) (fun c72 => ?_)
          refine lv_iconst (v := iI (-1)) hx hb dX5_status_75 rfl ?_
          exact K H locs _ () _ ls 0 0 (by omega) (by omega) rfl rfl hP hD hS dX5_status_76
  · skip
    refine lv_iload_n hx hb dX5_status_4 rfl (lv_at hl 2 rfl) ?_
    refine lv_sipush (v := iI (-9999)) hx hb dX5_status_5 (by decide) ?_
    refine lv_sipush (v := iI 9999) hx hb dX5_status_8 (by decide) ?_
    refine z_calli (w2 := fun _ => [(a 0, .inr (6, [.ref (a 1), .ref (a 2), .int (iI (σ 0)), .int (iI (σ 2)), .int (iI (σ 1)), .int (iI (σ 3)), .int (iI (σ 4)), .int (iI (σ 10)), .int (iI (σ 11)), .int (iI (σ 12)), .int (iI (σ 13)), .int (iI (σ 7)), .int (iI (σ 8)), .int (iI (σ 9)), .int (iI (σ 5)), .ref (a 3), .int (iI (σ 18)), .int (iI (σ 14)), .int (iI (σ 15)), .int (iI (σ 16)), .int (iI (σ 17)), .ref (a 4), .int (iI (σ 19)), .int (iI (σ 6)), .ref (a 5), .int (iI (σ 20)), .ref (a 6), .int (iI dg)])), (a 1, .inl (cA, 3200, .inl f)), (a 2, .inl (cA, 3200, .inl fo)), (a 3, .inl (cA, 80, .inl fw)), (a 4, .inl (cA, 60, .inl ft)), (a 5, .inl (cA, 500, .inl fs)), (a 6, .inl (cA, 20, .inl fd))]) (wc := []) (wr := [(a 0, .inr (6, [.ref (a 1), .ref (a 2), .int (iI (σ 0)), .int (iI (σ 2)), .int (iI (σ 1)), .int (iI (σ 3)), .int (iI (σ 4)), .int (iI (σ 10)), .int (iI (σ 11)), .int (iI (σ 12)), .int (iI (σ 13)), .int (iI (σ 7)), .int (iI (σ 8)), .int (iI (σ 9)), .int (iI (σ 5)), .ref (a 3), .int (iI (σ 18)), .int (iI (σ 14)), .int (iI (σ 15)), .int (iI (σ 16)), .int (iI (σ 17)), .ref (a 4), .int (iI (σ 19)), .int (iI (σ 6)), .ref (a 5), .int (iI (σ 20)), .ref (a 6), .int (iI dg)])), (a 1, .inl (cA, 3200, .inl f)), (a 2, .inl (cA, 3200, .inl fo)), (a 3, .inl (cA, 80, .inl fw)), (a 4, .inl (cA, 60, .inl ft)), (a 5, .inl (cA, 500, .inl fs)), (a 6, .inl (cA, 20, .inl fd))]) (va_runS (As := [.int (iI x), .int (iI ((-9999))), .int (iI 9999)]) (rest := []) ⟨hx, hb, hml, hown, hts⟩ (c_X5_out l D H.size x ((-9999)) 9999 (by omega)) (va_cwS 3 hts gX5_status_X5_out rfl rfl rfl (by decide +kernel) ⟨by rw [hRf]; exact Nat.le_of_ble_eq_true rfl, by rw [hRl]; exact Nat.le_of_ble_eq_true rfl⟩) (z_preS hP hD hK hN [] (by decide) rfl rfl [] rfl) rfl rfl hl.1 rfl (lv_room (Nat.le_of_ble_eq_true rfl)) dX5_status_11 ⟨by rw [hRc]; exact Nat.le_of_ble_eq_true rfl, by rw [hRs]; exact Nat.le_of_ble_eq_true rfl⟩) hP hD hS hA [] [0, 1, 2, 3, 4, 5, 6] rfl rfl (by decide) (by decide) [0, 1, 2, 3, 4, 5, 6] (by decide) (fun _ => rfl) (fun r _ H locs hw hP hD hS => ?_)
    subst hw
    have hP : va_P D vwCl [(a 0, .inr (6, [.ref (a 1), .ref (a 2), .int (iI (σ 0)), .int (iI (σ 2)), .int (iI (σ 1)), .int (iI (σ 3)), .int (iI (σ 4)), .int (iI (σ 10)), .int (iI (σ 11)), .int (iI (σ 12)), .int (iI (σ 13)), .int (iI (σ 7)), .int (iI (σ 8)), .int (iI (σ 9)), .int (iI (σ 5)), .ref (a 3), .int (iI (σ 18)), .int (iI (σ 14)), .int (iI (σ 15)), .int (iI (σ 16)), .int (iI (σ 17)), .ref (a 4), .int (iI (σ 19)), .int (iI (σ 6)), .ref (a 5), .int (iI (σ 20)), .ref (a 6), .int (iI dg)])), (a 1, .inl (cA, 3200, .inl f)), (a 2, .inl (cA, 3200, .inl fo)), (a 3, .inl (cA, 80, .inl fw)), (a 4, .inl (cA, 60, .inl ft)), (a 5, .inl (cA, 500, .inl fs)), (a 6, .inl (cA, 20, .inl fd))] H := hP
    have hD : va_D A [(a 0, .inr (6, [.ref (a 1), .ref (a 2), .int (iI (σ 0)), .int (iI (σ 2)), .int (iI (σ 1)), .int (iI (σ 3)), .int (iI (σ 4)), .int (iI (σ 10)), .int (iI (σ 11)), .int (iI (σ 12)), .int (iI (σ 13)), .int (iI (σ 7)), .int (iI (σ 8)), .int (iI (σ 9)), .int (iI (σ 5)), .ref (a 3), .int (iI (σ 18)), .int (iI (σ 14)), .int (iI (σ 15)), .int (iI (σ 16)), .int (iI (σ 17)), .ref (a 4), .int (iI (σ 19)), .int (iI (σ 6)), .ref (a 5), .int (iI (σ 20)), .ref (a 6), .int (iI dg)])), (a 1, .inl (cA, 3200, .inl f)), (a 2, .inl (cA, 3200, .inl fo)), (a 3, .inl (cA, 80, .inl fw)), (a 4, .inl (cA, 60, .inl ft)), (a 5, .inl (cA, 500, .inl fs)), (a 6, .inl (cA, 20, .inl fd))] := hD
    refine z_if_ne hx hb 30 (by omega) dX5_status_14 (by decide) (fun c14 => ?_) (fun c14 => ?_)
    · skip
      refine lv_iconst (v := iI 1) hx hb dX5_status_30 rfl ?_
      refine lv_goto (tgt := 68) hx hb dX5_status_31 (by decide) ?_
      refine lv_istore (lv' := [(4, .int (iI 1)), (0, .ref (a 0)), (1, .int (iI k)), (2, .int (iI x)), (3, .int (iI y))]) hx hb dX5_status_68 hl (by decide) rfl (fun ls hl => ?_)
      refine lv_iload hx hb dX5_status_70 (lv_at hl 0 rfl) ?_
      refine z_if_eq hx hb 77 (by omega) dX5_status_72 (by decide) (fun c72 => absurd c72 (by omega)) (fun c72 => ?_)
      refine lv_iconst (v := iI (-1)) hx hb dX5_status_75 rfl ?_
      exact K H locs _ () _ ls 0 0 (by omega) (by omega) rfl rfl hP hD hS dX5_status_76
    · skip
      refine lv_iload_n hx hb dX5_status_17 rfl (lv_at hl 3 rfl) ?_
      refine lv_sipush (v := iI (-9999)) hx hb dX5_status_18 (by decide) ?_
      refine lv_sipush (v := iI 9999) hx hb dX5_status_21 (by decide) ?_
      refine z_calli (w2 := fun _ => [(a 0, .inr (6, [.ref (a 1), .ref (a 2), .int (iI (σ 0)), .int (iI (σ 2)), .int (iI (σ 1)), .int (iI (σ 3)), .int (iI (σ 4)), .int (iI (σ 10)), .int (iI (σ 11)), .int (iI (σ 12)), .int (iI (σ 13)), .int (iI (σ 7)), .int (iI (σ 8)), .int (iI (σ 9)), .int (iI (σ 5)), .ref (a 3), .int (iI (σ 18)), .int (iI (σ 14)), .int (iI (σ 15)), .int (iI (σ 16)), .int (iI (σ 17)), .ref (a 4), .int (iI (σ 19)), .int (iI (σ 6)), .ref (a 5), .int (iI (σ 20)), .ref (a 6), .int (iI dg)])), (a 1, .inl (cA, 3200, .inl f)), (a 2, .inl (cA, 3200, .inl fo)), (a 3, .inl (cA, 80, .inl fw)), (a 4, .inl (cA, 60, .inl ft)), (a 5, .inl (cA, 500, .inl fs)), (a 6, .inl (cA, 20, .inl fd))]) (wc := []) (wr := [(a 0, .inr (6, [.ref (a 1), .ref (a 2), .int (iI (σ 0)), .int (iI (σ 2)), .int (iI (σ 1)), .int (iI (σ 3)), .int (iI (σ 4)), .int (iI (σ 10)), .int (iI (σ 11)), .int (iI (σ 12)), .int (iI (σ 13)), .int (iI (σ 7)), .int (iI (σ 8)), .int (iI (σ 9)), .int (iI (σ 5)), .ref (a 3), .int (iI (σ 18)), .int (iI (σ 14)), .int (iI (σ 15)), .int (iI (σ 16)), .int (iI (σ 17)), .ref (a 4), .int (iI (σ 19)), .int (iI (σ 6)), .ref (a 5), .int (iI (σ 20)), .ref (a 6), .int (iI dg)])), (a 1, .inl (cA, 3200, .inl f)), (a 2, .inl (cA, 3200, .inl fo)), (a 3, .inl (cA, 80, .inl fw)), (a 4, .inl (cA, 60, .inl ft)), (a 5, .inl (cA, 500, .inl fs)), (a 6, .inl (cA, 20, .inl fd))]) (va_runS (As := [.int (iI y), .int (iI ((-9999))), .int (iI 9999)]) (rest := []) ⟨hx, hb, hml, hown, hts⟩ (c_X5_out l D H.size y ((-9999)) 9999 (by omega)) (va_cwS 3 hts gX5_status_X5_out rfl rfl rfl (by decide +kernel) ⟨by rw [hRf]; exact Nat.le_of_ble_eq_true rfl, by rw [hRl]; exact Nat.le_of_ble_eq_true rfl⟩) (z_preS hP hD hK hN [] (by decide) rfl rfl [] rfl) rfl rfl hl.1 rfl (lv_room (Nat.le_of_ble_eq_true rfl)) dX5_status_24 ⟨by rw [hRc]; exact Nat.le_of_ble_eq_true rfl, by rw [hRs]; exact Nat.le_of_ble_eq_true rfl⟩) hP hD hS hA [] [0, 1, 2, 3, 4, 5, 6] rfl rfl (by decide) (by decide) [0, 1, 2, 3, 4, 5, 6] (by decide) (fun _ => rfl) (fun r _ H locs hw hP hD hS => ?_)
      subst hw
      have hP : va_P D vwCl [(a 0, .inr (6, [.ref (a 1), .ref (a 2), .int (iI (σ 0)), .int (iI (σ 2)), .int (iI (σ 1)), .int (iI (σ 3)), .int (iI (σ 4)), .int (iI (σ 10)), .int (iI (σ 11)), .int (iI (σ 12)), .int (iI (σ 13)), .int (iI (σ 7)), .int (iI (σ 8)), .int (iI (σ 9)), .int (iI (σ 5)), .ref (a 3), .int (iI (σ 18)), .int (iI (σ 14)), .int (iI (σ 15)), .int (iI (σ 16)), .int (iI (σ 17)), .ref (a 4), .int (iI (σ 19)), .int (iI (σ 6)), .ref (a 5), .int (iI (σ 20)), .ref (a 6), .int (iI dg)])), (a 1, .inl (cA, 3200, .inl f)), (a 2, .inl (cA, 3200, .inl fo)), (a 3, .inl (cA, 80, .inl fw)), (a 4, .inl (cA, 60, .inl ft)), (a 5, .inl (cA, 500, .inl fs)), (a 6, .inl (cA, 20, .inl fd))] H := hP
      have hD : va_D A [(a 0, .inr (6, [.ref (a 1), .ref (a 2), .int (iI (σ 0)), .int (iI (σ 2)), .int (iI (σ 1)), .int (iI (σ 3)), .int (iI (σ 4)), .int (iI (σ 10)), .int (iI (σ 11)), .int (iI (σ 12)), .int (iI (σ 13)), .int (iI (σ 7)), .int (iI (σ 8)), .int (iI (σ 9)), .int (iI (σ 5)), .ref (a 3), .int (iI (σ 18)), .int (iI (σ 14)), .int (iI (σ 15)), .int (iI (σ 16)), .int (iI (σ 17)), .ref (a 4), .int (iI (σ 19)), .int (iI (σ 6)), .ref (a 5), .int (iI (σ 20)), .ref (a 6), .int (iI dg)])), (a 1, .inl (cA, 3200, .inl f)), (a 2, .inl (cA, 3200, .inl fo)), (a 3, .inl (cA, 80, .inl fw)), (a 4, .inl (cA, 60, .inl ft)), (a 5, .inl (cA, 500, .inl fs)), (a 6, .inl (cA, 20, .inl fd))] := hD
      refine z_if_eq hx hb 34 (by omega) dX5_status_27 (by decide) (fun c27 => ?_) (fun c27 => ?_)
      · skip
        refine lv_iconst (v := iI 0) hx hb dX5_status_34 rfl ?_
        refine lv_goto (tgt := 68) hx hb dX5_status_35 (by decide) ?_
        refine lv_istore (lv' := [(4, .int (iI 0)), (0, .ref (a 0)), (1, .int (iI k)), (2, .int (iI x)), (3, .int (iI y))]) hx hb dX5_status_68 hl (by decide) rfl (fun ls hl => ?_)
        exfalso; omega
      · skip
        refine lv_iconst (v := iI 1) hx hb dX5_status_30 rfl ?_
        refine lv_goto (tgt := 68) hx hb dX5_status_31 (by decide) ?_
        refine lv_istore (lv' := [(4, .int (iI 1)), (0, .ref (a 0)), (1, .int (iI k)), (2, .int (iI x)), (3, .int (iI y))]) hx hb dX5_status_68 hl (by decide) rfl (fun ls hl => ?_)
        refine lv_iload hx hb dX5_status_70 (lv_at hl 0 rfl) ?_
        refine z_if_eq hx hb 77 (by omega) dX5_status_72 (by decide) (fun c72 => absurd c72 (by omega)) (fun c72 => ?_)
        refine lv_iconst (v := iI (-1)) hx hb dX5_status_75 rfl ?_
        exact K H locs _ () _ ls 0 0 (by omega) (by omega) rfl rfl hP hD hS dX5_status_76

abbrev rmX5_status_s : Room := { frames := 1, cells := 0, slots := 0, locals := 22 }
set_option maxHeartbeats 4000000 in
set_option maxRecDepth 100000 in
theorem c_X5_status_s (l : Launch) (D : va_G) (sz : Nat) (cA : ClassId) (a : Nat → Nat) (σ : Nat → Int) (dg : Int) (f fo fw ft fs fd : Nat → Int32) (hI : zInv σ) (k : Int) (hk : (-2147483648 ≤ k ∧ k ≤ 2147483647)) (x : Int) (hx : (-2147483648 ≤ x ∧ x ≤ 2147483647)) (y : Int) (hy : (-2147483648 ≤ y ∧ y ≤ 2147483647)) (h : ((k = 0 ∧ (-9999 ≤ x ∧ x ≤ 9999) ∧ -9999 ≤ y ∧ y ≤ 9999) ∨ (k = 1 ∧ (0 ≤ x ∧ x ≤ 23) ∧ 0 ≤ y ∧ y ≤ 59)) ∧ (3 < σ 0 ∨ (k = 1 ∧ ¬ σ 0 = 3))) : zMi l yX5_status wsX5_status rmX5_status_s D [(cA, .int)] [.ref (a 0), .int (iI k), .int (iI x), .int (iI y)] (mW cA a σ dg f fo fw ft fs fd) sz (S := Unit) (fun r _ => r = iI (-2)) (fun _ => mW cA a σ dg f fo fw ft fs fd) 0 0 := by
  obtain ⟨i0, i1, i2, i3, i4, i5, i6, i8, i10, i11, i12, i13, i14, i15, i16, i17, i18, i19, i20, it, j4, j12, j5⟩ := id hI
  have ht9 := ztop_c σ
  refine z_starti (cc := cX5_status) (maxL := 9) (ty := .int) (own := RX5) (nm := "status") (by decide) rfl rfl rfl (Nat.le_of_ble_eq_true rfl) ?_
  intro p e R s m args below meth c A Q ls H locs hBd hP hD hS hl K
  obtain ⟨hx, hb, hml, hown, hts, ⟨hRf, hRl, hRc, hRs⟩, hmn, hK, hN, hA⟩ := hBd
  have hl : lv_has ls 9 [(0, .ref (a 0)), (1, .int (iI k)), (2, .int (iI x)), (3, .int (iI y))] := hl
  have inX5 : ∀ w ∈ wsX50, w ∈ wsX5_status := by decide +kernel
  have kfieldLink_RX5_55_ZScreensModel_version_I := hts (.fieldLink RX5 55 "ZScreensModel" "version" "I") (by decide +kernel)
  have hP : va_P D vwCl [(a 0, .inr (6, [.ref (a 1), .ref (a 2), .int (iI (σ 0)), .int (iI (σ 2)), .int (iI (σ 1)), .int (iI (σ 3)), .int (iI (σ 4)), .int (iI (σ 10)), .int (iI (σ 11)), .int (iI (σ 12)), .int (iI (σ 13)), .int (iI (σ 7)), .int (iI (σ 8)), .int (iI (σ 9)), .int (iI (σ 5)), .ref (a 3), .int (iI (σ 18)), .int (iI (σ 14)), .int (iI (σ 15)), .int (iI (σ 16)), .int (iI (σ 17)), .ref (a 4), .int (iI (σ 19)), .int (iI (σ 6)), .ref (a 5), .int (iI (σ 20)), .ref (a 6), .int (iI dg)])), (a 1, .inl (cA, 3200, .inl f)), (a 2, .inl (cA, 3200, .inl fo)), (a 3, .inl (cA, 80, .inl fw)), (a 4, .inl (cA, 60, .inl ft)), (a 5, .inl (cA, 500, .inl fs)), (a 6, .inl (cA, 20, .inl fd))] H := hP
  have hD : va_D A [(a 0, .inr (6, [.ref (a 1), .ref (a 2), .int (iI (σ 0)), .int (iI (σ 2)), .int (iI (σ 1)), .int (iI (σ 3)), .int (iI (σ 4)), .int (iI (σ 10)), .int (iI (σ 11)), .int (iI (σ 12)), .int (iI (σ 13)), .int (iI (σ 7)), .int (iI (σ 8)), .int (iI (σ 9)), .int (iI (σ 5)), .ref (a 3), .int (iI (σ 18)), .int (iI (σ 14)), .int (iI (σ 15)), .int (iI (σ 16)), .int (iI (σ 17)), .ref (a 4), .int (iI (σ 19)), .int (iI (σ 6)), .ref (a 5), .int (iI (σ 20)), .ref (a 6), .int (iI dg)])), (a 1, .inl (cA, 3200, .inl f)), (a 2, .inl (cA, 3200, .inl fo)), (a 3, .inl (cA, 80, .inl fw)), (a 4, .inl (cA, 60, .inl ft)), (a 5, .inl (cA, 500, .inl fs)), (a 6, .inl (cA, 20, .inl fd))] := hD
  refine lv_iload_n hx hb dX5_status_0 rfl (lv_at hl 1 rfl) ?_
  refine z_if_ne hx hb 38 (by omega) dX5_status_1 (by decide) (fun c1 => ?_) (fun c1 => ?_)
  · skip
    refine lv_iload_n hx hb dX5_status_38 rfl (lv_at hl 1 rfl) ?_
    refine lv_iconst (v := iI 1) hx hb dX5_status_39 rfl ?_
    refine z_icmp_ne hx hb 63 (by omega) dX5_status_40 (by decide) (fun c40 => ?_) (fun c40 => ?_)
    · skip
      refine lv_iconst (v := iI 1) hx hb dX5_status_63 rfl ?_
      refine lv_goto (tgt := 68) hx hb dX5_status_64 (by decide) ?_
      refine lv_istore (lv' := [(4, .int (iI 1)), (0, .ref (a 0)), (1, .int (iI k)), (2, .int (iI x)), (3, .int (iI y))]) hx hb dX5_status_68 hl (by decide) rfl (fun ls hl => ?_)
      exfalso; omega
    · skip
      refine lv_iload_n hx hb dX5_status_43 rfl (lv_at hl 2 rfl) ?_
      refine lv_iconst (v := iI 0) hx hb dX5_status_44 rfl ?_
      refine lv_bipush (v := iI 23) hx hb dX5_status_45 (by decide) ?_
      refine z_calli (w2 := fun _ => [(a 0, .inr (6, [.ref (a 1), .ref (a 2), .int (iI (σ 0)), .int (iI (σ 2)), .int (iI (σ 1)), .int (iI (σ 3)), .int (iI (σ 4)), .int (iI (σ 10)), .int (iI (σ 11)), .int (iI (σ 12)), .int (iI (σ 13)), .int (iI (σ 7)), .int (iI (σ 8)), .int (iI (σ 9)), .int (iI (σ 5)), .ref (a 3), .int (iI (σ 18)), .int (iI (σ 14)), .int (iI (σ 15)), .int (iI (σ 16)), .int (iI (σ 17)), .ref (a 4), .int (iI (σ 19)), .int (iI (σ 6)), .ref (a 5), .int (iI (σ 20)), .ref (a 6), .int (iI dg)])), (a 1, .inl (cA, 3200, .inl f)), (a 2, .inl (cA, 3200, .inl fo)), (a 3, .inl (cA, 80, .inl fw)), (a 4, .inl (cA, 60, .inl ft)), (a 5, .inl (cA, 500, .inl fs)), (a 6, .inl (cA, 20, .inl fd))]) (wc := []) (wr := [(a 0, .inr (6, [.ref (a 1), .ref (a 2), .int (iI (σ 0)), .int (iI (σ 2)), .int (iI (σ 1)), .int (iI (σ 3)), .int (iI (σ 4)), .int (iI (σ 10)), .int (iI (σ 11)), .int (iI (σ 12)), .int (iI (σ 13)), .int (iI (σ 7)), .int (iI (σ 8)), .int (iI (σ 9)), .int (iI (σ 5)), .ref (a 3), .int (iI (σ 18)), .int (iI (σ 14)), .int (iI (σ 15)), .int (iI (σ 16)), .int (iI (σ 17)), .ref (a 4), .int (iI (σ 19)), .int (iI (σ 6)), .ref (a 5), .int (iI (σ 20)), .ref (a 6), .int (iI dg)])), (a 1, .inl (cA, 3200, .inl f)), (a 2, .inl (cA, 3200, .inl fo)), (a 3, .inl (cA, 80, .inl fw)), (a 4, .inl (cA, 60, .inl ft)), (a 5, .inl (cA, 500, .inl fs)), (a 6, .inl (cA, 20, .inl fd))]) (va_runS (As := [.int (iI x), .int (iI 0), .int (iI 23)]) (rest := []) ⟨hx, hb, hml, hown, hts⟩ (c_X5_out l D H.size x 0 23 (by omega)) (va_cwS 3 hts gX5_status_X5_out rfl rfl rfl (by decide +kernel) ⟨by rw [hRf]; exact Nat.le_of_ble_eq_true rfl, by rw [hRl]; exact Nat.le_of_ble_eq_true rfl⟩) (z_preS hP hD hK hN [] (by decide) rfl rfl [] rfl) rfl rfl hl.1 rfl (lv_room (Nat.le_of_ble_eq_true rfl)) dX5_status_47 ⟨by rw [hRc]; exact Nat.le_of_ble_eq_true rfl, by rw [hRs]; exact Nat.le_of_ble_eq_true rfl⟩) hP hD hS hA [] [0, 1, 2, 3, 4, 5, 6] rfl rfl (by decide) (by decide) [0, 1, 2, 3, 4, 5, 6] (by decide) (fun _ => rfl) (fun r _ H locs hw hP hD hS => ?_)
      subst hw
      have hP : va_P D vwCl [(a 0, .inr (6, [.ref (a 1), .ref (a 2), .int (iI (σ 0)), .int (iI (σ 2)), .int (iI (σ 1)), .int (iI (σ 3)), .int (iI (σ 4)), .int (iI (σ 10)), .int (iI (σ 11)), .int (iI (σ 12)), .int (iI (σ 13)), .int (iI (σ 7)), .int (iI (σ 8)), .int (iI (σ 9)), .int (iI (σ 5)), .ref (a 3), .int (iI (σ 18)), .int (iI (σ 14)), .int (iI (σ 15)), .int (iI (σ 16)), .int (iI (σ 17)), .ref (a 4), .int (iI (σ 19)), .int (iI (σ 6)), .ref (a 5), .int (iI (σ 20)), .ref (a 6), .int (iI dg)])), (a 1, .inl (cA, 3200, .inl f)), (a 2, .inl (cA, 3200, .inl fo)), (a 3, .inl (cA, 80, .inl fw)), (a 4, .inl (cA, 60, .inl ft)), (a 5, .inl (cA, 500, .inl fs)), (a 6, .inl (cA, 20, .inl fd))] H := hP
      have hD : va_D A [(a 0, .inr (6, [.ref (a 1), .ref (a 2), .int (iI (σ 0)), .int (iI (σ 2)), .int (iI (σ 1)), .int (iI (σ 3)), .int (iI (σ 4)), .int (iI (σ 10)), .int (iI (σ 11)), .int (iI (σ 12)), .int (iI (σ 13)), .int (iI (σ 7)), .int (iI (σ 8)), .int (iI (σ 9)), .int (iI (σ 5)), .ref (a 3), .int (iI (σ 18)), .int (iI (σ 14)), .int (iI (σ 15)), .int (iI (σ 16)), .int (iI (σ 17)), .ref (a 4), .int (iI (σ 19)), .int (iI (σ 6)), .ref (a 5), .int (iI (σ 20)), .ref (a 6), .int (iI dg)])), (a 1, .inl (cA, 3200, .inl f)), (a 2, .inl (cA, 3200, .inl fo)), (a 3, .inl (cA, 80, .inl fw)), (a 4, .inl (cA, 60, .inl ft)), (a 5, .inl (cA, 500, .inl fs)), (a 6, .inl (cA, 20, .inl fd))] := hD
      refine z_if_ne hx hb 63 (by omega) dX5_status_50 (by decide) (fun c50 => ?_) (fun c50 => ?_)
      · skip
        refine lv_iconst (v := iI 1) hx hb dX5_status_63 rfl ?_
        refine lv_goto (tgt := 68) hx hb dX5_status_64 (by decide) ?_
        refine lv_istore (lv' := [(4, .int (iI 1)), (0, .ref (a 0)), (1, .int (iI k)), (2, .int (iI x)), (3, .int (iI y))]) hx hb dX5_status_68 hl (by decide) rfl (fun ls hl => ?_)
        exfalso; omega
      · skip
        refine lv_iload_n hx hb dX5_status_53 rfl (lv_at hl 3 rfl) ?_
        refine lv_iconst (v := iI 0) hx hb dX5_status_54 rfl ?_
        refine lv_bipush (v := iI 59) hx hb dX5_status_55 (by decide) ?_
        refine z_calli (w2 := fun _ => [(a 0, .inr (6, [.ref (a 1), .ref (a 2), .int (iI (σ 0)), .int (iI (σ 2)), .int (iI (σ 1)), .int (iI (σ 3)), .int (iI (σ 4)), .int (iI (σ 10)), .int (iI (σ 11)), .int (iI (σ 12)), .int (iI (σ 13)), .int (iI (σ 7)), .int (iI (σ 8)), .int (iI (σ 9)), .int (iI (σ 5)), .ref (a 3), .int (iI (σ 18)), .int (iI (σ 14)), .int (iI (σ 15)), .int (iI (σ 16)), .int (iI (σ 17)), .ref (a 4), .int (iI (σ 19)), .int (iI (σ 6)), .ref (a 5), .int (iI (σ 20)), .ref (a 6), .int (iI dg)])), (a 1, .inl (cA, 3200, .inl f)), (a 2, .inl (cA, 3200, .inl fo)), (a 3, .inl (cA, 80, .inl fw)), (a 4, .inl (cA, 60, .inl ft)), (a 5, .inl (cA, 500, .inl fs)), (a 6, .inl (cA, 20, .inl fd))]) (wc := []) (wr := [(a 0, .inr (6, [.ref (a 1), .ref (a 2), .int (iI (σ 0)), .int (iI (σ 2)), .int (iI (σ 1)), .int (iI (σ 3)), .int (iI (σ 4)), .int (iI (σ 10)), .int (iI (σ 11)), .int (iI (σ 12)), .int (iI (σ 13)), .int (iI (σ 7)), .int (iI (σ 8)), .int (iI (σ 9)), .int (iI (σ 5)), .ref (a 3), .int (iI (σ 18)), .int (iI (σ 14)), .int (iI (σ 15)), .int (iI (σ 16)), .int (iI (σ 17)), .ref (a 4), .int (iI (σ 19)), .int (iI (σ 6)), .ref (a 5), .int (iI (σ 20)), .ref (a 6), .int (iI dg)])), (a 1, .inl (cA, 3200, .inl f)), (a 2, .inl (cA, 3200, .inl fo)), (a 3, .inl (cA, 80, .inl fw)), (a 4, .inl (cA, 60, .inl ft)), (a 5, .inl (cA, 500, .inl fs)), (a 6, .inl (cA, 20, .inl fd))]) (va_runS (As := [.int (iI y), .int (iI 0), .int (iI 59)]) (rest := []) ⟨hx, hb, hml, hown, hts⟩ (c_X5_out l D H.size y 0 59 (by omega)) (va_cwS 3 hts gX5_status_X5_out rfl rfl rfl (by decide +kernel) ⟨by rw [hRf]; exact Nat.le_of_ble_eq_true rfl, by rw [hRl]; exact Nat.le_of_ble_eq_true rfl⟩) (z_preS hP hD hK hN [] (by decide) rfl rfl [] rfl) rfl rfl hl.1 rfl (lv_room (Nat.le_of_ble_eq_true rfl)) dX5_status_57 ⟨by rw [hRc]; exact Nat.le_of_ble_eq_true rfl, by rw [hRs]; exact Nat.le_of_ble_eq_true rfl⟩) hP hD hS hA [] [0, 1, 2, 3, 4, 5, 6] rfl rfl (by decide) (by decide) [0, 1, 2, 3, 4, 5, 6] (by decide) (fun _ => rfl) (fun r _ H locs hw hP hD hS => ?_)
        subst hw
        have hP : va_P D vwCl [(a 0, .inr (6, [.ref (a 1), .ref (a 2), .int (iI (σ 0)), .int (iI (σ 2)), .int (iI (σ 1)), .int (iI (σ 3)), .int (iI (σ 4)), .int (iI (σ 10)), .int (iI (σ 11)), .int (iI (σ 12)), .int (iI (σ 13)), .int (iI (σ 7)), .int (iI (σ 8)), .int (iI (σ 9)), .int (iI (σ 5)), .ref (a 3), .int (iI (σ 18)), .int (iI (σ 14)), .int (iI (σ 15)), .int (iI (σ 16)), .int (iI (σ 17)), .ref (a 4), .int (iI (σ 19)), .int (iI (σ 6)), .ref (a 5), .int (iI (σ 20)), .ref (a 6), .int (iI dg)])), (a 1, .inl (cA, 3200, .inl f)), (a 2, .inl (cA, 3200, .inl fo)), (a 3, .inl (cA, 80, .inl fw)), (a 4, .inl (cA, 60, .inl ft)), (a 5, .inl (cA, 500, .inl fs)), (a 6, .inl (cA, 20, .inl fd))] H := hP
        have hD : va_D A [(a 0, .inr (6, [.ref (a 1), .ref (a 2), .int (iI (σ 0)), .int (iI (σ 2)), .int (iI (σ 1)), .int (iI (σ 3)), .int (iI (σ 4)), .int (iI (σ 10)), .int (iI (σ 11)), .int (iI (σ 12)), .int (iI (σ 13)), .int (iI (σ 7)), .int (iI (σ 8)), .int (iI (σ 9)), .int (iI (σ 5)), .ref (a 3), .int (iI (σ 18)), .int (iI (σ 14)), .int (iI (σ 15)), .int (iI (σ 16)), .int (iI (σ 17)), .ref (a 4), .int (iI (σ 19)), .int (iI (σ 6)), .ref (a 5), .int (iI (σ 20)), .ref (a 6), .int (iI dg)])), (a 1, .inl (cA, 3200, .inl f)), (a 2, .inl (cA, 3200, .inl fo)), (a 3, .inl (cA, 80, .inl fw)), (a 4, .inl (cA, 60, .inl ft)), (a 5, .inl (cA, 500, .inl fs)), (a 6, .inl (cA, 20, .inl fd))] := hD
        refine z_if_eq hx hb 67 (by omega) dX5_status_60 (by decide) (fun c60 => ?_) (fun c60 => ?_)
        · skip
          refine lv_iconst (v := iI 0) hx hb dX5_status_67 rfl ?_
          refine lv_istore (lv' := [(4, .int (iI 0)), (0, .ref (a 0)), (1, .int (iI k)), (2, .int (iI x)), (3, .int (iI y))]) hx hb dX5_status_68 hl (by decide) rfl (fun ls hl => ?_)
          refine lv_iload hx hb dX5_status_70 (lv_at hl 0 rfl) ?_
          refine z_if_eq hx hb 77 (by omega) dX5_status_72 (by decide) (fun c72 => ?_) (fun c72 => absurd c72 (by omega))
          refine lv_aload_n hx hb dX5_status_77 rfl (lv_at hl 1 rfl) ?_
          refine va_get (D := D) (ci := 6) (v := .int (iI (σ 0))) (C := RX5) (T := TX5) (N := 28) hx hb hts inX5 hown hK hP 0 rfl rfl 2 (by decide) kfieldLink_RX5_55_ZScreensModel_version_I (fun _ h9 => h9) rfl dX5_status_78 ?_
          refine lv_iconst (v := iI 3) hx hb dX5_status_81 rfl ?_
          refine z_icmp_gt hx hb 98 (by omega) dX5_status_82 (by decide) (fun c82 => ?_) (fun c82 => ?_)
          · skip
            refine lv_bipush (v := iI (-2)) hx hb dX5_status_98 (by decide) ?_
            exact K H locs _ () _ ls 0 0 (by omega) (by omega) rfl rfl hP hD hS dX5_status_100
          · skip
            refine lv_iload_n hx hb dX5_status_85 rfl (lv_at hl 2 rfl) ?_
            refine lv_iconst (v := iI 1) hx hb dX5_status_86 rfl ?_
            refine z_icmp_ne hx hb 101 (by omega) dX5_status_87 (by decide) (fun c87 => absurd c87 (by omega)) (fun c87 => ?_)
            refine lv_aload_n hx hb dX5_status_90 rfl (lv_at hl 1 rfl) ?_
            refine va_get (D := D) (ci := 6) (v := .int (iI (σ 0))) (C := RX5) (T := TX5) (N := 28) hx hb hts inX5 hown hK hP 0 rfl rfl 2 (by decide) kfieldLink_RX5_55_ZScreensModel_version_I (fun _ h9 => h9) rfl dX5_status_91 ?_
            refine lv_iconst (v := iI 3) hx hb dX5_status_94 rfl ?_
            refine z_icmp_eq hx hb 101 (by omega) dX5_status_95 (by decide) (fun c95 => absurd c95 (by omega)) (fun c95 => ?_)
            refine lv_bipush (v := iI (-2)) hx hb dX5_status_98 (by decide) ?_
            exact K H locs _ () _ ls 0 0 (by omega) (by omega) rfl rfl hP hD hS dX5_status_100
        · skip
          refine lv_iconst (v := iI 1) hx hb dX5_status_63 rfl ?_
          refine lv_goto (tgt := 68) hx hb dX5_status_64 (by decide) ?_
          refine lv_istore (lv' := [(4, .int (iI 1)), (0, .ref (a 0)), (1, .int (iI k)), (2, .int (iI x)), (3, .int (iI y))]) hx hb dX5_status_68 hl (by decide) rfl (fun ls hl => ?_)
          exfalso; omega
  · skip
    refine lv_iload_n hx hb dX5_status_4 rfl (lv_at hl 2 rfl) ?_
    refine lv_sipush (v := iI (-9999)) hx hb dX5_status_5 (by decide) ?_
    refine lv_sipush (v := iI 9999) hx hb dX5_status_8 (by decide) ?_
    refine z_calli (w2 := fun _ => [(a 0, .inr (6, [.ref (a 1), .ref (a 2), .int (iI (σ 0)), .int (iI (σ 2)), .int (iI (σ 1)), .int (iI (σ 3)), .int (iI (σ 4)), .int (iI (σ 10)), .int (iI (σ 11)), .int (iI (σ 12)), .int (iI (σ 13)), .int (iI (σ 7)), .int (iI (σ 8)), .int (iI (σ 9)), .int (iI (σ 5)), .ref (a 3), .int (iI (σ 18)), .int (iI (σ 14)), .int (iI (σ 15)), .int (iI (σ 16)), .int (iI (σ 17)), .ref (a 4), .int (iI (σ 19)), .int (iI (σ 6)), .ref (a 5), .int (iI (σ 20)), .ref (a 6), .int (iI dg)])), (a 1, .inl (cA, 3200, .inl f)), (a 2, .inl (cA, 3200, .inl fo)), (a 3, .inl (cA, 80, .inl fw)), (a 4, .inl (cA, 60, .inl ft)), (a 5, .inl (cA, 500, .inl fs)), (a 6, .inl (cA, 20, .inl fd))]) (wc := []) (wr := [(a 0, .inr (6, [.ref (a 1), .ref (a 2), .int (iI (σ 0)), .int (iI (σ 2)), .int (iI (σ 1)), .int (iI (σ 3)), .int (iI (σ 4)), .int (iI (σ 10)), .int (iI (σ 11)), .int (iI (σ 12)), .int (iI (σ 13)), .int (iI (σ 7)), .int (iI (σ 8)), .int (iI (σ 9)), .int (iI (σ 5)), .ref (a 3), .int (iI (σ 18)), .int (iI (σ 14)), .int (iI (σ 15)), .int (iI (σ 16)), .int (iI (σ 17)), .ref (a 4), .int (iI (σ 19)), .int (iI (σ 6)), .ref (a 5), .int (iI (σ 20)), .ref (a 6), .int (iI dg)])), (a 1, .inl (cA, 3200, .inl f)), (a 2, .inl (cA, 3200, .inl fo)), (a 3, .inl (cA, 80, .inl fw)), (a 4, .inl (cA, 60, .inl ft)), (a 5, .inl (cA, 500, .inl fs)), (a 6, .inl (cA, 20, .inl fd))]) (va_runS (As := [.int (iI x), .int (iI ((-9999))), .int (iI 9999)]) (rest := []) ⟨hx, hb, hml, hown, hts⟩ (c_X5_out l D H.size x ((-9999)) 9999 (by omega)) (va_cwS 3 hts gX5_status_X5_out rfl rfl rfl (by decide +kernel) ⟨by rw [hRf]; exact Nat.le_of_ble_eq_true rfl, by rw [hRl]; exact Nat.le_of_ble_eq_true rfl⟩) (z_preS hP hD hK hN [] (by decide) rfl rfl [] rfl) rfl rfl hl.1 rfl (lv_room (Nat.le_of_ble_eq_true rfl)) dX5_status_11 ⟨by rw [hRc]; exact Nat.le_of_ble_eq_true rfl, by rw [hRs]; exact Nat.le_of_ble_eq_true rfl⟩) hP hD hS hA [] [0, 1, 2, 3, 4, 5, 6] rfl rfl (by decide) (by decide) [0, 1, 2, 3, 4, 5, 6] (by decide) (fun _ => rfl) (fun r _ H locs hw hP hD hS => ?_)
    subst hw
    have hP : va_P D vwCl [(a 0, .inr (6, [.ref (a 1), .ref (a 2), .int (iI (σ 0)), .int (iI (σ 2)), .int (iI (σ 1)), .int (iI (σ 3)), .int (iI (σ 4)), .int (iI (σ 10)), .int (iI (σ 11)), .int (iI (σ 12)), .int (iI (σ 13)), .int (iI (σ 7)), .int (iI (σ 8)), .int (iI (σ 9)), .int (iI (σ 5)), .ref (a 3), .int (iI (σ 18)), .int (iI (σ 14)), .int (iI (σ 15)), .int (iI (σ 16)), .int (iI (σ 17)), .ref (a 4), .int (iI (σ 19)), .int (iI (σ 6)), .ref (a 5), .int (iI (σ 20)), .ref (a 6), .int (iI dg)])), (a 1, .inl (cA, 3200, .inl f)), (a 2, .inl (cA, 3200, .inl fo)), (a 3, .inl (cA, 80, .inl fw)), (a 4, .inl (cA, 60, .inl ft)), (a 5, .inl (cA, 500, .inl fs)), (a 6, .inl (cA, 20, .inl fd))] H := hP
    have hD : va_D A [(a 0, .inr (6, [.ref (a 1), .ref (a 2), .int (iI (σ 0)), .int (iI (σ 2)), .int (iI (σ 1)), .int (iI (σ 3)), .int (iI (σ 4)), .int (iI (σ 10)), .int (iI (σ 11)), .int (iI (σ 12)), .int (iI (σ 13)), .int (iI (σ 7)), .int (iI (σ 8)), .int (iI (σ 9)), .int (iI (σ 5)), .ref (a 3), .int (iI (σ 18)), .int (iI (σ 14)), .int (iI (σ 15)), .int (iI (σ 16)), .int (iI (σ 17)), .ref (a 4), .int (iI (σ 19)), .int (iI (σ 6)), .ref (a 5), .int (iI (σ 20)), .ref (a 6), .int (iI dg)])), (a 1, .inl (cA, 3200, .inl f)), (a 2, .inl (cA, 3200, .inl fo)), (a 3, .inl (cA, 80, .inl fw)), (a 4, .inl (cA, 60, .inl ft)), (a 5, .inl (cA, 500, .inl fs)), (a 6, .inl (cA, 20, .inl fd))] := hD
    refine z_if_ne hx hb 30 (by omega) dX5_status_14 (by decide) (fun c14 => ?_) (fun c14 => ?_)
    · skip
      refine lv_iconst (v := iI 1) hx hb dX5_status_30 rfl ?_
      refine lv_goto (tgt := 68) hx hb dX5_status_31 (by decide) ?_
      refine lv_istore (lv' := [(4, .int (iI 1)), (0, .ref (a 0)), (1, .int (iI k)), (2, .int (iI x)), (3, .int (iI y))]) hx hb dX5_status_68 hl (by decide) rfl (fun ls hl => ?_)
      exfalso; omega
    · skip
      refine lv_iload_n hx hb dX5_status_17 rfl (lv_at hl 3 rfl) ?_
      refine lv_sipush (v := iI (-9999)) hx hb dX5_status_18 (by decide) ?_
      refine lv_sipush (v := iI 9999) hx hb dX5_status_21 (by decide) ?_
      refine z_calli (w2 := fun _ => [(a 0, .inr (6, [.ref (a 1), .ref (a 2), .int (iI (σ 0)), .int (iI (σ 2)), .int (iI (σ 1)), .int (iI (σ 3)), .int (iI (σ 4)), .int (iI (σ 10)), .int (iI (σ 11)), .int (iI (σ 12)), .int (iI (σ 13)), .int (iI (σ 7)), .int (iI (σ 8)), .int (iI (σ 9)), .int (iI (σ 5)), .ref (a 3), .int (iI (σ 18)), .int (iI (σ 14)), .int (iI (σ 15)), .int (iI (σ 16)), .int (iI (σ 17)), .ref (a 4), .int (iI (σ 19)), .int (iI (σ 6)), .ref (a 5), .int (iI (σ 20)), .ref (a 6), .int (iI dg)])), (a 1, .inl (cA, 3200, .inl f)), (a 2, .inl (cA, 3200, .inl fo)), (a 3, .inl (cA, 80, .inl fw)), (a 4, .inl (cA, 60, .inl ft)), (a 5, .inl (cA, 500, .inl fs)), (a 6, .inl (cA, 20, .inl fd))]) (wc := []) (wr := [(a 0, .inr (6, [.ref (a 1), .ref (a 2), .int (iI (σ 0)), .int (iI (σ 2)), .int (iI (σ 1)), .int (iI (σ 3)), .int (iI (σ 4)), .int (iI (σ 10)), .int (iI (σ 11)), .int (iI (σ 12)), .int (iI (σ 13)), .int (iI (σ 7)), .int (iI (σ 8)), .int (iI (σ 9)), .int (iI (σ 5)), .ref (a 3), .int (iI (σ 18)), .int (iI (σ 14)), .int (iI (σ 15)), .int (iI (σ 16)), .int (iI (σ 17)), .ref (a 4), .int (iI (σ 19)), .int (iI (σ 6)), .ref (a 5), .int (iI (σ 20)), .ref (a 6), .int (iI dg)])), (a 1, .inl (cA, 3200, .inl f)), (a 2, .inl (cA, 3200, .inl fo)), (a 3, .inl (cA, 80, .inl fw)), (a 4, .inl (cA, 60, .inl ft)), (a 5, .inl (cA, 500, .inl fs)), (a 6, .inl (cA, 20, .inl fd))]) (va_runS (As := [.int (iI y), .int (iI ((-9999))), .int (iI 9999)]) (rest := []) ⟨hx, hb, hml, hown, hts⟩ (c_X5_out l D H.size y ((-9999)) 9999 (by omega)) (va_cwS 3 hts gX5_status_X5_out rfl rfl rfl (by decide +kernel) ⟨by rw [hRf]; exact Nat.le_of_ble_eq_true rfl, by rw [hRl]; exact Nat.le_of_ble_eq_true rfl⟩) (z_preS hP hD hK hN [] (by decide) rfl rfl [] rfl) rfl rfl hl.1 rfl (lv_room (Nat.le_of_ble_eq_true rfl)) dX5_status_24 ⟨by rw [hRc]; exact Nat.le_of_ble_eq_true rfl, by rw [hRs]; exact Nat.le_of_ble_eq_true rfl⟩) hP hD hS hA [] [0, 1, 2, 3, 4, 5, 6] rfl rfl (by decide) (by decide) [0, 1, 2, 3, 4, 5, 6] (by decide) (fun _ => rfl) (fun r _ H locs hw hP hD hS => ?_)
      subst hw
      have hP : va_P D vwCl [(a 0, .inr (6, [.ref (a 1), .ref (a 2), .int (iI (σ 0)), .int (iI (σ 2)), .int (iI (σ 1)), .int (iI (σ 3)), .int (iI (σ 4)), .int (iI (σ 10)), .int (iI (σ 11)), .int (iI (σ 12)), .int (iI (σ 13)), .int (iI (σ 7)), .int (iI (σ 8)), .int (iI (σ 9)), .int (iI (σ 5)), .ref (a 3), .int (iI (σ 18)), .int (iI (σ 14)), .int (iI (σ 15)), .int (iI (σ 16)), .int (iI (σ 17)), .ref (a 4), .int (iI (σ 19)), .int (iI (σ 6)), .ref (a 5), .int (iI (σ 20)), .ref (a 6), .int (iI dg)])), (a 1, .inl (cA, 3200, .inl f)), (a 2, .inl (cA, 3200, .inl fo)), (a 3, .inl (cA, 80, .inl fw)), (a 4, .inl (cA, 60, .inl ft)), (a 5, .inl (cA, 500, .inl fs)), (a 6, .inl (cA, 20, .inl fd))] H := hP
      have hD : va_D A [(a 0, .inr (6, [.ref (a 1), .ref (a 2), .int (iI (σ 0)), .int (iI (σ 2)), .int (iI (σ 1)), .int (iI (σ 3)), .int (iI (σ 4)), .int (iI (σ 10)), .int (iI (σ 11)), .int (iI (σ 12)), .int (iI (σ 13)), .int (iI (σ 7)), .int (iI (σ 8)), .int (iI (σ 9)), .int (iI (σ 5)), .ref (a 3), .int (iI (σ 18)), .int (iI (σ 14)), .int (iI (σ 15)), .int (iI (σ 16)), .int (iI (σ 17)), .ref (a 4), .int (iI (σ 19)), .int (iI (σ 6)), .ref (a 5), .int (iI (σ 20)), .ref (a 6), .int (iI dg)])), (a 1, .inl (cA, 3200, .inl f)), (a 2, .inl (cA, 3200, .inl fo)), (a 3, .inl (cA, 80, .inl fw)), (a 4, .inl (cA, 60, .inl ft)), (a 5, .inl (cA, 500, .inl fs)), (a 6, .inl (cA, 20, .inl fd))] := hD
      refine z_if_eq hx hb 34 (by omega) dX5_status_27 (by decide) (fun c27 => ?_) (fun c27 => ?_)
      · skip
        refine lv_iconst (v := iI 0) hx hb dX5_status_34 rfl ?_
        refine lv_goto (tgt := 68) hx hb dX5_status_35 (by decide) ?_
        refine lv_istore (lv' := [(4, .int (iI 0)), (0, .ref (a 0)), (1, .int (iI k)), (2, .int (iI x)), (3, .int (iI y))]) hx hb dX5_status_68 hl (by decide) rfl (fun ls hl => ?_)
        refine lv_iload hx hb dX5_status_70 (lv_at hl 0 rfl) ?_
        refine z_if_eq hx hb 77 (by omega) dX5_status_72 (by decide) (fun c72 => ?_) (fun c72 => absurd c72 (by omega))
        refine lv_aload_n hx hb dX5_status_77 rfl (lv_at hl 1 rfl) ?_
        refine va_get (D := D) (ci := 6) (v := .int (iI (σ 0))) (C := RX5) (T := TX5) (N := 28) hx hb hts inX5 hown hK hP 0 rfl rfl 2 (by decide) kfieldLink_RX5_55_ZScreensModel_version_I (fun _ h9 => h9) rfl dX5_status_78 ?_
        refine lv_iconst (v := iI 3) hx hb dX5_status_81 rfl ?_
        refine z_icmp_gt hx hb 98 (by omega) dX5_status_82 (by decide) (fun c82 => ?_) (fun c82 => ?_)
        · skip
          refine lv_bipush (v := iI (-2)) hx hb dX5_status_98 (by decide) ?_
          exact K H locs _ () _ ls 0 0 (by omega) (by omega) rfl rfl hP hD hS dX5_status_100
        · skip
          refine lv_iload_n hx hb dX5_status_85 rfl (lv_at hl 2 rfl) ?_
          refine lv_iconst (v := iI 1) hx hb dX5_status_86 rfl ?_
          refine z_icmp_ne hx hb 101 (by omega) dX5_status_87 (by decide) (fun c87 => absurd c87 (by omega)) (fun c87 => ?_)
          refine lv_aload_n hx hb dX5_status_90 rfl (lv_at hl 1 rfl) ?_
          refine va_get (D := D) (ci := 6) (v := .int (iI (σ 0))) (C := RX5) (T := TX5) (N := 28) hx hb hts inX5 hown hK hP 0 rfl rfl 2 (by decide) kfieldLink_RX5_55_ZScreensModel_version_I (fun _ h9 => h9) rfl dX5_status_91 ?_
          refine lv_iconst (v := iI 3) hx hb dX5_status_94 rfl ?_
          refine z_icmp_eq hx hb 101 (by omega) dX5_status_95 (by decide) (fun c95 => absurd c95 (by omega)) (fun c95 => ?_)
          refine lv_bipush (v := iI (-2)) hx hb dX5_status_98 (by decide) ?_
          exact K H locs _ () _ ls 0 0 (by omega) (by omega) rfl rfl hP hD hS dX5_status_100
      · skip
        refine lv_iconst (v := iI 1) hx hb dX5_status_30 rfl ?_
        refine lv_goto (tgt := 68) hx hb dX5_status_31 (by decide) ?_
        refine lv_istore (lv' := [(4, .int (iI 1)), (0, .ref (a 0)), (1, .int (iI k)), (2, .int (iI x)), (3, .int (iI y))]) hx hb dX5_status_68 hl (by decide) rfl (fun ls hl => ?_)
        exfalso; omega
