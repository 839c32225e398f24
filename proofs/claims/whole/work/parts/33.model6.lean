/-! the reference: decimal (draft) -/
abbrev rmX5_decimal : Room := { frames := 0, cells := 0, slots := 0, locals := 0 }
set_option maxHeartbeats 4000000 in
set_option maxRecDepth 100000 in
theorem c_X5_decimal (l : Launch) (D : va_G) (sz : Nat) (cA : ClassId) (a : Nat → Nat) (σ : Nat → Int) (dg : Int) (fd : Nat → Int32) (tx : List Int) (v w : Int) (h : -9999 ≤ v ∧ v ≤ 9999 ∧ (w = 1 ∨ (w = 2 ∧ 0 ≤ v ∧ v ≤ 59))) (ht : (tx.length : Int) = dg ∧ dg ≤ 8) (hT0 : zTx fd tx) : zMv l yX5_decimal wsX5_decimal rmX5_decimal D [(cA, .int)] [.ref (a 0), .int (iI v), .int (iI w)] [(a 0, .inr (6, [.ref (a 1), .ref (a 2), .int (iI (σ 0)), .int (iI (σ 2)), .int (iI (σ 1)), .int (iI (σ 3)), .int (iI (σ 4)), .int (iI (σ 10)), .int (iI (σ 11)), .int (iI (σ 12)), .int (iI (σ 13)), .int (iI (σ 7)), .int (iI (σ 8)), .int (iI (σ 9)), .int (iI (σ 5)), .ref (a 3), .int (iI (σ 18)), .int (iI (σ 14)), .int (iI (σ 15)), .int (iI (σ 16)), .int (iI (σ 17)), .ref (a 4), .int (iI (σ 19)), .int (iI (σ 6)), .ref (a 5), .int (iI (σ 20)), .ref (a 6), .int (iI dg)])), (a 6, .inl (cA, 20, .inl fd))] sz (S := (Nat → Int32)) (fun u => zTx u (tx ++ (if w = 1 then dec v else dec2 v))) (fun u => [(a 0, .inr (6, [.ref (a 1), .ref (a 2), .int (iI (σ 0)), .int (iI (σ 2)), .int (iI (σ 1)), .int (iI (σ 3)), .int (iI (σ 4)), .int (iI (σ 10)), .int (iI (σ 11)), .int (iI (σ 12)), .int (iI (σ 13)), .int (iI (σ 7)), .int (iI (σ 8)), .int (iI (σ 9)), .int (iI (σ 5)), .ref (a 3), .int (iI (σ 18)), .int (iI (σ 14)), .int (iI (σ 15)), .int (iI (σ 16)), .int (iI (σ 17)), .ref (a 4), .int (iI (σ 19)), .int (iI (σ 6)), .ref (a 5), .int (iI (σ 20)), .ref (a 6), .int (iI (dg + (((if w = 1 then dec v else dec2 v)).length : Int)))])), (a 6, .inl (cA, 20, .inl u))]) 0 0 := by
  refine z_startv (cc := cX5_decimal) (maxL := 6) (own := RX5) (nm := "decimal") (by decide) rfl rfl rfl (Nat.le_of_ble_eq_true rfl) ?_
  intro p e R s m args below meth c A Q ls H locs hBd hP hD hS hl K
  obtain ⟨hx, hb, hml, hown, hts, ⟨hRf, hRl, hRc, hRs⟩, hmn, hK, hN, hA⟩ := hBd
  have hl : lv_has ls 6 [(0, .ref (a 0)), (1, .int (iI v)), (2, .int (iI w))] := hl
  have inX5 : ∀ w ∈ wsX50, w ∈ wsX5_decimal := by decide +kernel
  have kfieldLink_RX5_145_ZScreensModel_digits_I := hts (.fieldLink RX5 145 "ZScreensModel" "digits" "I") (by decide +kernel)
  have kfieldLink_RX5_48_ZScreensModel_digit_I := hts (.fieldLink RX5 48 "ZScreensModel" "digit" "[I") (by decide +kernel)
  have hP : va_P D vwCl [(a 0, .inr (6, [.ref (a 1), .ref (a 2), .int (iI (σ 0)), .int (iI (σ 2)), .int (iI (σ 1)), .int (iI (σ 3)), .int (iI (σ 4)), .int (iI (σ 10)), .int (iI (σ 11)), .int (iI (σ 12)), .int (iI (σ 13)), .int (iI (σ 7)), .int (iI (σ 8)), .int (iI (σ 9)), .int (iI (σ 5)), .ref (a 3), .int (iI (σ 18)), .int (iI (σ 14)), .int (iI (σ 15)), .int (iI (σ 16)), .int (iI (σ 17)), .ref (a 4), .int (iI (σ 19)), .int (iI (σ 6)), .ref (a 5), .int (iI (σ 20)), .ref (a 6), .int (iI dg)])), (a 6, .inl (cA, 20, .inl fd))] H := hP
  have hD : va_D A [(a 0, .inr (6, [.ref (a 1), .ref (a 2), .int (iI (σ 0)), .int (iI (σ 2)), .int (iI (σ 1)), .int (iI (σ 3)), .int (iI (σ 4)), .int (iI (σ 10)), .int (iI (σ 11)), .int (iI (σ 12)), .int (iI (σ 13)), .int (iI (σ 7)), .int (iI (σ 8)), .int (iI (σ 9)), .int (iI (σ 5)), .ref (a 3), .int (iI (σ 18)), .int (iI (σ 14)), .int (iI (σ 15)), .int (iI (σ 16)), .int (iI (σ 17)), .ref (a 4), .int (iI (σ 19)), .int (iI (σ 6)), .ref (a 5), .int (iI (σ 20)), .ref (a 6), .int (iI dg)])), (a 6, .inl (cA, 20, .inl fd))] := hD
  rcases (show (w = 1 ∧ 0 ≤ v ∧ v < 10) ∨ (w = 1 ∧ 10 ≤ v ∧ v < 100) ∨ (w = 1 ∧ 100 ≤ v ∧ v < 1000) ∨ (w = 1 ∧ 1000 ≤ v ∧ v < 10000) ∨ (w = 1 ∧ -10 < v ∧ v < 0) ∨ (w = 1 ∧ -100 < v ∧ v ≤ -10) ∨ (w = 1 ∧ -1000 < v ∧ v ≤ -100) ∨ (w = 1 ∧ -10000 < v ∧ v ≤ -1000) ∨ (w = 2 ∧ 0 ≤ v ∧ v < 10) ∨ (w = 2 ∧ 10 ≤ v ∧ v < 100) by omega) with hc | hc | hc | hc | hc | hc | hc | hc | hc | hc
  · skip
    refine lv_iload_n hx hb dX5_decimal_0 rfl (lv_at hl 1 rfl) ?_
    refine z_if_ge hx hb 9 (by omega) dX5_decimal_1 (by decide) (fun c1 => ?_) (fun c1 => absurd c1 (by omega))
    refine lv_iload_n hx hb dX5_decimal_9 rfl (lv_at hl 1 rfl) ?_
    refine lv_istore_n (lv' := [(3, .int (iI v)), (0, .ref (a 0)), (1, .int (iI v)), (2, .int (iI w))]) hx hb dX5_decimal_10 rfl hl (by decide) rfl (fun ls hl => ?_)
    refine lv_iload_n hx hb dX5_decimal_11 rfl (lv_at hl 2 rfl) ?_
    refine z_if_ge hx hb 36 (by omega) dX5_decimal_12 (by decide) (fun c12 => ?_) (fun c12 => absurd c12 (by omega))
    refine lv_iconst (v := iI 1) hx hb dX5_decimal_36 rfl ?_
    refine lv_istore (lv' := [(4, .int (iI 1)), (3, .int (iI v)), (0, .ref (a 0)), (1, .int (iI v)), (2, .int (iI w))]) hx hb dX5_decimal_37 hl (by decide) rfl (fun ls hl => ?_)
    refine lv_iconst (v := iI 1) hx hb dX5_decimal_39 rfl ?_
    refine lv_istore (lv' := [(5, .int (iI 1)), (4, .int (iI 1)), (3, .int (iI v)), (0, .ref (a 0)), (1, .int (iI v)), (2, .int (iI w))]) hx hb dX5_decimal_40 hl (by decide) rfl (fun ls hl => ?_)
    refine lv_iload_n hx hb dX5_decimal_42 rfl (lv_at hl 2 rfl) ?_
    refine lv_iload hx hb dX5_decimal_43 (lv_at hl 1 rfl) ?_
    refine z_idiv hx hb (by omega) dX5_decimal_45 ?_
    refine lv_bipush (v := iI 9) hx hb dX5_decimal_46 (by decide) ?_
    refine z_icmp_le hx hb 64 (by omega) dX5_decimal_48 (by decide) (fun c48 => ?_) (fun c48 => absurd c48 (by omega))
    refine lv_iload hx hb dX5_decimal_64 (lv_at hl 0 rfl) ?_
    refine lv_iload_n hx hb dX5_decimal_66 rfl (lv_at hl 5 rfl) ?_
    refine z_icmp_ge hx hb 97 (by omega) dX5_decimal_67 (by decide) (fun c67 => ?_) (fun c67 => absurd c67 (by omega))
    refine lv_iload hx hb dX5_decimal_97 (lv_at hl 1 rfl) ?_
    refine z_if_le hx hb 141 (by omega) dX5_decimal_99 (by decide) (fun c99 => absurd c99 (by omega)) (fun c99 => ?_)
    refine lv_aload_n hx hb dX5_decimal_102 rfl (lv_at hl 3 rfl) ?_
    refine va_get (D := D) (ci := 6) (v := .ref (a 6)) (C := RX5) (T := TX5) (N := 28) hx hb hts inX5 hown hK hP 0 rfl rfl 26 (by decide) kfieldLink_RX5_48_ZScreensModel_digit_I (fun _ h9 => h9) rfl dX5_decimal_103 ?_
    refine lv_aload_n hx hb dX5_decimal_106 rfl (lv_at hl 3 rfl) ?_
    refine va_get (D := D) (ci := 6) (v := .int (iI dg)) (C := RX5) (T := TX5) (N := 28) hx hb hts inX5 hown hK hP 0 rfl rfl 27 (by decide) kfieldLink_RX5_145_ZScreensModel_digits_I (fun _ h9 => h9) rfl dX5_decimal_107 ?_
    refine lv_bipush (v := iI 48) hx hb dX5_decimal_110 (by decide) ?_
    refine lv_iload_n hx hb dX5_decimal_112 rfl (lv_at hl 2 rfl) ?_
    refine lv_iload hx hb dX5_decimal_113 (lv_at hl 1 rfl) ?_
    refine z_idiv hx hb (by omega) dX5_decimal_115 ?_
    refine lv_bipush (v := iI 10) hx hb dX5_decimal_116 (by decide) ?_
    refine z_irem hx hb (by omega) dX5_decimal_118 ?_
    refine z_iadd hx hb dX5_decimal_119 ?_
    refine z_iast hx hb hK hP hD hS 1 0 rfl rfl (by omega) dX5_decimal_120 (fun H locs hP hD hS => ?_)
    have hP : va_P D vwCl [(a 0, .inr (6, [.ref (a 1), .ref (a 2), .int (iI (σ 0)), .int (iI (σ 2)), .int (iI (σ 1)), .int (iI (σ 3)), .int (iI (σ 4)), .int (iI (σ 10)), .int (iI (σ 11)), .int (iI (σ 12)), .int (iI (σ 13)), .int (iI (σ 7)), .int (iI (σ 8)), .int (iI (σ 9)), .int (iI (σ 5)), .ref (a 3), .int (iI (σ 18)), .int (iI (σ 14)), .int (iI (σ 15)), .int (iI (σ 16)), .int (iI (σ 17)), .ref (a 4), .int (iI (σ 19)), .int (iI (σ 6)), .ref (a 5), .int (iI (σ 20)), .ref (a 6), .int (iI dg)])), (a 6, .inl (cA, 20, .inl (upd fd (dg).toNat (iI (48 + ((v / 1) % 10))))))] H := hP
    have hD : va_D A [(a 0, .inr (6, [.ref (a 1), .ref (a 2), .int (iI (σ 0)), .int (iI (σ 2)), .int (iI (σ 1)), .int (iI (σ 3)), .int (iI (σ 4)), .int (iI (σ 10)), .int (iI (σ 11)), .int (iI (σ 12)), .int (iI (σ 13)), .int (iI (σ 7)), .int (iI (σ 8)), .int (iI (σ 9)), .int (iI (σ 5)), .ref (a 3), .int (iI (σ 18)), .int (iI (σ 14)), .int (iI (σ 15)), .int (iI (σ 16)), .int (iI (σ 17)), .ref (a 4), .int (iI (σ 19)), .int (iI (σ 6)), .ref (a 5), .int (iI (σ 20)), .ref (a 6), .int (iI dg)])), (a 6, .inl (cA, 20, .inl (upd fd (dg).toNat (iI (48 + ((v / 1) % 10))))))] := hD
    refine lv_aload_n hx hb dX5_decimal_121 rfl (lv_at hl 3 rfl) ?_
    refine lv_dup hx hb dX5_decimal_122 rfl ?_
    refine va_get (D := D) (ci := 6) (v := .int (iI dg)) (C := RX5) (T := TX5) (N := 28) hx hb hts inX5 hown hK hP 0 rfl rfl 27 (by decide) kfieldLink_RX5_145_ZScreensModel_digits_I (fun _ h9 => h9) rfl dX5_decimal_123 ?_
    refine lv_iconst (v := iI 1) hx hb dX5_decimal_126 rfl ?_
    refine z_iadd hx hb dX5_decimal_127 ?_
    refine va_put (D := D) (ci := 6) (v := .int (iI (dg + 1))) (ty := .int) (C := RX5) (T := TX5) (N := 28) hx hb hts inX5 tyX5 tyX5_ok nmX5 hown hK hP hD hS 0 rfl rfl 27 (by decide) kfieldLink_RX5_145_ZScreensModel_digits_I (fun _ h9 => h9) rfl (by decide +kernel) rfl rfl (Nat.le_of_ble_eq_true rfl) dX5_decimal_128 (fun H locs hP hD hS => ?_)
    have hP : va_P D vwCl [(a 0, .inr (6, [.ref (a 1), .ref (a 2), .int (iI (σ 0)), .int (iI (σ 2)), .int (iI (σ 1)), .int (iI (σ 3)), .int (iI (σ 4)), .int (iI (σ 10)), .int (iI (σ 11)), .int (iI (σ 12)), .int (iI (σ 13)), .int (iI (σ 7)), .int (iI (σ 8)), .int (iI (σ 9)), .int (iI (σ 5)), .ref (a 3), .int (iI (σ 18)), .int (iI (σ 14)), .int (iI (σ 15)), .int (iI (σ 16)), .int (iI (σ 17)), .ref (a 4), .int (iI (σ 19)), .int (iI (σ 6)), .ref (a 5), .int (iI (σ 20)), .ref (a 6), .int (iI (dg + 1))])), (a 6, .inl (cA, 20, .inl (upd fd (dg).toNat (iI (48 + ((v / 1) % 10))))))] H := hP
    have hD : va_D A [(a 0, .inr (6, [.ref (a 1), .ref (a 2), .int (iI (σ 0)), .int (iI (σ 2)), .int (iI (σ 1)), .int (iI (σ 3)), .int (iI (σ 4)), .int (iI (σ 10)), .int (iI (σ 11)), .int (iI (σ 12)), .int (iI (σ 13)), .int (iI (σ 7)), .int (iI (σ 8)), .int (iI (σ 9)), .int (iI (σ 5)), .ref (a 3), .int (iI (σ 18)), .int (iI (σ 14)), .int (iI (σ 15)), .int (iI (σ 16)), .int (iI (σ 17)), .ref (a 4), .int (iI (σ 19)), .int (iI (σ 6)), .ref (a 5), .int (iI (σ 20)), .ref (a 6), .int (iI (dg + 1))])), (a 6, .inl (cA, 20, .inl (upd fd (dg).toNat (iI (48 + ((v / 1) % 10))))))] := hD
    refine lv_iload hx hb dX5_decimal_131 (lv_at hl 1 rfl) ?_
    refine lv_bipush (v := iI 10) hx hb dX5_decimal_133 (by decide) ?_
    refine z_idiv hx hb (by omega) dX5_decimal_135 ?_
    refine lv_istore (lv' := [(4, .int (iI (1 / 10))), (5, .int (iI 1)), (3, .int (iI v)), (0, .ref (a 0)), (1, .int (iI v)), (2, .int (iI w))]) hx hb dX5_decimal_136 hl (by decide) rfl (fun ls hl => ?_)
    have hl : lv_has ls 6 [(4, .int (iI 0)), (5, .int (iI 1)), (3, .int (iI v)), (0, .ref (a 0)), (1, .int (iI v)), (2, .int (iI w))] := by rw [show (0 : Int) = 1 / 10 by omega]; exact hl
    refine lv_goto (tgt := 97) hx hb dX5_decimal_138 (by decide) ?_
    refine lv_iload hx hb dX5_decimal_97 (lv_at hl 0 rfl) ?_
    refine z_if_le hx hb 141 (by omega) dX5_decimal_99 (by decide) (fun c99 => ?_) (fun c99 => absurd c99 (by omega))
    have e9 : (if w = 1 then dec v else dec2 v) = [48 + ((v / 1) % 10)] := by
      unfold dec digs
      simp only [if_pos (show w = 1 by omega), if_neg (show ¬ v < 0 by omega), if_pos (show v < 10 by omega)]
      first | rfl | (simp only [List.cons.injEq, and_true, true_and]; omega)
    have hx9 : zTx (upd fd (dg).toNat (iI (48 + ((v / 1) % 10)))) (tx ++ [48 + ((v / 1) % 10)]) := (tx_app hT0 (by (try simp only [List.length_append, List.length_cons, List.length_nil]); omega))
    have h9 : tx ++ (if w = 1 then dec v else dec2 v) = tx ++ [48 + ((v / 1) % 10)] := by rw [e9] <;> simp
    have hn9 : dg + (((if w = 1 then dec v else dec2 v)).length : Int) = dg + 1 := by rw [e9]; (try simp only [List.length_cons, List.length_nil]); omega
    exact K H locs (upd fd (dg).toNat (iI (48 + ((v / 1) % 10)))) _ ls 0 0 (by omega) (by omega) (by rw [h9]; exact hx9) (by rw [hn9]; exact hP) (by rw [hn9]; exact hD) hS dX5_decimal_141
  · skip
    refine lv_iload_n hx hb dX5_decimal_0 rfl (lv_at hl 1 rfl) ?_
    refine z_if_ge hx hb 9 (by omega) dX5_decimal_1 (by decide) (fun c1 => ?_) (fun c1 => absurd c1 (by omega))
    refine lv_iload_n hx hb dX5_decimal_9 rfl (lv_at hl 1 rfl) ?_
    refine lv_istore_n (lv' := [(3, .int (iI v)), (0, .ref (a 0)), (1, .int (iI v)), (2, .int (iI w))]) hx hb dX5_decimal_10 rfl hl (by decide) rfl (fun ls hl => ?_)
    refine lv_iload_n hx hb dX5_decimal_11 rfl (lv_at hl 2 rfl) ?_
    refine z_if_ge hx hb 36 (by omega) dX5_decimal_12 (by decide) (fun c12 => ?_) (fun c12 => absurd c12 (by omega))
    refine lv_iconst (v := iI 1) hx hb dX5_decimal_36 rfl ?_
    refine lv_istore (lv' := [(4, .int (iI 1)), (3, .int (iI v)), (0, .ref (a 0)), (1, .int (iI v)), (2, .int (iI w))]) hx hb dX5_decimal_37 hl (by decide) rfl (fun ls hl => ?_)
    refine lv_iconst (v := iI 1) hx hb dX5_decimal_39 rfl ?_
    refine lv_istore (lv' := [(5, .int (iI 1)), (4, .int (iI 1)), (3, .int (iI v)), (0, .ref (a 0)), (1, .int (iI v)), (2, .int (iI w))]) hx hb dX5_decimal_40 hl (by decide) rfl (fun ls hl => ?_)
    refine lv_iload_n hx hb dX5_decimal_42 rfl (lv_at hl 2 rfl) ?_
    refine lv_iload hx hb dX5_decimal_43 (lv_at hl 1 rfl) ?_
    refine z_idiv hx hb (by omega) dX5_decimal_45 ?_
    refine lv_bipush (v := iI 9) hx hb dX5_decimal_46 (by decide) ?_
    refine z_icmp_le hx hb 64 (by omega) dX5_decimal_48 (by decide) (fun c48 => absurd c48 (by omega)) (fun c48 => ?_)
    refine lv_iload hx hb dX5_decimal_51 (lv_at hl 1 rfl) ?_
    refine lv_bipush (v := iI 10) hx hb dX5_decimal_53 (by decide) ?_
    refine z_imul hx hb dX5_decimal_55 ?_
    refine lv_istore (lv' := [(4, .int (iI (1 * 10))), (5, .int (iI 1)), (3, .int (iI v)), (0, .ref (a 0)), (1, .int (iI v)), (2, .int (iI w))]) hx hb dX5_decimal_56 hl (by decide) rfl (fun ls hl => ?_)
    have hl : lv_has ls 6 [(4, .int (iI 10)), (5, .int (iI 1)), (3, .int (iI v)), (0, .ref (a 0)), (1, .int (iI v)), (2, .int (iI w))] := by rw [show (10 : Int) = 1 * 10 by omega]; exact hl
    refine lv_iinc (v := iI (1 + 1)) (lv' := [(5, .int (iI (1 + 1))), (4, .int (iI 10)), (3, .int (iI v)), (0, .ref (a 0)), (1, .int (iI v)), (2, .int (iI w))]) hx hb dX5_decimal_58 hl (k := 1) rfl (iI_add _ _) (by decide) rfl (fun ls hl => ?_)
    have hl : lv_has ls 6 [(5, .int (iI 2)), (4, .int (iI 10)), (3, .int (iI v)), (0, .ref (a 0)), (1, .int (iI v)), (2, .int (iI w))] := by rw [show (2 : Int) = 1 + 1 by omega]; exact hl
    refine lv_goto (tgt := 42) hx hb dX5_decimal_61 (by decide) ?_
    refine lv_iload_n hx hb dX5_decimal_42 rfl (lv_at hl 2 rfl) ?_
    refine lv_iload hx hb dX5_decimal_43 (lv_at hl 1 rfl) ?_
    refine z_idiv hx hb (by omega) dX5_decimal_45 ?_
    refine lv_bipush (v := iI 9) hx hb dX5_decimal_46 (by decide) ?_
    refine z_icmp_le hx hb 64 (by omega) dX5_decimal_48 (by decide) (fun c48 => ?_) (fun c48 => absurd c48 (by omega))
    refine lv_iload hx hb dX5_decimal_64 (lv_at hl 0 rfl) ?_
    refine lv_iload_n hx hb dX5_decimal_66 rfl (lv_at hl 5 rfl) ?_
    refine z_icmp_ge hx hb 97 (by omega) dX5_decimal_67 (by decide) (fun c67 => ?_) (fun c67 => absurd c67 (by omega))
    refine lv_iload hx hb dX5_decimal_97 (lv_at hl 1 rfl) ?_
    refine z_if_le hx hb 141 (by omega) dX5_decimal_99 (by decide) (fun c99 => absurd c99 (by omega)) (fun c99 => ?_)
    refine lv_aload_n hx hb dX5_decimal_102 rfl (lv_at hl 3 rfl) ?_
    refine va_get (D := D) (ci := 6) (v := .ref (a 6)) (C := RX5) (T := TX5) (N := 28) hx hb hts inX5 hown hK hP 0 rfl rfl 26 (by decide) kfieldLink_RX5_48_ZScreensModel_digit_I (fun _ h9 => h9) rfl dX5_decimal_103 ?_
    refine lv_aload_n hx hb dX5_decimal_106 rfl (lv_at hl 3 rfl) ?_
    refine va_get (D := D) (ci := 6) (v := .int (iI dg)) (C := RX5) (T := TX5) (N := 28) hx hb hts inX5 hown hK hP 0 rfl rfl 27 (by decide) kfieldLink_RX5_145_ZScreensModel_digits_I (fun _ h9 => h9) rfl dX5_decimal_107 ?_
    refine lv_bipush (v := iI 48) hx hb dX5_decimal_110 (by decide) ?_
    refine lv_iload_n hx hb dX5_decimal_112 rfl (lv_at hl 2 rfl) ?_
    refine lv_iload hx hb dX5_decimal_113 (lv_at hl 1 rfl) ?_
    refine z_idiv hx hb (by omega) dX5_decimal_115 ?_
    refine lv_bipush (v := iI 10) hx hb dX5_decimal_116 (by decide) ?_
    refine z_irem hx hb (by omega) dX5_decimal_118 ?_
    refine z_iadd hx hb dX5_decimal_119 ?_
    refine z_iast hx hb hK hP hD hS 1 0 rfl rfl (by omega) dX5_decimal_120 (fun H locs hP hD hS => ?_)
    have hP : va_P D vwCl [(a 0, .inr (6, [.ref (a 1), .ref (a 2), .int (iI (σ 0)), .int (iI (σ 2)), .int (iI (σ 1)), .int (iI (σ 3)), .int (iI (σ 4)), .int (iI (σ 10)), .int (iI (σ 11)), .int (iI (σ 12)), .int (iI (σ 13)), .int (iI (σ 7)), .int (iI (σ 8)), .int (iI (σ 9)), .int (iI (σ 5)), .ref (a 3), .int (iI (σ 18)), .int (iI (σ 14)), .int (iI (σ 15)), .int (iI (σ 16)), .int (iI (σ 17)), .ref (a 4), .int (iI (σ 19)), .int (iI (σ 6)), .ref (a 5), .int (iI (σ 20)), .ref (a 6), .int (iI dg)])), (a 6, .inl (cA, 20, .inl (upd fd (dg).toNat (iI (48 + ((v / 10) % 10))))))] H := hP
    have hD : va_D A [(a 0, .inr (6, [.ref (a 1), .ref (a 2), .int (iI (σ 0)), .int (iI (σ 2)), .int (iI (σ 1)), .int (iI (σ 3)), .int (iI (σ 4)), .int (iI (σ 10)), .int (iI (σ 11)), .int (iI (σ 12)), .int (iI (σ 13)), .int (iI (σ 7)), .int (iI (σ 8)), .int (iI (σ 9)), .int (iI (σ 5)), .ref (a 3), .int (iI (σ 18)), .int (iI (σ 14)), .int (iI (σ 15)), .int (iI (σ 16)), .int (iI (σ 17)), .ref (a 4), .int (iI (σ 19)), .int (iI (σ 6)), .ref (a 5), .int (iI (σ 20)), .ref (a 6), .int (iI dg)])), (a 6, .inl (cA, 20, .inl (upd fd (dg).toNat (iI (48 + ((v / 10) % 10))))))] := hD
    refine lv_aload_n hx hb dX5_decimal_121 rfl (lv_at hl 3 rfl) ?_
    refine lv_dup hx hb dX5_decimal_122 rfl ?_
    refine va_get (D := D) (ci := 6) (v := .int (iI dg)) (C := RX5) (T := TX5) (N := 28) hx hb hts inX5 hown hK hP 0 rfl rfl 27 (by decide) kfieldLink_RX5_145_ZScreensModel_digits_I (fun _ h9 => h9) rfl dX5_decimal_123 ?_
    refine lv_iconst (v := iI 1) hx hb dX5_decimal_126 rfl ?_
    refine z_iadd hx hb dX5_decimal_127 ?_
    refine va_put (D := D) (ci := 6) (v := .int (iI (dg + 1))) (ty := .int) (C := RX5) (T := TX5) (N := 28) hx hb hts inX5 tyX5 tyX5_ok nmX5 hown hK hP hD hS 0 rfl rfl 27 (by decide) kfieldLink_RX5_145_ZScreensModel_digits_I (fun _ h9 => h9) rfl (by decide +kernel) rfl rfl (Nat.le_of_ble_eq_true rfl) dX5_decimal_128 (fun H locs hP hD hS => ?_)
    have hP : va_P D vwCl [(a 0, .inr (6, [.ref (a 1), .ref (a 2), .int (iI (σ 0)), .int (iI (σ 2)), .int (iI (σ 1)), .int (iI (σ 3)), .int (iI (σ 4)), .int (iI (σ 10)), .int (iI (σ 11)), .int (iI (σ 12)), .int (iI (σ 13)), .int (iI (σ 7)), .int (iI (σ 8)), .int (iI (σ 9)), .int (iI (σ 5)), .ref (a 3), .int (iI (σ 18)), .int (iI (σ 14)), .int (iI (σ 15)), .int (iI (σ 16)), .int (iI (σ 17)), .ref (a 4), .int (iI (σ 19)), .int (iI (σ 6)), .ref (a 5), .int (iI (σ 20)), .ref (a 6), .int (iI (dg + 1))])), (a 6, .inl (cA, 20, .inl (upd fd (dg).toNat (iI (48 + ((v / 10) % 10))))))] H := hP
    have hD : va_D A [(a 0, .inr (6, [.ref (a 1), .ref (a 2), .int (iI (σ 0)), .int (iI (σ 2)), .int (iI (σ 1)), .int (iI (σ 3)), .int (iI (σ 4)), .int (iI (σ 10)), .int (iI (σ 11)), .int (iI (σ 12)), .int (iI (σ 13)), .int (iI (σ 7)), .int (iI (σ 8)), .int (iI (σ 9)), .int (iI (σ 5)), .ref (a 3), .int (iI (σ 18)), .int (iI (σ 14)), .int (iI (σ 15)), .int (iI (σ 16)), .int (iI (σ 17)), .ref (a 4), .int (iI (σ 19)), .int (iI (σ 6)), .ref (a 5), .int (iI (σ 20)), .ref (a 6), .int (iI (dg + 1))])), (a 6, .inl (cA, 20, .inl (upd fd (dg).toNat (iI (48 + ((v / 10) % 10))))))] := hD
    refine lv_iload hx hb dX5_decimal_131 (lv_at hl 1 rfl) ?_
    refine lv_bipush (v := iI 10) hx hb dX5_decimal_133 (by decide) ?_
    refine z_idiv hx hb (by omega) dX5_decimal_135 ?_
    refine lv_istore (lv' := [(4, .int (iI (10 / 10))), (5, .int (iI 2)), (3, .int (iI v)), (0, .ref (a 0)), (1, .int (iI v)), (2, .int (iI w))]) hx hb dX5_decimal_136 hl (by decide) rfl (fun ls hl => ?_)
    have hl : lv_has ls 6 [(4, .int (iI 1)), (5, .int (iI 2)), (3, .int (iI v)), (0, .ref (a 0)), (1, .int (iI v)), (2, .int (iI w))] := by rw [show (1 : Int) = 10 / 10 by omega]; exact hl
    refine lv_goto (tgt := 97) hx hb dX5_decimal_138 (by decide) ?_
    refine lv_iload hx hb dX5_decimal_97 (lv_at hl 0 rfl) ?_
    refine z_if_le hx hb 141 (by omega) dX5_decimal_99 (by decide) (fun c99 => absurd c99 (by omega)) (fun c99 => ?_)
    refine lv_aload_n hx hb dX5_decimal_102 rfl (lv_at hl 3 rfl) ?_
    refine va_get (D := D) (ci := 6) (v := .ref (a 6)) (C := RX5) (T := TX5) (N := 28) hx hb hts inX5 hown hK hP 0 rfl rfl 26 (by decide) kfieldLink_RX5_48_ZScreensModel_digit_I (fun _ h9 => h9) rfl dX5_decimal_103 ?_
    refine lv_aload_n hx hb dX5_decimal_106 rfl (lv_at hl 3 rfl) ?_
    refine va_get (D := D) (ci := 6) (v := .int (iI (dg + 1))) (C := RX5) (T := TX5) (N := 28) hx hb hts inX5 hown hK hP 0 rfl rfl 27 (by decide) kfieldLink_RX5_145_ZScreensModel_digits_I (fun _ h9 => h9) rfl dX5_decimal_107 ?_
    refine lv_bipush (v := iI 48) hx hb dX5_decimal_110 (by decide) ?_
    refine lv_iload_n hx hb dX5_decimal_112 rfl (lv_at hl 2 rfl) ?_
    refine lv_iload hx hb dX5_decimal_113 (lv_at hl 0 rfl) ?_
    refine z_idiv hx hb (by omega) dX5_decimal_115 ?_
    refine lv_bipush (v := iI 10) hx hb dX5_decimal_116 (by decide) ?_
    refine z_irem hx hb (by omega) dX5_decimal_118 ?_
    refine z_iadd hx hb dX5_decimal_119 ?_
    refine z_iast hx hb hK hP hD hS 1 0 rfl rfl (by omega) dX5_decimal_120 (fun H locs hP hD hS => ?_)
    have hP : va_P D vwCl [(a 0, .inr (6, [.ref (a 1), .ref (a 2), .int (iI (σ 0)), .int (iI (σ 2)), .int (iI (σ 1)), .int (iI (σ 3)), .int (iI (σ 4)), .int (iI (σ 10)), .int (iI (σ 11)), .int (iI (σ 12)), .int (iI (σ 13)), .int (iI (σ 7)), .int (iI (σ 8)), .int (iI (σ 9)), .int (iI (σ 5)), .ref (a 3), .int (iI (σ 18)), .int (iI (σ 14)), .int (iI (σ 15)), .int (iI (σ 16)), .int (iI (σ 17)), .ref (a 4), .int (iI (σ 19)), .int (iI (σ 6)), .ref (a 5), .int (iI (σ 20)), .ref (a 6), .int (iI (dg + 1))])), (a 6, .inl (cA, 20, .inl (upd (upd fd (dg).toNat (iI (48 + ((v / 10) % 10)))) (dg + 1).toNat (iI (48 + ((v / 1) % 10))))))] H := hP
    have hD : va_D A [(a 0, .inr (6, [.ref (a 1), .ref (a 2), .int (iI (σ 0)), .int (iI (σ 2)), .int (iI (σ 1)), .int (iI (σ 3)), .int (iI (σ 4)), .int (iI (σ 10)), .int (iI (σ 11)), .int (iI (σ 12)), .int (iI (σ 13)), .int (iI (σ 7)), .int (iI (σ 8)), .int (iI (σ 9)), .int (iI (σ 5)), .ref (a 3), .int (iI (σ 18)), .int (iI (σ 14)), .int (iI (σ 15)), .int (iI (σ 16)), .int (iI (σ 17)), .ref (a 4), .int (iI (σ 19)), .int (iI (σ 6)), .ref (a 5), .int (iI (σ 20)), .ref (a 6), .int (iI (dg + 1))])), (a 6, .inl (cA, 20, .inl (upd (upd fd (dg).toNat (iI (48 + ((v / 10) % 10)))) (dg + 1).toNat (iI (48 + ((v / 1) % 10))))))] := hD
    refine lv_aload_n hx hb dX5_decimal_121 rfl (lv_at hl 3 rfl) ?_
    refine lv_dup hx hb dX5_decimal_122 rfl ?_
    refine va_get (D := D) (ci := 6) (v := .int (iI (dg + 1))) (C := RX5) (T := TX5) (N := 28) hx hb hts inX5 hown hK hP 0 rfl rfl 27 (by decide) kfieldLink_RX5_145_ZScreensModel_digits_I (fun _ h9 => h9) rfl dX5_decimal_123 ?_
    refine lv_iconst (v := iI 1) hx hb dX5_decimal_126 rfl ?_
    refine z_iadd hx hb dX5_decimal_127 ?_
    refine va_put (D := D) (ci := 6) (v := .int (iI ((dg + 1) + 1))) (ty := .int) (C := RX5) (T := TX5) (N := 28) hx hb hts inX5 tyX5 tyX5_ok nmX5 hown hK hP hD hS 0 rfl rfl 27 (by decide) kfieldLink_RX5_145_ZScreensModel_digits_I (fun _ h9 => h9) rfl (by decide +kernel) rfl rfl (Nat.le_of_ble_eq_true rfl) dX5_decimal_128 (fun H locs hP hD hS => ?_)
    have hP : va_P D vwCl [(a 0, .inr (6, [.ref (a 1), .ref (a 2), .int (iI (σ 0)), .int (iI (σ 2)), .int (iI (σ 1)), .int (iI (σ 3)), .int (iI (σ 4)), .int (iI (σ 10)), .int (iI (σ 11)), .int (iI (σ 12)), .int (iI (σ 13)), .int (iI (σ 7)), .int (iI (σ 8)), .int (iI (σ 9)), .int (iI (σ 5)), .ref (a 3), .int (iI (σ 18)), .int (iI (σ 14)), .int (iI (σ 15)), .int (iI (σ 16)), .int (iI (σ 17)), .ref (a 4), .int (iI (σ 19)), .int (iI (σ 6)), .ref (a 5), .int (iI (σ 20)), .ref (a 6), .int (iI ((dg + 1) + 1))])), (a 6, .inl (cA, 20, .inl (upd (upd fd (dg).toNat (iI (48 + ((v / 10) % 10)))) (dg + 1).toNat (iI (48 + ((v / 1) % 10))))))] H := hP
    have hD : va_D A [(a 0, .inr (6, [.ref (a 1), .ref (a 2), .int (iI (σ 0)), .int (iI (σ 2)), .int (iI (σ 1)), .int (iI (σ 3)), .int (iI (σ 4)), .int (iI (σ 10)), .int (iI (σ 11)), .int (iI (σ 12)), .int (iI (σ 13)), .int (iI (σ 7)), .int (iI (σ 8)), .int (iI (σ 9)), .int (iI (σ 5)), .ref (a 3), .int (iI (σ 18)), .int (iI (σ 14)), .int (iI (σ 15)), .int (iI (σ 16)), .int (iI (σ 17)), .ref (a 4), .int (iI (σ 19)), .int (iI (σ 6)), .ref (a 5), .int (iI (σ 20)), .ref (a 6), .int (iI ((dg + 1) + 1))])), (a 6, .inl (cA, 20, .inl (upd (upd fd (dg).toNat (iI (48 + ((v / 10) % 10)))) (dg + 1).toNat (iI (48 + ((v / 1) % 10))))))] := hD
    refine lv_iload hx hb dX5_decimal_131 (lv_at hl 0 rfl) ?_
    refine lv_bipush (v := iI 10) hx hb dX5_decimal_133 (by decide) ?_
    refine z_idiv hx hb (by omega) dX5_decimal_135 ?_
    refine lv_istore (lv' := [(4, .int (iI (1 / 10))), (5, .int (iI 2)), (3, .int (iI v)), (0, .ref (a 0)), (1, .int (iI v)), (2, .int (iI w))]) hx hb dX5_decimal_136 hl (by decide) rfl (fun ls hl => ?_)
    have hl : lv_has ls 6 [(4, .int (iI 0)), (5, .int (iI 2)), (3, .int (iI v)), (0, .ref (a 0)), (1, .int (iI v)), (2, .int (iI w))] := by rw [show (0 : Int) = 1 / 10 by omega]; exact hl
    refine lv_goto (tgt := 97) hx hb dX5_decimal_138 (by decide) ?_
    refine lv_iload hx hb dX5_decimal_97 (lv_at hl 0 rfl) ?_
    refine z_if_le hx hb 141 (by omega) dX5_decimal_99 (by decide) (fun c99 => ?_) (fun c99 => absurd c99 (by omega))
    have e9 : (if w = 1 then dec v else dec2 v) = [48 + ((v / 10) % 10), 48 + ((v / 1) % 10)] := by
      unfold dec digs
      simp only [if_pos (show w = 1 by omega), if_neg (show ¬ v < 0 by omega), if_neg (show ¬ v < 10 by omega), if_pos (show v < 100 by omega)]
      first | rfl | (simp only [List.cons.injEq, and_true, true_and]; omega)
    have hx9 : zTx (upd (upd fd (dg).toNat (iI (48 + ((v / 10) % 10)))) (dg + 1).toNat (iI (48 + ((v / 1) % 10)))) (tx ++ [48 + ((v / 10) % 10)] ++ [48 + ((v / 1) % 10)]) := (tx_app (tx_app hT0 (by (try simp only [List.length_append, List.length_cons, List.length_nil]); omega)) (by (try simp only [List.length_append, List.length_cons, List.length_nil]); omega))
    have h9 : tx ++ (if w = 1 then dec v else dec2 v) = tx ++ [48 + ((v / 10) % 10)] ++ [48 + ((v / 1) % 10)] := by rw [e9] <;> simp
    have hn9 : dg + (((if w = 1 then dec v else dec2 v)).length : Int) = (dg + 1) + 1 := by rw [e9]; (try simp only [List.length_cons, List.length_nil]); omega
    exact K H locs (upd (upd fd (dg).toNat (iI (48 + ((v / 10) % 10)))) (dg + 1).toNat (iI (48 + ((v / 1) % 10)))) _ ls 0 0 (by omega) (by omega) (by rw [h9]; exact hx9) (by rw [hn9]; exact hP) (by rw [hn9]; exact hD) hS dX5_decimal_141
  · skip
    refine lv_iload_n hx hb dX5_decimal_0 rfl (lv_at hl 1 rfl) ?_
    refine z_if_ge hx hb 9 (by omega) dX5_decimal_1 (by decide) (fun c1 => ?_) (fun c1 => absurd c1 (by omega))
    refine lv_iload_n hx hb dX5_decimal_9 rfl (lv_at hl 1 rfl) ?_
    refine lv_istore_n (lv' := [(3, .int (iI v)), (0, .ref (a 0)), (1, .int (iI v)), (2, .int (iI w))]) hx hb dX5_decimal_10 rfl hl (by decide) rfl (fun ls hl => ?_)
    refine lv_iload_n hx hb dX5_decimal_11 rfl (lv_at hl 2 rfl) ?_
    refine z_if_ge hx hb 36 (by omega) dX5_decimal_12 (by decide) (fun c12 => ?_) (fun c12 => absurd c12 (by omega))
    refine lv_iconst (v := iI 1) hx hb dX5_decimal_36 rfl ?_
    refine lv_istore (lv' := [(4, .int (iI 1)), (3, .int (iI v)), (0, .ref (a 0)), (1, .int (iI v)), (2, .int (iI w))]) hx hb dX5_decimal_37 hl (by decide) rfl (fun ls hl => ?_)
    refine lv_iconst (v := iI 1) hx hb dX5_decimal_39 rfl ?_
    refine lv_istore (lv' := [(5, .int (iI 1)), (4, .int (iI 1)), (3, .int (iI v)), (0, .ref (a 0)), (1, .int (iI v)), (2, .int (iI w))]) hx hb dX5_decimal_40 hl (by decide) rfl (fun ls hl => ?_)
    refine lv_iload_n hx hb dX5_decimal_42 rfl (lv_at hl 2 rfl) ?_
    refine lv_iload hx hb dX5_decimal_43 (lv_at hl 1 rfl) ?_
    refine z_idiv hx hb (by omega) dX5_decimal_45 ?_
    refine lv_bipush (v := iI 9) hx hb dX5_decimal_46 (by decide) ?_
    refine z_icmp_le hx hb 64 (by omega) dX5_decimal_48 (by decide) (fun c48 => absurd c48 (by omega)) (fun c48 => ?_)
    refine lv_iload hx hb dX5_decimal_51 (lv_at hl 1 rfl) ?_
    refine lv_bipush (v := iI 10) hx hb dX5_decimal_53 (by decide) ?_
    refine z_imul hx hb dX5_decimal_55 ?_
    refine lv_istore (lv' := [(4, .int (iI (1 * 10))), (5, .int (iI 1)), (3, .int (iI v)), (0, .ref (a 0)), (1, .int (iI v)), (2, .int (iI w))]) hx hb dX5_decimal_56 hl (by decide) rfl (fun ls hl => ?_)
    have hl : lv_has ls 6 [(4, .int (iI 10)), (5, .int (iI 1)), (3, .int (iI v)), (0, .ref (a 0)), (1, .int (iI v)), (2, .int (iI w))] := by rw [show (10 : Int) = 1 * 10 by omega]; exact hl
    refine lv_iinc (v := iI (1 + 1)) (lv' := [(5, .int (iI (1 + 1))), (4, .int (iI 10)), (3, .int (iI v)), (0, .ref (a 0)), (1, .int (iI v)), (2, .int (iI w))]) hx hb dX5_decimal_58 hl (k := 1) rfl (iI_add _ _) (by decide) rfl (fun ls hl => ?_)
    have hl : lv_has ls 6 [(5, .int (iI 2)), (4, .int (iI 10)), (3, .int (iI v)), (0, .ref (a 0)), (1, .int (iI v)), (2, .int (iI w))] := by rw [show (2 : Int) = 1 + 1 by omega]; exact hl
    refine lv_goto (tgt := 42) hx hb dX5_decimal_61 (by decide) ?_
    refine lv_iload_n hx hb dX5_decimal_42 rfl (lv_at hl 2 rfl) ?_
    refine lv_iload hx hb dX5_decimal_43 (lv_at hl 1 rfl) ?_
    refine z_idiv hx hb (by omega) dX5_decimal_45 ?_
    refine lv_bipush (v := iI 9) hx hb dX5_decimal_46 (by decide) ?_
    refine z_icmp_le hx hb 64 (by omega) dX5_decimal_48 (by decide) (fun c48 => absurd c48 (by omega)) (fun c48 => ?_)
    refine lv_iload hx hb dX5_decimal_51 (lv_at hl 1 rfl) ?_
    refine lv_bipush (v := iI 10) hx hb dX5_decimal_53 (by decide) ?_
    refine z_imul hx hb dX5_decimal_55 ?_
    refine lv_istore (lv' := [(4, .int (iI (10 * 10))), (5, .int (iI 2)), (3, .int (iI v)), (0, .ref (a 0)), (1, .int (iI v)), (2, .int (iI w))]) hx hb dX5_decimal_56 hl (by decide) rfl (fun ls hl => ?_)
    have hl : lv_has ls 6 [(4, .int (iI 100)), (5, .int (iI 2)), (3, .int (iI v)), (0, .ref (a 0)), (1, .int (iI v)), (2, .int (iI w))] := by rw [show (100 : Int) = 10 * 10 by omega]; exact hl
    refine lv_iinc (v := iI (2 + 1)) (lv' := [(5, .int (iI (2 + 1))), (4, .int (iI 100)), (3, .int (iI v)), (0, .ref (a 0)), (1, .int (iI v)), (2, .int (iI w))]) hx hb dX5_decimal_58 hl (k := 1) rfl (iI_add _ _) (by decide) rfl (fun ls hl => ?_)
    have hl : lv_has ls 6 [(5, .int (iI 3)), (4, .int (iI 100)), (3, .int (iI v)), (0, .ref (a 0)), (1, .int (iI v)), (2, .int (iI w))] := by rw [show (3 : Int) = 2 + 1 by omega]; exact hl
    refine lv_goto (tgt := 42) hx hb dX5_decimal_61 (by decide) ?_
    refine lv_iload_n hx hb dX5_decimal_42 rfl (lv_at hl 2 rfl) ?_
    refine lv_iload hx hb dX5_decimal_43 (lv_at hl 1 rfl) ?_
    refine z_idiv hx hb (by omega) dX5_decimal_45 ?_
    refine lv_bipush (v := iI 9) hx hb dX5_decimal_46 (by decide) ?_
    refine z_icmp_le hx hb 64 (by omega) dX5_decimal_48 (by decide) (fun c48 => ?_) (fun c48 => absurd c48 (by omega))
    refine lv_iload hx hb dX5_decimal_64 (lv_at hl 0 rfl) ?_
    refine lv_iload_n hx hb dX5_decimal_66 rfl (lv_at hl 5 rfl) ?_
    refine z_icmp_ge hx hb 97 (by omega) dX5_decimal_67 (by decide) (fun c67 => ?_) (fun c67 => absurd c67 (by omega))
    refine lv_iload hx hb dX5_decimal_97 (lv_at hl 1 rfl) ?_
    refine z_if_le hx hb 141 (by omega) dX5_decimal_99 (by decide) (fun c99 => absurd c99 (by omega)) (fun c99 => ?_)
    refine lv_aload_n hx hb dX5_decimal_102 rfl (lv_at hl 3 rfl) ?_
    refine va_get (D := D) (ci := 6) (v := .ref (a 6)) (C := RX5) (T := TX5) (N := 28) hx hb hts inX5 hown hK hP 0 rfl rfl 26 (by decide) kfieldLink_RX5_48_ZScreensModel_digit_I (fun _ h9 => h9) rfl dX5_decimal_103 ?_
    refine lv_aload_n hx hb dX5_decimal_106 rfl (lv_at hl 3 rfl) ?_
    refine va_get (D := D) (ci := 6) (v := .int (iI dg)) (C := RX5) (T := TX5) (N := 28) hx hb hts inX5 hown hK hP 0 rfl rfl 27 (by decide) kfieldLink_RX5_145_ZScreensModel_digits_I (fun _ h9 => h9) rfl dX5_decimal_107 ?_
    refine lv_bipush (v := iI 48) hx hb dX5_decimal_110 (by decide) ?_
    refine lv_iload_n hx hb dX5_decimal_112 rfl (lv_at hl 2 rfl) ?_
    refine lv_iload hx hb dX5_decimal_113 (lv_at hl 1 rfl) ?_
    refine z_idiv hx hb (by omega) dX5_decimal_115 ?_
    refine lv_bipush (v := iI 10) hx hb dX5_decimal_116 (by decide) ?_
    refine z_irem hx hb (by omega) dX5_decimal_118 ?_
    refine z_iadd hx hb dX5_decimal_119 ?_
    refine z_iast hx hb hK hP hD hS 1 0 rfl rfl (by omega) dX5_decimal_120 (fun H locs hP hD hS => ?_)
    have hP : va_P D vwCl [(a 0, .inr (6, [.ref (a 1), .ref (a 2), .int (iI (σ 0)), .int (iI (σ 2)), .int (iI (σ 1)), .int (iI (σ 3)), .int (iI (σ 4)), .int (iI (σ 10)), .int (iI (σ 11)), .int (iI (σ 12)), .int (iI (σ 13)), .int (iI (σ 7)), .int (iI (σ 8)), .int (iI (σ 9)), .int (iI (σ 5)), .ref (a 3), .int (iI (σ 18)), .int (iI (σ 14)), .int (iI (σ 15)), .int (iI (σ 16)), .int (iI (σ 17)), .ref (a 4), .int (iI (σ 19)), .int (iI (σ 6)), .ref (a 5), .int (iI (σ 20)), .ref (a 6), .int (iI dg)])), (a 6, .inl (cA, 20, .inl (upd fd (dg).toNat (iI (48 + ((v / 100) % 10))))))] H := hP
    have hD : va_D A [(a 0, .inr (6, [.ref (a 1), .ref (a 2), .int (iI (σ 0)), .int (iI (σ 2)), .int (iI (σ 1)), .int (iI (σ 3)), .int (iI (σ 4)), .int (iI (σ 10)), .int (iI (σ 11)), .int (iI (σ 12)), .int (iI (σ 13)), .int (iI (σ 7)), .int (iI (σ 8)), .int (iI (σ 9)), .int (iI (σ 5)), .ref (a 3), .int (iI (σ 18)), .int (iI (σ 14)), .int (iI (σ 15)), .int (iI (σ 16)), .int (iI (σ 17)), .ref (a 4), .int (iI (σ 19)), .int (iI (σ 6)), .ref (a 5), .int (iI (σ 20)), .ref (a 6), .int (iI dg)])), (a 6, .inl (cA, 20, .inl (upd fd (dg).toNat (iI (48 + ((v / 100) % 10))))))] := hD
    refine lv_aload_n hx hb dX5_decimal_121 rfl (lv_at hl 3 rfl) ?_
    refine lv_dup hx hb dX5_decimal_122 rfl ?_
    refine va_get (D := D) (ci := 6) (v := .int (iI dg)) (C := RX5) (T := TX5) (N := 28) hx hb hts inX5 hown hK hP 0 rfl rfl 27 (by decide) kfieldLink_RX5_145_ZScreensModel_digits_I (fun _ h9 => h9) rfl dX5_decimal_123 ?_
    refine lv_iconst (v := iI 1) hx hb dX5_decimal_126 rfl ?_
    refine z_iadd hx hb dX5_decimal_127 ?_
    refine va_put (D := D) (ci := 6) (v := .int (iI (dg + 1))) (ty := .int) (C := RX5) (T := TX5) (N := 28) hx hb hts inX5 tyX5 tyX5_ok nmX5 hown hK hP hD hS 0 rfl rfl 27 (by decide) kfieldLink_RX5_145_ZScreensModel_digits_I (fun _ h9 => h9) rfl (by decide +kernel) rfl rfl (Nat.le_of_ble_eq_true rfl) dX5_decimal_128 (fun H locs hP hD hS => ?_)
    have hP : va_P D vwCl [(a 0, .inr (6, [.ref (a 1), .ref (a 2), .int (iI (σ 0)), .int (iI (σ 2)), .int (iI (σ 1)), .int (iI (σ 3)), .int (iI (σ 4)), .int (iI (σ 10)), .int (iI (σ 11)), .int (iI (σ 12)), .int (iI (σ 13)), .int (iI (σ 7)), .int (iI (σ 8)), .int (iI (σ 9)), .int (iI (σ 5)), .ref (a 3), .int (iI (σ 18)), .int (iI (σ 14)), .int (iI (σ 15)), .int (iI (σ 16)), .int (iI (σ 17)), .ref (a 4), .int (iI (σ 19)), .int (iI (σ 6)), .ref (a 5), .int (iI (σ 20)), .ref (a 6), .int (iI (dg + 1))])), (a 6, .inl (cA, 20, .inl (upd fd (dg).toNat (iI (48 + ((v / 100) % 10))))))] H := hP
    have hD : va_D A [(a 0, .inr (6, [.ref (a 1), .ref (a 2), .int (iI (σ 0)), .int (iI (σ 2)), .int (iI (σ 1)), .int (iI (σ 3)), .int (iI (σ 4)), .int (iI (σ 10)), .int (iI (σ 11)), .int (iI (σ 12)), .int (iI (σ 13)), .int (iI (σ 7)), .int (iI (σ 8)), .int (iI (σ 9)), .int (iI (σ 5)), .ref (a 3), .int (iI (σ 18)), .int (iI (σ 14)), .int (iI (σ 15)), .int (iI (σ 16)), .int (iI (σ 17)), .ref (a 4), .int (iI (σ 19)), .int (iI (σ 6)), .ref (a 5), .int (iI (σ 20)), .ref (a 6), .int (iI (dg + 1))])), (a 6, .inl (cA, 20, .inl (upd fd (dg).toNat (iI (48 + ((v / 100) % 10))))))] := hD
    refine lv_iload hx hb dX5_decimal_131 (lv_at hl 1 rfl) ?_
    refine lv_bipush (v := iI 10) hx hb dX5_decimal_133 (by decide) ?_
    refine z_idiv hx hb (by omega) dX5_decimal_135 ?_
    refine lv_istore (lv' := [(4, .int (iI (100 / 10))), (5, .int (iI 3)), (3, .int (iI v)), (0, .ref (a 0)), (1, .int (iI v)), (2, .int (iI w))]) hx hb dX5_decimal_136 hl (by decide) rfl (fun ls hl => ?_)
    have hl : lv_has ls 6 [(4, .int (iI 10)), (5, .int (iI 3)), (3, .int (iI v)), (0, .ref (a 0)), (1, .int (iI v)), (2, .int (iI w))] := by rw [show (10 : Int) = 100 / 10 by omega]; exact hl
    refine lv_goto (tgt := 97) hx hb dX5_decimal_138 (by decide) ?_
    refine lv_iload hx hb dX5_decimal_97 (lv_at hl 0 rfl) ?_
    refine z_if_le hx hb 141 (by omega) dX5_decimal_99 (by decide) (fun c99 => absurd c99 (by omega)) (fun c99 => ?_)
    refine lv_aload_n hx hb dX5_decimal_102 rfl (lv_at hl 3 rfl) ?_
    refine va_get (D := D) (ci := 6) (v := .ref (a 6)) (C := RX5) (T := TX5) (N := 28) hx hb hts inX5 hown hK hP 0 rfl rfl 26 (by decide) kfieldLink_RX5_48_ZScreensModel_digit_I (fun _ h9 => h9) rfl dX5_decimal_103 ?_
    refine lv_aload_n hx hb dX5_decimal_106 rfl (lv_at hl 3 rfl) ?_
    refine va_get (D := D) (ci := 6) (v := .int (iI (dg + 1))) (C := RX5) (T := TX5) (N := 28) hx hb hts inX5 hown hK hP 0 rfl rfl 27 (by decide) kfieldLink_RX5_145_ZScreensModel_digits_I (fun _ h9 => h9) rfl dX5_decimal_107 ?_
    refine lv_bipush (v := iI 48) hx hb dX5_decimal_110 (by decide) ?_
    refine lv_iload_n hx hb dX5_decimal_112 rfl (lv_at hl 2 rfl) ?_
    refine lv_iload hx hb dX5_decimal_113 (lv_at hl 0 rfl) ?_
    refine z_idiv hx hb (by omega) dX5_decimal_115 ?_
    refine lv_bipush (v := iI 10) hx hb dX5_decimal_116 (by decide) ?_
    refine z_irem hx hb (by omega) dX5_decimal_118 ?_
    refine z_iadd hx hb dX5_decimal_119 ?_
    refine z_iast hx hb hK hP hD hS 1 0 rfl rfl (by omega) dX5_decimal_120 (fun H locs hP hD hS => ?_)
    have hP : va_P D vwCl [(a 0, .inr (6, [.ref (a 1), .ref (a 2), .int (iI (σ 0)), .int (iI (σ 2)), .int (iI (σ 1)), .int (iI (σ 3)), .int (iI (σ 4)), .int (iI (σ 10)), .int (iI (σ 11)), .int (iI (σ 12)), .int (iI (σ 13)), .int (iI (σ 7)), .int (iI (σ 8)), .int (iI (σ 9)), .int (iI (σ 5)), .ref (a 3), .int (iI (σ 18)), .int (iI (σ 14)), .int (iI (σ 15)), .int (iI (σ 16)), .int (iI (σ 17)), .ref (a 4), .int (iI (σ 19)), .int (iI (σ 6)), .ref (a 5), .int (iI (σ 20)), .ref (a 6), .int (iI (dg + 1))])), (a 6, .inl (cA, 20, .inl (upd (upd fd (dg).toNat (iI (48 + ((v / 100) % 10)))) (dg + 1).toNat (iI (48 + ((v / 10) % 10))))))] H := hP
    have hD : va_D A [(a 0, .inr (6, [.ref (a 1), .ref (a 2), .int (iI (σ 0)), .int (iI (σ 2)), .int (iI (σ 1)), .int (iI (σ 3)), .int (iI (σ 4)), .int (iI (σ 10)), .int (iI (σ 11)), .int (iI (σ 12)), .int (iI (σ 13)), .int (iI (σ 7)), .int (iI (σ 8)), .int (iI (σ 9)), .int (iI (σ 5)), .ref (a 3), .int (iI (σ 18)), .int (iI (σ 14)), .int (iI (σ 15)), .int (iI (σ 16)), .int (iI (σ 17)), .ref (a 4), .int (iI (σ 19)), .int (iI (σ 6)), .ref (a 5), .int (iI (σ 20)), .ref (a 6), .int (iI (dg + 1))])), (a 6, .inl (cA, 20, .inl (upd (upd fd (dg).toNat (iI (48 + ((v / 100) % 10)))) (dg + 1).toNat (iI (48 + ((v / 10) % 10))))))] := hD
    refine lv_aload_n hx hb dX5_decimal_121 rfl (lv_at hl 3 rfl) ?_
    refine lv_dup hx hb dX5_decimal_122 rfl ?_
    refine va_get (D := D) (ci := 6) (v := .int (iI (dg + 1))) (C := RX5) (T := TX5) (N := 28) hx hb hts inX5 hown hK hP 0 rfl rfl 27 (by decide) kfieldLink_RX5_145_ZScreensModel_digits_I (fun _ h9 => h9) rfl dX5_decimal_123 ?_
    refine lv_iconst (v := iI 1) hx hb dX5_decimal_126 rfl ?_
    refine z_iadd hx hb dX5_decimal_127 ?_
    refine va_put (D := D) (ci := 6) (v := .int (iI ((dg + 1) + 1))) (ty := .int) (C := RX5) (T := TX5) (N := 28) hx hb hts inX5 tyX5 tyX5_ok nmX5 hown hK hP hD hS 0 rfl rfl 27 (by decide) kfieldLink_RX5_145_ZScreensModel_digits_I (fun _ h9 => h9) rfl (by decide +kernel) rfl rfl (Nat.le_of_ble_eq_true rfl) dX5_decimal_128 (fun H locs hP hD hS => ?_)
    have hP : va_P D vwCl [(a 0, .inr (6, [.ref (a 1), .ref (a 2), .int (iI (σ 0)), .int (iI (σ 2)), .int (iI (σ 1)), .int (iI (σ 3)), .int (iI (σ 4)), .int (iI (σ 10)), .int (iI (σ 11)), .int (iI (σ 12)), .int (iI (σ 13)), .int (iI (σ 7)), .int (iI (σ 8)), .int (iI (σ 9)), .int (iI (σ 5)), .ref (a 3), .int (iI (σ 18)), .int (iI (σ 14)), .int (iI (σ 15)), .int (iI (σ 16)), .int (iI (σ 17)), .ref (a 4), .int (iI (σ 19)), .int (iI (σ 6)), .ref (a 5), .int (iI (σ 20)), .ref (a 6), .int (iI ((dg + 1) + 1))])), (a 6, .inl (cA, 20, .inl (upd (upd fd (dg).toNat (iI (48 + ((v / 100) % 10)))) (dg + 1).toNat (iI (48 + ((v / 10) % 10))))))] H := hP
    have hD : va_D A [(a 0, .inr (6, [.ref (a 1), .ref (a 2), .int (iI (σ 0)), .int (iI (σ 2)), .int (iI (σ 1)), .int (iI (σ 3)), .int (iI (σ 4)), .int (iI (σ 10)), .int (iI (σ 11)), .int (iI (σ 12)), .int (iI (σ 13)), .int (iI (σ 7)), .int (iI (σ 8)), .int (iI (σ 9)), .int (iI (σ 5)), .ref (a 3), .int (iI (σ 18)), .int (iI (σ 14)), .int (iI (σ 15)), .int (iI (σ 16)), .int (iI (σ 17)), .ref (a 4), .int (iI (σ 19)), .int (iI (σ 6)), .ref (a 5), .int (iI (σ 20)), .ref (a 6), .int (iI ((dg + 1) + 1))])), (a 6, .inl (cA, 20, .inl (upd (upd fd (dg).toNat (iI (48 + ((v / 100) % 10)))) (dg + 1).toNat (iI (48 + ((v / 10) % 10))))))] := hD
    refine lv_iload hx hb dX5_decimal_131 (lv_at hl 0 rfl) ?_
    refine lv_bipush (v := iI 10) hx hb dX5_decimal_133 (by decide) ?_
    refine z_idiv hx hb (by omega) dX5_decimal_135 ?_
    refine lv_istore (lv' := [(4, .int (iI (10 / 10))), (5, .int (iI 3)), (3, .int (iI v)), (0, .ref (a 0)), (1, .int (iI v)), (2, .int (iI w))]) hx hb dX5_decimal_136 hl (by decide) rfl (fun ls hl => ?_)
    have hl : lv_has ls 6 [(4, .int (iI 1)), (5, .int (iI 3)), (3, .int (iI v)), (0, .ref (a 0)), (1, .int (iI v)), (2, .int (iI w))] := by rw [show (1 : Int) = 10 / 10 by omega]; exact hl
    refine lv_goto (tgt := 97) hx hb dX5_decimal_138 (by decide) ?_
    refine lv_iload hx hb dX5_decimal_97 (lv_at hl 0 rfl) ?_
    refine z_if_le hx hb 141 (by omega) dX5_decimal_99 (by decide) (fun c99 => absurd c99 (by omega)) (fun c99 => ?_)
    refine lv_aload_n hx hb dX5_decimal_102 rfl (lv_at hl 3 rfl) ?_
    refine va_get (D := D) (ci := 6) (v := .ref (a 6)) (C := RX5) (T := TX5) (N := 28) hx hb hts inX5 hown hK hP 0 rfl rfl 26 (by decide) kfieldLink_RX5_48_ZScreensModel_digit_I (fun _ h9 => h9) rfl dX5_decimal_103 ?_
    refine lv_aload_n hx hb dX5_decimal_106 rfl (lv_at hl 3 rfl) ?_
    refine va_get (D := D) (ci := 6) (v := .int (iI ((dg + 1) + 1))) (C := RX5) (T := TX5) (N := 28) hx hb hts inX5 hown hK hP 0 rfl rfl 27 (by decide) kfieldLink_RX5_145_ZScreensModel_digits_I (fun _ h9 => h9) rfl dX5_decimal_107 ?_
    refine lv_bipush (v := iI 48) hx hb dX5_decimal_110 (by decide) ?_
    refine lv_iload_n hx hb dX5_decimal_112 rfl (lv_at hl 2 rfl) ?_
    refine lv_iload hx hb dX5_decimal_113 (lv_at hl 0 rfl) ?_
    refine z_idiv hx hb (by omega) dX5_decimal_115 ?_
    refine lv_bipush (v := iI 10) hx hb dX5_decimal_116 (by decide) ?_
    refine z_irem hx hb (by omega) dX5_decimal_118 ?_
    refine z_iadd hx hb dX5_decimal_119 ?_
    refine z_iast hx hb hK hP hD hS 1 0 rfl rfl (by omega) dX5_decimal_120 (fun H locs hP hD hS => ?_)
    have hP : va_P D vwCl [(a 0, .inr (6, [.ref (a 1), .ref (a 2), .int (iI (σ 0)), .int (iI (σ 2)), .int (iI (σ 1)), .int (iI (σ 3)), .int (iI (σ 4)), .int (iI (σ 10)), .int (iI (σ 11)), .int (iI (σ 12)), .int (iI (σ 13)), .int (iI (σ 7)), .int (iI (σ 8)), .int (iI (σ 9)), .int (iI (σ 5)), .ref (a 3), .int (iI (σ 18)), .int (iI (σ 14)), .int (iI (σ 15)), .int (iI (σ 16)), .int (iI (σ 17)), .ref (a 4), .int (iI (σ 19)), .int (iI (σ 6)), .ref (a 5), .int (iI (σ 20)), .ref (a 6), .int (iI ((dg + 1) + 1))])), (a 6, .inl (cA, 20, .inl (upd (upd (upd fd (dg).toNat (iI (48 + ((v / 100) % 10)))) (dg + 1).toNat (iI (48 + ((v / 10) % 10)))) ((dg + 1) + 1).toNat (iI (48 + ((v / 1) % 10))))))] H := hP
    have hD : va_D A [(a 0, .inr (6, [.ref (a 1), .ref (a 2), .int (iI (σ 0)), .int (iI (σ 2)), .int (iI (σ 1)), .int (iI (σ 3)), .int (iI (σ 4)), .int (iI (σ 10)), .int (iI (σ 11)), .int (iI (σ 12)), .int (iI (σ 13)), .int (iI (σ 7)), .int (iI (σ 8)), .int (iI (σ 9)), .int (iI (σ 5)), .ref (a 3), .int (iI (σ 18)), .int (iI (σ 14)), .int (iI (σ 15)), .int (iI (σ 16)), .int (iI (σ 17)), .ref (a 4), .int (iI (σ 19)), .int (iI (σ 6)), .ref (a 5), .int (iI (σ 20)), .ref (a 6), .int (iI ((dg + 1) + 1))])), (a 6, .inl (cA, 20, .inl (upd (upd (upd fd (dg).toNat (iI (48 + ((v / 100) % 10)))) (dg + 1).toNat (iI (48 + ((v / 10) % 10)))) ((dg + 1) + 1).toNat (iI (48 + ((v / 1) % 10))))))] := hD
    refine lv_aload_n hx hb dX5_decimal_121 rfl (lv_at hl 3 rfl) ?_
    refine lv_dup hx hb dX5_decimal_122 rfl ?_
    refine va_get (D := D) (ci := 6) (v := .int (iI ((dg + 1) + 1))) (C := RX5) (T := TX5) (N := 28) hx hb hts inX5 hown hK hP 0 rfl rfl 27 (by decide) kfieldLink_RX5_145_ZScreensModel_digits_I (fun _ h9 => h9) rfl dX5_decimal_123 ?_
    refine lv_iconst (v := iI 1) hx hb dX5_decimal_126 rfl ?_
    refine z_iadd hx hb dX5_decimal_127 ?_
    refine va_put (D := D) (ci := 6) (v := .int (iI (((dg + 1) + 1) + 1))) (ty := .int) (C := RX5) (T := TX5) (N := 28) hx hb hts inX5 tyX5 tyX5_ok nmX5 hown hK hP hD hS 0 rfl rfl 27 (by decide) kfieldLink_RX5_145_ZScreensModel_digits_I (fun _ h9 => h9) rfl (by decide +kernel) rfl rfl (Nat.le_of_ble_eq_true rfl) dX5_decimal_128 (fun H locs hP hD hS => ?_)
    have hP : va_P D vwCl [(a 0, .inr (6, [.ref (a 1), .ref (a 2), .int (iI (σ 0)), .int (iI (σ 2)), .int (iI (σ 1)), .int (iI (σ 3)), .int (iI (σ 4)), .int (iI (σ 10)), .int (iI (σ 11)), .int (iI (σ 12)), .int (iI (σ 13)), .int (iI (σ 7)), .int (iI (σ 8)), .int (iI (σ 9)), .int (iI (σ 5)), .ref (a 3), .int (iI (σ 18)), .int (iI (σ 14)), .int (iI (σ 15)), .int (iI (σ 16)), .int (iI (σ 17)), .ref (a 4), .int (iI (σ 19)), .int (iI (σ 6)), .ref (a 5), .int (iI (σ 20)), .ref (a 6), .int (iI (((dg + 1) + 1) + 1))])), (a 6, .inl (cA, 20, .inl (upd (upd (upd fd (dg).toNat (iI (48 + ((v / 100) % 10)))) (dg + 1).toNat (iI (48 + ((v / 10) % 10)))) ((dg + 1) + 1).toNat (iI (48 + ((v / 1) % 10))))))] H := hP
    have hD : va_D A [(a 0, .inr (6, [.ref (a 1), .ref (a 2), .int (iI (σ 0)), .int (iI (σ 2)), .int (iI (σ 1)), .int (iI (σ 3)), .int (iI (σ 4)), .int (iI (σ 10)), .int (iI (σ 11)), .int (iI (σ 12)), .int (iI (σ 13)), .int (iI (σ 7)), .int (iI (σ 8)), .int (iI (σ 9)), .int (iI (σ 5)), .ref (a 3), .int (iI (σ 18)), .int (iI (σ 14)), .int (iI (σ 15)), .int (iI (σ 16)), .int (iI (σ 17)), .ref (a 4), .int (iI (σ 19)), .int (iI (σ 6)), .ref (a 5), .int (iI (σ 20)), .ref (a 6), .int (iI (((dg + 1) + 1) + 1))])), (a 6, .inl (cA, 20, .inl (upd (upd (upd fd (dg).toNat (iI (48 + ((v / 100) % 10)))) (dg + 1).toNat (iI (48 + ((v / 10) % 10)))) ((dg + 1) + 1).toNat (iI (48 + ((v / 1) % 10))))))] := hD
    refine lv_iload hx hb dX5_decimal_131 (lv_at hl 0 rfl) ?_
    refine lv_bipush (v := iI 10) hx hb dX5_decimal_133 (by decide) ?_
    refine z_idiv hx hb (by omega) dX5_decimal_135 ?_
    refine lv_istore (lv' := [(4, .int (iI (1 / 10))), (5, .int (iI 3)), (3, .int (iI v)), (0, .ref (a 0)), (1, .int (iI v)), (2, .int (iI w))]) hx hb dX5_decimal_136 hl (by decide) rfl (fun ls hl => ?_)
    have hl : lv_has ls 6 [(4, .int (iI 0)), (5, .int (iI 3)), (3, .int (iI v)), (0, .ref (a 0)), (1, .int (iI v)), (2, .int (iI w))] := by rw [show (0 : Int) = 1 / 10 by omega]; exact hl
    refine lv_goto (tgt := 97) hx hb dX5_decimal_138 (by decide) ?_
    refine lv_iload hx hb dX5_decimal_97 (lv_at hl 0 rfl) ?_
    refine z_if_le hx hb 141 (by omega) dX5_decimal_99 (by decide) (fun c99 => ?_) (fun c99 => absurd c99 (by omega))
    have e9 : (if w = 1 then dec v else dec2 v) = [48 + ((v / 100) % 10), 48 + ((v / 10) % 10), 48 + ((v / 1) % 10)] := by
      unfold dec digs
      simp only [if_pos (show w = 1 by omega), if_neg (show ¬ v < 0 by omega), if_neg (show ¬ v < 10 by omega), if_neg (show ¬ v < 100 by omega), if_pos (show v < 1000 by omega)]
      first | rfl | (simp only [List.cons.injEq, and_true, true_and]; omega)
    have hx9 : zTx (upd (upd (upd fd (dg).toNat (iI (48 + ((v / 100) % 10)))) (dg + 1).toNat (iI (48 + ((v / 10) % 10)))) ((dg + 1) + 1).toNat (iI (48 + ((v / 1) % 10)))) (tx ++ [48 + ((v / 100) % 10)] ++ [48 + ((v / 10) % 10)] ++ [48 + ((v / 1) % 10)]) := (tx_app (tx_app (tx_app hT0 (by (try simp only [List.length_append, List.length_cons, List.length_nil]); omega)) (by (try simp only [List.length_append, List.length_cons, List.length_nil]); omega)) (by (try simp only [List.length_append, List.length_cons, List.length_nil]); omega))
    have h9 : tx ++ (if w = 1 then dec v else dec2 v) = tx ++ [48 + ((v / 100) % 10)] ++ [48 + ((v / 10) % 10)] ++ [48 + ((v / 1) % 10)] := by rw [e9] <;> simp
    have hn9 : dg + (((if w = 1 then dec v else dec2 v)).length : Int) = ((dg + 1) + 1) + 1 := by rw [e9]; (try simp only [List.length_cons, List.length_nil]); omega
    exact K H locs (upd (upd (upd fd (dg).toNat (iI (48 + ((v / 100) % 10)))) (dg + 1).toNat (iI (48 + ((v / 10) % 10)))) ((dg + 1) + 1).toNat (iI (48 + ((v / 1) % 10)))) _ ls 0 0 (by omega) (by omega) (by rw [h9]; exact hx9) (by rw [hn9]; exact hP) (by rw [hn9]; exact hD) hS dX5_decimal_141
  · skip
    refine lv_iload_n hx hb dX5_decimal_0 rfl (lv_at hl 1 rfl) ?_
    refine z_if_ge hx hb 9 (by omega) dX5_decimal_1 (by decide) (fun c1 => ?_) (fun c1 => absurd c1 (by omega))
    refine lv_iload_n hx hb dX5_decimal_9 rfl (lv_at hl 1 rfl) ?_
    refine lv_istore_n (lv' := [(3, .int (iI v)), (0, .ref (a 0)), (1, .int (iI v)), (2, .int (iI w))]) hx hb dX5_decimal_10 rfl hl (by decide) rfl (fun ls hl => ?_)
    refine lv_iload_n hx hb dX5_decimal_11 rfl (lv_at hl 2 rfl) ?_
    refine z_if_ge hx hb 36 (by omega) dX5_decimal_12 (by decide) (fun c12 => ?_) (fun c12 => absurd c12 (by omega))
    refine lv_iconst (v := iI 1) hx hb dX5_decimal_36 rfl ?_
    refine lv_istore (lv' := [(4, .int (iI 1)), (3, .int (iI v)), (0, .ref (a 0)), (1, .int (iI v)), (2, .int (iI w))]) hx hb dX5_decimal_37 hl (by decide) rfl (fun ls hl => ?_)
    refine lv_iconst (v := iI 1) hx hb dX5_decimal_39 rfl ?_
    refine lv_istore (lv' := [(5, .int (iI 1)), (4, .int (iI 1)), (3, .int (iI v)), (0, .ref (a 0)), (1, .int (iI v)), (2, .int (iI w))]) hx hb dX5_decimal_40 hl (by decide) rfl (fun ls hl => ?_)
    refine lv_iload_n hx hb dX5_decimal_42 rfl (lv_at hl 2 rfl) ?_
    refine lv_iload hx hb dX5_decimal_43 (lv_at hl 1 rfl) ?_
    refine z_idiv hx hb (by omega) dX5_decimal_45 ?_
    refine lv_bipush (v := iI 9) hx hb dX5_decimal_46 (by decide) ?_
    refine z_icmp_le hx hb 64 (by omega) dX5_decimal_48 (by decide) (fun c48 => absurd c48 (by omega)) (fun c48 => ?_)
    refine lv_iload hx hb dX5_decimal_51 (lv_at hl 1 rfl) ?_
    refine lv_bipush (v := iI 10) hx hb dX5_decimal_53 (by decide) ?_
    refine z_imul hx hb dX5_decimal_55 ?_
    refine lv_istore (lv' := [(4, .int (iI (1 * 10))), (5, .int (iI 1)), (3, .int (iI v)), (0, .ref (a 0)), (1, .int (iI v)), (2, .int (iI w))]) hx hb dX5_decimal_56 hl (by decide) rfl (fun ls hl => ?_)
    have hl : lv_has ls 6 [(4, .int (iI 10)), (5, .int (iI 1)), (3, .int (iI v)), (0, .ref (a 0)), (1, .int (iI v)), (2, .int (iI w))] := by rw [show (10 : Int) = 1 * 10 by omega]; exact hl
    refine lv_iinc (v := iI (1 + 1)) (lv' := [(5, .int (iI (1 + 1))), (4, .int (iI 10)), (3, .int (iI v)), (0, .ref (a 0)), (1, .int (iI v)), (2, .int (iI w))]) hx hb dX5_decimal_58 hl (k := 1) rfl (iI_add _ _) (by decide) rfl (fun ls hl => ?_)
    have hl : lv_has ls 6 [(5, .int (iI 2)), (4, .int (iI 10)), (3, .int (iI v)), (0, .ref (a 0)), (1, .int (iI v)), (2, .int (iI w))] := by rw [show (2 : Int) = 1 + 1 by omega]; exact hl
    refine lv_goto (tgt := 42) hx hb dX5_decimal_61 (by decide) ?_
    refine lv_iload_n hx hb dX5_decimal_42 rfl (lv_at hl 2 rfl) ?_
    refine lv_iload hx hb dX5_decimal_43 (lv_at hl 1 rfl) ?_
    refine z_idiv hx hb (by omega) dX5_decimal_45 ?_
    refine lv_bipush (v := iI 9) hx hb dX5_decimal_46 (by decide) ?_
    refine z_icmp_le hx hb 64 (by omega) dX5_decimal_48 (by decide) (fun c48 => absurd c48 (by omega)) (fun c48 => ?_)
    refine lv_iload hx hb dX5_decimal_51 (lv_at hl 1 rfl) ?_
    refine lv_bipush (v := iI 10) hx hb dX5_decimal_53 (by decide) ?_
    refine z_imul hx hb dX5_decimal_55 ?_
    refine lv_istore (lv' := [(4, .int (iI (10 * 10))), (5, .int (iI 2)), (3, .int (iI v)), (0, .ref (a 0)), (1, .int (iI v)), (2, .int (iI w))]) hx hb dX5_decimal_56 hl (by decide) rfl (fun ls hl => ?_)
    have hl : lv_has ls 6 [(4, .int (iI 100)), (5, .int (iI 2)), (3, .int (iI v)), (0, .ref (a 0)), (1, .int (iI v)), (2, .int (iI w))] := by rw [show (100 : Int) = 10 * 10 by omega]; exact hl
    refine lv_iinc (v := iI (2 + 1)) (lv' := [(5, .int (iI (2 + 1))), (4, .int (iI 100)), (3, .int (iI v)), (0, .ref (a 0)), (1, .int (iI v)), (2, .int (iI w))]) hx hb dX5_decimal_58 hl (k := 1) rfl (iI_add _ _) (by decide) rfl (fun ls hl => ?_)
    have hl : lv_has ls 6 [(5, .int (iI 3)), (4, .int (iI 100)), (3, .int (iI v)), (0, .ref (a 0)), (1, .int (iI v)), (2, .int (iI w))] := by rw [show (3 : Int) = 2 + 1 by omega]; exact hl
    refine lv_goto (tgt := 42) hx hb dX5_decimal_61 (by decide) ?_
    refine lv_iload_n hx hb dX5_decimal_42 rfl (lv_at hl 2 rfl) ?_
    refine lv_iload hx hb dX5_decimal_43 (lv_at hl 1 rfl) ?_
    refine z_idiv hx hb (by omega) dX5_decimal_45 ?_
    refine lv_bipush (v := iI 9) hx hb dX5_decimal_46 (by decide) ?_
    refine z_icmp_le hx hb 64 (by omega) dX5_decimal_48 (by decide) (fun c48 => absurd c48 (by omega)) (fun c48 => ?_)
    refine lv_iload hx hb dX5_decimal_51 (lv_at hl 1 rfl) ?_
    refine lv_bipush (v := iI 10) hx hb dX5_decimal_53 (by decide) ?_
    refine z_imul hx hb dX5_decimal_55 ?_
    refine lv_istore (lv' := [(4, .int (iI (100 * 10))), (5, .int (iI 3)), (3, .int (iI v)), (0, .ref (a 0)), (1, .int (iI v)), (2, .int (iI w))]) hx hb dX5_decimal_56 hl (by decide) rfl (fun ls hl => ?_)
    have hl : lv_has ls 6 [(4, .int (iI 1000)), (5, .int (iI 3)), (3, .int (iI v)), (0, .ref (a 0)), (1, .int (iI v)), (2, .int (iI w))] := by rw [show (1000 : Int) = 100 * 10 by omega]; exact hl
    refine lv_iinc (v := iI (3 + 1)) (lv' := [(5, .int (iI (3 + 1))), (4, .int (iI 1000)), (3, .int (iI v)), (0, .ref (a 0)), (1, .int (iI v)), (2, .int (iI w))]) hx hb dX5_decimal_58 hl (k := 1) rfl (iI_add _ _) (by decide) rfl (fun ls hl => ?_)
    have hl : lv_has ls 6 [(5, .int (iI 4)), (4, .int (iI 1000)), (3, .int (iI v)), (0, .ref (a 0)), (1, .int (iI v)), (2, .int (iI w))] := by rw [show (4 : Int) = 3 + 1 by omega]; exact hl
    refine lv_goto (tgt := 42) hx hb dX5_decimal_61 (by decide) ?_
    refine lv_iload_n hx hb dX5_decimal_42 rfl (lv_at hl 2 rfl) ?_
    refine lv_iload hx hb dX5_decimal_43 (lv_at hl 1 rfl) ?_
    refine z_idiv hx hb (by omega) dX5_decimal_45 ?_
    refine lv_bipush (v := iI 9) hx hb dX5_decimal_46 (by decide) ?_
    refine z_icmp_le hx hb 64 (by omega) dX5_decimal_48 (by decide) (fun c48 => ?_) (fun c48 => absurd c48 (by omega))
    refine lv_iload hx hb dX5_decimal_64 (lv_at hl 0 rfl) ?_
    refine lv_iload_n hx hb dX5_decimal_66 rfl (lv_at hl 5 rfl) ?_
    refine z_icmp_ge hx hb 97 (by omega) dX5_decimal_67 (by decide) (fun c67 => ?_) (fun c67 => absurd c67 (by omega))
    refine lv_iload hx hb dX5_decimal_97 (lv_at hl 1 rfl) ?_
    refine z_if_le hx hb 141 (by omega) dX5_decimal_99 (by decide) (fun c99 => absurd c99 (by omega)) (fun c99 => ?_)
    refine lv_aload_n hx hb dX5_decimal_102 rfl (lv_at hl 3 rfl) ?_
    refine va_get (D := D) (ci := 6) (v := .ref (a 6)) (C := RX5) (T := TX5) (N := 28) hx hb hts inX5 hown hK hP 0 rfl rfl 26 (by decide) kfieldLink_RX5_48_ZScreensModel_digit_I (fun _ h9 => h9) rfl dX5_decimal_103 ?_
    refine lv_aload_n hx hb dX5_decimal_106 rfl (lv_at hl 3 rfl) ?_
    refine va_get (D := D) (ci := 6) (v := .int (iI dg)) (C := RX5) (T := TX5) (N := 28) hx hb hts inX5 hown hK hP 0 rfl rfl 27 (by decide) kfieldLink_RX5_145_ZScreensModel_digits_I (fun _ h9 => h9) rfl dX5_decimal_107 ?_
    refine lv_bipush (v := iI 48) hx hb dX5_decimal_110 (by decide) ?_
    refine lv_iload_n hx hb dX5_decimal_112 rfl (lv_at hl 2 rfl) ?_
    refine lv_iload hx hb dX5_decimal_113 (lv_at hl 1 rfl) ?_
    refine z_idiv hx hb (by omega) dX5_decimal_115 ?_
    refine lv_bipush (v := iI 10) hx hb dX5_decimal_116 (by decide) ?_
    refine z_irem hx hb (by omega) dX5_decimal_118 ?_
    refine z_iadd hx hb dX5_decimal_119 ?_
    refine z_iast hx hb hK hP hD hS 1 0 rfl rfl (by omega) dX5_decimal_120 (fun H locs hP hD hS => ?_)
    have hP : va_P D vwCl [(a 0, .inr (6, [.ref (a 1), .ref (a 2), .int (iI (σ 0)), .int (iI (σ 2)), .int (iI (σ 1)), .int (iI (σ 3)), .int (iI (σ 4)), .int (iI (σ 10)), .int (iI (σ 11)), .int (iI (σ 12)), .int (iI (σ 13)), .int (iI (σ 7)), .int (iI (σ 8)), .int (iI (σ 9)), .int (iI (σ 5)), .ref (a 3), .int (iI (σ 18)), .int (iI (σ 14)), .int (iI (σ 15)), .int (iI (σ 16)), .int (iI (σ 17)), .ref (a 4), .int (iI (σ 19)), .int (iI (σ 6)), .ref (a 5), .int (iI (σ 20)), .ref (a 6), .int (iI dg)])), (a 6, .inl (cA, 20, .inl (upd fd (dg).toNat (iI (48 + ((v / 1000) % 10))))))] H := hP
    have hD : va_D A [(a 0, .inr (6, [.ref (a 1), .ref (a 2), .int (iI (σ 0)), .int (iI (σ 2)), .int (iI (σ 1)), .int (iI (σ 3)), .int (iI (σ 4)), .int (iI (σ 10)), .int (iI (σ 11)), .int (iI (σ 12)), .int (iI (σ 13)), .int (iI (σ 7)), .int (iI (σ 8)), .int (iI (σ 9)), .int (iI (σ 5)), .ref (a 3), .int (iI (σ 18)), .int (iI (σ 14)), .int (iI (σ 15)), .int (iI (σ 16)), .int (iI (σ 17)), .ref (a 4), .int (iI (σ 19)), .int (iI (σ 6)), .ref (a 5), .int (iI (σ 20)), .ref (a 6), .int (iI dg)])), (a 6, .inl (cA, 20, .inl (upd fd (dg).toNat (iI (48 + ((v / 1000) % 10))))))] := hD
    refine lv_aload_n hx hb dX5_decimal_121 rfl (lv_at hl 3 rfl) ?_
    refine lv_dup hx hb dX5_decimal_122 rfl ?_
    refine va_get (D := D) (ci := 6) (v := .int (iI dg)) (C := RX5) (T := TX5) (N := 28) hx hb hts inX5 hown hK hP 0 rfl rfl 27 (by decide) kfieldLink_RX5_145_ZScreensModel_digits_I (fun _ h9 => h9) rfl dX5_decimal_123 ?_
    refine lv_iconst (v := iI 1) hx hb dX5_decimal_126 rfl ?_
    refine z_iadd hx hb dX5_decimal_127 ?_
    refine va_put (D := D) (ci := 6) (v := .int (iI (dg + 1))) (ty := .int) (C := RX5) (T := TX5) (N := 28) hx hb hts inX5 tyX5 tyX5_ok nmX5 hown hK hP hD hS 0 rfl rfl 27 (by decide) kfieldLink_RX5_145_ZScreensModel_digits_I (fun _ h9 => h9) rfl (by decide +kernel) rfl rfl (Nat.le_of_ble_eq_true rfl) dX5_decimal_128 (fun H locs hP hD hS => ?_)
    have hP : va_P D vwCl [(a 0, .inr (6, [.ref (a 1), .ref (a 2), .int (iI (σ 0)), .int (iI (σ 2)), .int (iI (σ 1)), .int (iI (σ 3)), .int (iI (σ 4)), .int (iI (σ 10)), .int (iI (σ 11)), .int (iI (σ 12)), .int (iI (σ 13)), .int (iI (σ 7)), .int (iI (σ 8)), .int (iI (σ 9)), .int (iI (σ 5)), .ref (a 3), .int (iI (σ 18)), .int (iI (σ 14)), .int (iI (σ 15)), .int (iI (σ 16)), .int (iI (σ 17)), .ref (a 4), .int (iI (σ 19)), .int (iI (σ 6)), .ref (a 5), .int (iI (σ 20)), .ref (a 6), .int (iI (dg + 1))])), (a 6, .inl (cA, 20, .inl (upd fd (dg).toNat (iI (48 + ((v / 1000) % 10))))))] H := hP
    have hD : va_D A [(a 0, .inr (6, [.ref (a 1), .ref (a 2), .int (iI (σ 0)), .int (iI (σ 2)), .int (iI (σ 1)), .int (iI (σ 3)), .int (iI (σ 4)), .int (iI (σ 10)), .int (iI (σ 11)), .int (iI (σ 12)), .int (iI (σ 13)), .int (iI (σ 7)), .int (iI (σ 8)), .int (iI (σ 9)), .int (iI (σ 5)), .ref (a 3), .int (iI (σ 18)), .int (iI (σ 14)), .int (iI (σ 15)), .int (iI (σ 16)), .int (iI (σ 17)), .ref (a 4), .int (iI (σ 19)), .int (iI (σ 6)), .ref (a 5), .int (iI (σ 20)), .ref (a 6), .int (iI (dg + 1))])), (a 6, .inl (cA, 20, .inl (upd fd (dg).toNat (iI (48 + ((v / 1000) % 10))))))] := hD
    refine lv_iload hx hb dX5_decimal_131 (lv_at hl 1 rfl) ?_
    refine lv_bipush (v := iI 10) hx hb dX5_decimal_133 (by decide) ?_
    refine z_idiv hx hb (by omega) dX5_decimal_135 ?_
    refine lv_istore (lv' := [(4, .int (iI (1000 / 10))), (5, .int (iI 4)), (3, .int (iI v)), (0, .ref (a 0)), (1, .int (iI v)), (2, .int (iI w))]) hx hb dX5_decimal_136 hl (by decide) rfl (fun ls hl => ?_)
    have hl : lv_has ls 6 [(4, .int (iI 100)), (5, .int (iI 4)), (3, .int (iI v)), (0, .ref (a 0)), (1, .int (iI v)), (2, .int (iI w))] := by rw [show (100 : Int) = 1000 / 10 by omega]; exact hl
    refine lv_goto (tgt := 97) hx hb dX5_decimal_138 (by decide) ?_
    refine lv_iload hx hb dX5_decimal_97 (lv_at hl 0 rfl) ?_
    refine z_if_le hx hb 141 (by omega) dX5_decimal_99 (by decide) (fun c99 => absurd c99 (by omega)) (fun c99 => ?_)
    refine lv_aload_n hx hb dX5_decimal_102 rfl (lv_at hl 3 rfl) ?_
    refine va_get (D := D) (ci := 6) (v := .ref (a 6)) (C := RX5) (T := TX5) (N := 28) hx hb hts inX5 hown hK hP 0 rfl rfl 26 (by decide) kfieldLink_RX5_48_ZScreensModel_digit_I (fun _ h9 => h9) rfl dX5_decimal_103 ?_
    refine lv_aload_n hx hb dX5_decimal_106 rfl (lv_at hl 3 rfl) ?_
    refine va_get (D := D) (ci := 6) (v := .int (iI (dg + 1))) (C := RX5) (T := TX5) (N := 28) hx hb hts inX5 hown hK hP 0 rfl rfl 27 (by decide) kfieldLink_RX5_145_ZScreensModel_digits_I (fun _ h9 => h9) rfl dX5_decimal_107 ?_
    refine lv_bipush (v := iI 48) hx hb dX5_decimal_110 (by decide) ?_
    refine lv_iload_n hx hb dX5_decimal_112 rfl (lv_at hl 2 rfl) ?_
    refine lv_iload hx hb dX5_decimal_113 (lv_at hl 0 rfl) ?_
    refine z_idiv hx hb (by omega) dX5_decimal_115 ?_
    refine lv_bipush (v := iI 10) hx hb dX5_decimal_116 (by decide) ?_
    refine z_irem hx hb (by omega) dX5_decimal_118 ?_
    refine z_iadd hx hb dX5_decimal_119 ?_
    refine z_iast hx hb hK hP hD hS 1 0 rfl rfl (by omega) dX5_decimal_120 (fun H locs hP hD hS => ?_)
    have hP : va_P D vwCl [(a 0, .inr (6, [.ref (a 1), .ref (a 2), .int (iI (σ 0)), .int (iI (σ 2)), .int (iI (σ 1)), .int (iI (σ 3)), .int (iI (σ 4)), .int (iI (σ 10)), .int (iI (σ 11)), .int (iI (σ 12)), .int (iI (σ 13)), .int (iI (σ 7)), .int (iI (σ 8)), .int (iI (σ 9)), .int (iI (σ 5)), .ref (a 3), .int (iI (σ 18)), .int (iI (σ 14)), .int (iI (σ 15)), .int (iI (σ 16)), .int (iI (σ 17)), .ref (a 4), .int (iI (σ 19)), .int (iI (σ 6)), .ref (a 5), .int (iI (σ 20)), .ref (a 6), .int (iI (dg + 1))])), (a 6, .inl (cA, 20, .inl (upd (upd fd (dg).toNat (iI (48 + ((v / 1000) % 10)))) (dg + 1).toNat (iI (48 + ((v / 100) % 10))))))] H := hP
    have hD : va_D A [(a 0, .inr (6, [.ref (a 1), .ref (a 2), .int (iI (σ 0)), .int (iI (σ 2)), .int (iI (σ 1)), .int (iI (σ 3)), .int (iI (σ 4)), .int (iI (σ 10)), .int (iI (σ 11)), .int (iI (σ 12)), .int (iI (σ 13)), .int (iI (σ 7)), .int (iI (σ 8)), .int (iI (σ 9)), .int (iI (σ 5)), .ref (a 3), .int (iI (σ 18)), .int (iI (σ 14)), .int (iI (σ 15)), .int (iI (σ 16)), .int (iI (σ 17)), .ref (a 4), .int (iI (σ 19)), .int (iI (σ 6)), .ref (a 5), .int (iI (σ 20)), .ref (a 6), .int (iI (dg + 1))])), (a 6, .inl (cA, 20, .inl (upd (upd fd (dg).toNat (iI (48 + ((v / 1000) % 10)))) (dg + 1).toNat (iI (48 + ((v / 100) % 10))))))] := hD
    refine lv_aload_n hx hb dX5_decimal_121 rfl (lv_at hl 3 rfl) ?_
    refine lv_dup hx hb dX5_decimal_122 rfl ?_
    refine va_get (D := D) (ci := 6) (v := .int (iI (dg + 1))) (C := RX5) (T := TX5) (N := 28) hx hb hts inX5 hown hK hP 0 rfl rfl 27 (by decide) kfieldLink_RX5_145_ZScreensModel_digits_I (fun _ h9 => h9) rfl dX5_decimal_123 ?_
    refine lv_iconst (v := iI 1) hx hb dX5_decimal_126 rfl ?_
    refine z_iadd hx hb dX5_decimal_127 ?_
    refine va_put (D := D) (ci := 6) (v := .int (iI ((dg + 1) + 1))) (ty := .int) (C := RX5) (T := TX5) (N := 28) hx hb hts inX5 tyX5 tyX5_ok nmX5 hown hK hP hD hS 0 rfl rfl 27 (by decide) kfieldLink_RX5_145_ZScreensModel_digits_I (fun _ h9 => h9) rfl (by decide +kernel) rfl rfl (Nat.le_of_ble_eq_true rfl) dX5_decimal_128 (fun H locs hP hD hS => ?_)
    have hP : va_P D vwCl [(a 0, .inr (6, [.ref (a 1), .ref (a 2), .int (iI (σ 0)), .int (iI (σ 2)), .int (iI (σ 1)), .int (iI (σ 3)), .int (iI (σ 4)), .int (iI (σ 10)), .int (iI (σ 11)), .int (iI (σ 12)), .int (iI (σ 13)), .int (iI (σ 7)), .int (iI (σ 8)), .int (iI (σ 9)), .int (iI (σ 5)), .ref (a 3), .int (iI (σ 18)), .int (iI (σ 14)), .int (iI (σ 15)), .int (iI (σ 16)), .int (iI (σ 17)), .ref (a 4), .int (iI (σ 19)), .int (iI (σ 6)), .ref (a 5), .int (iI (σ 20)), .ref (a 6), .int (iI ((dg + 1) + 1))])), (a 6, .inl (cA, 20, .inl (upd (upd fd (dg).toNat (iI (48 + ((v / 1000) % 10)))) (dg + 1).toNat (iI (48 + ((v / 100) % 10))))))] H := hP
    have hD : va_D A [(a 0, .inr (6, [.ref (a 1), .ref (a 2), .int (iI (σ 0)), .int (iI (σ 2)), .int (iI (σ 1)), .int (iI (σ 3)), .int (iI (σ 4)), .int (iI (σ 10)), .int (iI (σ 11)), .int (iI (σ 12)), .int (iI (σ 13)), .int (iI (σ 7)), .int (iI (σ 8)), .int (iI (σ 9)), .int (iI (σ 5)), .ref (a 3), .int (iI (σ 18)), .int (iI (σ 14)), .int (iI (σ 15)), .int (iI (σ 16)), .int (iI (σ 17)), .ref (a 4), .int (iI (σ 19)), .int (iI (σ 6)), .ref (a 5), .int (iI (σ 20)), .ref (a 6), .int (iI ((dg + 1) + 1))])), (a 6, .inl (cA, 20, .inl (upd (upd fd (dg).toNat (iI (48 + ((v / 1000) % 10)))) (dg + 1).toNat (iI (48 + ((v / 100) % 10))))))] := hD
    refine lv_iload hx hb dX5_decimal_131 (lv_at hl 0 rfl) ?_
    refine lv_bipush (v := iI 10) hx hb dX5_decimal_133 (by decide) ?_
    refine z_idiv hx hb (by omega) dX5_decimal_135 ?_
    refine lv_istore (lv' := [(4, .int (iI (100 / 10))), (5, .int (iI 4)), (3, .int (iI v)), (0, .ref (a 0)), (1, .int (iI v)), (2, .int (iI w))]) hx hb dX5_decimal_136 hl (by decide) rfl (fun ls hl => ?_)
    have hl : lv_has ls 6 [(4, .int (iI 10)), (5, .int (iI 4)), (3, .int (iI v)), (0, .ref (a 0)), (1, .int (iI v)), (2, .int (iI w))] := by rw [show (10 : Int) = 100 / 10 by omega]; exact hl
    refine lv_goto (tgt := 97) hx hb dX5_decimal_138 (by decide) ?_
    refine lv_iload hx hb dX5_decimal_97 (lv_at hl 0 rfl) ?_
    refine z_if_le hx hb 141 (by omega) dX5_decimal_99 (by decide) (fun c99 => absurd c99 (by omega)) (fun c99 => ?_)
    refine lv_aload_n hx hb dX5_decimal_102 rfl (lv_at hl 3 rfl) ?_
    refine va_get (D := D) (ci := 6) (v := .ref (a 6)) (C := RX5) (T := TX5) (N := 28) hx hb hts inX5 hown hK hP 0 rfl rfl 26 (by decide) kfieldLink_RX5_48_ZScreensModel_digit_I (fun _ h9 => h9) rfl dX5_decimal_103 ?_
    refine lv_aload_n hx hb dX5_decimal_106 rfl (lv_at hl 3 rfl) ?_
    refine va_get (D := D) (ci := 6) (v := .int (iI ((dg + 1) + 1))) (C := RX5) (T := TX5) (N := 28) hx hb hts inX5 hown hK hP 0 rfl rfl 27 (by decide) kfieldLink_RX5_145_ZScreensModel_digits_I (fun _ h9 => h9) rfl dX5_decimal_107 ?_
    refine lv_bipush (v := iI 48) hx hb dX5_decimal_110 (by decide) ?_
    refine lv_iload_n hx hb dX5_decimal_112 rfl (lv_at hl 2 rfl) ?_
    refine lv_iload hx hb dX5_decimal_113 (lv_at hl 0 rfl) ?_
    refine z_idiv hx hb (by omega) dX5_decimal_115 ?_
    refine lv_bipush (v := iI 10) hx hb dX5_decimal_116 (by decide) ?_
    refine z_irem hx hb (by omega) dX5_decimal_118 ?_
    refine z_iadd hx hb dX5_decimal_119 ?_
    refine z_iast hx hb hK hP hD hS 1 0 rfl rfl (by omega) dX5_decimal_120 (fun H locs hP hD hS => ?_)
    have hP : va_P D vwCl [(a 0, .inr (6, [.ref (a 1), .ref (a 2), .int (iI (σ 0)), .int (iI (σ 2)), .int (iI (σ 1)), .int (iI (σ 3)), .int (iI (σ 4)), .int (iI (σ 10)), .int (iI (σ 11)), .int (iI (σ 12)), .int (iI (σ 13)), .int (iI (σ 7)), .int (iI (σ 8)), .int (iI (σ 9)), .int (iI (σ 5)), .ref (a 3), .int (iI (σ 18)), .int (iI (σ 14)), .int (iI (σ 15)), .int (iI (σ 16)), .int (iI (σ 17)), .ref (a 4), .int (iI (σ 19)), .int (iI (σ 6)), .ref (a 5), .int (iI (σ 20)), .ref (a 6), .int (iI ((dg + 1) + 1))])), (a 6, .inl (cA, 20, .inl (upd (upd (upd fd (dg).toNat (iI (48 + ((v / 1000) % 10)))) (dg + 1).toNat (iI (48 + ((v / 100) % 10)))) ((dg + 1) + 1).toNat (iI (48 + ((v / 10) % 10))))))] H := hP
    have hD : va_D A [(a 0, .inr (6, [.ref (a 1), .ref (a 2), .int (iI (σ 0)), .int (iI (σ 2)), .int (iI (σ 1)), .int (iI (σ 3)), .int (iI (σ 4)), .int (iI (σ 10)), .int (iI (σ 11)), .int (iI (σ 12)), .int (iI (σ 13)), .int (iI (σ 7)), .int (iI (σ 8)), .int (iI (σ 9)), .int (iI (σ 5)), .ref (a 3), .int (iI (σ 18)), .int (iI (σ 14)), .int (iI (σ 15)), .int (iI (σ 16)), .int (iI (σ 17)), .ref (a 4), .int (iI (σ 19)), .int (iI (σ 6)), .ref (a 5), .int (iI (σ 20)), .ref (a 6), .int (iI ((dg + 1) + 1))])), (a 6, .inl (cA, 20, .inl (upd (upd (upd fd (dg).toNat (iI (48 + ((v / 1000) % 10)))) (dg + 1).toNat (iI (48 + ((v / 100) % 10)))) ((dg + 1) + 1).toNat (iI (48 + ((v / 10) % 10))))))] := hD
    refine lv_aload_n hx hb dX5_decimal_121 rfl (lv_at hl 3 rfl) ?_
    refine lv_dup hx hb dX5_decimal_122 rfl ?_
    refine va_get (D := D) (ci := 6) (v := .int (iI ((dg + 1) + 1))) (C := RX5) (T := TX5) (N := 28) hx hb hts inX5 hown hK hP 0 rfl rfl 27 (by decide) kfieldLink_RX5_145_ZScreensModel_digits_I (fun _ h9 => h9) rfl dX5_decimal_123 ?_
    refine lv_iconst (v := iI 1) hx hb dX5_decimal_126 rfl ?_
    refine z_iadd hx hb dX5_decimal_127 ?_
    refine va_put (D := D) (ci := 6) (v := .int (iI (((dg + 1) + 1) + 1))) (ty := .int) (C := RX5) (T := TX5) (N := 28) hx hb hts inX5 tyX5 tyX5_ok nmX5 hown hK hP hD hS 0 rfl rfl 27 (by decide) kfieldLink_RX5_145_ZScreensModel_digits_I (fun _ h9 => h9) rfl (by decide +kernel) rfl rfl (Nat.le_of_ble_eq_true rfl) dX5_decimal_128 (fun H locs hP hD hS => ?_)
    have hP : va_P D vwCl [(a 0, .inr (6, [.ref (a 1), .ref (a 2), .int (iI (σ 0)), .int (iI (σ 2)), .int (iI (σ 1)), .int (iI (σ 3)), .int (iI (σ 4)), .int (iI (σ 10)), .int (iI (σ 11)), .int (iI (σ 12)), .int (iI (σ 13)), .int (iI (σ 7)), .int (iI (σ 8)), .int (iI (σ 9)), .int (iI (σ 5)), .ref (a 3), .int (iI (σ 18)), .int (iI (σ 14)), .int (iI (σ 15)), .int (iI (σ 16)), .int (iI (σ 17)), .ref (a 4), .int (iI (σ 19)), .int (iI (σ 6)), .ref (a 5), .int (iI (σ 20)), .ref (a 6), .int (iI (((dg + 1) + 1) + 1))])), (a 6, .inl (cA, 20, .inl (upd (upd (upd fd (dg).toNat (iI (48 + ((v / 1000) % 10)))) (dg + 1).toNat (iI (48 + ((v / 100) % 10)))) ((dg + 1) + 1).toNat (iI (48 + ((v / 10) % 10))))))] H := hP
    have hD : va_D A [(a 0, .inr (6, [.ref (a 1), .ref (a 2), .int (iI (σ 0)), .int (iI (σ 2)), .int (iI (σ 1)), .int (iI (σ 3)), .int (iI (σ 4)), .int (iI (σ 10)), .int (iI (σ 11)), .int (iI (σ 12)), .int (iI (σ 13)), .int (iI (σ 7)), .int (iI (σ 8)), .int (iI (σ 9)), .int (iI (σ 5)), .ref (a 3), .int (iI (σ 18)), .int (iI (σ 14)), .int (iI (σ 15)), .int (iI (σ 16)), .int (iI (σ 17)), .ref (a 4), .int (iI (σ 19)), .int (iI (σ 6)), .ref (a 5), .int (iI (σ 20)), .ref (a 6), .int (iI (((dg + 1) + 1) + 1))])), (a 6, .inl (cA, 20, .inl (upd (upd (upd fd (dg).toNat (iI (48 + ((v / 1000) % 10)))) (dg + 1).toNat (iI (48 + ((v / 100) % 10)))) ((dg + 1) + 1).toNat (iI (48 + ((v / 10) % 10))))))] := hD
    refine lv_iload hx hb dX5_decimal_131 (lv_at hl 0 rfl) ?_
    refine lv_bipush (v := iI 10) hx hb dX5_decimal_133 (by decide) ?_
    refine z_idiv hx hb (by omega) dX5_decimal_135 ?_
    refine lv_istore (lv' := [(4, .int (iI (10 / 10))), (5, .int (iI 4)), (3, .int (iI v)), (0, .ref (a 0)), (1, .int (iI v)), (2, .int (iI w))]) hx hb dX5_decimal_136 hl (by decide) rfl (fun ls hl => ?_)
    have hl : lv_has ls 6 [(4, .int (iI 1)), (5, .int (iI 4)), (3, .int (iI v)), (0, .ref (a 0)), (1, .int (iI v)), (2, .int (iI w))] := by rw [show (1 : Int) = 10 / 10 by omega]; exact hl
    refine lv_goto (tgt := 97) hx hb dX5_decimal_138 (by decide) ?_
    refine lv_iload hx hb dX5_decimal_97 (lv_at hl 0 rfl) ?_
    refine z_if_le hx hb 141 (by omega) dX5_decimal_99 (by decide) (fun c99 => absurd c99 (by omega)) (fun c99 => ?_)
    refine lv_aload_n hx hb dX5_decimal_102 rfl (lv_at hl 3 rfl) ?_
    refine va_get (D := D) (ci := 6) (v := .ref (a 6)) (C := RX5) (T := TX5) (N := 28) hx hb hts inX5 hown hK hP 0 rfl rfl 26 (by decide) kfieldLink_RX5_48_ZScreensModel_digit_I (fun _ h9 => h9) rfl dX5_decimal_103 ?_
    refine lv_aload_n hx hb dX5_decimal_106 rfl (lv_at hl 3 rfl) ?_
    refine va_get (D := D) (ci := 6) (v := .int (iI (((dg + 1) + 1) + 1))) (C := RX5) (T := TX5) (N := 28) hx hb hts inX5 hown hK hP 0 rfl rfl 27 (by decide) kfieldLink_RX5_145_ZScreensModel_digits_I (fun _ h9 => h9) rfl dX5_decimal_107 ?_
    refine lv_bipush (v := iI 48) hx hb dX5_decimal_110 (by decide) ?_
    refine lv_iload_n hx hb dX5_decimal_112 rfl (lv_at hl 2 rfl) ?_
    refine lv_iload hx hb dX5_decimal_113 (lv_at hl 0 rfl) ?_
    refine z_idiv hx hb (by omega) dX5_decimal_115 ?_
    refine lv_bipush (v := iI 10) hx hb dX5_decimal_116 (by decide) ?_
    refine z_irem hx hb (by omega) dX5_decimal_118 ?_
    refine z_iadd hx hb dX5_decimal_119 ?_
    refine z_iast hx hb hK hP hD hS 1 0 rfl rfl (by omega) dX5_decimal_120 (fun H locs hP hD hS => ?_)
    have hP : va_P D vwCl [(a 0, .inr (6, [.ref (a 1), .ref (a 2), .int (iI (σ 0)), .int (iI (σ 2)), .int (iI (σ 1)), .int (iI (σ 3)), .int (iI (σ 4)), .int (iI (σ 10)), .int (iI (σ 11)), .int (iI (σ 12)), .int (iI (σ 13)), .int (iI (σ 7)), .int (iI (σ 8)), .int (iI (σ 9)), .int (iI (σ 5)), .ref (a 3), .int (iI (σ 18)), .int (iI (σ 14)), .int (iI (σ 15)), .int (iI (σ 16)), .int (iI (σ 17)), .ref (a 4), .int (iI (σ 19)), .int (iI (σ 6)), .ref (a 5), .int (iI (σ 20)), .ref (a 6), .int (iI (((dg + 1) + 1) + 1))])), (a 6, .inl (cA, 20, .inl (upd (upd (upd (upd fd (dg).toNat (iI (48 + ((v / 1000) % 10)))) (dg + 1).toNat (iI (48 + ((v / 100) % 10)))) ((dg + 1) + 1).toNat (iI (48 + ((v / 10) % 10)))) (((dg + 1) + 1) + 1).toNat (iI (48 + ((v / 1) % 10))))))] H := hP
    have hD : va_D A [(a 0, .inr (6, [.ref (a 1), .ref (a 2), .int (iI (σ 0)), .int (iI (σ 2)), .int (iI (σ 1)), .int (iI (σ 3)), .int (iI (σ 4)), .int (iI (σ 10)), .int (iI (σ 11)), .int (iI (σ 12)), .int (iI (σ 13)), .int (iI (σ 7)), .int (iI (σ 8)), .int (iI (σ 9)), .int (iI (σ 5)), .ref (a 3), .int (iI (σ 18)), .int (iI (σ 14)), .int (iI (σ 15)), .int (iI (σ 16)), .int (iI (σ 17)), .ref (a 4), .int (iI (σ 19)), .int (iI (σ 6)), .ref (a 5), .int (iI (σ 20)), .ref (a 6), .int (iI (((dg + 1) + 1) + 1))])), (a 6, .inl (cA, 20, .inl (upd (upd (upd (upd fd (dg).toNat (iI (48 + ((v / 1000) % 10)))) (dg + 1).toNat (iI (48 + ((v / 100) % 10)))) ((dg + 1) + 1).toNat (iI (48 + ((v / 10) % 10)))) (((dg + 1) + 1) + 1).toNat (iI (48 + ((v / 1) % 10))))))] := hD
    refine lv_aload_n hx hb dX5_decimal_121 rfl (lv_at hl 3 rfl) ?_
    refine lv_dup hx hb dX5_decimal_122 rfl ?_
    refine va_get (D := D) (ci := 6) (v := .int (iI (((dg + 1) + 1) + 1))) (C := RX5) (T := TX5) (N := 28) hx hb hts inX5 hown hK hP 0 rfl rfl 27 (by decide) kfieldLink_RX5_145_ZScreensModel_digits_I (fun _ h9 => h9) rfl dX5_decimal_123 ?_
    refine lv_iconst (v := iI 1) hx hb dX5_decimal_126 rfl ?_
    refine z_iadd hx hb dX5_decimal_127 ?_
    refine va_put (D := D) (ci := 6) (v := .int (iI ((((dg + 1) + 1) + 1) + 1))) (ty := .int) (C := RX5) (T := TX5) (N := 28) hx hb hts inX5 tyX5 tyX5_ok nmX5 hown hK hP hD hS 0 rfl rfl 27 (by decide) kfieldLink_RX5_145_ZScreensModel_digits_I (fun _ h9 => h9) rfl (by decide +kernel) rfl rfl (Nat.le_of_ble_eq_true rfl) dX5_decimal_128 (fun H locs hP hD hS => ?_)
    have hP : va_P D vwCl [(a 0, .inr (6, [.ref (a 1), .ref (a 2), .int (iI (σ 0)), .int (iI (σ 2)), .int (iI (σ 1)), .int (iI (σ 3)), .int (iI (σ 4)), .int (iI (σ 10)), .int (iI (σ 11)), .int (iI (σ 12)), .int (iI (σ 13)), .int (iI (σ 7)), .int (iI (σ 8)), .int (iI (σ 9)), .int (iI (σ 5)), .ref (a 3), .int (iI (σ 18)), .int (iI (σ 14)), .int (iI (σ 15)), .int (iI (σ 16)), .int (iI (σ 17)), .ref (a 4), .int (iI (σ 19)), .int (iI (σ 6)), .ref (a 5), .int (iI (σ 20)), .ref (a 6), .int (iI ((((dg + 1) + 1) + 1) + 1))])), (a 6, .inl (cA, 20, .inl (upd (upd (upd (upd fd (dg).toNat (iI (48 + ((v / 1000) % 10)))) (dg + 1).toNat (iI (48 + ((v / 100) % 10)))) ((dg + 1) + 1).toNat (iI (48 + ((v / 10) % 10)))) (((dg + 1) + 1) + 1).toNat (iI (48 + ((v / 1) % 10))))))] H := hP
    have hD : va_D A [(a 0, .inr (6, [.ref (a 1), .ref (a 2), .int (iI (σ 0)), .int (iI (σ 2)), .int (iI (σ 1)), .int (iI (σ 3)), .int (iI (σ 4)), .int (iI (σ 10)), .int (iI (σ 11)), .int (iI (σ 12)), .int (iI (σ 13)), .int (iI (σ 7)), .int (iI (σ 8)), .int (iI (σ 9)), .int (iI (σ 5)), .ref (a 3), .int (iI (σ 18)), .int (iI (σ 14)), .int (iI (σ 15)), .int (iI (σ 16)), .int (iI (σ 17)), .ref (a 4), .int (iI (σ 19)), .int (iI (σ 6)), .ref (a 5), .int (iI (σ 20)), .ref (a 6), .int (iI ((((dg + 1) + 1) + 1) + 1))])), (a 6, .inl (cA, 20, .inl (upd (upd (upd (upd fd (dg).toNat (iI (48 + ((v / 1000) % 10)))) (dg + 1).toNat (iI (48 + ((v / 100) % 10)))) ((dg + 1) + 1).toNat (iI (48 + ((v / 10) % 10)))) (((dg + 1) + 1) + 1).toNat (iI (48 + ((v / 1) % 10))))))] := hD
    refine lv_iload hx hb dX5_decimal_131 (lv_at hl 0 rfl) ?_
    refine lv_bipush (v := iI 10) hx hb dX5_decimal_133 (by decide) ?_
    refine z_idiv hx hb (by omega) dX5_decimal_135 ?_
    refine lv_istore (lv' := [(4, .int (iI (1 / 10))), (5, .int (iI 4)), (3, .int (iI v)), (0, .ref (a 0)), (1, .int (iI v)), (2, .int (iI w))]) hx hb dX5_decimal_136 hl (by decide) rfl (fun ls hl => ?_)
    have hl : lv_has ls 6 [(4, .int (iI 0)), (5, .int (iI 4)), (3, .int (iI v)), (0, .ref (a 0)), (1, .int (iI v)), (2, .int (iI w))] := by rw [show (0 : Int) = 1 / 10 by omega]; exact hl
    refine lv_goto (tgt := 97) hx hb dX5_decimal_138 (by decide) ?_
    refine lv_iload hx hb dX5_decimal_97 (lv_at hl 0 rfl) ?_
    refine z_if_le hx hb 141 (by omega) dX5_decimal_99 (by decide) (fun c99 => ?_) (fun c99 => absurd c99 (by omega))
    have e9 : (if w = 1 then dec v else dec2 v) = [48 + ((v / 1000) % 10), 48 + ((v / 100) % 10), 48 + ((v / 10) % 10), 48 + ((v / 1) % 10)] := by
      unfold dec digs
      simp only [if_pos (show w = 1 by omega), if_neg (show ¬ v < 0 by omega), if_neg (show ¬ v < 10 by omega), if_neg (show ¬ v < 100 by omega), if_neg (show ¬ v < 1000 by omega)]
      first | rfl | (simp only [List.cons.injEq, and_true, true_and]; omega)
    have hx9 : zTx (upd (upd (upd (upd fd (dg).toNat (iI (48 + ((v / 1000) % 10)))) (dg + 1).toNat (iI (48 + ((v / 100) % 10)))) ((dg + 1) + 1).toNat (iI (48 + ((v / 10) % 10)))) (((dg + 1) + 1) + 1).toNat (iI (48 + ((v / 1) % 10)))) (tx ++ [48 + ((v / 1000) % 10)] ++ [48 + ((v / 100) % 10)] ++ [48 + ((v / 10) % 10)] ++ [48 + ((v / 1) % 10)]) := (tx_app (tx_app (tx_app (tx_app hT0 (by (try simp only [List.length_append, List.length_cons, List.length_nil]); omega)) (by (try simp only [List.length_append, List.length_cons, List.length_nil]); omega)) (by (try simp only [List.length_append, List.length_cons, List.length_nil]); omega)) (by (try simp only [List.length_append, List.length_cons, List.length_nil]); omega))
    have h9 : tx ++ (if w = 1 then dec v else dec2 v) = tx ++ [48 + ((v / 1000) % 10)] ++ [48 + ((v / 100) % 10)] ++ [48 + ((v / 10) % 10)] ++ [48 + ((v / 1) % 10)] := by rw [e9] <;> simp
    have hn9 : dg + (((if w = 1 then dec v else dec2 v)).length : Int) = (((dg + 1) + 1) + 1) + 1 := by rw [e9]; (try simp only [List.length_cons, List.length_nil]); omega
    exact K H locs (upd (upd (upd (upd fd (dg).toNat (iI (48 + ((v / 1000) % 10)))) (dg + 1).toNat (iI (48 + ((v / 100) % 10)))) ((dg + 1) + 1).toNat (iI (48 + ((v / 10) % 10)))) (((dg + 1) + 1) + 1).toNat (iI (48 + ((v / 1) % 10)))) _ ls 0 0 (by omega) (by omega) (by rw [h9]; exact hx9) (by rw [hn9]; exact hP) (by rw [hn9]; exact hD) hS dX5_decimal_141
  · skip
    refine lv_iload_n hx hb dX5_decimal_0 rfl (lv_at hl 1 rfl) ?_
    refine z_if_ge hx hb 9 (by omega) dX5_decimal_1 (by decide) (fun c1 => absurd c1 (by omega)) (fun c1 => ?_)
    refine lv_iload_n hx hb dX5_decimal_4 rfl (lv_at hl 1 rfl) ?_
    refine z_ineg hx hb dX5_decimal_5 ?_
    refine lv_goto (tgt := 10) hx hb dX5_decimal_6 (by decide) ?_
    refine lv_istore_n (lv' := [(3, .int (iI (-v))), (0, .ref (a 0)), (1, .int (iI v)), (2, .int (iI w))]) hx hb dX5_decimal_10 rfl hl (by decide) rfl (fun ls hl => ?_)
    refine lv_iload_n hx hb dX5_decimal_11 rfl (lv_at hl 2 rfl) ?_
    refine z_if_ge hx hb 36 (by omega) dX5_decimal_12 (by decide) (fun c12 => absurd c12 (by omega)) (fun c12 => ?_)
    refine lv_aload_n hx hb dX5_decimal_15 rfl (lv_at hl 1 rfl) ?_
    refine va_get (D := D) (ci := 6) (v := .ref (a 6)) (C := RX5) (T := TX5) (N := 28) hx hb hts inX5 hown hK hP 0 rfl rfl 26 (by decide) kfieldLink_RX5_48_ZScreensModel_digit_I (fun _ h9 => h9) rfl dX5_decimal_16 ?_
    refine lv_aload_n hx hb dX5_decimal_19 rfl (lv_at hl 1 rfl) ?_
    refine va_get (D := D) (ci := 6) (v := .int (iI dg)) (C := RX5) (T := TX5) (N := 28) hx hb hts inX5 hown hK hP 0 rfl rfl 27 (by decide) kfieldLink_RX5_145_ZScreensModel_digits_I (fun _ h9 => h9) rfl dX5_decimal_20 ?_
    refine lv_bipush (v := iI 45) hx hb dX5_decimal_23 (by decide) ?_
    refine z_iast hx hb hK hP hD hS 1 0 rfl rfl (by omega) dX5_decimal_25 (fun H locs hP hD hS => ?_)
    have hP : va_P D vwCl [(a 0, .inr (6, [.ref (a 1), .ref (a 2), .int (iI (σ 0)), .int (iI (σ 2)), .int (iI (σ 1)), .int (iI (σ 3)), .int (iI (σ 4)), .int (iI (σ 10)), .int (iI (σ 11)), .int (iI (σ 12)), .int (iI (σ 13)), .int (iI (σ 7)), .int (iI (σ 8)), .int (iI (σ 9)), .int (iI (σ 5)), .ref (a 3), .int (iI (σ 18)), .int (iI (σ 14)), .int (iI (σ 15)), .int (iI (σ 16)), .int (iI (σ 17)), .ref (a 4), .int (iI (σ 19)), .int (iI (σ 6)), .ref (a 5), .int (iI (σ 20)), .ref (a 6), .int (iI dg)])), (a 6, .inl (cA, 20, .inl (upd fd (dg).toNat (iI 45))))] H := hP
    have hD : va_D A [(a 0, .inr (6, [.ref (a 1), .ref (a 2), .int (iI (σ 0)), .int (iI (σ 2)), .int (iI (σ 1)), .int (iI (σ 3)), .int (iI (σ 4)), .int (iI (σ 10)), .int (iI (σ 11)), .int (iI (σ 12)), .int (iI (σ 13)), .int (iI (σ 7)), .int (iI (σ 8)), .int (iI (σ 9)), .int (iI (σ 5)), .ref (a 3), .int (iI (σ 18)), .int (iI (σ 14)), .int (iI (σ 15)), .int (iI (σ 16)), .int (iI (σ 17)), .ref (a 4), .int (iI (σ 19)), .int (iI (σ 6)), .ref (a 5), .int (iI (σ 20)), .ref (a 6), .int (iI dg)])), (a 6, .inl (cA, 20, .inl (upd fd (dg).toNat (iI 45))))] := hD
    refine lv_aload_n hx hb dX5_decimal_26 rfl (lv_at hl 1 rfl) ?_
    refine lv_dup hx hb dX5_decimal_27 rfl ?_
    refine va_get (D := D) (ci := 6) (v := .int (iI dg)) (C := RX5) (T := TX5) (N := 28) hx hb hts inX5 hown hK hP 0 rfl rfl 27 (by decide) kfieldLink_RX5_145_ZScreensModel_digits_I (fun _ h9 => h9) rfl dX5_decimal_28 ?_
    refine lv_iconst (v := iI 1) hx hb dX5_decimal_31 rfl ?_
    refine z_iadd hx hb dX5_decimal_32 ?_
    refine va_put (D := D) (ci := 6) (v := .int (iI (dg + 1))) (ty := .int) (C := RX5) (T := TX5) (N := 28) hx hb hts inX5 tyX5 tyX5_ok nmX5 hown hK hP hD hS 0 rfl rfl 27 (by decide) kfieldLink_RX5_145_ZScreensModel_digits_I (fun _ h9 => h9) rfl (by decide +kernel) rfl rfl (Nat.le_of_ble_eq_true rfl) dX5_decimal_33 (fun H locs hP hD hS => ?_)
    have hP : va_P D vwCl [(a 0, .inr (6, [.ref (a 1), .ref (a 2), .int (iI (σ 0)), .int (iI (σ 2)), .int (iI (σ 1)), .int (iI (σ 3)), .int (iI (σ 4)), .int (iI (σ 10)), .int (iI (σ 11)), .int (iI (σ 12)), .int (iI (σ 13)), .int (iI (σ 7)), .int (iI (σ 8)), .int (iI (σ 9)), .int (iI (σ 5)), .ref (a 3), .int (iI (σ 18)), .int (iI (σ 14)), .int (iI (σ 15)), .int (iI (σ 16)), .int (iI (σ 17)), .ref (a 4), .int (iI (σ 19)), .int (iI (σ 6)), .ref (a 5), .int (iI (σ 20)), .ref (a 6), .int (iI (dg + 1))])), (a 6, .inl (cA, 20, .inl (upd fd (dg).toNat (iI 45))))] H := hP
    have hD : va_D A [(a 0, .inr (6, [.ref (a 1), .ref (a 2), .int (iI (σ 0)), .int (iI (σ 2)), .int (iI (σ 1)), .int (iI (σ 3)), .int (iI (σ 4)), .int (iI (σ 10)), .int (iI (σ 11)), .int (iI (σ 12)), .int (iI (σ 13)), .int (iI (σ 7)), .int (iI (σ 8)), .int (iI (σ 9)), .int (iI (σ 5)), .ref (a 3), .int (iI (σ 18)), .int (iI (σ 14)), .int (iI (σ 15)), .int (iI (σ 16)), .int (iI (σ 17)), .ref (a 4), .int (iI (σ 19)), .int (iI (σ 6)), .ref (a 5), .int (iI (σ 20)), .ref (a 6), .int (iI (dg + 1))])), (a 6, .inl (cA, 20, .inl (upd fd (dg).toNat (iI 45))))] := hD
    refine lv_iconst (v := iI 1) hx hb dX5_decimal_36 rfl ?_
    refine lv_istore (lv' := [(4, .int (iI 1)), (3, .int (iI (-v))), (0, .ref (a 0)), (1, .int (iI v)), (2, .int (iI w))]) hx hb dX5_decimal_37 hl (by decide) rfl (fun ls hl => ?_)
    refine lv_iconst (v := iI 1) hx hb dX5_decimal_39 rfl ?_
    refine lv_istore (lv' := [(5, .int (iI 1)), (4, .int (iI 1)), (3, .int (iI (-v))), (0, .ref (a 0)), (1, .int (iI v)), (2, .int (iI w))]) hx hb dX5_decimal_40 hl (by decide) rfl (fun ls hl => ?_)
    refine lv_iload_n hx hb dX5_decimal_42 rfl (lv_at hl 2 rfl) ?_
    refine lv_iload hx hb dX5_decimal_43 (lv_at hl 1 rfl) ?_
    refine z_idiv hx hb (by omega) dX5_decimal_45 ?_
    refine lv_bipush (v := iI 9) hx hb dX5_decimal_46 (by decide) ?_
    refine z_icmp_le hx hb 64 (by omega) dX5_decimal_48 (by decide) (fun c48 => ?_) (fun c48 => absurd c48 (by omega))
    refine lv_iload hx hb dX5_decimal_64 (lv_at hl 0 rfl) ?_
    refine lv_iload_n hx hb dX5_decimal_66 rfl (lv_at hl 5 rfl) ?_
    refine z_icmp_ge hx hb 97 (by omega) dX5_decimal_67 (by decide) (fun c67 => ?_) (fun c67 => absurd c67 (by omega))
    refine lv_iload hx hb dX5_decimal_97 (lv_at hl 1 rfl) ?_
    refine z_if_le hx hb 141 (by omega) dX5_decimal_99 (by decide) (fun c99 => absurd c99 (by omega)) (fun c99 => ?_)
    refine lv_aload_n hx hb dX5_decimal_102 rfl (lv_at hl 3 rfl) ?_
    refine va_get (D := D) (ci := 6) (v := .ref (a 6)) (C := RX5) (T := TX5) (N := 28) hx hb hts inX5 hown hK hP 0 rfl rfl 26 (by decide) kfieldLink_RX5_48_ZScreensModel_digit_I (fun _ h9 => h9) rfl dX5_decimal_103 ?_
    refine lv_aload_n hx hb dX5_decimal_106 rfl (lv_at hl 3 rfl) ?_
    refine va_get (D := D) (ci := 6) (v := .int (iI (dg + 1))) (C := RX5) (T := TX5) (N := 28) hx hb hts inX5 hown hK hP 0 rfl rfl 27 (by decide) kfieldLink_RX5_145_ZScreensModel_digits_I (fun _ h9 => h9) rfl dX5_decimal_107 ?_
    refine lv_bipush (v := iI 48) hx hb dX5_decimal_110 (by decide) ?_
    refine lv_iload_n hx hb dX5_decimal_112 rfl (lv_at hl 2 rfl) ?_
    refine lv_iload hx hb dX5_decimal_113 (lv_at hl 1 rfl) ?_
    refine z_idiv hx hb (by omega) dX5_decimal_115 ?_
    refine lv_bipush (v := iI 10) hx hb dX5_decimal_116 (by decide) ?_
    refine z_irem hx hb (by omega) dX5_decimal_118 ?_
    refine z_iadd hx hb dX5_decimal_119 ?_
    refine z_iast hx hb hK hP hD hS 1 0 rfl rfl (by omega) dX5_decimal_120 (fun H locs hP hD hS => ?_)
    have hP : va_P D vwCl [(a 0, .inr (6, [.ref (a 1), .ref (a 2), .int (iI (σ 0)), .int (iI (σ 2)), .int (iI (σ 1)), .int (iI (σ 3)), .int (iI (σ 4)), .int (iI (σ 10)), .int (iI (σ 11)), .int (iI (σ 12)), .int (iI (σ 13)), .int (iI (σ 7)), .int (iI (σ 8)), .int (iI (σ 9)), .int (iI (σ 5)), .ref (a 3), .int (iI (σ 18)), .int (iI (σ 14)), .int (iI (σ 15)), .int (iI (σ 16)), .int (iI (σ 17)), .ref (a 4), .int (iI (σ 19)), .int (iI (σ 6)), .ref (a 5), .int (iI (σ 20)), .ref (a 6), .int (iI (dg + 1))])), (a 6, .inl (cA, 20, .inl (upd (upd fd (dg).toNat (iI 45)) (dg + 1).toNat (iI (48 + (((-v) / 1) % 10))))))] H := hP
    have hD : va_D A [(a 0, .inr (6, [.ref (a 1), .ref (a 2), .int (iI (σ 0)), .int (iI (σ 2)), .int (iI (σ 1)), .int (iI (σ 3)), .int (iI (σ 4)), .int (iI (σ 10)), .int (iI (σ 11)), .int (iI (σ 12)), .int (iI (σ 13)), .int (iI (σ 7)), .int (iI (σ 8)), .int (iI (σ 9)), .int (iI (σ 5)), .ref (a 3), .int (iI (σ 18)), .int (iI (σ 14)), .int (iI (σ 15)), .int (iI (σ 16)), .int (iI (σ 17)), .ref (a 4), .int (iI (σ 19)), .int (iI (σ 6)), .ref (a 5), .int (iI (σ 20)), .ref (a 6), .int (iI (dg + 1))])), (a 6, .inl (cA, 20, .inl (upd (upd fd (dg).toNat (iI 45)) (dg + 1).toNat (iI (48 + (((-v) / 1) % 10))))))] := hD
    refine lv_aload_n hx hb dX5_decimal_121 rfl (lv_at hl 3 rfl) ?_
    refine lv_dup hx hb dX5_decimal_122 rfl ?_
    refine va_get (D := D) (ci := 6) (v := .int (iI (dg + 1))) (C := RX5) (T := TX5) (N := 28) hx hb hts inX5 hown hK hP 0 rfl rfl 27 (by decide) kfieldLink_RX5_145_ZScreensModel_digits_I (fun _ h9 => h9) rfl dX5_decimal_123 ?_
    refine lv_iconst (v := iI 1) hx hb dX5_decimal_126 rfl ?_
    refine z_iadd hx hb dX5_decimal_127 ?_
    refine va_put (D := D) (ci := 6) (v := .int (iI ((dg + 1) + 1))) (ty := .int) (C := RX5) (T := TX5) (N := 28) hx hb hts inX5 tyX5 tyX5_ok nmX5 hown hK hP hD hS 0 rfl rfl 27 (by decide) kfieldLink_RX5_145_ZScreensModel_digits_I (fun _ h9 => h9) rfl (by decide +kernel) rfl rfl (Nat.le_of_ble_eq_true rfl) dX5_decimal_128 (fun H locs hP hD hS => ?_)
    have hP : va_P D vwCl [(a 0, .inr (6, [.ref (a 1), .ref (a 2), .int (iI (σ 0)), .int (iI (σ 2)), .int (iI (σ 1)), .int (iI (σ 3)), .int (iI (σ 4)), .int (iI (σ 10)), .int (iI (σ 11)), .int (iI (σ 12)), .int (iI (σ 13)), .int (iI (σ 7)), .int (iI (σ 8)), .int (iI (σ 9)), .int (iI (σ 5)), .ref (a 3), .int (iI (σ 18)), .int (iI (σ 14)), .int (iI (σ 15)), .int (iI (σ 16)), .int (iI (σ 17)), .ref (a 4), .int (iI (σ 19)), .int (iI (σ 6)), .ref (a 5), .int (iI (σ 20)), .ref (a 6), .int (iI ((dg + 1) + 1))])), (a 6, .inl (cA, 20, .inl (upd (upd fd (dg).toNat (iI 45)) (dg + 1).toNat (iI (48 + (((-v) / 1) % 10))))))] H := hP
    have hD : va_D A [(a 0, .inr (6, [.ref (a 1), .ref (a 2), .int (iI (σ 0)), .int (iI (σ 2)), .int (iI (σ 1)), .int (iI (σ 3)), .int (iI (σ 4)), .int (iI (σ 10)), .int (iI (σ 11)), .int (iI (σ 12)), .int (iI (σ 13)), .int (iI (σ 7)), .int (iI (σ 8)), .int (iI (σ 9)), .int (iI (σ 5)), .ref (a 3), .int (iI (σ 18)), .int (iI (σ 14)), .int (iI (σ 15)), .int (iI (σ 16)), .int (iI (σ 17)), .ref (a 4), .int (iI (σ 19)), .int (iI (σ 6)), .ref (a 5), .int (iI (σ 20)), .ref (a 6), .int (iI ((dg + 1) + 1))])), (a 6, .inl (cA, 20, .inl (upd (upd fd (dg).toNat (iI 45)) (dg + 1).toNat (iI (48 + (((-v) / 1) % 10))))))] := hD
    refine lv_iload hx hb dX5_decimal_131 (lv_at hl 1 rfl) ?_
    refine lv_bipush (v := iI 10) hx hb dX5_decimal_133 (by decide) ?_
    refine z_idiv hx hb (by omega) dX5_decimal_135 ?_
    refine lv_istore (lv' := [(4, .int (iI (1 / 10))), (5, .int (iI 1)), (3, .int (iI (-v))), (0, .ref (a 0)), (1, .int (iI v)), (2, .int (iI w))]) hx hb dX5_decimal_136 hl (by decide) rfl (fun ls hl => ?_)
    have hl : lv_has ls 6 [(4, .int (iI 0)), (5, .int (iI 1)), (3, .int (iI (-v))), (0, .ref (a 0)), (1, .int (iI v)), (2, .int (iI w))] := by rw [show (0 : Int) = 1 / 10 by omega]; exact hl
    refine lv_goto (tgt := 97) hx hb dX5_decimal_138 (by decide) ?_
    refine lv_iload hx hb dX5_decimal_97 (lv_at hl 0 rfl) ?_
    refine z_if_le hx hb 141 (by omega) dX5_decimal_99 (by decide) (fun c99 => ?_) (fun c99 => absurd c99 (by omega))
    have e9 : (if w = 1 then dec v else dec2 v) = [45, 48 + (((-v) / 1) % 10)] := by
      unfold dec digs
      simp only [if_pos (show w = 1 by omega), if_pos (show v < 0 by omega), if_pos (show (-v) < 10 by omega)]
      first | rfl | (simp only [List.cons.injEq, and_true, true_and]; omega)
    have hx9 : zTx (upd (upd fd (dg).toNat (iI 45)) (dg + 1).toNat (iI (48 + (((-v) / 1) % 10)))) (tx ++ [45] ++ [48 + (((-v) / 1) % 10)]) := (tx_app (tx_app hT0 (by (try simp only [List.length_append, List.length_cons, List.length_nil]); omega)) (by (try simp only [List.length_append, List.length_cons, List.length_nil]); omega))
    have h9 : tx ++ (if w = 1 then dec v else dec2 v) = tx ++ [45] ++ [48 + (((-v) / 1) % 10)] := by rw [e9] <;> simp
    have hn9 : dg + (((if w = 1 then dec v else dec2 v)).length : Int) = (dg + 1) + 1 := by rw [e9]; (try simp only [List.length_cons, List.length_nil]); omega
    exact K H locs (upd (upd fd (dg).toNat (iI 45)) (dg + 1).toNat (iI (48 + (((-v) / 1) % 10)))) _ ls 0 0 (by omega) (by omega) (by rw [h9]; exact hx9) (by rw [hn9]; exact hP) (by rw [hn9]; exact hD) hS dX5_decimal_141
  · skip
    refine lv_iload_n hx hb dX5_decimal_0 rfl (lv_at hl 1 rfl) ?_
    refine z_if_ge hx hb 9 (by omega) dX5_decimal_1 (by decide) (fun c1 => absurd c1 (by omega)) (fun c1 => ?_)
    refine lv_iload_n hx hb dX5_decimal_4 rfl (lv_at hl 1 rfl) ?_
    refine z_ineg hx hb dX5_decimal_5 ?_
    refine lv_goto (tgt := 10) hx hb dX5_decimal_6 (by decide) ?_
    refine lv_istore_n (lv' := [(3, .int (iI (-v))), (0, .ref (a 0)), (1, .int (iI v)), (2, .int (iI w))]) hx hb dX5_decimal_10 rfl hl (by decide) rfl (fun ls hl => ?_)
    refine lv_iload_n hx hb dX5_decimal_11 rfl (lv_at hl 2 rfl) ?_
    refine z_if_ge hx hb 36 (by omega) dX5_decimal_12 (by decide) (fun c12 => absurd c12 (by omega)) (fun c12 => ?_)
    refine lv_aload_n hx hb dX5_decimal_15 rfl (lv_at hl 1 rfl) ?_
    refine va_get (D := D) (ci := 6) (v := .ref (a 6)) (C := RX5) (T := TX5) (N := 28) hx hb hts inX5 hown hK hP 0 rfl rfl 26 (by decide) kfieldLink_RX5_48_ZScreensModel_digit_I (fun _ h9 => h9) rfl dX5_decimal_16 ?_
    refine lv_aload_n hx hb dX5_decimal_19 rfl (lv_at hl 1 rfl) ?_
    refine va_get (D := D) (ci := 6) (v := .int (iI dg)) (C := RX5) (T := TX5) (N := 28) hx hb hts inX5 hown hK hP 0 rfl rfl 27 (by decide) kfieldLink_RX5_145_ZScreensModel_digits_I (fun _ h9 => h9) rfl dX5_decimal_20 ?_
    refine lv_bipush (v := iI 45) hx hb dX5_decimal_23 (by decide) ?_
    refine z_iast hx hb hK hP hD hS 1 0 rfl rfl (by omega) dX5_decimal_25 (fun H locs hP hD hS => ?_)
    have hP : va_P D vwCl [(a 0, .inr (6, [.ref (a 1), .ref (a 2), .int (iI (σ 0)), .int (iI (σ 2)), .int (iI (σ 1)), .int (iI (σ 3)), .int (iI (σ 4)), .int (iI (σ 10)), .int (iI (σ 11)), .int (iI (σ 12)), .int (iI (σ 13)), .int (iI (σ 7)), .int (iI (σ 8)), .int (iI (σ 9)), .int (iI (σ 5)), .ref (a 3), .int (iI (σ 18)), .int (iI (σ 14)), .int (iI (σ 15)), .int (iI (σ 16)), .int (iI (σ 17)), .ref (a 4), .int (iI (σ 19)), .int (iI (σ 6)), .ref (a 5), .int (iI (σ 20)), .ref (a 6), .int (iI dg)])), (a 6, .inl (cA, 20, .inl (upd fd (dg).toNat (iI 45))))] H := hP
    have hD : va_D A [(a 0, .inr (6, [.ref (a 1), .ref (a 2), .int (iI (σ 0)), .int (iI (σ 2)), .int (iI (σ 1)), .int (iI (σ 3)), .int (iI (σ 4)), .int (iI (σ 10)), .int (iI (σ 11)), .int (iI (σ 12)), .int (iI (σ 13)), .int (iI (σ 7)), .int (iI (σ 8)), .int (iI (σ 9)), .int (iI (σ 5)), .ref (a 3), .int (iI (σ 18)), .int (iI (σ 14)), .int (iI (σ 15)), .int (iI (σ 16)), .int (iI (σ 17)), .ref (a 4), .int (iI (σ 19)), .int (iI (σ 6)), .ref (a 5), .int (iI (σ 20)), .ref (a 6), .int (iI dg)])), (a 6, .inl (cA, 20, .inl (upd fd (dg).toNat (iI 45))))] := hD
    refine lv_aload_n hx hb dX5_decimal_26 rfl (lv_at hl 1 rfl) ?_
    refine lv_dup hx hb dX5_decimal_27 rfl ?_
    refine va_get (D := D) (ci := 6) (v := .int (iI dg)) (C := RX5) (T := TX5) (N := 28) hx hb hts inX5 hown hK hP 0 rfl rfl 27 (by decide) kfieldLink_RX5_145_ZScreensModel_digits_I (fun _ h9 => h9) rfl dX5_decimal_28 ?_
    refine lv_iconst (v := iI 1) hx hb dX5_decimal_31 rfl ?_
    refine z_iadd hx hb dX5_decimal_32 ?_
    refine va_put (D := D) (ci := 6) (v := .int (iI (dg + 1))) (ty := .int) (C := RX5) (T := TX5) (N := 28) hx hb hts inX5 tyX5 tyX5_ok nmX5 hown hK hP hD hS 0 rfl rfl 27 (by decide) kfieldLink_RX5_145_ZScreensModel_digits_I (fun _ h9 => h9) rfl (by decide +kernel) rfl rfl (Nat.le_of_ble_eq_true rfl) dX5_decimal_33 (fun H locs hP hD hS => ?_)
    have hP : va_P D vwCl [(a 0, .inr (6, [.ref (a 1), .ref (a 2), .int (iI (σ 0)), .int (iI (σ 2)), .int (iI (σ 1)), .int (iI (σ 3)), .int (iI (σ 4)), .int (iI (σ 10)), .int (iI (σ 11)), .int (iI (σ 12)), .int (iI (σ 13)), .int (iI (σ 7)), .int (iI (σ 8)), .int (iI (σ 9)), .int (iI (σ 5)), .ref (a 3), .int (iI (σ 18)), .int (iI (σ 14)), .int (iI (σ 15)), .int (iI (σ 16)), .int (iI (σ 17)), .ref (a 4), .int (iI (σ 19)), .int (iI (σ 6)), .ref (a 5), .int (iI (σ 20)), .ref (a 6), .int (iI (dg + 1))])), (a 6, .inl (cA, 20, .inl (upd fd (dg).toNat (iI 45))))] H := hP
    have hD : va_D A [(a 0, .inr (6, [.ref (a 1), .ref (a 2), .int (iI (σ 0)), .int (iI (σ 2)), .int (iI (σ 1)), .int (iI (σ 3)), .int (iI (σ 4)), .int (iI (σ 10)), .int (iI (σ 11)), .int (iI (σ 12)), .int (iI (σ 13)), .int (iI (σ 7)), .int (iI (σ 8)), .int (iI (σ 9)), .int (iI (σ 5)), .ref (a 3), .int (iI (σ 18)), .int (iI (σ 14)), .int (iI (σ 15)), .int (iI (σ 16)), .int (iI (σ 17)), .ref (a 4), .int (iI (σ 19)), .int (iI (σ 6)), .ref (a 5), .int (iI (σ 20)), .ref (a 6), .int (iI (dg + 1))])), (a 6, .inl (cA, 20, .inl (upd fd (dg).toNat (iI 45))))] := hD
    refine lv_iconst (v := iI 1) hx hb dX5_decimal_36 rfl ?_
    refine lv_istore (lv' := [(4, .int (iI 1)), (3, .int (iI (-v))), (0, .ref (a 0)), (1, .int (iI v)), (2, .int (iI w))]) hx hb dX5_decimal_37 hl (by decide) rfl (fun ls hl => ?_)
    refine lv_iconst (v := iI 1) hx hb dX5_decimal_39 rfl ?_
    refine lv_istore (lv' := [(5, .int (iI 1)), (4, .int (iI 1)), (3, .int (iI (-v))), (0, .ref (a 0)), (1, .int (iI v)), (2, .int (iI w))]) hx hb dX5_decimal_40 hl (by decide) rfl (fun ls hl => ?_)
    refine lv_iload_n hx hb dX5_decimal_42 rfl (lv_at hl 2 rfl) ?_
    refine lv_iload hx hb dX5_decimal_43 (lv_at hl 1 rfl) ?_
    refine z_idiv hx hb (by omega) dX5_decimal_45 ?_
    refine lv_bipush (v := iI 9) hx hb dX5_decimal_46 (by decide) ?_
    refine z_icmp_le hx hb 64 (by omega) dX5_decimal_48 (by decide) (fun c48 => absurd c48 (by omega)) (fun c48 => ?_)
    refine lv_iload hx hb dX5_decimal_51 (lv_at hl 1 rfl) ?_
    refine lv_bipush (v := iI 10) hx hb dX5_decimal_53 (by decide) ?_
    refine z_imul hx hb dX5_decimal_55 ?_
    refine lv_istore (lv' := [(4, .int (iI (1 * 10))), (5, .int (iI 1)), (3, .int (iI (-v))), (0, .ref (a 0)), (1, .int (iI v)), (2, .int (iI w))]) hx hb dX5_decimal_56 hl (by decide) rfl (fun ls hl => ?_)
    have hl : lv_has ls 6 [(4, .int (iI 10)), (5, .int (iI 1)), (3, .int (iI (-v))), (0, .ref (a 0)), (1, .int (iI v)), (2, .int (iI w))] := by rw [show (10 : Int) = 1 * 10 by omega]; exact hl
    refine lv_iinc (v := iI (1 + 1)) (lv' := [(5, .int (iI (1 + 1))), (4, .int (iI 10)), (3, .int (iI (-v))), (0, .ref (a 0)), (1, .int (iI v)), (2, .int (iI w))]) hx hb dX5_decimal_58 hl (k := 1) rfl (iI_add _ _) (by decide) rfl (fun ls hl => ?_)
    have hl : lv_has ls 6 [(5, .int (iI 2)), (4, .int (iI 10)), (3, .int (iI (-v))), (0, .ref (a 0)), (1, .int (iI v)), (2, .int (iI w))] := by rw [show (2 : Int) = 1 + 1 by omega]; exact hl
    refine lv_goto (tgt := 42) hx hb dX5_decimal_61 (by decide) ?_
    refine lv_iload_n hx hb dX5_decimal_42 rfl (lv_at hl 2 rfl) ?_
    refine lv_iload hx hb dX5_decimal_43 (lv_at hl 1 rfl) ?_
    refine z_idiv hx hb (by omega) dX5_decimal_45 ?_
    refine lv_bipush (v := iI 9) hx hb dX5_decimal_46 (by decide) ?_
    refine z_icmp_le hx hb 64 (by omega) dX5_decimal_48 (by decide) (fun c48 => ?_) (fun c48 => absurd c48 (by omega))
    refine lv_iload hx hb dX5_decimal_64 (lv_at hl 0 rfl) ?_
    refine lv_iload_n hx hb dX5_decimal_66 rfl (lv_at hl 5 rfl) ?_
    refine z_icmp_ge hx hb 97 (by omega) dX5_decimal_67 (by decide) (fun c67 => ?_) (fun c67 => absurd c67 (by omega))
    refine lv_iload hx hb dX5_decimal_97 (lv_at hl 1 rfl) ?_
    refine z_if_le hx hb 141 (by omega) dX5_decimal_99 (by decide) (fun c99 => absurd c99 (by omega)) (fun c99 => ?_)
    refine lv_aload_n hx hb dX5_decimal_102 rfl (lv_at hl 3 rfl) ?_
    refine va_get (D := D) (ci := 6) (v := .ref (a 6)) (C := RX5) (T := TX5) (N := 28) hx hb hts inX5 hown hK hP 0 rfl rfl 26 (by decide) kfieldLink_RX5_48_ZScreensModel_digit_I (fun _ h9 => h9) rfl dX5_decimal_103 ?_
    refine lv_aload_n hx hb dX5_decimal_106 rfl (lv_at hl 3 rfl) ?_
    refine va_get (D := D) (ci := 6) (v := .int (iI (dg + 1))) (C := RX5) (T := TX5) (N := 28) hx hb hts inX5 hown hK hP 0 rfl rfl 27 (by decide) kfieldLink_RX5_145_ZScreensModel_digits_I (fun _ h9 => h9) rfl dX5_decimal_107 ?_
    refine lv_bipush (v := iI 48) hx hb dX5_decimal_110 (by decide) ?_
    refine lv_iload_n hx hb dX5_decimal_112 rfl (lv_at hl 2 rfl) ?_
    refine lv_iload hx hb dX5_decimal_113 (lv_at hl 1 rfl) ?_
    refine z_idiv hx hb (by omega) dX5_decimal_115 ?_
    refine lv_bipush (v := iI 10) hx hb dX5_decimal_116 (by decide) ?_
    refine z_irem hx hb (by omega) dX5_decimal_118 ?_
    refine z_iadd hx hb dX5_decimal_119 ?_
    refine z_iast hx hb hK hP hD hS 1 0 rfl rfl (by omega) dX5_decimal_120 (fun H locs hP hD hS => ?_)
    have hP : va_P D vwCl [(a 0, .inr (6, [.ref (a 1), .ref (a 2), .int (iI (σ 0)), .int (iI (σ 2)), .int (iI (σ 1)), .int (iI (σ 3)), .int (iI (σ 4)), .int (iI (σ 10)), .int (iI (σ 11)), .int (iI (σ 12)), .int (iI (σ 13)), .int (iI (σ 7)), .int (iI (σ 8)), .int (iI (σ 9)), .int (iI (σ 5)), .ref (a 3), .int (iI (σ 18)), .int (iI (σ 14)), .int (iI (σ 15)), .int (iI (σ 16)), .int (iI (σ 17)), .ref (a 4), .int (iI (σ 19)), .int (iI (σ 6)), .ref (a 5), .int (iI (σ 20)), .ref (a 6), .int (iI (dg + 1))])), (a 6, .inl (cA, 20, .inl (upd (upd fd (dg).toNat (iI 45)) (dg + 1).toNat (iI (48 + (((-v) / 10) % 10))))))] H := hP
    have hD : va_D A [(a 0, .inr (6, [.ref (a 1), .ref (a 2), .int (iI (σ 0)), .int (iI (σ 2)), .int (iI (σ 1)), .int (iI (σ 3)), .int (iI (σ 4)), .int (iI (σ 10)), .int (iI (σ 11)), .int (iI (σ 12)), .int (iI (σ 13)), .int (iI (σ 7)), .int (iI (σ 8)), .int (iI (σ 9)), .int (iI (σ 5)), .ref (a 3), .int (iI (σ 18)), .int (iI (σ 14)), .int (iI (σ 15)), .int (iI (σ 16)), .int (iI (σ 17)), .ref (a 4), .int (iI (σ 19)), .int (iI (σ 6)), .ref (a 5), .int (iI (σ 20)), .ref (a 6), .int (iI (dg + 1))])), (a 6, .inl (cA, 20, .inl (upd (upd fd (dg).toNat (iI 45)) (dg + 1).toNat (iI (48 + (((-v) / 10) % 10))))))] := hD
    refine lv_aload_n hx hb dX5_decimal_121 rfl (lv_at hl 3 rfl) ?_
    refine lv_dup hx hb dX5_decimal_122 rfl ?_
    refine va_get (D := D) (ci := 6) (v := .int (iI (dg + 1))) (C := RX5) (T := TX5) (N := 28) hx hb hts inX5 hown hK hP 0 rfl rfl 27 (by decide) kfieldLink_RX5_145_ZScreensModel_digits_I (fun _ h9 => h9) rfl dX5_decimal_123 ?_
    refine lv_iconst (v := iI 1) hx hb dX5_decimal_126 rfl ?_
    refine z_iadd hx hb dX5_decimal_127 ?_
    refine va_put (D := D) (ci := 6) (v := .int (iI ((dg + 1) + 1))) (ty := .int) (C := RX5) (T := TX5) (N := 28) hx hb hts inX5 tyX5 tyX5_ok nmX5 hown hK hP hD hS 0 rfl rfl 27 (by decide) kfieldLink_RX5_145_ZScreensModel_digits_I (fun _ h9 => h9) rfl (by decide +kernel) rfl rfl (Nat.le_of_ble_eq_true rfl) dX5_decimal_128 (fun H locs hP hD hS => ?_)
    have hP : va_P D vwCl [(a 0, .inr (6, [.ref (a 1), .ref (a 2), .int (iI (σ 0)), .int (iI (σ 2)), .int (iI (σ 1)), .int (iI (σ 3)), .int (iI (σ 4)), .int (iI (σ 10)), .int (iI (σ 11)), .int (iI (σ 12)), .int (iI (σ 13)), .int (iI (σ 7)), .int (iI (σ 8)), .int (iI (σ 9)), .int (iI (σ 5)), .ref (a 3), .int (iI (σ 18)), .int (iI (σ 14)), .int (iI (σ 15)), .int (iI (σ 16)), .int (iI (σ 17)), .ref (a 4), .int (iI (σ 19)), .int (iI (σ 6)), .ref (a 5), .int (iI (σ 20)), .ref (a 6), .int (iI ((dg + 1) + 1))])), (a 6, .inl (cA, 20, .inl (upd (upd fd (dg).toNat (iI 45)) (dg + 1).toNat (iI (48 + (((-v) / 10) % 10))))))] H := hP
    have hD : va_D A [(a 0, .inr (6, [.ref (a 1), .ref (a 2), .int (iI (σ 0)), .int (iI (σ 2)), .int (iI (σ 1)), .int (iI (σ 3)), .int (iI (σ 4)), .int (iI (σ 10)), .int (iI (σ 11)), .int (iI (σ 12)), .int (iI (σ 13)), .int (iI (σ 7)), .int (iI (σ 8)), .int (iI (σ 9)), .int (iI (σ 5)), .ref (a 3), .int (iI (σ 18)), .int (iI (σ 14)), .int (iI (σ 15)), .int (iI (σ 16)), .int (iI (σ 17)), .ref (a 4), .int (iI (σ 19)), .int (iI (σ 6)), .ref (a 5), .int (iI (σ 20)), .ref (a 6), .int (iI ((dg + 1) + 1))])), (a 6, .inl (cA, 20, .inl (upd (upd fd (dg).toNat (iI 45)) (dg + 1).toNat (iI (48 + (((-v) / 10) % 10))))))] := hD
    refine lv_iload hx hb dX5_decimal_131 (lv_at hl 1 rfl) ?_
    refine lv_bipush (v := iI 10) hx hb dX5_decimal_133 (by decide) ?_
    refine z_idiv hx hb (by omega) dX5_decimal_135 ?_
    refine lv_istore (lv' := [(4, .int (iI (10 / 10))), (5, .int (iI 2)), (3, .int (iI (-v))), (0, .ref (a 0)), (1, .int (iI v)), (2, .int (iI w))]) hx hb dX5_decimal_136 hl (by decide) rfl (fun ls hl => ?_)
    have hl : lv_has ls 6 [(4, .int (iI 1)), (5, .int (iI 2)), (3, .int (iI (-v))), (0, .ref (a 0)), (1, .int (iI v)), (2, .int (iI w))] := by rw [show (1 : Int) = 10 / 10 by omega]; exact hl
    refine lv_goto (tgt := 97) hx hb dX5_decimal_138 (by decide) ?_
    refine lv_iload hx hb dX5_decimal_97 (lv_at hl 0 rfl) ?_
    refine z_if_le hx hb 141 (by omega) dX5_decimal_99 (by decide) (fun c99 => absurd c99 (by omega)) (fun c99 => ?_)
    refine lv_aload_n hx hb dX5_decimal_102 rfl (lv_at hl 3 rfl) ?_
    refine va_get (D := D) (ci := 6) (v := .ref (a 6)) (C := RX5) (T := TX5) (N := 28) hx hb hts inX5 hown hK hP 0 rfl rfl 26 (by decide) kfieldLink_RX5_48_ZScreensModel_digit_I (fun _ h9 => h9) rfl dX5_decimal_103 ?_
    refine lv_aload_n hx hb dX5_decimal_106 rfl (lv_at hl 3 rfl) ?_
    refine va_get (D := D) (ci := 6) (v := .int (iI ((dg + 1) + 1))) (C := RX5) (T := TX5) (N := 28) hx hb hts inX5 hown hK hP 0 rfl rfl 27 (by decide) kfieldLink_RX5_145_ZScreensModel_digits_I (fun _ h9 => h9) rfl dX5_decimal_107 ?_
    refine lv_bipush (v := iI 48) hx hb dX5_decimal_110 (by decide) ?_
    refine lv_iload_n hx hb dX5_decimal_112 rfl (lv_at hl 2 rfl) ?_
    refine lv_iload hx hb dX5_decimal_113 (lv_at hl 0 rfl) ?_
    refine z_idiv hx hb (by omega) dX5_decimal_115 ?_
    refine lv_bipush (v := iI 10) hx hb dX5_decimal_116 (by decide) ?_
    refine z_irem hx hb (by omega) dX5_decimal_118 ?_
    refine z_iadd hx hb dX5_decimal_119 ?_
    refine z_iast hx hb hK hP hD hS 1 0 rfl rfl (by omega) dX5_decimal_120 (fun H locs hP hD hS => ?_)
    have hP : va_P D vwCl [(a 0, .inr (6, [.ref (a 1), .ref (a 2), .int (iI (σ 0)), .int (iI (σ 2)), .int (iI (σ 1)), .int (iI (σ 3)), .int (iI (σ 4)), .int (iI (σ 10)), .int (iI (σ 11)), .int (iI (σ 12)), .int (iI (σ 13)), .int (iI (σ 7)), .int (iI (σ 8)), .int (iI (σ 9)), .int (iI (σ 5)), .ref (a 3), .int (iI (σ 18)), .int (iI (σ 14)), .int (iI (σ 15)), .int (iI (σ 16)), .int (iI (σ 17)), .ref (a 4), .int (iI (σ 19)), .int (iI (σ 6)), .ref (a 5), .int (iI (σ 20)), .ref (a 6), .int (iI ((dg + 1) + 1))])), (a 6, .inl (cA, 20, .inl (upd (upd (upd fd (dg).toNat (iI 45)) (dg + 1).toNat (iI (48 + (((-v) / 10) % 10)))) ((dg + 1) + 1).toNat (iI (48 + (((-v) / 1) % 10))))))] H := hP
    have hD : va_D A [(a 0, .inr (6, [.ref (a 1), .ref (a 2), .int (iI (σ 0)), .int (iI (σ 2)), .int (iI (σ 1)), .int (iI (σ 3)), .int (iI (σ 4)), .int (iI (σ 10)), .int (iI (σ 11)), .int (iI (σ 12)), .int (iI (σ 13)), .int (iI (σ 7)), .int (iI (σ 8)), .int (iI (σ 9)), .int (iI (σ 5)), .ref (a 3), .int (iI (σ 18)), .int (iI (σ 14)), .int (iI (σ 15)), .int (iI (σ 16)), .int (iI (σ 17)), .ref (a 4), .int (iI (σ 19)), .int (iI (σ 6)), .ref (a 5), .int (iI (σ 20)), .ref (a 6), .int (iI ((dg + 1) + 1))])), (a 6, .inl (cA, 20, .inl (upd (upd (upd fd (dg).toNat (iI 45)) (dg + 1).toNat (iI (48 + (((-v) / 10) % 10)))) ((dg + 1) + 1).toNat (iI (48 + (((-v) / 1) % 10))))))] := hD
    refine lv_aload_n hx hb dX5_decimal_121 rfl (lv_at hl 3 rfl) ?_
    refine lv_dup hx hb dX5_decimal_122 rfl ?_
    refine va_get (D := D) (ci := 6) (v := .int (iI ((dg + 1) + 1))) (C := RX5) (T := TX5) (N := 28) hx hb hts inX5 hown hK hP 0 rfl rfl 27 (by decide) kfieldLink_RX5_145_ZScreensModel_digits_I (fun _ h9 => h9) rfl dX5_decimal_123 ?_
    refine lv_iconst (v := iI 1) hx hb dX5_decimal_126 rfl ?_
    refine z_iadd hx hb dX5_decimal_127 ?_
    refine va_put (D := D) (ci := 6) (v := .int (iI (((dg + 1) + 1) + 1))) (ty := .int) (C := RX5) (T := TX5) (N := 28) hx hb hts inX5 tyX5 tyX5_ok nmX5 hown hK hP hD hS 0 rfl rfl 27 (by decide) kfieldLink_RX5_145_ZScreensModel_digits_I (fun _ h9 => h9) rfl (by decide +kernel) rfl rfl (Nat.le_of_ble_eq_true rfl) dX5_decimal_128 (fun H locs hP hD hS => ?_)
    have hP : va_P D vwCl [(a 0, .inr (6, [.ref (a 1), .ref (a 2), .int (iI (σ 0)), .int (iI (σ 2)), .int (iI (σ 1)), .int (iI (σ 3)), .int (iI (σ 4)), .int (iI (σ 10)), .int (iI (σ 11)), .int (iI (σ 12)), .int (iI (σ 13)), .int (iI (σ 7)), .int (iI (σ 8)), .int (iI (σ 9)), .int (iI (σ 5)), .ref (a 3), .int (iI (σ 18)), .int (iI (σ 14)), .int (iI (σ 15)), .int (iI (σ 16)), .int (iI (σ 17)), .ref (a 4), .int (iI (σ 19)), .int (iI (σ 6)), .ref (a 5), .int (iI (σ 20)), .ref (a 6), .int (iI (((dg + 1) + 1) + 1))])), (a 6, .inl (cA, 20, .inl (upd (upd (upd fd (dg).toNat (iI 45)) (dg + 1).toNat (iI (48 + (((-v) / 10) % 10)))) ((dg + 1) + 1).toNat (iI (48 + (((-v) / 1) % 10))))))] H := hP
    have hD : va_D A [(a 0, .inr (6, [.ref (a 1), .ref (a 2), .int (iI (σ 0)), .int (iI (σ 2)), .int (iI (σ 1)), .int (iI (σ 3)), .int (iI (σ 4)), .int (iI (σ 10)), .int (iI (σ 11)), .int (iI (σ 12)), .int (iI (σ 13)), .int (iI (σ 7)), .int (iI (σ 8)), .int (iI (σ 9)), .int (iI (σ 5)), .ref (a 3), .int (iI (σ 18)), .int (iI (σ 14)), .int (iI (σ 15)), .int (iI (σ 16)), .int (iI (σ 17)), .ref (a 4), .int (iI (σ 19)), .int (iI (σ 6)), .ref (a 5), .int (iI (σ 20)), .ref (a 6), .int (iI (((dg + 1) + 1) + 1))])), (a 6, .inl (cA, 20, .inl (upd (upd (upd fd (dg).toNat (iI 45)) (dg + 1).toNat (iI (48 + (((-v) / 10) % 10)))) ((dg + 1) + 1).toNat (iI (48 + (((-v) / 1) % 10))))))] := hD
    refine lv_iload hx hb dX5_decimal_131 (lv_at hl 0 rfl) ?_
    refine lv_bipush (v := iI 10) hx hb dX5_decimal_133 (by decide) ?_
    refine z_idiv hx hb (by omega) dX5_decimal_135 ?_
    refine lv_istore (lv' := [(4, .int (iI (1 / 10))), (5, .int (iI 2)), (3, .int (iI (-v))), (0, .ref (a 0)), (1, .int (iI v)), (2, .int (iI w))]) hx hb dX5_decimal_136 hl (by decide) rfl (fun ls hl => ?_)
    have hl : lv_has ls 6 [(4, .int (iI 0)), (5, .int (iI 2)), (3, .int (iI (-v))), (0, .ref (a 0)), (1, .int (iI v)), (2, .int (iI w))] := by rw [show (0 : Int) = 1 / 10 by omega]; exact hl
    refine lv_goto (tgt := 97) hx hb dX5_decimal_138 (by decide) ?_
    refine lv_iload hx hb dX5_decimal_97 (lv_at hl 0 rfl) ?_
    refine z_if_le hx hb 141 (by omega) dX5_decimal_99 (by decide) (fun c99 => ?_) (fun c99 => absurd c99 (by omega))
    have e9 : (if w = 1 then dec v else dec2 v) = [45, 48 + (((-v) / 10) % 10), 48 + (((-v) / 1) % 10)] := by
      unfold dec digs
      simp only [if_pos (show w = 1 by omega), if_pos (show v < 0 by omega), if_neg (show ¬ (-v) < 10 by omega), if_pos (show (-v) < 100 by omega)]
      first | rfl | (simp only [List.cons.injEq, and_true, true_and]; omega)
    have hx9 : zTx (upd (upd (upd fd (dg).toNat (iI 45)) (dg + 1).toNat (iI (48 + (((-v) / 10) % 10)))) ((dg + 1) + 1).toNat (iI (48 + (((-v) / 1) % 10)))) (tx ++ [45] ++ [48 + (((-v) / 10) % 10)] ++ [48 + (((-v) / 1) % 10)]) := (tx_app (tx_app (tx_app hT0 (by (try simp only [List.length_append, List.length_cons, List.length_nil]); omega)) (by (try simp only [List.length_append, List.length_cons, List.length_nil]); omega)) (by (try simp only [List.length_append, List.length_cons, List.length_nil]); omega))
    have h9 : tx ++ (if w = 1 then dec v else dec2 v) = tx ++ [45] ++ [48 + (((-v) / 10) % 10)] ++ [48 + (((-v) / 1) % 10)] := by rw [e9] <;> simp
    have hn9 : dg + (((if w = 1 then dec v else dec2 v)).length : Int) = ((dg + 1) + 1) + 1 := by rw [e9]; (try simp only [List.length_cons, List.length_nil]); omega
    exact K H locs (upd (upd (upd fd (dg).toNat (iI 45)) (dg + 1).toNat (iI (48 + (((-v) / 10) % 10)))) ((dg + 1) + 1).toNat (iI (48 + (((-v) / 1) % 10)))) _ ls 0 0 (by omega) (by omega) (by rw [h9]; exact hx9) (by rw [hn9]; exact hP) (by rw [hn9]; exact hD) hS dX5_decimal_141
  · skip
    refine lv_iload_n hx hb dX5_decimal_0 rfl (lv_at hl 1 rfl) ?_
    refine z_if_ge hx hb 9 (by omega) dX5_decimal_1 (by decide) (fun c1 => absurd c1 (by omega)) (fun c1 => ?_)
    refine lv_iload_n hx hb dX5_decimal_4 rfl (lv_at hl 1 rfl) ?_
    refine z_ineg hx hb dX5_decimal_5 ?_
    refine lv_goto (tgt := 10) hx hb dX5_decimal_6 (by decide) ?_
    refine lv_istore_n (lv' := [(3, .int (iI (-v))), (0, .ref (a 0)), (1, .int (iI v)), (2, .int (iI w))]) hx hb dX5_decimal_10 rfl hl (by decide) rfl (fun ls hl => ?_)
    refine lv_iload_n hx hb dX5_decimal_11 rfl (lv_at hl 2 rfl) ?_
    refine z_if_ge hx hb 36 (by omega) dX5_decimal_12 (by decide) (fun c12 => absurd c12 (by omega)) (fun c12 => ?_)
    refine lv_aload_n hx hb dX5_decimal_15 rfl (lv_at hl 1 rfl) ?_
    refine va_get (D := D) (ci := 6) (v := .ref (a 6)) (C := RX5) (T := TX5) (N := 28) hx hb hts inX5 hown hK hP 0 rfl rfl 26 (by decide) kfieldLink_RX5_48_ZScreensModel_digit_I (fun _ h9 => h9) rfl dX5_decimal_16 ?_
    refine lv_aload_n hx hb dX5_decimal_19 rfl (lv_at hl 1 rfl) ?_
    refine va_get (D := D) (ci := 6) (v := .int (iI dg)) (C := RX5) (T := TX5) (N := 28) hx hb hts inX5 hown hK hP 0 rfl rfl 27 (by decide) kfieldLink_RX5_145_ZScreensModel_digits_I (fun _ h9 => h9) rfl dX5_decimal_20 ?_
    refine lv_bipush (v := iI 45) hx hb dX5_decimal_23 (by decide) ?_
    refine z_iast hx hb hK hP hD hS 1 0 rfl rfl (by omega) dX5_decimal_25 (fun H locs hP hD hS => ?_)
    have hP : va_P D vwCl [(a 0, .inr (6, [.ref (a 1), .ref (a 2), .int (iI (σ 0)), .int (iI (σ 2)), .int (iI (σ 1)), .int (iI (σ 3)), .int (iI (σ 4)), .int (iI (σ 10)), .int (iI (σ 11)), .int (iI (σ 12)), .int (iI (σ 13)), .int (iI (σ 7)), .int (iI (σ 8)), .int (iI (σ 9)), .int (iI (σ 5)), .ref (a 3), .int (iI (σ 18)), .int (iI (σ 14)), .int (iI (σ 15)), .int (iI (σ 16)), .int (iI (σ 17)), .ref (a 4), .int (iI (σ 19)), .int (iI (σ 6)), .ref (a 5), .int (iI (σ 20)), .ref (a 6), .int (iI dg)])), (a 6, .inl (cA, 20, .inl (upd fd (dg).toNat (iI 45))))] H := hP
    have hD : va_D A [(a 0, .inr (6, [.ref (a 1), .ref (a 2), .int (iI (σ 0)), .int (iI (σ 2)), .int (iI (σ 1)), .int (iI (σ 3)), .int (iI (σ 4)), .int (iI (σ 10)), .int (iI (σ 11)), .int (iI (σ 12)), .int (iI (σ 13)), .int (iI (σ 7)), .int (iI (σ 8)), .int (iI (σ 9)), .int (iI (σ 5)), .ref (a 3), .int (iI (σ 18)), .int (iI (σ 14)), .int (iI (σ 15)), .int (iI (σ 16)), .int (iI (σ 17)), .ref (a 4), .int (iI (σ 19)), .int (iI (σ 6)), .ref (a 5), .int (iI (σ 20)), .ref (a 6), .int (iI dg)])), (a 6, .inl (cA, 20, .inl (upd fd (dg).toNat (iI 45))))] := hD
    refine lv_aload_n hx hb dX5_decimal_26 rfl (lv_at hl 1 rfl) ?_
    refine lv_dup hx hb dX5_decimal_27 rfl ?_
    refine va_get (D := D) (ci := 6) (v := .int (iI dg)) (C := RX5) (T := TX5) (N := 28) hx hb hts inX5 hown hK hP 0 rfl rfl 27 (by decide) kfieldLink_RX5_145_ZScreensModel_digits_I (fun _ h9 => h9) rfl dX5_decimal_28 ?_
    refine lv_iconst (v := iI 1) hx hb dX5_decimal_31 rfl ?_
    refine z_iadd hx hb dX5_decimal_32 ?_
    refine va_put (D := D) (ci := 6) (v := .int (iI (dg + 1))) (ty := .int) (C := RX5) (T := TX5) (N := 28) hx hb hts inX5 tyX5 tyX5_ok nmX5 hown hK hP hD hS 0 rfl rfl 27 (by decide) kfieldLink_RX5_145_ZScreensModel_digits_I (fun _ h9 => h9) rfl (by decide +kernel) rfl rfl (Nat.le_of_ble_eq_true rfl) dX5_decimal_33 (fun H locs hP hD hS => ?_)
    have hP : va_P D vwCl [(a 0, .inr (6, [.ref (a 1), .ref (a 2), .int (iI (σ 0)), .int (iI (σ 2)), .int (iI (σ 1)), .int (iI (σ 3)), .int (iI (σ 4)), .int (iI (σ 10)), .int (iI (σ 11)), .int (iI (σ 12)), .int (iI (σ 13)), .int (iI (σ 7)), .int (iI (σ 8)), .int (iI (σ 9)), .int (iI (σ 5)), .ref (a 3), .int (iI (σ 18)), .int (iI (σ 14)), .int (iI (σ 15)), .int (iI (σ 16)), .int (iI (σ 17)), .ref (a 4), .int (iI (σ 19)), .int (iI (σ 6)), .ref (a 5), .int (iI (σ 20)), .ref (a 6), .int (iI (dg + 1))])), (a 6, .inl (cA, 20, .inl (upd fd (dg).toNat (iI 45))))] H := hP
    have hD : va_D A [(a 0, .inr (6, [.ref (a 1), .ref (a 2), .int (iI (σ 0)), .int (iI (σ 2)), .int (iI (σ 1)), .int (iI (σ 3)), .int (iI (σ 4)), .int (iI (σ 10)), .int (iI (σ 11)), .int (iI (σ 12)), .int (iI (σ 13)), .int (iI (σ 7)), .int (iI (σ 8)), .int (iI (σ 9)), .int (iI (σ 5)), .ref (a 3), .int (iI (σ 18)), .int (iI (σ 14)), .int (iI (σ 15)), .int (iI (σ 16)), .int (iI (σ 17)), .ref (a 4), .int (iI (σ 19)), .int (iI (σ 6)), .ref (a 5), .int (iI (σ 20)), .ref (a 6), .int (iI (dg + 1))])), (a 6, .inl (cA, 20, .inl (upd fd (dg).toNat (iI 45))))] := hD
    refine lv_iconst (v := iI 1) hx hb dX5_decimal_36 rfl ?_
    refine lv_istore (lv' := [(4, .int (iI 1)), (3, .int (iI (-v))), (0, .ref (a 0)), (1, .int (iI v)), (2, .int (iI w))]) hx hb dX5_decimal_37 hl (by decide) rfl (fun ls hl => ?_)
    refine lv_iconst (v := iI 1) hx hb dX5_decimal_39 rfl ?_
    refine lv_istore (lv' := [(5, .int (iI 1)), (4, .int (iI 1)), (3, .int (iI (-v))), (0, .ref (a 0)), (1, .int (iI v)), (2, .int (iI w))]) hx hb dX5_decimal_40 hl (by decide) rfl (fun ls hl => ?_)
    refine lv_iload_n hx hb dX5_decimal_42 rfl (lv_at hl 2 rfl) ?_
    refine lv_iload hx hb dX5_decimal_43 (lv_at hl 1 rfl) ?_
    refine z_idiv hx hb (by omega) dX5_decimal_45 ?_
    refine lv_bipush (v := iI 9) hx hb dX5_decimal_46 (by decide) ?_
    refine z_icmp_le hx hb 64 (by omega) dX5_decimal_48 (by decide) (fun c48 => absurd c48 (by omega)) (fun c48 => ?_)
    refine lv_iload hx hb dX5_decimal_51 (lv_at hl 1 rfl) ?_
    refine lv_bipush (v := iI 10) hx hb dX5_decimal_53 (by decide) ?_
    refine z_imul hx hb dX5_decimal_55 ?_
    refine lv_istore (lv' := [(4, .int (iI (1 * 10))), (5, .int (iI 1)), (3, .int (iI (-v))), (0, .ref (a 0)), (1, .int (iI v)), (2, .int (iI w))]) hx hb dX5_decimal_56 hl (by decide) rfl (fun ls hl => ?_)
    have hl : lv_has ls 6 [(4, .int (iI 10)), (5, .int (iI 1)), (3, .int (iI (-v))), (0, .ref (a 0)), (1, .int (iI v)), (2, .int (iI w))] := by rw [show (10 : Int) = 1 * 10 by omega]; exact hl
    refine lv_iinc (v := iI (1 + 1)) (lv' := [(5, .int (iI (1 + 1))), (4, .int (iI 10)), (3, .int (iI (-v))), (0, .ref (a 0)), (1, .int (iI v)), (2, .int (iI w))]) hx hb dX5_decimal_58 hl (k := 1) rfl (iI_add _ _) (by decide) rfl (fun ls hl => ?_)
    have hl : lv_has ls 6 [(5, .int (iI 2)), (4, .int (iI 10)), (3, .int (iI (-v))), (0, .ref (a 0)), (1, .int (iI v)), (2, .int (iI w))] := by rw [show (2 : Int) = 1 + 1 by omega]; exact hl
    refine lv_goto (tgt := 42) hx hb dX5_decimal_61 (by decide) ?_
    refine lv_iload_n hx hb dX5_decimal_42 rfl (lv_at hl 2 rfl) ?_
    refine lv_iload hx hb dX5_decimal_43 (lv_at hl 1 rfl) ?_
    refine z_idiv hx hb (by omega) dX5_decimal_45 ?_
    refine lv_bipush (v := iI 9) hx hb dX5_decimal_46 (by decide) ?_
    refine z_icmp_le hx hb 64 (by omega) dX5_decimal_48 (by decide) (fun c48 => absurd c48 (by omega)) (fun c48 => ?_)
    refine lv_iload hx hb dX5_decimal_51 (lv_at hl 1 rfl) ?_
    refine lv_bipush (v := iI 10) hx hb dX5_decimal_53 (by decide) ?_
    refine z_imul hx hb dX5_decimal_55 ?_
    refine lv_istore (lv' := [(4, .int (iI (10 * 10))), (5, .int (iI 2)), (3, .int (iI (-v))), (0, .ref (a 0)), (1, .int (iI v)), (2, .int (iI w))]) hx hb dX5_decimal_56 hl (by decide) rfl (fun ls hl => ?_)
    have hl : lv_has ls 6 [(4, .int (iI 100)), (5, .int (iI 2)), (3, .int (iI (-v))), (0, .ref (a 0)), (1, .int (iI v)), (2, .int (iI w))] := by rw [show (100 : Int) = 10 * 10 by omega]; exact hl
    refine lv_iinc (v := iI (2 + 1)) (lv' := [(5, .int (iI (2 + 1))), (4, .int (iI 100)), (3, .int (iI (-v))), (0, .ref (a 0)), (1, .int (iI v)), (2, .int (iI w))]) hx hb dX5_decimal_58 hl (k := 1) rfl (iI_add _ _) (by decide) rfl (fun ls hl => ?_)
    have hl : lv_has ls 6 [(5, .int (iI 3)), (4, .int (iI 100)), (3, .int (iI (-v))), (0, .ref (a 0)), (1, .int (iI v)), (2, .int (iI w))] := by rw [show (3 : Int) = 2 + 1 by omega]; exact hl
    refine lv_goto (tgt := 42) hx hb dX5_decimal_61 (by decide) ?_
    refine lv_iload_n hx hb dX5_decimal_42 rfl (lv_at hl 2 rfl) ?_
    refine lv_iload hx hb dX5_decimal_43 (lv_at hl 1 rfl) ?_
    refine z_idiv hx hb (by omega) dX5_decimal_45 ?_
    refine lv_bipush (v := iI 9) hx hb dX5_decimal_46 (by decide) ?_
    refine z_icmp_le hx hb 64 (by omega) dX5_decimal_48 (by decide) (fun c48 => ?_) (fun c48 => absurd c48 (by omega))
    refine lv_iload hx hb dX5_decimal_64 (lv_at hl 0 rfl) ?_
    refine lv_iload_n hx hb dX5_decimal_66 rfl (lv_at hl 5 rfl) ?_
    refine z_icmp_ge hx hb 97 (by omega) dX5_decimal_67 (by decide) (fun c67 => ?_) (fun c67 => absurd c67 (by omega))
    refine lv_iload hx hb dX5_decimal_97 (lv_at hl 1 rfl) ?_
    refine z_if_le hx hb 141 (by omega) dX5_decimal_99 (by decide) (fun c99 => absurd c99 (by omega)) (fun c99 => ?_)
    refine lv_aload_n hx hb dX5_decimal_102 rfl (lv_at hl 3 rfl) ?_
    refine va_get (D := D) (ci := 6) (v := .ref (a 6)) (C := RX5) (T := TX5) (N := 28) hx hb hts inX5 hown hK hP 0 rfl rfl 26 (by decide) kfieldLink_RX5_48_ZScreensModel_digit_I (fun _ h9 => h9) rfl dX5_decimal_103 ?_
    refine lv_aload_n hx hb dX5_decimal_106 rfl (lv_at hl 3 rfl) ?_
    refine va_get (D := D) (ci := 6) (v := .int (iI (dg + 1))) (C := RX5) (T := TX5) (N := 28) hx hb hts inX5 hown hK hP 0 rfl rfl 27 (by decide) kfieldLink_RX5_145_ZScreensModel_digits_I (fun _ h9 => h9) rfl dX5_decimal_107 ?_
    refine lv_bipush (v := iI 48) hx hb dX5_decimal_110 (by decide) ?_
    refine lv_iload_n hx hb dX5_decimal_112 rfl (lv_at hl 2 rfl) ?_
    refine lv_iload hx hb dX5_decimal_113 (lv_at hl 1 rfl) ?_
    refine z_idiv hx hb (by omega) dX5_decimal_115 ?_
    refine lv_bipush (v := iI 10) hx hb dX5_decimal_116 (by decide) ?_
    refine z_irem hx hb (by omega) dX5_decimal_118 ?_
    refine z_iadd hx hb dX5_decimal_119 ?_
    refine z_iast hx hb hK hP hD hS 1 0 rfl rfl (by omega) dX5_decimal_120 (fun H locs hP hD hS => ?_)
    have hP : va_P D vwCl [(a 0, .inr (6, [.ref (a 1), .ref (a 2), .int (iI (σ 0)), .int (iI (σ 2)), .int (iI (σ 1)), .int (iI (σ 3)), .int (iI (σ 4)), .int (iI (σ 10)), .int (iI (σ 11)), .int (iI (σ 12)), .int (iI (σ 13)), .int (iI (σ 7)), .int (iI (σ 8)), .int (iI (σ 9)), .int (iI (σ 5)), .ref (a 3), .int (iI (σ 18)), .int (iI (σ 14)), .int (iI (σ 15)), .int (iI (σ 16)), .int (iI (σ 17)), .ref (a 4), .int (iI (σ 19)), .int (iI (σ 6)), .ref (a 5), .int (iI (σ 20)), .ref (a 6), .int (iI (dg + 1))])), (a 6, .inl (cA, 20, .inl (upd (upd fd (dg).toNat (iI 45)) (dg + 1).toNat (iI (48 + (((-v) / 100) % 10))))))] H := hP
    have hD : va_D A [(a 0, .inr (6, [.ref (a 1), .ref (a 2), .int (iI (σ 0)), .int (iI (σ 2)), .int (iI (σ 1)), .int (iI (σ 3)), .int (iI (σ 4)), .int (iI (σ 10)), .int (iI (σ 11)), .int (iI (σ 12)), .int (iI (σ 13)), .int (iI (σ 7)), .int (iI (σ 8)), .int (iI (σ 9)), .int (iI (σ 5)), .ref (a 3), .int (iI (σ 18)), .int (iI (σ 14)), .int (iI (σ 15)), .int (iI (σ 16)), .int (iI (σ 17)), .ref (a 4), .int (iI (σ 19)), .int (iI (σ 6)), .ref (a 5), .int (iI (σ 20)), .ref (a 6), .int (iI (dg + 1))])), (a 6, .inl (cA, 20, .inl (upd (upd fd (dg).toNat (iI 45)) (dg + 1).toNat (iI (48 + (((-v) / 100) % 10))))))] := hD
    refine lv_aload_n hx hb dX5_decimal_121 rfl (lv_at hl 3 rfl) ?_
    refine lv_dup hx hb dX5_decimal_122 rfl ?_
    refine va_get (D := D) (ci := 6) (v := .int (iI (dg + 1))) (C := RX5) (T := TX5) (N := 28) hx hb hts inX5 hown hK hP 0 rfl rfl 27 (by decide) kfieldLink_RX5_145_ZScreensModel_digits_I (fun _ h9 => h9) rfl dX5_decimal_123 ?_
    refine lv_iconst (v := iI 1) hx hb dX5_decimal_126 rfl ?_
    refine z_iadd hx hb dX5_decimal_127 ?_
    refine va_put (D := D) (ci := 6) (v := .int (iI ((dg + 1) + 1))) (ty := .int) (C := RX5) (T := TX5) (N := 28) hx hb hts inX5 tyX5 tyX5_ok nmX5 hown hK hP hD hS 0 rfl rfl 27 (by decide) kfieldLink_RX5_145_ZScreensModel_digits_I (fun _ h9 => h9) rfl (by decide +kernel) rfl rfl (Nat.le_of_ble_eq_true rfl) dX5_decimal_128 (fun H locs hP hD hS => ?_)
    have hP : va_P D vwCl [(a 0, .inr (6, [.ref (a 1), .ref (a 2), .int (iI (σ 0)), .int (iI (σ 2)), .int (iI (σ 1)), .int (iI (σ 3)), .int (iI (σ 4)), .int (iI (σ 10)), .int (iI (σ 11)), .int (iI (σ 12)), .int (iI (σ 13)), .int (iI (σ 7)), .int (iI (σ 8)), .int (iI (σ 9)), .int (iI (σ 5)), .ref (a 3), .int (iI (σ 18)), .int (iI (σ 14)), .int (iI (σ 15)), .int (iI (σ 16)), .int (iI (σ 17)), .ref (a 4), .int (iI (σ 19)), .int (iI (σ 6)), .ref (a 5), .int (iI (σ 20)), .ref (a 6), .int (iI ((dg + 1) + 1))])), (a 6, .inl (cA, 20, .inl (upd (upd fd (dg).toNat (iI 45)) (dg + 1).toNat (iI (48 + (((-v) / 100) % 10))))))] H := hP
    have hD : va_D A [(a 0, .inr (6, [.ref (a 1), .ref (a 2), .int (iI (σ 0)), .int (iI (σ 2)), .int (iI (σ 1)), .int (iI (σ 3)), .int (iI (σ 4)), .int (iI (σ 10)), .int (iI (σ 11)), .int (iI (σ 12)), .int (iI (σ 13)), .int (iI (σ 7)), .int (iI (σ 8)), .int (iI (σ 9)), .int (iI (σ 5)), .ref (a 3), .int (iI (σ 18)), .int (iI (σ 14)), .int (iI (σ 15)), .int (iI (σ 16)), .int (iI (σ 17)), .ref (a 4), .int (iI (σ 19)), .int (iI (σ 6)), .ref (a 5), .int (iI (σ 20)), .ref (a 6), .int (iI ((dg + 1) + 1))])), (a 6, .inl (cA, 20, .inl (upd (upd fd (dg).toNat (iI 45)) (dg + 1).toNat (iI (48 + (((-v) / 100) % 10))))))] := hD
    refine lv_iload hx hb dX5_decimal_131 (lv_at hl 1 rfl) ?_
    refine lv_bipush (v := iI 10) hx hb dX5_decimal_133 (by decide) ?_
    refine z_idiv hx hb (by omega) dX5_decimal_135 ?_
    refine lv_istore (lv' := [(4, .int (iI (100 / 10))), (5, .int (iI 3)), (3, .int (iI (-v))), (0, .ref (a 0)), (1, .int (iI v)), (2, .int (iI w))]) hx hb dX5_decimal_136 hl (by decide) rfl (fun ls hl => ?_)
    have hl : lv_has ls 6 [(4, .int (iI 10)), (5, .int (iI 3)), (3, .int (iI (-v))), (0, .ref (a 0)), (1, .int (iI v)), (2, .int (iI w))] := by rw [show (10 : Int) = 100 / 10 by omega]; exact hl
    refine lv_goto (tgt := 97) hx hb dX5_decimal_138 (by decide) ?_
    refine lv_iload hx hb dX5_decimal_97 (lv_at hl 0 rfl) ?_
    refine z_if_le hx hb 141 (by omega) dX5_decimal_99 (by decide) (fun c99 => absurd c99 (by omega)) (fun c99 => ?_)
    refine lv_aload_n hx hb dX5_decimal_102 rfl (lv_at hl 3 rfl) ?_
    refine va_get (D := D) (ci := 6) (v := .ref (a 6)) (C := RX5) (T := TX5) (N := 28) hx hb hts inX5 hown hK hP 0 rfl rfl 26 (by decide) kfieldLink_RX5_48_ZScreensModel_digit_I (fun _ h9 => h9) rfl dX5_decimal_103 ?_
    refine lv_aload_n hx hb dX5_decimal_106 rfl (lv_at hl 3 rfl) ?_
    refine va_get (D := D) (ci := 6) (v := .int (iI ((dg + 1) + 1))) (C := RX5) (T := TX5) (N := 28) hx hb hts inX5 hown hK hP 0 rfl rfl 27 (by decide) kfieldLink_RX5_145_ZScreensModel_digits_I (fun _ h9 => h9) rfl dX5_decimal_107 ?_
    refine lv_bipush (v := iI 48) hx hb dX5_decimal_110 (by decide) ?_
    refine lv_iload_n hx hb dX5_decimal_112 rfl (lv_at hl 2 rfl) ?_
    refine lv_iload hx hb dX5_decimal_113 (lv_at hl 0 rfl) ?_
    refine z_idiv hx hb (by omega) dX5_decimal_115 ?_
    refine lv_bipush (v := iI 10) hx hb dX5_decimal_116 (by decide) ?_
    refine z_irem hx hb (by omega) dX5_decimal_118 ?_
    refine z_iadd hx hb dX5_decimal_119 ?_
    refine z_iast hx hb hK hP hD hS 1 0 rfl rfl (by omega) dX5_decimal_120 (fun H locs hP hD hS => ?_)
    have hP : va_P D vwCl [(a 0, .inr (6, [.ref (a 1), .ref (a 2), .int (iI (σ 0)), .int (iI (σ 2)), .int (iI (σ 1)), .int (iI (σ 3)), .int (iI (σ 4)), .int (iI (σ 10)), .int (iI (σ 11)), .int (iI (σ 12)), .int (iI (σ 13)), .int (iI (σ 7)), .int (iI (σ 8)), .int (iI (σ 9)), .int (iI (σ 5)), .ref (a 3), .int (iI (σ 18)), .int (iI (σ 14)), .int (iI (σ 15)), .int (iI (σ 16)), .int (iI (σ 17)), .ref (a 4), .int (iI (σ 19)), .int (iI (σ 6)), .ref (a 5), .int (iI (σ 20)), .ref (a 6), .int (iI ((dg + 1) + 1))])), (a 6, .inl (cA, 20, .inl (upd (upd (upd fd (dg).toNat (iI 45)) (dg + 1).toNat (iI (48 + (((-v) / 100) % 10)))) ((dg + 1) + 1).toNat (iI (48 + (((-v) / 10) % 10))))))] H := hP
    have hD : va_D A [(a 0, .inr (6, [.ref (a 1), .ref (a 2), .int (iI (σ 0)), .int (iI (σ 2)), .int (iI (σ 1)), .int (iI (σ 3)), .int (iI (σ 4)), .int (iI (σ 10)), .int (iI (σ 11)), .int (iI (σ 12)), .int (iI (σ 13)), .int (iI (σ 7)), .int (iI (σ 8)), .int (iI (σ 9)), .int (iI (σ 5)), .ref (a 3), .int (iI (σ 18)), .int (iI (σ 14)), .int (iI (σ 15)), .int (iI (σ 16)), .int (iI (σ 17)), .ref (a 4), .int (iI (σ 19)), .int (iI (σ 6)), .ref (a 5), .int (iI (σ 20)), .ref (a 6), .int (iI ((dg + 1) + 1))])), (a 6, .inl (cA, 20, .inl (upd (upd (upd fd (dg).toNat (iI 45)) (dg + 1).toNat (iI (48 + (((-v) / 100) % 10)))) ((dg + 1) + 1).toNat (iI (48 + (((-v) / 10) % 10))))))] := hD
    refine lv_aload_n hx hb dX5_decimal_121 rfl (lv_at hl 3 rfl) ?_
    refine lv_dup hx hb dX5_decimal_122 rfl ?_
    refine va_get (D := D) (ci := 6) (v := .int (iI ((dg + 1) + 1))) (C := RX5) (T := TX5) (N := 28) hx hb hts inX5 hown hK hP 0 rfl rfl 27 (by decide) kfieldLink_RX5_145_ZScreensModel_digits_I (fun _ h9 => h9) rfl dX5_decimal_123 ?_
    refine lv_iconst (v := iI 1) hx hb dX5_decimal_126 rfl ?_
    refine z_iadd hx hb dX5_decimal_127 ?_
    refine va_put (D := D) (ci := 6) (v := .int (iI (((dg + 1) + 1) + 1))) (ty := .int) (C := RX5) (T := TX5) (N := 28) hx hb hts inX5 tyX5 tyX5_ok nmX5 hown hK hP hD hS 0 rfl rfl 27 (by decide) kfieldLink_RX5_145_ZScreensModel_digits_I (fun _ h9 => h9) rfl (by decide +kernel) rfl rfl (Nat.le_of_ble_eq_true rfl) dX5_decimal_128 (fun H locs hP hD hS => ?_)
    have hP : va_P D vwCl [(a 0, .inr (6, [.ref (a 1), .ref (a 2), .int (iI (σ 0)), .int (iI (σ 2)), .int (iI (σ 1)), .int (iI (σ 3)), .int (iI (σ 4)), .int (iI (σ 10)), .int (iI (σ 11)), .int (iI (σ 12)), .int (iI (σ 13)), .int (iI (σ 7)), .int (iI (σ 8)), .int (iI (σ 9)), .int (iI (σ 5)), .ref (a 3), .int (iI (σ 18)), .int (iI (σ 14)), .int (iI (σ 15)), .int (iI (σ 16)), .int (iI (σ 17)), .ref (a 4), .int (iI (σ 19)), .int (iI (σ 6)), .ref (a 5), .int (iI (σ 20)), .ref (a 6), .int (iI (((dg + 1) + 1) + 1))])), (a 6, .inl (cA, 20, .inl (upd (upd (upd fd (dg).toNat (iI 45)) (dg + 1).toNat (iI (48 + (((-v) / 100) % 10)))) ((dg + 1) + 1).toNat (iI (48 + (((-v) / 10) % 10))))))] H := hP
    have hD : va_D A [(a 0, .inr (6, [.ref (a 1), .ref (a 2), .int (iI (σ 0)), .int (iI (σ 2)), .int (iI (σ 1)), .int (iI (σ 3)), .int (iI (σ 4)), .int (iI (σ 10)), .int (iI (σ 11)), .int (iI (σ 12)), .int (iI (σ 13)), .int (iI (σ 7)), .int (iI (σ 8)), .int (iI (σ 9)), .int (iI (σ 5)), .ref (a 3), .int (iI (σ 18)), .int (iI (σ 14)), .int (iI (σ 15)), .int (iI (σ 16)), .int (iI (σ 17)), .ref (a 4), .int (iI (σ 19)), .int (iI (σ 6)), .ref (a 5), .int (iI (σ 20)), .ref (a 6), .int (iI (((dg + 1) + 1) + 1))])), (a 6, .inl (cA, 20, .inl (upd (upd (upd fd (dg).toNat (iI 45)) (dg + 1).toNat (iI (48 + (((-v) / 100) % 10)))) ((dg + 1) + 1).toNat (iI (48 + (((-v) / 10) % 10))))))] := hD
    refine lv_iload hx hb dX5_decimal_131 (lv_at hl 0 rfl) ?_
    refine lv_bipush (v := iI 10) hx hb dX5_decimal_133 (by decide) ?_
    refine z_idiv hx hb (by omega) dX5_decimal_135 ?_
    refine lv_istore (lv' := [(4, .int (iI (10 / 10))), (5, .int (iI 3)), (3, .int (iI (-v))), (0, .ref (a 0)), (1, .int (iI v)), (2, .int (iI w))]) hx hb dX5_decimal_136 hl (by decide) rfl (fun ls hl => ?_)
    have hl : lv_has ls 6 [(4, .int (iI 1)), (5, .int (iI 3)), (3, .int (iI (-v))), (0, .ref (a 0)), (1, .int (iI v)), (2, .int (iI w))] := by rw [show (1 : Int) = 10 / 10 by omega]; exact hl
    refine lv_goto (tgt := 97) hx hb dX5_decimal_138 (by decide) ?_
    refine lv_iload hx hb dX5_decimal_97 (lv_at hl 0 rfl) ?_
    refine z_if_le hx hb 141 (by omega) dX5_decimal_99 (by decide) (fun c99 => absurd c99 (by omega)) (fun c99 => ?_)
    refine lv_aload_n hx hb dX5_decimal_102 rfl (lv_at hl 3 rfl) ?_
    refine va_get (D := D) (ci := 6) (v := .ref (a 6)) (C := RX5) (T := TX5) (N := 28) hx hb hts inX5 hown hK hP 0 rfl rfl 26 (by decide) kfieldLink_RX5_48_ZScreensModel_digit_I (fun _ h9 => h9) rfl dX5_decimal_103 ?_
    refine lv_aload_n hx hb dX5_decimal_106 rfl (lv_at hl 3 rfl) ?_
    refine va_get (D := D) (ci := 6) (v := .int (iI (((dg + 1) + 1) + 1))) (C := RX5) (T := TX5) (N := 28) hx hb hts inX5 hown hK hP 0 rfl rfl 27 (by decide) kfieldLink_RX5_145_ZScreensModel_digits_I (fun _ h9 => h9) rfl dX5_decimal_107 ?_
    refine lv_bipush (v := iI 48) hx hb dX5_decimal_110 (by decide) ?_
    refine lv_iload_n hx hb dX5_decimal_112 rfl (lv_at hl 2 rfl) ?_
    refine lv_iload hx hb dX5_decimal_113 (lv_at hl 0 rfl) ?_
    refine z_idiv hx hb (by omega) dX5_decimal_115 ?_
    refine lv_bipush (v := iI 10) hx hb dX5_decimal_116 (by decide) ?_
    refine z_irem hx hb (by omega) dX5_decimal_118 ?_
    refine z_iadd hx hb dX5_decimal_119 ?_
    refine z_iast hx hb hK hP hD hS 1 0 rfl rfl (by omega) dX5_decimal_120 (fun H locs hP hD hS => ?_)
    have hP : va_P D vwCl [(a 0, .inr (6, [.ref (a 1), .ref (a 2), .int (iI (σ 0)), .int (iI (σ 2)), .int (iI (σ 1)), .int (iI (σ 3)), .int (iI (σ 4)), .int (iI (σ 10)), .int (iI (σ 11)), .int (iI (σ 12)), .int (iI (σ 13)), .int (iI (σ 7)), .int (iI (σ 8)), .int (iI (σ 9)), .int (iI (σ 5)), .ref (a 3), .int (iI (σ 18)), .int (iI (σ 14)), .int (iI (σ 15)), .int (iI (σ 16)), .int (iI (σ 17)), .ref (a 4), .int (iI (σ 19)), .int (iI (σ 6)), .ref (a 5), .int (iI (σ 20)), .ref (a 6), .int (iI (((dg + 1) + 1) + 1))])), (a 6, .inl (cA, 20, .inl (upd (upd (upd (upd fd (dg).toNat (iI 45)) (dg + 1).toNat (iI (48 + (((-v) / 100) % 10)))) ((dg + 1) + 1).toNat (iI (48 + (((-v) / 10) % 10)))) (((dg + 1) + 1) + 1).toNat (iI (48 + (((-v) / 1) % 10))))))] H := hP
    have hD : va_D A [(a 0, .inr (6, [.ref (a 1), .ref (a 2), .int (iI (σ 0)), .int (iI (σ 2)), .int (iI (σ 1)), .int (iI (σ 3)), .int (iI (σ 4)), .int (iI (σ 10)), .int (iI (σ 11)), .int (iI (σ 12)), .int (iI (σ 13)), .int (iI (σ 7)), .int (iI (σ 8)), .int (iI (σ 9)), .int (iI (σ 5)), .ref (a 3), .int (iI (σ 18)), .int (iI (σ 14)), .int (iI (σ 15)), .int (iI (σ 16)), .int (iI (σ 17)), .ref (a 4), .int (iI (σ 19)), .int (iI (σ 6)), .ref (a 5), .int (iI (σ 20)), .ref (a 6), .int (iI (((dg + 1) + 1) + 1))])), (a 6, .inl (cA, 20, .inl (upd (upd (upd (upd fd (dg).toNat (iI 45)) (dg + 1).toNat (iI (48 + (((-v) / 100) % 10)))) ((dg + 1) + 1).toNat (iI (48 + (((-v) / 10) % 10)))) (((dg + 1) + 1) + 1).toNat (iI (48 + (((-v) / 1) % 10))))))] := hD
    refine lv_aload_n hx hb dX5_decimal_121 rfl (lv_at hl 3 rfl) ?_
    refine lv_dup hx hb dX5_decimal_122 rfl ?_
    refine va_get (D := D) (ci := 6) (v := .int (iI (((dg + 1) + 1) + 1))) (C := RX5) (T := TX5) (N := 28) hx hb hts inX5 hown hK hP 0 rfl rfl 27 (by decide) kfieldLink_RX5_145_ZScreensModel_digits_I (fun _ h9 => h9) rfl dX5_decimal_123 ?_
    refine lv_iconst (v := iI 1) hx hb dX5_decimal_126 rfl ?_
    refine z_iadd hx hb dX5_decimal_127 ?_
    refine va_put (D := D) (ci := 6) (v := .int (iI ((((dg + 1) + 1) + 1) + 1))) (ty := .int) (C := RX5) (T := TX5) (N := 28) hx hb hts inX5 tyX5 tyX5_ok nmX5 hown hK hP hD hS 0 rfl rfl 27 (by decide) kfieldLink_RX5_145_ZScreensModel_digits_I (fun _ h9 => h9) rfl (by decide +kernel) rfl rfl (Nat.le_of_ble_eq_true rfl) dX5_decimal_128 (fun H locs hP hD hS => ?_)
    have hP : va_P D vwCl [(a 0, .inr (6, [.ref (a 1), .ref (a 2), .int (iI (σ 0)), .int (iI (σ 2)), .int (iI (σ 1)), .int (iI (σ 3)), .int (iI (σ 4)), .int (iI (σ 10)), .int (iI (σ 11)), .int (iI (σ 12)), .int (iI (σ 13)), .int (iI (σ 7)), .int (iI (σ 8)), .int (iI (σ 9)), .int (iI (σ 5)), .ref (a 3), .int (iI (σ 18)), .int (iI (σ 14)), .int (iI (σ 15)), .int (iI (σ 16)), .int (iI (σ 17)), .ref (a 4), .int (iI (σ 19)), .int (iI (σ 6)), .ref (a 5), .int (iI (σ 20)), .ref (a 6), .int (iI ((((dg + 1) + 1) + 1) + 1))])), (a 6, .inl (cA, 20, .inl (upd (upd (upd (upd fd (dg).toNat (iI 45)) (dg + 1).toNat (iI (48 + (((-v) / 100) % 10)))) ((dg + 1) + 1).toNat (iI (48 + (((-v) / 10) % 10)))) (((dg + 1) + 1) + 1).toNat (iI (48 + (((-v) / 1) % 10))))))] H := hP
    have hD : va_D A [(a 0, .inr (6, [.ref (a 1), .ref (a 2), .int (iI (σ 0)), .int (iI (σ 2)), .int (iI (σ 1)), .int (iI (σ 3)), .int (iI (σ 4)), .int (iI (σ 10)), .int (iI (σ 11)), .int (iI (σ 12)), .int (iI (σ 13)), .int (iI (σ 7)), .int (iI (σ 8)), .int (iI (σ 9)), .int (iI (σ 5)), .ref (a 3), .int (iI (σ 18)), .int (iI (σ 14)), .int (iI (σ 15)), .int (iI (σ 16)), .int (iI (σ 17)), .ref (a 4), .int (iI (σ 19)), .int (iI (σ 6)), .ref (a 5), .int (iI (σ 20)), .ref (a 6), .int (iI ((((dg + 1) + 1) + 1) + 1))])), (a 6, .inl (cA, 20, .inl (upd (upd (upd (upd fd (dg).toNat (iI 45)) (dg + 1).toNat (iI (48 + (((-v) / 100) % 10)))) ((dg + 1) + 1).toNat (iI (48 + (((-v) / 10) % 10)))) (((dg + 1) + 1) + 1).toNat (iI (48 + (((-v) / 1) % 10))))))] := hD
    refine lv_iload hx hb dX5_decimal_131 (lv_at hl 0 rfl) ?_
    refine lv_bipush (v := iI 10) hx hb dX5_decimal_133 (by decide) ?_
    refine z_idiv hx hb (by omega) dX5_decimal_135 ?_
    refine lv_istore (lv' := [(4, .int (iI (1 / 10))), (5, .int (iI 3)), (3, .int (iI (-v))), (0, .ref (a 0)), (1, .int (iI v)), (2, .int (iI w))]) hx hb dX5_decimal_136 hl (by decide) rfl (fun ls hl => ?_)
    have hl : lv_has ls 6 [(4, .int (iI 0)), (5, .int (iI 3)), (3, .int (iI (-v))), (0, .ref (a 0)), (1, .int (iI v)), (2, .int (iI w))] := by rw [show (0 : Int) = 1 / 10 by omega]; exact hl
    refine lv_goto (tgt := 97) hx hb dX5_decimal_138 (by decide) ?_
    refine lv_iload hx hb dX5_decimal_97 (lv_at hl 0 rfl) ?_
    refine z_if_le hx hb 141 (by omega) dX5_decimal_99 (by decide) (fun c99 => ?_) (fun c99 => absurd c99 (by omega))
    have e9 : (if w = 1 then dec v else dec2 v) = [45, 48 + (((-v) / 100) % 10), 48 + (((-v) / 10) % 10), 48 + (((-v) / 1) % 10)] := by
      unfold dec digs
      simp only [if_pos (show w = 1 by omega), if_pos (show v < 0 by omega), if_neg (show ¬ (-v) < 10 by omega), if_neg (show ¬ (-v) < 100 by omega), if_pos (show (-v) < 1000 by omega)]
      first | rfl | (simp only [List.cons.injEq, and_true, true_and]; omega)
    have hx9 : zTx (upd (upd (upd (upd fd (dg).toNat (iI 45)) (dg + 1).toNat (iI (48 + (((-v) / 100) % 10)))) ((dg + 1) + 1).toNat (iI (48 + (((-v) / 10) % 10)))) (((dg + 1) + 1) + 1).toNat (iI (48 + (((-v) / 1) % 10)))) (tx ++ [45] ++ [48 + (((-v) / 100) % 10)] ++ [48 + (((-v) / 10) % 10)] ++ [48 + (((-v) / 1) % 10)]) := (tx_app (tx_app (tx_app (tx_app hT0 (by (try simp only [List.length_append, List.length_cons, List.length_nil]); omega)) (by (try simp only [List.length_append, List.length_cons, List.length_nil]); omega)) (by (try simp only [List.length_append, List.length_cons, List.length_nil]); omega)) (by (try simp only [List.length_append, List.length_cons, List.length_nil]); omega))
    have h9 : tx ++ (if w = 1 then dec v else dec2 v) = tx ++ [45] ++ [48 + (((-v) / 100) % 10)] ++ [48 + (((-v) / 10) % 10)] ++ [48 + (((-v) / 1) % 10)] := by rw [e9] <;> simp
    have hn9 : dg + (((if w = 1 then dec v else dec2 v)).length : Int) = (((dg + 1) + 1) + 1) + 1 := by rw [e9]; (try simp only [List.length_cons, List.length_nil]); omega
    exact K H locs (upd (upd (upd (upd fd (dg).toNat (iI 45)) (dg + 1).toNat (iI (48 + (((-v) / 100) % 10)))) ((dg + 1) + 1).toNat (iI (48 + (((-v) / 10) % 10)))) (((dg + 1) + 1) + 1).toNat (iI (48 + (((-v) / 1) % 10)))) _ ls 0 0 (by omega) (by omega) (by rw [h9]; exact hx9) (by rw [hn9]; exact hP) (by rw [hn9]; exact hD) hS dX5_decimal_141
  · skip
    refine lv_iload_n hx hb dX5_decimal_0 rfl (lv_at hl 1 rfl) ?_
    refine z_if_ge hx hb 9 (by omega) dX5_decimal_1 (by decide) (fun c1 => absurd c1 (by omega)) (fun c1 => ?_)
    refine lv_iload_n hx hb dX5_decimal_4 rfl (lv_at hl 1 rfl) ?_
    refine z_ineg hx hb dX5_decimal_5 ?_
    refine lv_goto (tgt := 10) hx hb dX5_decimal_6 (by decide) ?_
    refine lv_istore_n (lv' := [(3, .int (iI (-v))), (0, .ref (a 0)), (1, .int (iI v)), (2, .int (iI w))]) hx hb dX5_decimal_10 rfl hl (by decide) rfl (fun ls hl => ?_)
    refine lv_iload_n hx hb dX5_decimal_11 rfl (lv_at hl 2 rfl) ?_
    refine z_if_ge hx hb 36 (by omega) dX5_decimal_12 (by decide) (fun c12 => absurd c12 (by omega)) (fun c12 => ?_)
    refine lv_aload_n hx hb dX5_decimal_15 rfl (lv_at hl 1 rfl) ?_
    refine va_get (D := D) (ci := 6) (v := .ref (a 6)) (C := RX5) (T := TX5) (N := 28) hx hb hts inX5 hown hK hP 0 rfl rfl 26 (by decide) kfieldLink_RX5_48_ZScreensModel_digit_I (fun _ h9 => h9) rfl dX5_decimal_16 ?_
    refine lv_aload_n hx hb dX5_decimal_19 rfl (lv_at hl 1 rfl) ?_
    refine va_get (D := D) (ci := 6) (v := .int (iI dg)) (C := RX5) (T := TX5) (N := 28) hx hb hts inX5 hown hK hP 0 rfl rfl 27 (by decide) kfieldLink_RX5_145_ZScreensModel_digits_I (fun _ h9 => h9) rfl dX5_decimal_20 ?_
    refine lv_bipush (v := iI 45) hx hb dX5_decimal_23 (by decide) ?_
    refine z_iast hx hb hK hP hD hS 1 0 rfl rfl (by omega) dX5_decimal_25 (fun H locs hP hD hS => ?_)
    have hP : va_P D vwCl [(a 0, .inr (6, [.ref (a 1), .ref (a 2), .int (iI (σ 0)), .int (iI (σ 2)), .int (iI (σ 1)), .int (iI (σ 3)), .int (iI (σ 4)), .int (iI (σ 10)), .int (iI (σ 11)), .int (iI (σ 12)), .int (iI (σ 13)), .int (iI (σ 7)), .int (iI (σ 8)), .int (iI (σ 9)), .int (iI (σ 5)), .ref (a 3), .int (iI (σ 18)), .int (iI (σ 14)), .int (iI (σ 15)), .int (iI (σ 16)), .int (iI (σ 17)), .ref (a 4), .int (iI (σ 19)), .int (iI (σ 6)), .ref (a 5), .int (iI (σ 20)), .ref (a 6), .int (iI dg)])), (a 6, .inl (cA, 20, .inl (upd fd (dg).toNat (iI 45))))] H := hP
    have hD : va_D A [(a 0, .inr (6, [.ref (a 1), .ref (a 2), .int (iI (σ 0)), .int (iI (σ 2)), .int (iI (σ 1)), .int (iI (σ 3)), .int (iI (σ 4)), .int (iI (σ 10)), .int (iI (σ 11)), .int (iI (σ 12)), .int (iI (σ 13)), .int (iI (σ 7)), .int (iI (σ 8)), .int (iI (σ 9)), .int (iI (σ 5)), .ref (a 3), .int (iI (σ 18)), .int (iI (σ 14)), .int (iI (σ 15)), .int (iI (σ 16)), .int (iI (σ 17)), .ref (a 4), .int (iI (σ 19)), .int (iI (σ 6)), .ref (a 5), .int (iI (σ 20)), .ref (a 6), .int (iI dg)])), (a 6, .inl (cA, 20, .inl (upd fd (dg).toNat (iI 45))))] := hD
    refine lv_aload_n hx hb dX5_decimal_26 rfl (lv_at hl 1 rfl) ?_
    refine lv_dup hx hb dX5_decimal_27 rfl ?_
    refine va_get (D := D) (ci := 6) (v := .int (iI dg)) (C := RX5) (T := TX5) (N := 28) hx hb hts inX5 hown hK hP 0 rfl rfl 27 (by decide) kfieldLink_RX5_145_ZScreensModel_digits_I (fun _ h9 => h9) rfl dX5_decimal_28 ?_
    refine lv_iconst (v := iI 1) hx hb dX5_decimal_31 rfl ?_
    refine z_iadd hx hb dX5_decimal_32 ?_
    refine va_put (D := D) (ci := 6) (v := .int (iI (dg + 1))) (ty := .int) (C := RX5) (T := TX5) (N := 28) hx hb hts inX5 tyX5 tyX5_ok nmX5 hown hK hP hD hS 0 rfl rfl 27 (by decide) kfieldLink_RX5_145_ZScreensModel_digits_I (fun _ h9 => h9) rfl (by decide +kernel) rfl rfl (Nat.le_of_ble_eq_true rfl) dX5_decimal_33 (fun H locs hP hD hS => ?_)
    have hP : va_P D vwCl [(a 0, .inr (6, [.ref (a 1), .ref (a 2), .int (iI (σ 0)), .int (iI (σ 2)), .int (iI (σ 1)), .int (iI (σ 3)), .int (iI (σ 4)), .int (iI (σ 10)), .int (iI (σ 11)), .int (iI (σ 12)), .int (iI (σ 13)), .int (iI (σ 7)), .int (iI (σ 8)), .int (iI (σ 9)), .int (iI (σ 5)), .ref (a 3), .int (iI (σ 18)), .int (iI (σ 14)), .int (iI (σ 15)), .int (iI (σ 16)), .int (iI (σ 17)), .ref (a 4), .int (iI (σ 19)), .int (iI (σ 6)), .ref (a 5), .int (iI (σ 20)), .ref (a 6), .int (iI (dg + 1))])), (a 6, .inl (cA, 20, .inl (upd fd (dg).toNat (iI 45))))] H := hP
    have hD : va_D A [(a 0, .inr (6, [.ref (a 1), .ref (a 2), .int (iI (σ 0)), .int (iI (σ 2)), .int (iI (σ 1)), .int (iI (σ 3)), .int (iI (σ 4)), .int (iI (σ 10)), .int (iI (σ 11)), .int (iI (σ 12)), .int (iI (σ 13)), .int (iI (σ 7)), .int (iI (σ 8)), .int (iI (σ 9)), .int (iI (σ 5)), .ref (a 3), .int (iI (σ 18)), .int (iI (σ 14)), .int (iI (σ 15)), .int (iI (σ 16)), .int (iI (σ 17)), .ref (a 4), .int (iI (σ 19)), .int (iI (σ 6)), .ref (a 5), .int (iI (σ 20)), .ref (a 6), .int (iI (dg + 1))])), (a 6, .inl (cA, 20, .inl (upd fd (dg).toNat (iI 45))))] := hD
    refine lv_iconst (v := iI 1) hx hb dX5_decimal_36 rfl ?_
    refine lv_istore (lv' := [(4, .int (iI 1)), (3, .int (iI (-v))), (0, .ref (a 0)), (1, .int (iI v)), (2, .int (iI w))]) hx hb dX5_decimal_37 hl (by decide) rfl (fun ls hl => ?_)
    refine lv_iconst (v := iI 1) hx hb dX5_decimal_39 rfl ?_
    refine lv_istore (lv' := [(5, .int (iI 1)), (4, .int (iI 1)), (3, .int (iI (-v))), (0, .ref (a 0)), (1, .int (iI v)), (2, .int (iI w))]) hx hb dX5_decimal_40 hl (by decide) rfl (fun ls hl => ?_)
    refine lv_iload_n hx hb dX5_decimal_42 rfl (lv_at hl 2 rfl) ?_
    refine lv_iload hx hb dX5_decimal_43 (lv_at hl 1 rfl) ?_
    refine z_idiv hx hb (by omega) dX5_decimal_45 ?_
    refine lv_bipush (v := iI 9) hx hb dX5_decimal_46 (by decide) ?_
    refine z_icmp_le hx hb 64 (by omega) dX5_decimal_48 (by decide) (fun c48 => absurd c48 (by omega)) (fun c48 => ?_)
    refine lv_iload hx hb dX5_decimal_51 (lv_at hl 1 rfl) ?_
    refine lv_bipush (v := iI 10) hx hb dX5_decimal_53 (by decide) ?_
    refine z_imul hx hb dX5_decimal_55 ?_
    refine lv_istore (lv' := [(4, .int (iI (1 * 10))), (5, .int (iI 1)), (3, .int (iI (-v))), (0, .ref (a 0)), (1, .int (iI v)), (2, .int (iI w))]) hx hb dX5_decimal_56 hl (by decide) rfl (fun ls hl => ?_)
    have hl : lv_has ls 6 [(4, .int (iI 10)), (5, .int (iI 1)), (3, .int (iI (-v))), (0, .ref (a 0)), (1, .int (iI v)), (2, .int (iI w))] := by rw [show (10 : Int) = 1 * 10 by omega]; exact hl
    refine lv_iinc (v := iI (1 + 1)) (lv' := [(5, .int (iI (1 + 1))), (4, .int (iI 10)), (3, .int (iI (-v))), (0, .ref (a 0)), (1, .int (iI v)), (2, .int (iI w))]) hx hb dX5_decimal_58 hl (k := 1) rfl (iI_add _ _) (by decide) rfl (fun ls hl => ?_)
    have hl : lv_has ls 6 [(5, .int (iI 2)), (4, .int (iI 10)), (3, .int (iI (-v))), (0, .ref (a 0)), (1, .int (iI v)), (2, .int (iI w))] := by rw [show (2 : Int) = 1 + 1 by omega]; exact hl
    refine lv_goto (tgt := 42) hx hb dX5_decimal_61 (by decide) ?_
    refine lv_iload_n hx hb dX5_decimal_42 rfl (lv_at hl 2 rfl) ?_
    refine lv_iload hx hb dX5_decimal_43 (lv_at hl 1 rfl) ?_
    refine z_idiv hx hb (by omega) dX5_decimal_45 ?_
    refine lv_bipush (v := iI 9) hx hb dX5_decimal_46 (by decide) ?_
    refine z_icmp_le hx hb 64 (by omega) dX5_decimal_48 (by decide) (fun c48 => absurd c48 (by omega)) (fun c48 => ?_)
    refine lv_iload hx hb dX5_decimal_51 (lv_at hl 1 rfl) ?_
    refine lv_bipush (v := iI 10) hx hb dX5_decimal_53 (by decide) ?_
    refine z_imul hx hb dX5_decimal_55 ?_
    refine lv_istore (lv' := [(4, .int (iI (10 * 10))), (5, .int (iI 2)), (3, .int (iI (-v))), (0, .ref (a 0)), (1, .int (iI v)), (2, .int (iI w))]) hx hb dX5_decimal_56 hl (by decide) rfl (fun ls hl => ?_)
    have hl : lv_has ls 6 [(4, .int (iI 100)), (5, .int (iI 2)), (3, .int (iI (-v))), (0, .ref (a 0)), (1, .int (iI v)), (2, .int (iI w))] := by rw [show (100 : Int) = 10 * 10 by omega]; exact hl
    refine lv_iinc (v := iI (2 + 1)) (lv' := [(5, .int (iI (2 + 1))), (4, .int (iI 100)), (3, .int (iI (-v))), (0, .ref (a 0)), (1, .int (iI v)), (2, .int (iI w))]) hx hb dX5_decimal_58 hl (k := 1) rfl (iI_add _ _) (by decide) rfl (fun ls hl => ?_)
    have hl : lv_has ls 6 [(5, .int (iI 3)), (4, .int (iI 100)), (3, .int (iI (-v))), (0, .ref (a 0)), (1, .int (iI v)), (2, .int (iI w))] := by rw [show (3 : Int) = 2 + 1 by omega]; exact hl
    refine lv_goto (tgt := 42) hx hb dX5_decimal_61 (by decide) ?_
    refine lv_iload_n hx hb dX5_decimal_42 rfl (lv_at hl 2 rfl) ?_
    refine lv_iload hx hb dX5_decimal_43 (lv_at hl 1 rfl) ?_
    refine z_idiv hx hb (by omega) dX5_decimal_45 ?_
    refine lv_bipush (v := iI 9) hx hb dX5_decimal_46 (by decide) ?_
    refine z_icmp_le hx hb 64 (by omega) dX5_decimal_48 (by decide) (fun c48 => absurd c48 (by omega)) (fun c48 => ?_)
    refine lv_iload hx hb dX5_decimal_51 (lv_at hl 1 rfl) ?_
    refine lv_bipush (v := iI 10) hx hb dX5_decimal_53 (by decide) ?_
    refine z_imul hx hb dX5_decimal_55 ?_
    refine lv_istore (lv' := [(4, .int (iI (100 * 10))), (5, .int (iI 3)), (3, .int (iI (-v))), (0, .ref (a 0)), (1, .int (iI v)), (2, .int (iI w))]) hx hb dX5_decimal_56 hl (by decide) rfl (fun ls hl => ?_)
    have hl : lv_has ls 6 [(4, .int (iI 1000)), (5, .int (iI 3)), (3, .int (iI (-v))), (0, .ref (a 0)), (1, .int (iI v)), (2, .int (iI w))] := by rw [show (1000 : Int) = 100 * 10 by omega]; exact hl
    refine lv_iinc (v := iI (3 + 1)) (lv' := [(5, .int (iI (3 + 1))), (4, .int (iI 1000)), (3, .int (iI (-v))), (0, .ref (a 0)), (1, .int (iI v)), (2, .int (iI w))]) hx hb dX5_decimal_58 hl (k := 1) rfl (iI_add _ _) (by decide) rfl (fun ls hl => ?_)
    have hl : lv_has ls 6 [(5, .int (iI 4)), (4, .int (iI 1000)), (3, .int (iI (-v))), (0, .ref (a 0)), (1, .int (iI v)), (2, .int (iI w))] := by rw [show (4 : Int) = 3 + 1 by omega]; exact hl
    refine lv_goto (tgt := 42) hx hb dX5_decimal_61 (by decide) ?_
    refine lv_iload_n hx hb dX5_decimal_42 rfl (lv_at hl 2 rfl) ?_
    refine lv_iload hx hb dX5_decimal_43 (lv_at hl 1 rfl) ?_
    refine z_idiv hx hb (by omega) dX5_decimal_45 ?_
    refine lv_bipush (v := iI 9) hx hb dX5_decimal_46 (by decide) ?_
    refine z_icmp_le hx hb 64 (by omega) dX5_decimal_48 (by decide) (fun c48 => ?_) (fun c48 => absurd c48 (by omega))
    refine lv_iload hx hb dX5_decimal_64 (lv_at hl 0 rfl) ?_
    refine lv_iload_n hx hb dX5_decimal_66 rfl (lv_at hl 5 rfl) ?_
    refine z_icmp_ge hx hb 97 (by omega) dX5_decimal_67 (by decide) (fun c67 => ?_) (fun c67 => absurd c67 (by omega))
    refine lv_iload hx hb dX5_decimal_97 (lv_at hl 1 rfl) ?_
    refine z_if_le hx hb 141 (by omega) dX5_decimal_99 (by decide) (fun c99 => absurd c99 (by omega)) (fun c99 => ?_)
    refine lv_aload_n hx hb dX5_decimal_102 rfl (lv_at hl 3 rfl) ?_
    refine va_get (D := D) (ci := 6) (v := .ref (a 6)) (C := RX5) (T := TX5) (N := 28) hx hb hts inX5 hown hK hP 0 rfl rfl 26 (by decide) kfieldLink_RX5_48_ZScreensModel_digit_I (fun _ h9 => h9) rfl dX5_decimal_103 ?_
    refine lv_aload_n hx hb dX5_decimal_106 rfl (lv_at hl 3 rfl) ?_
    refine va_get (D := D) (ci := 6) (v := .int (iI (dg + 1))) (C := RX5) (T := TX5) (N := 28) hx hb hts inX5 hown hK hP 0 rfl rfl 27 (by decide) kfieldLink_RX5_145_ZScreensModel_digits_I (fun _ h9 => h9) rfl dX5_decimal_107 ?_
    refine lv_bipush (v := iI 48) hx hb dX5_decimal_110 (by decide) ?_
    refine lv_iload_n hx hb dX5_decimal_112 rfl (lv_at hl 2 rfl) ?_
    refine lv_iload hx hb dX5_decimal_113 (lv_at hl 1 rfl) ?_
    refine z_idiv hx hb (by omega) dX5_decimal_115 ?_
    refine lv_bipush (v := iI 10) hx hb dX5_decimal_116 (by decide) ?_
    refine z_irem hx hb (by omega) dX5_decimal_118 ?_
    refine z_iadd hx hb dX5_decimal_119 ?_
    refine z_iast hx hb hK hP hD hS 1 0 rfl rfl (by omega) dX5_decimal_120 (fun H locs hP hD hS => ?_)
    have hP : va_P D vwCl [(a 0, .inr (6, [.ref (a 1), .ref (a 2), .int (iI (σ 0)), .int (iI (σ 2)), .int (iI (σ 1)), .int (iI (σ 3)), .int (iI (σ 4)), .int (iI (σ 10)), .int (iI (σ 11)), .int (iI (σ 12)), .int (iI (σ 13)), .int (iI (σ 7)), .int (iI (σ 8)), .int (iI (σ 9)), .int (iI (σ 5)), .ref (a 3), .int (iI (σ 18)), .int (iI (σ 14)), .int (iI (σ 15)), .int (iI (σ 16)), .int (iI (σ 17)), .ref (a 4), .int (iI (σ 19)), .int (iI (σ 6)), .ref (a 5), .int (iI (σ 20)), .ref (a 6), .int (iI (dg + 1))])), (a 6, .inl (cA, 20, .inl (upd (upd fd (dg).toNat (iI 45)) (dg + 1).toNat (iI (48 + (((-v) / 1000) % 10))))))] H := hP
    have hD : va_D A [(a 0, .inr (6, [.ref (a 1), .ref (a 2), .int (iI (σ 0)), .int (iI (σ 2)), .int (iI (σ 1)), .int (iI (σ 3)), .int (iI (σ 4)), .int (iI (σ 10)), .int (iI (σ 11)), .int (iI (σ 12)), .int (iI (σ 13)), .int (iI (σ 7)), .int (iI (σ 8)), .int (iI (σ 9)), .int (iI (σ 5)), .ref (a 3), .int (iI (σ 18)), .int (iI (σ 14)), .int (iI (σ 15)), .int (iI (σ 16)), .int (iI (σ 17)), .ref (a 4), .int (iI (σ 19)), .int (iI (σ 6)), .ref (a 5), .int (iI (σ 20)), .ref (a 6), .int (iI (dg + 1))])), (a 6, .inl (cA, 20, .inl (upd (upd fd (dg).toNat (iI 45)) (dg + 1).toNat (iI (48 + (((-v) / 1000) % 10))))))] := hD
    refine lv_aload_n hx hb dX5_decimal_121 rfl (lv_at hl 3 rfl) ?_
    refine lv_dup hx hb dX5_decimal_122 rfl ?_
    refine va_get (D := D) (ci := 6) (v := .int (iI (dg + 1))) (C := RX5) (T := TX5) (N := 28) hx hb hts inX5 hown hK hP 0 rfl rfl 27 (by decide) kfieldLink_RX5_145_ZScreensModel_digits_I (fun _ h9 => h9) rfl dX5_decimal_123 ?_
    refine lv_iconst (v := iI 1) hx hb dX5_decimal_126 rfl ?_
    refine z_iadd hx hb dX5_decimal_127 ?_
    refine va_put (D := D) (ci := 6) (v := .int (iI ((dg + 1) + 1))) (ty := .int) (C := RX5) (T := TX5) (N := 28) hx hb hts inX5 tyX5 tyX5_ok nmX5 hown hK hP hD hS 0 rfl rfl 27 (by decide) kfieldLink_RX5_145_ZScreensModel_digits_I (fun _ h9 => h9) rfl (by decide +kernel) rfl rfl (Nat.le_of_ble_eq_true rfl) dX5_decimal_128 (fun H locs hP hD hS => ?_)
    have hP : va_P D vwCl [(a 0, .inr (6, [.ref (a 1), .ref (a 2), .int (iI (σ 0)), .int (iI (σ 2)), .int (iI (σ 1)), .int (iI (σ 3)), .int (iI (σ 4)), .int (iI (σ 10)), .int (iI (σ 11)), .int (iI (σ 12)), .int (iI (σ 13)), .int (iI (σ 7)), .int (iI (σ 8)), .int (iI (σ 9)), .int (iI (σ 5)), .ref (a 3), .int (iI (σ 18)), .int (iI (σ 14)), .int (iI (σ 15)), .int (iI (σ 16)), .int (iI (σ 17)), .ref (a 4), .int (iI (σ 19)), .int (iI (σ 6)), .ref (a 5), .int (iI (σ 20)), .ref (a 6), .int (iI ((dg + 1) + 1))])), (a 6, .inl (cA, 20, .inl (upd (upd fd (dg).toNat (iI 45)) (dg + 1).toNat (iI (48 + (((-v) / 1000) % 10))))))] H := hP
    have hD : va_D A [(a 0, .inr (6, [.ref (a 1), .ref (a 2), .int (iI (σ 0)), .int (iI (σ 2)), .int (iI (σ 1)), .int (iI (σ 3)), .int (iI (σ 4)), .int (iI (σ 10)), .int (iI (σ 11)), .int (iI (σ 12)), .int (iI (σ 13)), .int (iI (σ 7)), .int (iI (σ 8)), .int (iI (σ 9)), .int (iI (σ 5)), .ref (a 3), .int (iI (σ 18)), .int (iI (σ 14)), .int (iI (σ 15)), .int (iI (σ 16)), .int (iI (σ 17)), .ref (a 4), .int (iI (σ 19)), .int (iI (σ 6)), .ref (a 5), .int (iI (σ 20)), .ref (a 6), .int (iI ((dg + 1) + 1))])), (a 6, .inl (cA, 20, .inl (upd (upd fd (dg).toNat (iI 45)) (dg + 1).toNat (iI (48 + (((-v) / 1000) % 10))))))] := hD
    refine lv_iload hx hb dX5_decimal_131 (lv_at hl 1 rfl) ?_
    refine lv_bipush (v := iI 10) hx hb dX5_decimal_133 (by decide) ?_
    refine z_idiv hx hb (by omega) dX5_decimal_135 ?_
    refine lv_istore (lv' := [(4, .int (iI (1000 / 10))), (5, .int (iI 4)), (3, .int (iI (-v))), (0, .ref (a 0)), (1, .int (iI v)), (2, .int (iI w))]) hx hb dX5_decimal_136 hl (by decide) rfl (fun ls hl => ?_)
    have hl : lv_has ls 6 [(4, .int (iI 100)), (5, .int (iI 4)), (3, .int (iI (-v))), (0, .ref (a 0)), (1, .int (iI v)), (2, .int (iI w))] := by rw [show (100 : Int) = 1000 / 10 by omega]; exact hl
    refine lv_goto (tgt := 97) hx hb dX5_decimal_138 (by decide) ?_
    refine lv_iload hx hb dX5_decimal_97 (lv_at hl 0 rfl) ?_
    refine z_if_le hx hb 141 (by omega) dX5_decimal_99 (by decide) (fun c99 => absurd c99 (by omega)) (fun c99 => ?_)
    refine lv_aload_n hx hb dX5_decimal_102 rfl (lv_at hl 3 rfl) ?_
    refine va_get (D := D) (ci := 6) (v := .ref (a 6)) (C := RX5) (T := TX5) (N := 28) hx hb hts inX5 hown hK hP 0 rfl rfl 26 (by decide) kfieldLink_RX5_48_ZScreensModel_digit_I (fun _ h9 => h9) rfl dX5_decimal_103 ?_
    refine lv_aload_n hx hb dX5_decimal_106 rfl (lv_at hl 3 rfl) ?_
    refine va_get (D := D) (ci := 6) (v := .int (iI ((dg + 1) + 1))) (C := RX5) (T := TX5) (N := 28) hx hb hts inX5 hown hK hP 0 rfl rfl 27 (by decide) kfieldLink_RX5_145_ZScreensModel_digits_I (fun _ h9 => h9) rfl dX5_decimal_107 ?_
    refine lv_bipush (v := iI 48) hx hb dX5_decimal_110 (by decide) ?_
    refine lv_iload_n hx hb dX5_decimal_112 rfl (lv_at hl 2 rfl) ?_
    refine lv_iload hx hb dX5_decimal_113 (lv_at hl 0 rfl) ?_
    refine z_idiv hx hb (by omega) dX5_decimal_115 ?_
    refine lv_bipush (v := iI 10) hx hb dX5_decimal_116 (by decide) ?_
    refine z_irem hx hb (by omega) dX5_decimal_118 ?_
    refine z_iadd hx hb dX5_decimal_119 ?_
    refine z_iast hx hb hK hP hD hS 1 0 rfl rfl (by omega) dX5_decimal_120 (fun H locs hP hD hS => ?_)
    have hP : va_P D vwCl [(a 0, .inr (6, [.ref (a 1), .ref (a 2), .int (iI (σ 0)), .int (iI (σ 2)), .int (iI (σ 1)), .int (iI (σ 3)), .int (iI (σ 4)), .int (iI (σ 10)), .int (iI (σ 11)), .int (iI (σ 12)), .int (iI (σ 13)), .int (iI (σ 7)), .int (iI (σ 8)), .int (iI (σ 9)), .int (iI (σ 5)), .ref (a 3), .int (iI (σ 18)), .int (iI (σ 14)), .int (iI (σ 15)), .int (iI (σ 16)), .int (iI (σ 17)), .ref (a 4), .int (iI (σ 19)), .int (iI (σ 6)), .ref (a 5), .int (iI (σ 20)), .ref (a 6), .int (iI ((dg + 1) + 1))])), (a 6, .inl (cA, 20, .inl (upd (upd (upd fd (dg).toNat (iI 45)) (dg + 1).toNat (iI (48 + (((-v) / 1000) % 10)))) ((dg + 1) + 1).toNat (iI (48 + (((-v) / 100) % 10))))))] H := hP
    have hD : va_D A [(a 0, .inr (6, [.ref (a 1), .ref (a 2), .int (iI (σ 0)), .int (iI (σ 2)), .int (iI (σ 1)), .int (iI (σ 3)), .int (iI (σ 4)), .int (iI (σ 10)), .int (iI (σ 11)), .int (iI (σ 12)), .int (iI (σ 13)), .int (iI (σ 7)), .int (iI (σ 8)), .int (iI (σ 9)), .int (iI (σ 5)), .ref (a 3), .int (iI (σ 18)), .int (iI (σ 14)), .int (iI (σ 15)), .int (iI (σ 16)), .int (iI (σ 17)), .ref (a 4), .int (iI (σ 19)), .int (iI (σ 6)), .ref (a 5), .int (iI (σ 20)), .ref (a 6), .int (iI ((dg + 1) + 1))])), (a 6, .inl (cA, 20, .inl (upd (upd (upd fd (dg).toNat (iI 45)) (dg + 1).toNat (iI (48 + (((-v) / 1000) % 10)))) ((dg + 1) + 1).toNat (iI (48 + (((-v) / 100) % 10))))))] := hD
    refine lv_aload_n hx hb dX5_decimal_121 rfl (lv_at hl 3 rfl) ?_
    refine lv_dup hx hb dX5_decimal_122 rfl ?_
    refine va_get (D := D) (ci := 6) (v := .int (iI ((dg + 1) + 1))) (C := RX5) (T := TX5) (N := 28) hx hb hts inX5 hown hK hP 0 rfl rfl 27 (by decide) kfieldLink_RX5_145_ZScreensModel_digits_I (fun _ h9 => h9) rfl dX5_decimal_123 ?_
    refine lv_iconst (v := iI 1) hx hb dX5_decimal_126 rfl ?_
    refine z_iadd hx hb dX5_decimal_127 ?_
    refine va_put (D := D) (ci := 6) (v := .int (iI (((dg + 1) + 1) + 1))) (ty := .int) (C := RX5) (T := TX5) (N := 28) hx hb hts inX5 tyX5 tyX5_ok nmX5 hown hK hP hD hS 0 rfl rfl 27 (by decide) kfieldLink_RX5_145_ZScreensModel_digits_I (fun _ h9 => h9) rfl (by decide +kernel) rfl rfl (Nat.le_of_ble_eq_true rfl) dX5_decimal_128 (fun H locs hP hD hS => ?_)
    have hP : va_P D vwCl [(a 0, .inr (6, [.ref (a 1), .ref (a 2), .int (iI (σ 0)), .int (iI (σ 2)), .int (iI (σ 1)), .int (iI (σ 3)), .int (iI (σ 4)), .int (iI (σ 10)), .int (iI (σ 11)), .int (iI (σ 12)), .int (iI (σ 13)), .int (iI (σ 7)), .int (iI (σ 8)), .int (iI (σ 9)), .int (iI (σ 5)), .ref (a 3), .int (iI (σ 18)), .int (iI (σ 14)), .int (iI (σ 15)), .int (iI (σ 16)), .int (iI (σ 17)), .ref (a 4), .int (iI (σ 19)), .int (iI (σ 6)), .ref (a 5), .int (iI (σ 20)), .ref (a 6), .int (iI (((dg + 1) + 1) + 1))])), (a 6, .inl (cA, 20, .inl (upd (upd (upd fd (dg).toNat (iI 45)) (dg + 1).toNat (iI (48 + (((-v) / 1000) % 10)))) ((dg + 1) + 1).toNat (iI (48 + (((-v) / 100) % 10))))))] H := hP
    have hD : va_D A [(a 0, .inr (6, [.ref (a 1), .ref (a 2), .int (iI (σ 0)), .int (iI (σ 2)), .int (iI (σ 1)), .int (iI (σ 3)), .int (iI (σ 4)), .int (iI (σ 10)), .int (iI (σ 11)), .int (iI (σ 12)), .int (iI (σ 13)), .int (iI (σ 7)), .int (iI (σ 8)), .int (iI (σ 9)), .int (iI (σ 5)), .ref (a 3), .int (iI (σ 18)), .int (iI (σ 14)), .int (iI (σ 15)), .int (iI (σ 16)), .int (iI (σ 17)), .ref (a 4), .int (iI (σ 19)), .int (iI (σ 6)), .ref (a 5), .int (iI (σ 20)), .ref (a 6), .int (iI (((dg + 1) + 1) + 1))])), (a 6, .inl (cA, 20, .inl (upd (upd (upd fd (dg).toNat (iI 45)) (dg + 1).toNat (iI (48 + (((-v) / 1000) % 10)))) ((dg + 1) + 1).toNat (iI (48 + (((-v) / 100) % 10))))))] := hD
    refine lv_iload hx hb dX5_decimal_131 (lv_at hl 0 rfl) ?_
    refine lv_bipush (v := iI 10) hx hb dX5_decimal_133 (by decide) ?_
    refine z_idiv hx hb (by omega) dX5_decimal_135 ?_
    refine lv_istore (lv' := [(4, .int (iI (100 / 10))), (5, .int (iI 4)), (3, .int (iI (-v))), (0, .ref (a 0)), (1, .int (iI v)), (2, .int (iI w))]) hx hb dX5_decimal_136 hl (by decide) rfl (fun ls hl => ?_)
    have hl : lv_has ls 6 [(4, .int (iI 10)), (5, .int (iI 4)), (3, .int (iI (-v))), (0, .ref (a 0)), (1, .int (iI v)), (2, .int (iI w))] := by rw [show (10 : Int) = 100 / 10 by omega]; exact hl
    refine lv_goto (tgt := 97) hx hb dX5_decimal_138 (by decide) ?_
    refine lv_iload hx hb dX5_decimal_97 (lv_at hl 0 rfl) ?_
    refine z_if_le hx hb 141 (by omega) dX5_decimal_99 (by decide) (fun c99 => absurd c99 (by omega)) (fun c99 => ?_)
    refine lv_aload_n hx hb dX5_decimal_102 rfl (lv_at hl 3 rfl) ?_
    refine va_get (D := D) (ci := 6) (v := .ref (a 6)) (C := RX5) (T := TX5) (N := 28) hx hb hts inX5 hown hK hP 0 rfl rfl 26 (by decide) kfieldLink_RX5_48_ZScreensModel_digit_I (fun _ h9 => h9) rfl dX5_decimal_103 ?_
    refine lv_aload_n hx hb dX5_decimal_106 rfl (lv_at hl 3 rfl) ?_
    refine va_get (D := D) (ci := 6) (v := .int (iI (((dg + 1) + 1) + 1))) (C := RX5) (T := TX5) (N := 28) hx hb hts inX5 hown hK hP 0 rfl rfl 27 (by decide) kfieldLink_RX5_145_ZScreensModel_digits_I (fun _ h9 => h9) rfl dX5_decimal_107 ?_
    refine lv_bipush (v := iI 48) hx hb dX5_decimal_110 (by decide) ?_
    refine lv_iload_n hx hb dX5_decimal_112 rfl (lv_at hl 2 rfl) ?_
    refine lv_iload hx hb dX5_decimal_113 (lv_at hl 0 rfl) ?_
    refine z_idiv hx hb (by omega) dX5_decimal_115 ?_
    refine lv_bipush (v := iI 10) hx hb dX5_decimal_116 (by decide) ?_
    refine z_irem hx hb (by omega) dX5_decimal_118 ?_
    refine z_iadd hx hb dX5_decimal_119 ?_
    refine z_iast hx hb hK hP hD hS 1 0 rfl rfl (by omega) dX5_decimal_120 (fun H locs hP hD hS => ?_)
    have hP : va_P D vwCl [(a 0, .inr (6, [.ref (a 1), .ref (a 2), .int (iI (σ 0)), .int (iI (σ 2)), .int (iI (σ 1)), .int (iI (σ 3)), .int (iI (σ 4)), .int (iI (σ 10)), .int (iI (σ 11)), .int (iI (σ 12)), .int (iI (σ 13)), .int (iI (σ 7)), .int (iI (σ 8)), .int (iI (σ 9)), .int (iI (σ 5)), .ref (a 3), .int (iI (σ 18)), .int (iI (σ 14)), .int (iI (σ 15)), .int (iI (σ 16)), .int (iI (σ 17)), .ref (a 4), .int (iI (σ 19)), .int (iI (σ 6)), .ref (a 5), .int (iI (σ 20)), .ref (a 6), .int (iI (((dg + 1) + 1) + 1))])), (a 6, .inl (cA, 20, .inl (upd (upd (upd (upd fd (dg).toNat (iI 45)) (dg + 1).toNat (iI (48 + (((-v) / 1000) % 10)))) ((dg + 1) + 1).toNat (iI (48 + (((-v) / 100) % 10)))) (((dg + 1) + 1) + 1).toNat (iI (48 + (((-v) / 10) % 10))))))] H := hP
    have hD : va_D A [(a 0, .inr (6, [.ref (a 1), .ref (a 2), .int (iI (σ 0)), .int (iI (σ 2)), .int (iI (σ 1)), .int (iI (σ 3)), .int (iI (σ 4)), .int (iI (σ 10)), .int (iI (σ 11)), .int (iI (σ 12)), .int (iI (σ 13)), .int (iI (σ 7)), .int (iI (σ 8)), .int (iI (σ 9)), .int (iI (σ 5)), .ref (a 3), .int (iI (σ 18)), .int (iI (σ 14)), .int (iI (σ 15)), .int (iI (σ 16)), .int (iI (σ 17)), .ref (a 4), .int (iI (σ 19)), .int (iI (σ 6)), .ref (a 5), .int (iI (σ 20)), .ref (a 6), .int (iI (((dg + 1) + 1) + 1))])), (a 6, .inl (cA, 20, .inl (upd (upd (upd (upd fd (dg).toNat (iI 45)) (dg + 1).toNat (iI (48 + (((-v) / 1000) % 10)))) ((dg + 1) + 1).toNat (iI (48 + (((-v) / 100) % 10)))) (((dg + 1) + 1) + 1).toNat (iI (48 + (((-v) / 10) % 10))))))] := hD
    refine lv_aload_n hx hb dX5_decimal_121 rfl (lv_at hl 3 rfl) ?_
    refine lv_dup hx hb dX5_decimal_122 rfl ?_
    refine va_get (D := D) (ci := 6) (v := .int (iI (((dg + 1) + 1) + 1))) (C := RX5) (T := TX5) (N := 28) hx hb hts inX5 hown hK hP 0 rfl rfl 27 (by decide) kfieldLink_RX5_145_ZScreensModel_digits_I (fun _ h9 => h9) rfl dX5_decimal_123 ?_
    refine lv_iconst (v := iI 1) hx hb dX5_decimal_126 rfl ?_
    refine z_iadd hx hb dX5_decimal_127 ?_
    refine va_put (D := D) (ci := 6) (v := .int (iI ((((dg + 1) + 1) + 1) + 1))) (ty := .int) (C := RX5) (T := TX5) (N := 28) hx hb hts inX5 tyX5 tyX5_ok nmX5 hown hK hP hD hS 0 rfl rfl 27 (by decide) kfieldLink_RX5_145_ZScreensModel_digits_I (fun _ h9 => h9) rfl (by decide +kernel) rfl rfl (Nat.le_of_ble_eq_true rfl) dX5_decimal_128 (fun H locs hP hD hS => ?_)
    have hP : va_P D vwCl [(a 0, .inr (6, [.ref (a 1), .ref (a 2), .int (iI (σ 0)), .int (iI (σ 2)), .int (iI (σ 1)), .int (iI (σ 3)), .int (iI (σ 4)), .int (iI (σ 10)), .int (iI (σ 11)), .int (iI (σ 12)), .int (iI (σ 13)), .int (iI (σ 7)), .int (iI (σ 8)), .int (iI (σ 9)), .int (iI (σ 5)), .ref (a 3), .int (iI (σ 18)), .int (iI (σ 14)), .int (iI (σ 15)), .int (iI (σ 16)), .int (iI (σ 17)), .ref (a 4), .int (iI (σ 19)), .int (iI (σ 6)), .ref (a 5), .int (iI (σ 20)), .ref (a 6), .int (iI ((((dg + 1) + 1) + 1) + 1))])), (a 6, .inl (cA, 20, .inl (upd (upd (upd (upd fd (dg).toNat (iI 45)) (dg + 1).toNat (iI (48 + (((-v) / 1000) % 10)))) ((dg + 1) + 1).toNat (iI (48 + (((-v) / 100) % 10)))) (((dg + 1) + 1) + 1).toNat (iI (48 + (((-v) / 10) % 10))))))] H := hP
    have hD : va_D A [(a 0, .inr (6, [.ref (a 1), .ref (a 2), .int (iI (σ 0)), .int (iI (σ 2)), .int (iI (σ 1)), .int (iI (σ 3)), .int (iI (σ 4)), .int (iI (σ 10)), .int (iI (σ 11)), .int (iI (σ 12)), .int (iI (σ 13)), .int (iI (σ 7)), .int (iI (σ 8)), .int (iI (σ 9)), .int (iI (σ 5)), .ref (a 3), .int (iI (σ 18)), .int (iI (σ 14)), .int (iI (σ 15)), .int (iI (σ 16)), .int (iI (σ 17)), .ref (a 4), .int (iI (σ 19)), .int (iI (σ 6)), .ref (a 5), .int (iI (σ 20)), .ref (a 6), .int (iI ((((dg + 1) + 1) + 1) + 1))])), (a 6, .inl (cA, 20, .inl (upd (upd (upd (upd fd (dg).toNat (iI 45)) (dg + 1).toNat (iI (48 + (((-v) / 1000) % 10)))) ((dg + 1) + 1).toNat (iI (48 + (((-v) / 100) % 10)))) (((dg + 1) + 1) + 1).toNat (iI (48 + (((-v) / 10) % 10))))))] := hD
    refine lv_iload hx hb dX5_decimal_131 (lv_at hl 0 rfl) ?_
    refine lv_bipush (v := iI 10) hx hb dX5_decimal_133 (by decide) ?_
    refine z_idiv hx hb (by omega) dX5_decimal_135 ?_
    refine lv_istore (lv' := [(4, .int (iI (10 / 10))), (5, .int (iI 4)), (3, .int (iI (-v))), (0, .ref (a 0)), (1, .int (iI v)), (2, .int (iI w))]) hx hb dX5_decimal_136 hl (by decide) rfl (fun ls hl => ?_)
    have hl : lv_has ls 6 [(4, .int (iI 1)), (5, .int (iI 4)), (3, .int (iI (-v))), (0, .ref (a 0)), (1, .int (iI v)), (2, .int (iI w))] := by rw [show (1 : Int) = 10 / 10 by omega]; exact hl
    refine lv_goto (tgt := 97) hx hb dX5_decimal_138 (by decide) ?_
    refine lv_iload hx hb dX5_decimal_97 (lv_at hl 0 rfl) ?_
    refine z_if_le hx hb 141 (by omega) dX5_decimal_99 (by decide) (fun c99 => absurd c99 (by omega)) (fun c99 => ?_)
    refine lv_aload_n hx hb dX5_decimal_102 rfl (lv_at hl 3 rfl) ?_
    refine va_get (D := D) (ci := 6) (v := .ref (a 6)) (C := RX5) (T := TX5) (N := 28) hx hb hts inX5 hown hK hP 0 rfl rfl 26 (by decide) kfieldLink_RX5_48_ZScreensModel_digit_I (fun _ h9 => h9) rfl dX5_decimal_103 ?_
    refine lv_aload_n hx hb dX5_decimal_106 rfl (lv_at hl 3 rfl) ?_
    refine va_get (D := D) (ci := 6) (v := .int (iI ((((dg + 1) + 1) + 1) + 1))) (C := RX5) (T := TX5) (N := 28) hx hb hts inX5 hown hK hP 0 rfl rfl 27 (by decide) kfieldLink_RX5_145_ZScreensModel_digits_I (fun _ h9 => h9) rfl dX5_decimal_107 ?_
    refine lv_bipush (v := iI 48) hx hb dX5_decimal_110 (by decide) ?_
    refine lv_iload_n hx hb dX5_decimal_112 rfl (lv_at hl 2 rfl) ?_
    refine lv_iload hx hb dX5_decimal_113 (lv_at hl 0 rfl) ?_
    refine z_idiv hx hb (by omega) dX5_decimal_115 ?_
    refine lv_bipush (v := iI 10) hx hb dX5_decimal_116 (by decide) ?_
    refine z_irem hx hb (by omega) dX5_decimal_118 ?_
    refine z_iadd hx hb dX5_decimal_119 ?_
    refine z_iast hx hb hK hP hD hS 1 0 rfl rfl (by omega) dX5_decimal_120 (fun H locs hP hD hS => ?_)
    have hP : va_P D vwCl [(a 0, .inr (6, [.ref (a 1), .ref (a 2), .int (iI (σ 0)), .int (iI (σ 2)), .int (iI (σ 1)), .int (iI (σ 3)), .int (iI (σ 4)), .int (iI (σ 10)), .int (iI (σ 11)), .int (iI (σ 12)), .int (iI (σ 13)), .int (iI (σ 7)), .int (iI (σ 8)), .int (iI (σ 9)), .int (iI (σ 5)), .ref (a 3), .int (iI (σ 18)), .int (iI (σ 14)), .int (iI (σ 15)), .int (iI (σ 16)), .int (iI (σ 17)), .ref (a 4), .int (iI (σ 19)), .int (iI (σ 6)), .ref (a 5), .int (iI (σ 20)), .ref (a 6), .int (iI ((((dg + 1) + 1) + 1) + 1))])), (a 6, .inl (cA, 20, .inl (upd (upd (upd (upd (upd fd (dg).toNat (iI 45)) (dg + 1).toNat (iI (48 + (((-v) / 1000) % 10)))) ((dg + 1) + 1).toNat (iI (48 + (((-v) / 100) % 10)))) (((dg + 1) + 1) + 1).toNat (iI (48 + (((-v) / 10) % 10)))) ((((dg + 1) + 1) + 1) + 1).toNat (iI (48 + (((-v) / 1) % 10))))))] H := hP
    have hD : va_D A [(a 0, .inr (6, [.ref (a 1), .ref (a 2), .int (iI (σ 0)), .int (iI (σ 2)), .int (iI (σ 1)), .int (iI (σ 3)), .int (iI (σ 4)), .int (iI (σ 10)), .int (iI (σ 11)), .int (iI (σ 12)), .int (iI (σ 13)), .int (iI (σ 7)), .int (iI (σ 8)), .int (iI (σ 9)), .int (iI (σ 5)), .ref (a 3), .int (iI (σ 18)), .int (iI (σ 14)), .int (iI (σ 15)), .int (iI (σ 16)), .int (iI (σ 17)), .ref (a 4), .int (iI (σ 19)), .int (iI (σ 6)), .ref (a 5), .int (iI (σ 20)), .ref (a 6), .int (iI ((((dg + 1) + 1) + 1) + 1))])), (a 6, .inl (cA, 20, .inl (upd (upd (upd (upd (upd fd (dg).toNat (iI 45)) (dg + 1).toNat (iI (48 + (((-v) / 1000) % 10)))) ((dg + 1) + 1).toNat (iI (48 + (((-v) / 100) % 10)))) (((dg + 1) + 1) + 1).toNat (iI (48 + (((-v) / 10) % 10)))) ((((dg + 1) + 1) + 1) + 1).toNat (iI (48 + (((-v) / 1) % 10))))))] := hD
    refine lv_aload_n hx hb dX5_decimal_121 rfl (lv_at hl 3 rfl) ?_
    refine lv_dup hx hb dX5_decimal_122 rfl ?_
    refine va_get (D := D) (ci := 6) (v := .int (iI ((((dg + 1) + 1) + 1) + 1))) (C := RX5) (T := TX5) (N := 28) hx hb hts inX5 hown hK hP 0 rfl rfl 27 (by decide) kfieldLink_RX5_145_ZScreensModel_digits_I (fun _ h9 => h9) rfl dX5_decimal_123 ?_
    refine lv_iconst (v := iI 1) hx hb dX5_decimal_126 rfl ?_
    refine z_iadd hx hb dX5_decimal_127 ?_
    refine va_put (D := D) (ci := 6) (v := .int (iI (((((dg + 1) + 1) + 1) + 1) + 1))) (ty := .int) (C := RX5) (T := TX5) (N := 28) hx hb hts inX5 tyX5 tyX5_ok nmX5 hown hK hP hD hS 0 rfl rfl 27 (by decide) kfieldLink_RX5_145_ZScreensModel_digits_I (fun _ h9 => h9) rfl (by decide +kernel) rfl rfl (Nat.le_of_ble_eq_true rfl) dX5_decimal_128 (fun H locs hP hD hS => ?_)
    have hP : va_P D vwCl [(a 0, .inr (6, [.ref (a 1), .ref (a 2), .int (iI (σ 0)), .int (iI (σ 2)), .int (iI (σ 1)), .int (iI (σ 3)), .int (iI (σ 4)), .int (iI (σ 10)), .int (iI (σ 11)), .int (iI (σ 12)), .int (iI (σ 13)), .int (iI (σ 7)), .int (iI (σ 8)), .int (iI (σ 9)), .int (iI (σ 5)), .ref (a 3), .int (iI (σ 18)), .int (iI (σ 14)), .int (iI (σ 15)), .int (iI (σ 16)), .int (iI (σ 17)), .ref (a 4), .int (iI (σ 19)), .int (iI (σ 6)), .ref (a 5), .int (iI (σ 20)), .ref (a 6), .int (iI (((((dg + 1) + 1) + 1) + 1) + 1))])), (a 6, .inl (cA, 20, .inl (upd (upd (upd (upd (upd fd (dg).toNat (iI 45)) (dg + 1).toNat (iI (48 + (((-v) / 1000) % 10)))) ((dg + 1) + 1).toNat (iI (48 + (((-v) / 100) % 10)))) (((dg + 1) + 1) + 1).toNat (iI (48 + (((-v) / 10) % 10)))) ((((dg + 1) + 1) + 1) + 1).toNat (iI (48 + (((-v) / 1) % 10))))))] H := hP
    have hD : va_D A [(a 0, .inr (6, [.ref (a 1), .ref (a 2), .int (iI (σ 0)), .int (iI (σ 2)), .int (iI (σ 1)), .int (iI (σ 3)), .int (iI (σ 4)), .int (iI (σ 10)), .int (iI (σ 11)), .int (iI (σ 12)), .int (iI (σ 13)), .int (iI (σ 7)), .int (iI (σ 8)), .int (iI (σ 9)), .int (iI (σ 5)), .ref (a 3), .int (iI (σ 18)), .int (iI (σ 14)), .int (iI (σ 15)), .int (iI (σ 16)), .int (iI (σ 17)), .ref (a 4), .int (iI (σ 19)), .int (iI (σ 6)), .ref (a 5), .int (iI (σ 20)), .ref (a 6), .int (iI (((((dg + 1) + 1) + 1) + 1) + 1))])), (a 6, .inl (cA, 20, .inl (upd (upd (upd (upd (upd fd (dg).toNat (iI 45)) (dg + 1).toNat (iI (48 + (((-v) / 1000) % 10)))) ((dg + 1) + 1).toNat (iI (48 + (((-v) / 100) % 10)))) (((dg + 1) + 1) + 1).toNat (iI (48 + (((-v) / 10) % 10)))) ((((dg + 1) + 1) + 1) + 1).toNat (iI (48 + (((-v) / 1) % 10))))))] := hD
    refine lv_iload hx hb dX5_decimal_131 (lv_at hl 0 rfl) ?_
    refine lv_bipush (v := iI 10) hx hb dX5_decimal_133 (by decide) ?_
    refine z_idiv hx hb (by omega) dX5_decimal_135 ?_
    refine lv_istore (lv' := [(4, .int (iI (1 / 10))), (5, .int (iI 4)), (3, .int (iI (-v))), (0, .ref (a 0)), (1, .int (iI v)), (2, .int (iI w))]) hx hb dX5_decimal_136 hl (by decide) rfl (fun ls hl => ?_)
    have hl : lv_has ls 6 [(4, .int (iI 0)), (5, .int (iI 4)), (3, .int (iI (-v))), (0, .ref (a 0)), (1, .int (iI v)), (2, .int (iI w))] := by rw [show (0 : Int) = 1 / 10 by omega]; exact hl
    refine lv_goto (tgt := 97) hx hb dX5_decimal_138 (by decide) ?_
    refine lv_iload hx hb dX5_decimal_97 (lv_at hl 0 rfl) ?_
    refine z_if_le hx hb 141 (by omega) dX5_decimal_99 (by decide) (fun c99 => ?_) (fun c99 => absurd c99 (by omega))
    have e9 : (if w = 1 then dec v else dec2 v) = [45, 48 + (((-v) / 1000) % 10), 48 + (((-v) / 100) % 10), 48 + (((-v) / 10) % 10), 48 + (((-v) / 1) % 10)] := by
      unfold dec digs
      simp only [if_pos (show w = 1 by omega), if_pos (show v < 0 by omega), if_neg (show ¬ (-v) < 10 by omega), if_neg (show ¬ (-v) < 100 by omega), if_neg (show ¬ (-v) < 1000 by omega)]
      first | rfl | (simp only [List.cons.injEq, and_true, true_and]; omega)
    have hx9 : zTx (upd (upd (upd (upd (upd fd (dg).toNat (iI 45)) (dg + 1).toNat (iI (48 + (((-v) / 1000) % 10)))) ((dg + 1) + 1).toNat (iI (48 + (((-v) / 100) % 10)))) (((dg + 1) + 1) + 1).toNat (iI (48 + (((-v) / 10) % 10)))) ((((dg + 1) + 1) + 1) + 1).toNat (iI (48 + (((-v) / 1) % 10)))) (tx ++ [45] ++ [48 + (((-v) / 1000) % 10)] ++ [48 + (((-v) / 100) % 10)] ++ [48 + (((-v) / 10) % 10)] ++ [48 + (((-v) / 1) % 10)]) := (tx_app (tx_app (tx_app (tx_app (tx_app hT0 (by (try simp only [List.length_append, List.length_cons, List.length_nil]); omega)) (by (try simp only [List.length_append, List.length_cons, List.length_nil]); omega)) (by (try simp only [List.length_append, List.length_cons, List.length_nil]); omega)) (by (try simp only [List.length_append, List.length_cons, List.length_nil]); omega)) (by (try simp only [List.length_append, List.length_cons, List.length_nil]); omega))
    have h9 : tx ++ (if w = 1 then dec v else dec2 v) = tx ++ [45] ++ [48 + (((-v) / 1000) % 10)] ++ [48 + (((-v) / 100) % 10)] ++ [48 + (((-v) / 10) % 10)] ++ [48 + (((-v) / 1) % 10)] := by rw [e9] <;> simp
    have hn9 : dg + (((if w = 1 then dec v else dec2 v)).length : Int) = ((((dg + 1) + 1) + 1) + 1) + 1 := by rw [e9]; (try simp only [List.length_cons, List.length_nil]); omega
    exact K H locs (upd (upd (upd (upd (upd fd (dg).toNat (iI 45)) (dg + 1).toNat (iI (48 + (((-v) / 1000) % 10)))) ((dg + 1) + 1).toNat (iI (48 + (((-v) / 100) % 10)))) (((dg + 1) + 1) + 1).toNat (iI (48 + (((-v) / 10) % 10)))) ((((dg + 1) + 1) + 1) + 1).toNat (iI (48 + (((-v) / 1) % 10)))) _ ls 0 0 (by omega) (by omega) (by rw [h9]; exact hx9) (by rw [hn9]; exact hP) (by rw [hn9]; exact hD) hS dX5_decimal_141
  · skip
    refine lv_iload_n hx hb dX5_decimal_0 rfl (lv_at hl 1 rfl) ?_
    refine z_if_ge hx hb 9 (by omega) dX5_decimal_1 (by decide) (fun c1 => ?_) (fun c1 => absurd c1 (by omega))
    refine lv_iload_n hx hb dX5_decimal_9 rfl (lv_at hl 1 rfl) ?_
    refine lv_istore_n (lv' := [(3, .int (iI v)), (0, .ref (a 0)), (1, .int (iI v)), (2, .int (iI w))]) hx hb dX5_decimal_10 rfl hl (by decide) rfl (fun ls hl => ?_)
    refine lv_iload_n hx hb dX5_decimal_11 rfl (lv_at hl 2 rfl) ?_
    refine z_if_ge hx hb 36 (by omega) dX5_decimal_12 (by decide) (fun c12 => ?_) (fun c12 => absurd c12 (by omega))
    refine lv_iconst (v := iI 1) hx hb dX5_decimal_36 rfl ?_
    refine lv_istore (lv' := [(4, .int (iI 1)), (3, .int (iI v)), (0, .ref (a 0)), (1, .int (iI v)), (2, .int (iI w))]) hx hb dX5_decimal_37 hl (by decide) rfl (fun ls hl => ?_)
    refine lv_iconst (v := iI 1) hx hb dX5_decimal_39 rfl ?_
    refine lv_istore (lv' := [(5, .int (iI 1)), (4, .int (iI 1)), (3, .int (iI v)), (0, .ref (a 0)), (1, .int (iI v)), (2, .int (iI w))]) hx hb dX5_decimal_40 hl (by decide) rfl (fun ls hl => ?_)
    refine lv_iload_n hx hb dX5_decimal_42 rfl (lv_at hl 2 rfl) ?_
    refine lv_iload hx hb dX5_decimal_43 (lv_at hl 1 rfl) ?_
    refine z_idiv hx hb (by omega) dX5_decimal_45 ?_
    refine lv_bipush (v := iI 9) hx hb dX5_decimal_46 (by decide) ?_
    refine z_icmp_le hx hb 64 (by omega) dX5_decimal_48 (by decide) (fun c48 => ?_) (fun c48 => absurd c48 (by omega))
    refine lv_iload hx hb dX5_decimal_64 (lv_at hl 0 rfl) ?_
    refine lv_iload_n hx hb dX5_decimal_66 rfl (lv_at hl 5 rfl) ?_
    refine z_icmp_ge hx hb 97 (by omega) dX5_decimal_67 (by decide) (fun c67 => absurd c67 (by omega)) (fun c67 => ?_)
    refine lv_aload_n hx hb dX5_decimal_70 rfl (lv_at hl 3 rfl) ?_
    refine va_get (D := D) (ci := 6) (v := .ref (a 6)) (C := RX5) (T := TX5) (N := 28) hx hb hts inX5 hown hK hP 0 rfl rfl 26 (by decide) kfieldLink_RX5_48_ZScreensModel_digit_I (fun _ h9 => h9) rfl dX5_decimal_71 ?_
    refine lv_aload_n hx hb dX5_decimal_74 rfl (lv_at hl 3 rfl) ?_
    refine va_get (D := D) (ci := 6) (v := .int (iI dg)) (C := RX5) (T := TX5) (N := 28) hx hb hts inX5 hown hK hP 0 rfl rfl 27 (by decide) kfieldLink_RX5_145_ZScreensModel_digits_I (fun _ h9 => h9) rfl dX5_decimal_75 ?_
    refine lv_bipush (v := iI 48) hx hb dX5_decimal_78 (by decide) ?_
    refine z_iast hx hb hK hP hD hS 1 0 rfl rfl (by omega) dX5_decimal_80 (fun H locs hP hD hS => ?_)
    have hP : va_P D vwCl [(a 0, .inr (6, [.ref (a 1), .ref (a 2), .int (iI (σ 0)), .int (iI (σ 2)), .int (iI (σ 1)), .int (iI (σ 3)), .int (iI (σ 4)), .int (iI (σ 10)), .int (iI (σ 11)), .int (iI (σ 12)), .int (iI (σ 13)), .int (iI (σ 7)), .int (iI (σ 8)), .int (iI (σ 9)), .int (iI (σ 5)), .ref (a 3), .int (iI (σ 18)), .int (iI (σ 14)), .int (iI (σ 15)), .int (iI (σ 16)), .int (iI (σ 17)), .ref (a 4), .int (iI (σ 19)), .int (iI (σ 6)), .ref (a 5), .int (iI (σ 20)), .ref (a 6), .int (iI dg)])), (a 6, .inl (cA, 20, .inl (upd fd (dg).toNat (iI 48))))] H := hP
    have hD : va_D A [(a 0, .inr (6, [.ref (a 1), .ref (a 2), .int (iI (σ 0)), .int (iI (σ 2)), .int (iI (σ 1)), .int (iI (σ 3)), .int (iI (σ 4)), .int (iI (σ 10)), .int (iI (σ 11)), .int (iI (σ 12)), .int (iI (σ 13)), .int (iI (σ 7)), .int (iI (σ 8)), .int (iI (σ 9)), .int (iI (σ 5)), .ref (a 3), .int (iI (σ 18)), .int (iI (σ 14)), .int (iI (σ 15)), .int (iI (σ 16)), .int (iI (σ 17)), .ref (a 4), .int (iI (σ 19)), .int (iI (σ 6)), .ref (a 5), .int (iI (σ 20)), .ref (a 6), .int (iI dg)])), (a 6, .inl (cA, 20, .inl (upd fd (dg).toNat (iI 48))))] := hD
    refine lv_aload_n hx hb dX5_decimal_81 rfl (lv_at hl 3 rfl) ?_
    refine lv_dup hx hb dX5_decimal_82 rfl ?_
    refine va_get (D := D) (ci := 6) (v := .int (iI dg)) (C := RX5) (T := TX5) (N := 28) hx hb hts inX5 hown hK hP 0 rfl rfl 27 (by decide) kfieldLink_RX5_145_ZScreensModel_digits_I (fun _ h9 => h9) rfl dX5_decimal_83 ?_
    refine lv_iconst (v := iI 1) hx hb dX5_decimal_86 rfl ?_
    refine z_iadd hx hb dX5_decimal_87 ?_
    refine va_put (D := D) (ci := 6) (v := .int (iI (dg + 1))) (ty := .int) (C := RX5) (T := TX5) (N := 28) hx hb hts inX5 tyX5 tyX5_ok nmX5 hown hK hP hD hS 0 rfl rfl 27 (by decide) kfieldLink_RX5_145_ZScreensModel_digits_I (fun _ h9 => h9) rfl (by decide +kernel) rfl rfl (Nat.le_of_ble_eq_true rfl) dX5_decimal_88 (fun H locs hP hD hS => ?_)
    have hP : va_P D vwCl [(a 0, .inr (6, [.ref (a 1), .ref (a 2), .int (iI (σ 0)), .int (iI (σ 2)), .int (iI (σ 1)), .int (iI (σ 3)), .int (iI (σ 4)), .int (iI (σ 10)), .int (iI (σ 11)), .int (iI (σ 12)), .int (iI (σ 13)), .int (iI (σ 7)), .int (iI (σ 8)), .int (iI (σ 9)), .int (iI (σ 5)), .ref (a 3), .int (iI (σ 18)), .int (iI (σ 14)), .int (iI (σ 15)), .int (iI (σ 16)), .int (iI (σ 17)), .ref (a 4), .int (iI (σ 19)), .int (iI (σ 6)), .ref (a 5), .int (iI (σ 20)), .ref (a 6), .int (iI (dg + 1))])), (a 6, .inl (cA, 20, .inl (upd fd (dg).toNat (iI 48))))] H := hP
    have hD : va_D A [(a 0, .inr (6, [.ref (a 1), .ref (a 2), .int (iI (σ 0)), .int (iI (σ 2)), .int (iI (σ 1)), .int (iI (σ 3)), .int (iI (σ 4)), .int (iI (σ 10)), .int (iI (σ 11)), .int (iI (σ 12)), .int (iI (σ 13)), .int (iI (σ 7)), .int (iI (σ 8)), .int (iI (σ 9)), .int (iI (σ 5)), .ref (a 3), .int (iI (σ 18)), .int (iI (σ 14)), .int (iI (σ 15)), .int (iI (σ 16)), .int (iI (σ 17)), .ref (a 4), .int (iI (σ 19)), .int (iI (σ 6)), .ref (a 5), .int (iI (σ 20)), .ref (a 6), .int (iI (dg + 1))])), (a 6, .inl (cA, 20, .inl (upd fd (dg).toNat (iI 48))))] := hD
    refine lv_iinc (v := iI (1 + 1)) (lv' := [(5, .int (iI (1 + 1))), (4, .int (iI 1)), (3, .int (iI v)), (0, .ref (a 0)), (1, .int (iI v)), (2, .int (iI w))]) hx hb dX5_decimal_91 hl (k := 0) rfl (iI_add _ _) (by decide) rfl (fun ls hl => ?_)
    have hl : lv_has ls 6 [(5, .int (iI 2)), (4, .int (iI 1)), (3, .int (iI v)), (0, .ref (a 0)), (1, .int (iI v)), (2, .int (iI w))] := by rw [show (2 : Int) = 1 + 1 by omega]; exact hl
    refine lv_goto (tgt := 64) hx hb dX5_decimal_94 (by decide) ?_
    refine lv_iload hx hb dX5_decimal_64 (lv_at hl 0 rfl) ?_
    refine lv_iload_n hx hb dX5_decimal_66 rfl (lv_at hl 5 rfl) ?_
    refine z_icmp_ge hx hb 97 (by omega) dX5_decimal_67 (by decide) (fun c67 => ?_) (fun c67 => absurd c67 (by omega))
    refine lv_iload hx hb dX5_decimal_97 (lv_at hl 1 rfl) ?_
    refine z_if_le hx hb 141 (by omega) dX5_decimal_99 (by decide) (fun c99 => absurd c99 (by omega)) (fun c99 => ?_)
    refine lv_aload_n hx hb dX5_decimal_102 rfl (lv_at hl 3 rfl) ?_
    refine va_get (D := D) (ci := 6) (v := .ref (a 6)) (C := RX5) (T := TX5) (N := 28) hx hb hts inX5 hown hK hP 0 rfl rfl 26 (by decide) kfieldLink_RX5_48_ZScreensModel_digit_I (fun _ h9 => h9) rfl dX5_decimal_103 ?_
    refine lv_aload_n hx hb dX5_decimal_106 rfl (lv_at hl 3 rfl) ?_
    refine va_get (D := D) (ci := 6) (v := .int (iI (dg + 1))) (C := RX5) (T := TX5) (N := 28) hx hb hts inX5 hown hK hP 0 rfl rfl 27 (by decide) kfieldLink_RX5_145_ZScreensModel_digits_I (fun _ h9 => h9) rfl dX5_decimal_107 ?_
    refine lv_bipush (v := iI 48) hx hb dX5_decimal_110 (by decide) ?_
    refine lv_iload_n hx hb dX5_decimal_112 rfl (lv_at hl 2 rfl) ?_
    refine lv_iload hx hb dX5_decimal_113 (lv_at hl 1 rfl) ?_
    refine z_idiv hx hb (by omega) dX5_decimal_115 ?_
    refine lv_bipush (v := iI 10) hx hb dX5_decimal_116 (by decide) ?_
    refine z_irem hx hb (by omega) dX5_decimal_118 ?_
    refine z_iadd hx hb dX5_decimal_119 ?_
    refine z_iast hx hb hK hP hD hS 1 0 rfl rfl (by omega) dX5_decimal_120 (fun H locs hP hD hS => ?_)
    have hP : va_P D vwCl [(a 0, .inr (6, [.ref (a 1), .ref (a 2), .int (iI (σ 0)), .int (iI (σ 2)), .int (iI (σ 1)), .int (iI (σ 3)), .int (iI (σ 4)), .int (iI (σ 10)), .int (iI (σ 11)), .int (iI (σ 12)), .int (iI (σ 13)), .int (iI (σ 7)), .int (iI (σ 8)), .int (iI (σ 9)), .int (iI (σ 5)), .ref (a 3), .int (iI (σ 18)), .int (iI (σ 14)), .int (iI (σ 15)), .int (iI (σ 16)), .int (iI (σ 17)), .ref (a 4), .int (iI (σ 19)), .int (iI (σ 6)), .ref (a 5), .int (iI (σ 20)), .ref (a 6), .int (iI (dg + 1))])), (a 6, .inl (cA, 20, .inl (upd (upd fd (dg).toNat (iI 48)) (dg + 1).toNat (iI (48 + ((v / 1) % 10))))))] H := hP
    have hD : va_D A [(a 0, .inr (6, [.ref (a 1), .ref (a 2), .int (iI (σ 0)), .int (iI (σ 2)), .int (iI (σ 1)), .int (iI (σ 3)), .int (iI (σ 4)), .int (iI (σ 10)), .int (iI (σ 11)), .int (iI (σ 12)), .int (iI (σ 13)), .int (iI (σ 7)), .int (iI (σ 8)), .int (iI (σ 9)), .int (iI (σ 5)), .ref (a 3), .int (iI (σ 18)), .int (iI (σ 14)), .int (iI (σ 15)), .int (iI (σ 16)), .int (iI (σ 17)), .ref (a 4), .int (iI (σ 19)), .int (iI (σ 6)), .ref (a 5), .int (iI (σ 20)), .ref (a 6), .int (iI (dg + 1))])), (a 6, .inl (cA, 20, .inl (upd (upd fd (dg).toNat (iI 48)) (dg + 1).toNat (iI (48 + ((v / 1) % 10))))))] := hD
    refine lv_aload_n hx hb dX5_decimal_121 rfl (lv_at hl 3 rfl) ?_
    refine lv_dup hx hb dX5_decimal_122 rfl ?_
    refine va_get (D := D) (ci := 6) (v := .int (iI (dg + 1))) (C := RX5) (T := TX5) (N := 28) hx hb hts inX5 hown hK hP 0 rfl rfl 27 (by decide) kfieldLink_RX5_145_ZScreensModel_digits_I (fun _ h9 => h9) rfl dX5_decimal_123 ?_
    refine lv_iconst (v := iI 1) hx hb dX5_decimal_126 rfl ?_
    refine z_iadd hx hb dX5_decimal_127 ?_
    refine va_put (D := D) (ci := 6) (v := .int (iI ((dg + 1) + 1))) (ty := .int) (C := RX5) (T := TX5) (N := 28) hx hb hts inX5 tyX5 tyX5_ok nmX5 hown hK hP hD hS 0 rfl rfl 27 (by decide) kfieldLink_RX5_145_ZScreensModel_digits_I (fun _ h9 => h9) rfl (by decide +kernel) rfl rfl (Nat.le_of_ble_eq_true rfl) dX5_decimal_128 (fun H locs hP hD hS => ?_)
    have hP : va_P D vwCl [(a 0, .inr (6, [.ref (a 1), .ref (a 2), .int (iI (σ 0)), .int (iI (σ 2)), .int (iI (σ 1)), .int (iI (σ 3)), .int (iI (σ 4)), .int (iI (σ 10)), .int (iI (σ 11)), .int (iI (σ 12)), .int (iI (σ 13)), .int (iI (σ 7)), .int (iI (σ 8)), .int (iI (σ 9)), .int (iI (σ 5)), .ref (a 3), .int (iI (σ 18)), .int (iI (σ 14)), .int (iI (σ 15)), .int (iI (σ 16)), .int (iI (σ 17)), .ref (a 4), .int (iI (σ 19)), .int (iI (σ 6)), .ref (a 5), .int (iI (σ 20)), .ref (a 6), .int (iI ((dg + 1) + 1))])), (a 6, .inl (cA, 20, .inl (upd (upd fd (dg).toNat (iI 48)) (dg + 1).toNat (iI (48 + ((v / 1) % 10))))))] H := hP
    have hD : va_D A [(a 0, .inr (6, [.ref (a 1), .ref (a 2), .int (iI (σ 0)), .int (iI (σ 2)), .int (iI (σ 1)), .int (iI (σ 3)), .int (iI (σ 4)), .int (iI (σ 10)), .int (iI (σ 11)), .int (iI (σ 12)), .int (iI (σ 13)), .int (iI (σ 7)), .int (iI (σ 8)), .int (iI (σ 9)), .int (iI (σ 5)), .ref (a 3), .int (iI (σ 18)), .int (iI (σ 14)), .int (iI (σ 15)), .int (iI (σ 16)), .int (iI (σ 17)), .ref (a 4), .int (iI (σ 19)), .int (iI (σ 6)), .ref (a 5), .int (iI (σ 20)), .ref (a 6), .int (iI ((dg + 1) + 1))])), (a 6, .inl (cA, 20, .inl (upd (upd fd (dg).toNat (iI 48)) (dg + 1).toNat (iI (48 + ((v / 1) % 10))))))] := hD
    refine lv_iload hx hb dX5_decimal_131 (lv_at hl 1 rfl) ?_
    refine lv_bipush (v := iI 10) hx hb dX5_decimal_133 (by decide) ?_
    refine z_idiv hx hb (by omega) dX5_decimal_135 ?_
    refine lv_istore (lv' := [(4, .int (iI (1 / 10))), (5, .int (iI 2)), (3, .int (iI v)), (0, .ref (a 0)), (1, .int (iI v)), (2, .int (iI w))]) hx hb dX5_decimal_136 hl (by decide) rfl (fun ls hl => ?_)
    have hl : lv_has ls 6 [(4, .int (iI 0)), (5, .int (iI 2)), (3, .int (iI v)), (0, .ref (a 0)), (1, .int (iI v)), (2, .int (iI w))] := by rw [show (0 : Int) = 1 / 10 by omega]; exact hl
    refine lv_goto (tgt := 97) hx hb dX5_decimal_138 (by decide) ?_
    refine lv_iload hx hb dX5_decimal_97 (lv_at hl 0 rfl) ?_
    refine z_if_le hx hb 141 (by omega) dX5_decimal_99 (by decide) (fun c99 => ?_) (fun c99 => absurd c99 (by omega))
    have e9 : (if w = 1 then dec v else dec2 v) = [48, 48 + ((v / 1) % 10)] := by
      unfold dec2
      simp only [if_neg (show ¬ w = 1 by omega), if_pos (show v < 10 by omega)]
      first | rfl | (simp only [List.cons.injEq, and_true, true_and]; omega)
    have hx9 : zTx (upd (upd fd (dg).toNat (iI 48)) (dg + 1).toNat (iI (48 + ((v / 1) % 10)))) (tx ++ [48] ++ [48 + ((v / 1) % 10)]) := (tx_app (tx_app hT0 (by (try simp only [List.length_append, List.length_cons, List.length_nil]); omega)) (by (try simp only [List.length_append, List.length_cons, List.length_nil]); omega))
    have h9 : tx ++ (if w = 1 then dec v else dec2 v) = tx ++ [48] ++ [48 + ((v / 1) % 10)] := by rw [e9] <;> simp
    have hn9 : dg + (((if w = 1 then dec v else dec2 v)).length : Int) = (dg + 1) + 1 := by rw [e9]; (try simp only [List.length_cons, List.length_nil]); omega
    exact K H locs (upd (upd fd (dg).toNat (iI 48)) (dg + 1).toNat (iI (48 + ((v / 1) % 10)))) _ ls 0 0 (by omega) (by omega) (by rw [h9]; exact hx9) (by rw [hn9]; exact hP) (by rw [hn9]; exact hD) hS dX5_decimal_141
  · skip
    refine lv_iload_n hx hb dX5_decimal_0 rfl (lv_at hl 1 rfl) ?_
    refine z_if_ge hx hb 9 (by omega) dX5_decimal_1 (by decide) (fun c1 => ?_) (fun c1 => absurd c1 (by omega))
    refine lv_iload_n hx hb dX5_decimal_9 rfl (lv_at hl 1 rfl) ?_
    refine lv_istore_n (lv' := [(3, .int (iI v)), (0, .ref (a 0)), (1, .int (iI v)), (2, .int (iI w))]) hx hb dX5_decimal_10 rfl hl (by decide) rfl (fun ls hl => ?_)
    refine lv_iload_n hx hb dX5_decimal_11 rfl (lv_at hl 2 rfl) ?_
    refine z_if_ge hx hb 36 (by omega) dX5_decimal_12 (by decide) (fun c12 => ?_) (fun c12 => absurd c12 (by omega))
    refine lv_iconst (v := iI 1) hx hb dX5_decimal_36 rfl ?_
    refine lv_istore (lv' := [(4, .int (iI 1)), (3, .int (iI v)), (0, .ref (a 0)), (1, .int (iI v)), (2, .int (iI w))]) hx hb dX5_decimal_37 hl (by decide) rfl (fun ls hl => ?_)
    refine lv_iconst (v := iI 1) hx hb dX5_decimal_39 rfl ?_
    refine lv_istore (lv' := [(5, .int (iI 1)), (4, .int (iI 1)), (3, .int (iI v)), (0, .ref (a 0)), (1, .int (iI v)), (2, .int (iI w))]) hx hb dX5_decimal_40 hl (by decide) rfl (fun ls hl => ?_)
    refine lv_iload_n hx hb dX5_decimal_42 rfl (lv_at hl 2 rfl) ?_
    refine lv_iload hx hb dX5_decimal_43 (lv_at hl 1 rfl) ?_
    refine z_idiv hx hb (by omega) dX5_decimal_45 ?_
    refine lv_bipush (v := iI 9) hx hb dX5_decimal_46 (by decide) ?_
    refine z_icmp_le hx hb 64 (by omega) dX5_decimal_48 (by decide) (fun c48 => absurd c48 (by omega)) (fun c48 => ?_)
    refine lv_iload hx hb dX5_decimal_51 (lv_at hl 1 rfl) ?_
    refine lv_bipush (v := iI 10) hx hb dX5_decimal_53 (by decide) ?_
    refine z_imul hx hb dX5_decimal_55 ?_
    refine lv_istore (lv' := [(4, .int (iI (1 * 10))), (5, .int (iI 1)), (3, .int (iI v)), (0, .ref (a 0)), (1, .int (iI v)), (2, .int (iI w))]) hx hb dX5_decimal_56 hl (by decide) rfl (fun ls hl => ?_)
    have hl : lv_has ls 6 [(4, .int (iI 10)), (5, .int (iI 1)), (3, .int (iI v)), (0, .ref (a 0)), (1, .int (iI v)), (2, .int (iI w))] := by rw [show (10 : Int) = 1 * 10 by omega]; exact hl
    refine lv_iinc (v := iI (1 + 1)) (lv' := [(5, .int (iI (1 + 1))), (4, .int (iI 10)), (3, .int (iI v)), (0, .ref (a 0)), (1, .int (iI v)), (2, .int (iI w))]) hx hb dX5_decimal_58 hl (k := 1) rfl (iI_add _ _) (by decide) rfl (fun ls hl => ?_)
    have hl : lv_has ls 6 [(5, .int (iI 2)), (4, .int (iI 10)), (3, .int (iI v)), (0, .ref (a 0)), (1, .int (iI v)), (2, .int (iI w))] := by rw [show (2 : Int) = 1 + 1 by omega]; exact hl
    refine lv_goto (tgt := 42) hx hb dX5_decimal_61 (by decide) ?_
    refine lv_iload_n hx hb dX5_decimal_42 rfl (lv_at hl 2 rfl) ?_
    refine lv_iload hx hb dX5_decimal_43 (lv_at hl 1 rfl) ?_
    refine z_idiv hx hb (by omega) dX5_decimal_45 ?_
    refine lv_bipush (v := iI 9) hx hb dX5_decimal_46 (by decide) ?_
    refine z_icmp_le hx hb 64 (by omega) dX5_decimal_48 (by decide) (fun c48 => ?_) (fun c48 => absurd c48 (by omega))
    refine lv_iload hx hb dX5_decimal_64 (lv_at hl 0 rfl) ?_
    refine lv_iload_n hx hb dX5_decimal_66 rfl (lv_at hl 5 rfl) ?_
    refine z_icmp_ge hx hb 97 (by omega) dX5_decimal_67 (by decide) (fun c67 => ?_) (fun c67 => absurd c67 (by omega))
    refine lv_iload hx hb dX5_decimal_97 (lv_at hl 1 rfl) ?_
    refine z_if_le hx hb 141 (by omega) dX5_decimal_99 (by decide) (fun c99 => absurd c99 (by omega)) (fun c99 => ?_)
    refine lv_aload_n hx hb dX5_decimal_102 rfl (lv_at hl 3 rfl) ?_
    refine va_get (D := D) (ci := 6) (v := .ref (a 6)) (C := RX5) (T := TX5) (N := 28) hx hb hts inX5 hown hK hP 0 rfl rfl 26 (by decide) kfieldLink_RX5_48_ZScreensModel_digit_I (fun _ h9 => h9) rfl dX5_decimal_103 ?_
    refine lv_aload_n hx hb dX5_decimal_106 rfl (lv_at hl 3 rfl) ?_
    refine va_get (D := D) (ci := 6) (v := .int (iI dg)) (C := RX5) (T := TX5) (N := 28) hx hb hts inX5 hown hK hP 0 rfl rfl 27 (by decide) kfieldLink_RX5_145_ZScreensModel_digits_I (fun _ h9 => h9) rfl dX5_decimal_107 ?_
    refine lv_bipush (v := iI 48) hx hb dX5_decimal_110 (by decide) ?_
    refine lv_iload_n hx hb dX5_decimal_112 rfl (lv_at hl 2 rfl) ?_
    refine lv_iload hx hb dX5_decimal_113 (lv_at hl 1 rfl) ?_
    refine z_idiv hx hb (by omega) dX5_decimal_115 ?_
    refine lv_bipush (v := iI 10) hx hb dX5_decimal_116 (by decide) ?_
    refine z_irem hx hb (by omega) dX5_decimal_118 ?_
    refine z_iadd hx hb dX5_decimal_119 ?_
    refine z_iast hx hb hK hP hD hS 1 0 rfl rfl (by omega) dX5_decimal_120 (fun H locs hP hD hS => ?_)
    have hP : va_P D vwCl [(a 0, .inr (6, [.ref (a 1), .ref (a 2), .int (iI (σ 0)), .int (iI (σ 2)), .int (iI (σ 1)), .int (iI (σ 3)), .int (iI (σ 4)), .int (iI (σ 10)), .int (iI (σ 11)), .int (iI (σ 12)), .int (iI (σ 13)), .int (iI (σ 7)), .int (iI (σ 8)), .int (iI (σ 9)), .int (iI (σ 5)), .ref (a 3), .int (iI (σ 18)), .int (iI (σ 14)), .int (iI (σ 15)), .int (iI (σ 16)), .int (iI (σ 17)), .ref (a 4), .int (iI (σ 19)), .int (iI (σ 6)), .ref (a 5), .int (iI (σ 20)), .ref (a 6), .int (iI dg)])), (a 6, .inl (cA, 20, .inl (upd fd (dg).toNat (iI (48 + ((v / 10) % 10))))))] H := hP
    have hD : va_D A [(a 0, .inr (6, [.ref (a 1), .ref (a 2), .int (iI (σ 0)), .int (iI (σ 2)), .int (iI (σ 1)), .int (iI (σ 3)), .int (iI (σ 4)), .int (iI (σ 10)), .int (iI (σ 11)), .int (iI (σ 12)), .int (iI (σ 13)), .int (iI (σ 7)), .int (iI (σ 8)), .int (iI (σ 9)), .int (iI (σ 5)), .ref (a 3), .int (iI (σ 18)), .int (iI (σ 14)), .int (iI (σ 15)), .int (iI (σ 16)), .int (iI (σ 17)), .ref (a 4), .int (iI (σ 19)), .int (iI (σ 6)), .ref (a 5), .int (iI (σ 20)), .ref (a 6), .int (iI dg)])), (a 6, .inl (cA, 20, .inl (upd fd (dg).toNat (iI (48 + ((v / 10) % 10))))))] := hD
    refine lv_aload_n hx hb dX5_decimal_121 rfl (lv_at hl 3 rfl) ?_
    refine lv_dup hx hb dX5_decimal_122 rfl ?_
    refine va_get (D := D) (ci := 6) (v := .int (iI dg)) (C := RX5) (T := TX5) (N := 28) hx hb hts inX5 hown hK hP 0 rfl rfl 27 (by decide) kfieldLink_RX5_145_ZScreensModel_digits_I (fun _ h9 => h9) rfl dX5_decimal_123 ?_
    refine lv_iconst (v := iI 1) hx hb dX5_decimal_126 rfl ?_
    refine z_iadd hx hb dX5_decimal_127 ?_
    refine va_put (D := D) (ci := 6) (v := .int (iI (dg + 1))) (ty := .int) (C := RX5) (T := TX5) (N := 28) hx hb hts inX5 tyX5 tyX5_ok nmX5 hown hK hP hD hS 0 rfl rfl 27 (by decide) kfieldLink_RX5_145_ZScreensModel_digits_I (fun _ h9 => h9) rfl (by decide +kernel) rfl rfl (Nat.le_of_ble_eq_true rfl) dX5_decimal_128 (fun H locs hP hD hS => ?_)
    have hP : va_P D vwCl [(a 0, .inr (6, [.ref (a 1), .ref (a 2), .int (iI (σ 0)), .int (iI (σ 2)), .int (iI (σ 1)), .int (iI (σ 3)), .int (iI (σ 4)), .int (iI (σ 10)), .int (iI (σ 11)), .int (iI (σ 12)), .int (iI (σ 13)), .int (iI (σ 7)), .int (iI (σ 8)), .int (iI (σ 9)), .int (iI (σ 5)), .ref (a 3), .int (iI (σ 18)), .int (iI (σ 14)), .int (iI (σ 15)), .int (iI (σ 16)), .int (iI (σ 17)), .ref (a 4), .int (iI (σ 19)), .int (iI (σ 6)), .ref (a 5), .int (iI (σ 20)), .ref (a 6), .int (iI (dg + 1))])), (a 6, .inl (cA, 20, .inl (upd fd (dg).toNat (iI (48 + ((v / 10) % 10))))))] H := hP
    have hD : va_D A [(a 0, .inr (6, [.ref (a 1), .ref (a 2), .int (iI (σ 0)), .int (iI (σ 2)), .int (iI (σ 1)), .int (iI (σ 3)), .int (iI (σ 4)), .int (iI (σ 10)), .int (iI (σ 11)), .int (iI (σ 12)), .int (iI (σ 13)), .int (iI (σ 7)), .int (iI (σ 8)), .int (iI (σ 9)), .int (iI (σ 5)), .ref (a 3), .int (iI (σ 18)), .int (iI (σ 14)), .int (iI (σ 15)), .int (iI (σ 16)), .int (iI (σ 17)), .ref (a 4), .int (iI (σ 19)), .int (iI (σ 6)), .ref (a 5), .int (iI (σ 20)), .ref (a 6), .int (iI (dg + 1))])), (a 6, .inl (cA, 20, .inl (upd fd (dg).toNat (iI (48 + ((v / 10) % 10))))))] := hD
    refine lv_iload hx hb dX5_decimal_131 (lv_at hl 1 rfl) ?_
    refine lv_bipush (v := iI 10) hx hb dX5_decimal_133 (by decide) ?_
    refine z_idiv hx hb (by omega) dX5_decimal_135 ?_
    refine lv_istore (lv' := [(4, .int (iI (10 / 10))), (5, .int (iI 2)), (3, .int (iI v)), (0, .ref (a 0)), (1, .int (iI v)), (2, .int (iI w))]) hx hb dX5_decimal_136 hl (by decide) rfl (fun ls hl => ?_)
    have hl : lv_has ls 6 [(4, .int (iI 1)), (5, .int (iI 2)), (3, .int (iI v)), (0, .ref (a 0)), (1, .int (iI v)), (2, .int (iI w))] := by rw [show (1 : Int) = 10 / 10 by omega]; exact hl
    refine lv_goto (tgt := 97) hx hb dX5_decimal_138 (by decide) ?_
    refine lv_iload hx hb dX5_decimal_97 (lv_at hl 0 rfl) ?_
    refine z_if_le hx hb 141 (by omega) dX5_decimal_99 (by decide) (fun c99 => absurd c99 (by omega)) (fun c99 => ?_)
    refine lv_aload_n hx hb dX5_decimal_102 rfl (lv_at hl 3 rfl) ?_
    refine va_get (D := D) (ci := 6) (v := .ref (a 6)) (C := RX5) (T := TX5) (N := 28) hx hb hts inX5 hown hK hP 0 rfl rfl 26 (by decide) kfieldLink_RX5_48_ZScreensModel_digit_I (fun _ h9 => h9) rfl dX5_decimal_103 ?_
    refine lv_aload_n hx hb dX5_decimal_106 rfl (lv_at hl 3 rfl) ?_
    refine va_get (D := D) (ci := 6) (v := .int (iI (dg + 1))) (C := RX5) (T := TX5) (N := 28) hx hb hts inX5 hown hK hP 0 rfl rfl 27 (by decide) kfieldLink_RX5_145_ZScreensModel_digits_I (fun _ h9 => h9) rfl dX5_decimal_107 ?_
    refine lv_bipush (v := iI 48) hx hb dX5_decimal_110 (by decide) ?_
    refine lv_iload_n hx hb dX5_decimal_112 rfl (lv_at hl 2 rfl) ?_
    refine lv_iload hx hb dX5_decimal_113 (lv_at hl 0 rfl) ?_
    refine z_idiv hx hb (by omega) dX5_decimal_115 ?_
    refine lv_bipush (v := iI 10) hx hb dX5_decimal_116 (by decide) ?_
    refine z_irem hx hb (by omega) dX5_decimal_118 ?_
    refine z_iadd hx hb dX5_decimal_119 ?_
    refine z_iast hx hb hK hP hD hS 1 0 rfl rfl (by omega) dX5_decimal_120 (fun H locs hP hD hS => ?_)
    have hP : va_P D vwCl [(a 0, .inr (6, [.ref (a 1), .ref (a 2), .int (iI (σ 0)), .int (iI (σ 2)), .int (iI (σ 1)), .int (iI (σ 3)), .int (iI (σ 4)), .int (iI (σ 10)), .int (iI (σ 11)), .int (iI (σ 12)), .int (iI (σ 13)), .int (iI (σ 7)), .int (iI (σ 8)), .int (iI (σ 9)), .int (iI (σ 5)), .ref (a 3), .int (iI (σ 18)), .int (iI (σ 14)), .int (iI (σ 15)), .int (iI (σ 16)), .int (iI (σ 17)), .ref (a 4), .int (iI (σ 19)), .int (iI (σ 6)), .ref (a 5), .int (iI (σ 20)), .ref (a 6), .int (iI (dg + 1))])), (a 6, .inl (cA, 20, .inl (upd (upd fd (dg).toNat (iI (48 + ((v / 10) % 10)))) (dg + 1).toNat (iI (48 + ((v / 1) % 10))))))] H := hP
    have hD : va_D A [(a 0, .inr (6, [.ref (a 1), .ref (a 2), .int (iI (σ 0)), .int (iI (σ 2)), .int (iI (σ 1)), .int (iI (σ 3)), .int (iI (σ 4)), .int (iI (σ 10)), .int (iI (σ 11)), .int (iI (σ 12)), .int (iI (σ 13)), .int (iI (σ 7)), .int (iI (σ 8)), .int (iI (σ 9)), .int (iI (σ 5)), .ref (a 3), .int (iI (σ 18)), .int (iI (σ 14)), .int (iI (σ 15)), .int (iI (σ 16)), .int (iI (σ 17)), .ref (a 4), .int (iI (σ 19)), .int (iI (σ 6)), .ref (a 5), .int (iI (σ 20)), .ref (a 6), .int (iI (dg + 1))])), (a 6, .inl (cA, 20, .inl (upd (upd fd (dg).toNat (iI (48 + ((v / 10) % 10)))) (dg + 1).toNat (iI (48 + ((v / 1) % 10))))))] := hD
    refine lv_aload_n hx hb dX5_decimal_121 rfl (lv_at hl 3 rfl) ?_
    refine lv_dup hx hb dX5_decimal_122 rfl ?_
    refine va_get (D := D) (ci := 6) (v := .int (iI (dg + 1))) (C := RX5) (T := TX5) (N := 28) hx hb hts inX5 hown hK hP 0 rfl rfl 27 (by decide) kfieldLink_RX5_145_ZScreensModel_digits_I (fun _ h9 => h9) rfl dX5_decimal_123 ?_
    refine lv_iconst (v := iI 1) hx hb dX5_decimal_126 rfl ?_
    refine z_iadd hx hb dX5_decimal_127 ?_
    refine va_put (D := D) (ci := 6) (v := .int (iI ((dg + 1) + 1))) (ty := .int) (C := RX5) (T := TX5) (N := 28) hx hb hts inX5 tyX5 tyX5_ok nmX5 hown hK hP hD hS 0 rfl rfl 27 (by decide) kfieldLink_RX5_145_ZScreensModel_digits_I (fun _ h9 => h9) rfl (by decide +kernel) rfl rfl (Nat.le_of_ble_eq_true rfl) dX5_decimal_128 (fun H locs hP hD hS => ?_)
    have hP : va_P D vwCl [(a 0, .inr (6, [.ref (a 1), .ref (a 2), .int (iI (σ 0)), .int (iI (σ 2)), .int (iI (σ 1)), .int (iI (σ 3)), .int (iI (σ 4)), .int (iI (σ 10)), .int (iI (σ 11)), .int (iI (σ 12)), .int (iI (σ 13)), .int (iI (σ 7)), .int (iI (σ 8)), .int (iI (σ 9)), .int (iI (σ 5)), .ref (a 3), .int (iI (σ 18)), .int (iI (σ 14)), .int (iI (σ 15)), .int (iI (σ 16)), .int (iI (σ 17)), .ref (a 4), .int (iI (σ 19)), .int (iI (σ 6)), .ref (a 5), .int (iI (σ 20)), .ref (a 6), .int (iI ((dg + 1) + 1))])), (a 6, .inl (cA, 20, .inl (upd (upd fd (dg).toNat (iI (48 + ((v / 10) % 10)))) (dg + 1).toNat (iI (48 + ((v / 1) % 10))))))] H := hP
    have hD : va_D A [(a 0, .inr (6, [.ref (a 1), .ref (a 2), .int (iI (σ 0)), .int (iI (σ 2)), .int (iI (σ 1)), .int (iI (σ 3)), .int (iI (σ 4)), .int (iI (σ 10)), .int (iI (σ 11)), .int (iI (σ 12)), .int (iI (σ 13)), .int (iI (σ 7)), .int (iI (σ 8)), .int (iI (σ 9)), .int (iI (σ 5)), .ref (a 3), .int (iI (σ 18)), .int (iI (σ 14)), .int (iI (σ 15)), .int (iI (σ 16)), .int (iI (σ 17)), .ref (a 4), .int (iI (σ 19)), .int (iI (σ 6)), .ref (a 5), .int (iI (σ 20)), .ref (a 6), .int (iI ((dg + 1) + 1))])), (a 6, .inl (cA, 20, .inl (upd (upd fd (dg).toNat (iI (48 + ((v / 10) % 10)))) (dg + 1).toNat (iI (48 + ((v / 1) % 10))))))] := hD
    refine lv_iload hx hb dX5_decimal_131 (lv_at hl 0 rfl) ?_
    refine lv_bipush (v := iI 10) hx hb dX5_decimal_133 (by decide) ?_
    refine z_idiv hx hb (by omega) dX5_decimal_135 ?_
    refine lv_istore (lv' := [(4, .int (iI (1 / 10))), (5, .int (iI 2)), (3, .int (iI v)), (0, .ref (a 0)), (1, .int (iI v)), (2, .int (iI w))]) hx hb dX5_decimal_136 hl (by decide) rfl (fun ls hl => ?_)
    have hl : lv_has ls 6 [(4, .int (iI 0)), (5, .int (iI 2)), (3, .int (iI v)), (0, .ref (a 0)), (1, .int (iI v)), (2, .int (iI w))] := by rw [show (0 : Int) = 1 / 10 by omega]; exact hl
    refine lv_goto (tgt := 97) hx hb dX5_decimal_138 (by decide) ?_
    refine lv_iload hx hb dX5_decimal_97 (lv_at hl 0 rfl) ?_
    refine z_if_le hx hb 141 (by omega) dX5_decimal_99 (by decide) (fun c99 => ?_) (fun c99 => absurd c99 (by omega))
    have e9 : (if w = 1 then dec v else dec2 v) = [48 + ((v / 10) % 10), 48 + ((v / 1) % 10)] := by
      unfold dec2
      simp only [if_neg (show ¬ w = 1 by omega), if_neg (show ¬ v < 10 by omega)]
      first | rfl | (simp only [List.cons.injEq, and_true, true_and]; omega)
    have hx9 : zTx (upd (upd fd (dg).toNat (iI (48 + ((v / 10) % 10)))) (dg + 1).toNat (iI (48 + ((v / 1) % 10)))) (tx ++ [48 + ((v / 10) % 10)] ++ [48 + ((v / 1) % 10)]) := (tx_app (tx_app hT0 (by (try simp only [List.length_append, List.length_cons, List.length_nil]); omega)) (by (try simp only [List.length_append, List.length_cons, List.length_nil]); omega))
    have h9 : tx ++ (if w = 1 then dec v else dec2 v) = tx ++ [48 + ((v / 10) % 10)] ++ [48 + ((v / 1) % 10)] := by rw [e9] <;> simp
    have hn9 : dg + (((if w = 1 then dec v else dec2 v)).length : Int) = (dg + 1) + 1 := by rw [e9]; (try simp only [List.length_cons, List.length_nil]); omega
    exact K H locs (upd (upd fd (dg).toNat (iI (48 + ((v / 10) % 10)))) (dg + 1).toNat (iI (48 + ((v / 1) % 10)))) _ ls 0 0 (by omega) (by omega) (by rw [h9]; exact hx9) (by rw [hn9]; exact hP) (by rw [hn9]; exact hD) hS dX5_decimal_141
