/-! ===== the reference ===== -/
def encM (c s f i p : Int) : Int32 := (((iI c ||| (iI s <<< (iI 7 &&& 31))) ||| (iI f <<< (iI 11 &&& 31))) ||| (iI i <<< (iI 14 &&& 31))) ||| (iI p <<< (iI 18 &&& 31))
def encMK (k : ZK) : Int32 := encM k.1 k.2.1 k.2.2.1 k.2.2.2.1 k.2.2.2.2
theorem encM_bl (i p : Int) : (iI 2080 ||| (iI i <<< (iI 14 &&& 31))) ||| (iI p <<< (iI 18 &&& 31)) = encM 32 0 1 i p := by
  unfold encM
  rw [show (iI 32 ||| (iI 0 <<< (iI 7 &&& 31))) ||| (iI 1 <<< (iI 11 &&& 31)) = iI 2080 by decide]
abbrev mO (a : Nat → Nat) (σ : Nat → Int) (dg : Int) : Nat × va_E := (a 0, .inr (6, [.ref (a 1), .ref (a 2), .int (iI (σ 0)), .int (iI (σ 2)), .int (iI (σ 1)), .int (iI (σ 3)), .int (iI (σ 4)), .int (iI (σ 10)), .int (iI (σ 11)), .int (iI (σ 12)), .int (iI (σ 13)), .int (iI (σ 7)), .int (iI (σ 8)), .int (iI (σ 9)), .int (iI (σ 5)), .ref (a 3), .int (iI (σ 18)), .int (iI (σ 14)), .int (iI (σ 15)), .int (iI (σ 16)), .int (iI (σ 17)), .ref (a 4), .int (iI (σ 19)), .int (iI (σ 6)), .ref (a 5), .int (iI (σ 20)), .ref (a 6), .int (iI dg)]))
abbrev mW (cA : ClassId) (a : Nat → Nat) (σ : Nat → Int) (dg : Int) (f fo fw ft fs fd : Nat → Int32) : va_W := [mO a σ dg, (a 1, .inl (cA, 3200, .inl f)), (a 2, .inl (cA, 3200, .inl fo)), (a 3, .inl (cA, 80, .inl fw)), (a 4, .inl (cA, 60, .inl ft)), (a 5, .inl (cA, 500, .inl fs)), (a 6, .inl (cA, 20, .inl fd))]
def gcpp (G : ZG) (a b c : Int) : ZG := fun l' c' => if (l' : Int) = b ∧ (c' : Int) < c then G a.toNat c' else G l' c'
theorem gcp_0 {G : ZG} {a b c : Int} (h : c ≤ 0) : gcpp G a b c = G := by
  funext l' c'
  exact if_neg (by omega)
theorem rg_cpp {enc : ZK → Int32} {f : Nat → Int32} {G : ZG} {L W a b c i j : Int} (h : zRG enc f (gcpp G a b c) L W) (hW : W ≤ 80) (hi : i = 80 * b + c) (hj : j = 80 * a + c) (ha : 0 ≤ a ∧ a < L ∧ ¬ a = b) (hb : 0 ≤ b) (hc : 0 ≤ c ∧ c < W) : zRG enc (upd f i.toNat (f j.toNat)) (gcpp G a b (c + 1)) L W := by
  have h1 := h a.toNat c.toNat (by omega) (by omega)
  rw [show 80 * a.toNat + c.toNat = j.toNat by omega] at h1
  rw [h1]
  have h2 : gcpp G a b c a.toNat c.toNat = G a.toNat c.toNat := if_neg (by omega)
  rw [h2]
  refine rg_congr (rg_set h hW (l := b) (c := c) (G a.toNat c.toNat) hi hb (by omega)) (fun l' c' hl' hc' => ?_)
  unfold gset gcpp
  by_cases e : (l' : Int) = b ∧ (c' : Int) = c
  · rw [if_pos e, if_pos (by omega), show c.toNat = c' by omega]
  · rw [if_neg e]
    by_cases e2 : (l' : Int) = b ∧ (c' : Int) < c
    · rw [if_pos e2, if_pos (by omega)]
    · rw [if_neg e2, if_neg (by omega)]
theorem rg_cpe {enc : ZK → Int32} {f : Nat → Int32} {G : ZG} {L W a b c : Int} (h : zRG enc f (gcpp G a b c) L W) (hc : W ≤ c) : zRG enc f (gcp G a b) L W := by
  refine rg_congr h (fun l' c' hl' hc' => ?_)
  unfold gcpp gcp
  by_cases e : (l' : Int) = b
  · rw [if_pos (by omega), if_pos e]
  · rw [if_neg (by omega), if_neg e]
abbrev rmX5_within : Room := { frames := 0, cells := 0, slots := 0, locals := 0 }
set_option maxHeartbeats 4000000 in
set_option maxRecDepth 100000 in
theorem c_X5_within (l : Launch) (D : va_G) (sz : Nat) (n x1 x2 : Int) (h : (-2147483648 ≤ n ∧ n ≤ 2147483647) ∧ (-2147483648 ≤ x1 ∧ x1 ≤ 2147483647) ∧ (-2147483648 ≤ x2 ∧ x2 ≤ 2147483647)) : zMi l yX5_within wsX5_within rmX5_within D [] [.int (iI n), .int (iI x1), .int (iI x2)] [] sz (S := Unit) (fun r _ => r = iI (if n < x1 then x1 else if x2 < n then x2 else n)) (fun _ => []) 0 0 := by
  refine z_starti (cc := cX5_within) (maxL := 3) (ty := .int) (own := RX5) (nm := "within") (by decide) rfl rfl rfl (Nat.le_of_ble_eq_true rfl) ?_
  intro p e R s m args below meth c A Q ls H locs hBd hP hD hS hl K
  obtain ⟨hx, hb, hml, hown, hts, ⟨hRf, hRl, hRc, hRs⟩, hmn, hK, hN, hA⟩ := hBd
  have hl : lv_has ls 3 [(0, .int (iI n)), (1, .int (iI x1)), (2, .int (iI x2))] := hl
  have hP : va_P D vwCl [] H := hP
  have hD : va_D A [] := hD
  refine lv_iload_n hx hb dX5_within_0 rfl (lv_at hl 0 rfl) ?_
  refine lv_iload_n hx hb dX5_within_1 rfl (lv_at hl 1 rfl) ?_
  refine z_icmp_ge hx hb 9 (by omega) dX5_within_2 (by decide) (fun c2 => ?_) (fun c2 => ?_)
  · skip
    refine lv_iload_n hx hb dX5_within_9 rfl (lv_at hl 0 rfl) ?_
    refine lv_iload_n hx hb dX5_within_10 rfl (lv_at hl 2 rfl) ?_
    refine z_icmp_le hx hb 18 (by omega) dX5_within_11 (by decide) (fun c11 => ?_) (fun c11 => ?_)
    · skip
      refine lv_iload_n hx hb dX5_within_18 rfl (lv_at hl 0 rfl) ?_
      exact K H locs _ () _ ls 0 0 (by omega) (by omega) rfl (by rw [if_neg (by omega), if_neg (by omega)]) hP hD hS dX5_within_19
    · skip
      refine lv_iload_n hx hb dX5_within_14 rfl (lv_at hl 2 rfl) ?_
      refine lv_goto (tgt := 19) hx hb dX5_within_15 (by decide) ?_
      exact K H locs _ () _ ls 0 0 (by omega) (by omega) rfl (by rw [if_neg (by omega), if_pos (by omega)]) hP hD hS dX5_within_19
  · skip
    refine lv_iload_n hx hb dX5_within_5 rfl (lv_at hl 1 rfl) ?_
    refine lv_goto (tgt := 19) hx hb dX5_within_6 (by decide) ?_
    exact K H locs _ () _ ls 0 0 (by omega) (by omega) rfl (by rw [if_pos (by omega)]) hP hD hS dX5_within_19

abbrev rmX5_out : Room := { frames := 0, cells := 0, slots := 0, locals := 0 }
set_option maxHeartbeats 4000000 in
set_option maxRecDepth 100000 in
theorem c_X5_out (l : Launch) (D : va_G) (sz : Nat) (n x1 x2 : Int) (h : (-2147483648 ≤ n ∧ n ≤ 2147483647) ∧ (-2147483648 ≤ x1 ∧ x1 ≤ 2147483647) ∧ (-2147483648 ≤ x2 ∧ x2 ≤ 2147483647)) : zMi l yX5_out wsX5_out rmX5_out D [] [.int (iI n), .int (iI x1), .int (iI x2)] [] sz (S := Unit) (fun r _ => r = iI (if n < x1 ∨ x2 < n then 1 else 0)) (fun _ => []) 0 0 := by
  refine z_starti (cc := cX5_out) (maxL := 3) (ty := .boolean) (own := RX5) (nm := "out") (by decide) rfl rfl rfl (Nat.le_of_ble_eq_true rfl) ?_
  intro p e R s m args below meth c A Q ls H locs hBd hP hD hS hl K
  obtain ⟨hx, hb, hml, hown, hts, ⟨hRf, hRl, hRc, hRs⟩, hmn, hK, hN, hA⟩ := hBd
  have hl : lv_has ls 3 [(0, .int (iI n)), (1, .int (iI x1)), (2, .int (iI x2))] := hl
  have hP : va_P D vwCl [] H := hP
  have hD : va_D A [] := hD
  refine lv_iload_n hx hb dX5_out_0 rfl (lv_at hl 0 rfl) ?_
  refine lv_iload_n hx hb dX5_out_1 rfl (lv_at hl 1 rfl) ?_
  refine z_icmp_lt hx hb 10 (by omega) dX5_out_2 (by decide) (fun c2 => ?_) (fun c2 => ?_)
  · skip
    refine lv_iconst (v := iI 1) hx hb dX5_out_10 rfl ?_
    refine lv_goto (tgt := 15) hx hb dX5_out_11 (by decide) ?_
    exact K H locs _ () _ ls 0 0 (by omega) (by omega) (by decide) (by rw [if_pos (by omega)]) hP hD hS dX5_out_15
  · skip
    refine lv_iload_n hx hb dX5_out_5 rfl (lv_at hl 0 rfl) ?_
    refine lv_iload_n hx hb dX5_out_6 rfl (lv_at hl 2 rfl) ?_
    refine z_icmp_le hx hb 14 (by omega) dX5_out_7 (by decide) (fun c7 => ?_) (fun c7 => ?_)
    · skip
      refine lv_iconst (v := iI 0) hx hb dX5_out_14 rfl ?_
      exact K H locs _ () _ ls 0 0 (by omega) (by omega) (by decide) (by rw [if_neg (by omega)]) hP hD hS dX5_out_15
    · skip
      refine lv_iconst (v := iI 1) hx hb dX5_out_10 rfl ?_
      refine lv_goto (tgt := 15) hx hb dX5_out_11 (by decide) ?_
      exact K H locs _ () _ ls 0 0 (by omega) (by omega) (by decide) (by rw [if_pos (by omega)]) hP hD hS dX5_out_15

abbrev rmX5_top : Room := { frames := 0, cells := 0, slots := 0, locals := 0 }
set_option maxHeartbeats 4000000 in
set_option maxRecDepth 100000 in
theorem c_X5_top (l : Launch) (D : va_G) (sz : Nat) (a : Nat → Nat) (σ : Nat → Int) (dg : Int) (h0 : 1 ≤ σ 0 ∧ σ 0 ≤ 8) : zMi l yX5_top wsX5_top rmX5_top D [] [.ref (a 0)] [mO a σ dg] sz (S := Unit) (fun r _ => r = iI (ztop σ)) (fun _ => [mO a σ dg]) 0 0 := by
  refine z_starti (cc := cX5_top) (maxL := 1) (ty := .int) (own := RX5) (nm := "top") (by decide) rfl rfl rfl (Nat.le_of_ble_eq_true rfl) ?_
  intro p e R s m args below meth c A Q ls H locs hBd hP hD hS hl K
  obtain ⟨hx, hb, hml, hown, hts, ⟨hRf, hRl, hRc, hRs⟩, hmn, hK, hN, hA⟩ := hBd
  have hl : lv_has ls 1 [(0, .ref (a 0))] := hl
  have inX5 : ∀ w ∈ wsX50, w ∈ wsX5_top := by decide +kernel
  have kfieldLink_RX5_55_ZScreensModel_version_I := hts (.fieldLink RX5 55 "ZScreensModel" "version" "I") (by decide +kernel)
  have hP : va_P D vwCl [(a 0, .inr (6, [.ref (a 1), .ref (a 2), .int (iI (σ 0)), .int (iI (σ 2)), .int (iI (σ 1)), .int (iI (σ 3)), .int (iI (σ 4)), .int (iI (σ 10)), .int (iI (σ 11)), .int (iI (σ 12)), .int (iI (σ 13)), .int (iI (σ 7)), .int (iI (σ 8)), .int (iI (σ 9)), .int (iI (σ 5)), .ref (a 3), .int (iI (σ 18)), .int (iI (σ 14)), .int (iI (σ 15)), .int (iI (σ 16)), .int (iI (σ 17)), .ref (a 4), .int (iI (σ 19)), .int (iI (σ 6)), .ref (a 5), .int (iI (σ 20)), .ref (a 6), .int (iI dg)]))] H := hP
  have hD : va_D A [(a 0, .inr (6, [.ref (a 1), .ref (a 2), .int (iI (σ 0)), .int (iI (σ 2)), .int (iI (σ 1)), .int (iI (σ 3)), .int (iI (σ 4)), .int (iI (σ 10)), .int (iI (σ 11)), .int (iI (σ 12)), .int (iI (σ 13)), .int (iI (σ 7)), .int (iI (σ 8)), .int (iI (σ 9)), .int (iI (σ 5)), .ref (a 3), .int (iI (σ 18)), .int (iI (σ 14)), .int (iI (σ 15)), .int (iI (σ 16)), .int (iI (σ 17)), .ref (a 4), .int (iI (σ 19)), .int (iI (σ 6)), .ref (a 5), .int (iI (σ 20)), .ref (a 6), .int (iI dg)]))] := hD
  refine lv_aload_n hx hb dX5_top_0 rfl (lv_at hl 0 rfl) ?_
  refine va_get (D := D) (ci := 6) (v := .int (iI (σ 0))) (C := RX5) (T := TX5) (N := 28) hx hb hts inX5 hown hK hP 0 rfl rfl 2 (by decide) kfieldLink_RX5_55_ZScreensModel_version_I (fun _ h9 => h9) rfl dX5_top_1 ?_
  refine lv_iconst (v := iI 4) hx hb dX5_top_4 rfl ?_
  refine z_icmp_ge hx hb 12 (by omega) dX5_top_5 (by decide) (fun c5 => ?_) (fun c5 => ?_)
  · skip
    refine lv_iconst (v := iI 0) hx hb dX5_top_12 rfl ?_
    have ht9 := ztop_c σ
    exact K H locs _ () _ ls 0 0 (by omega) (by omega) rfl (by rw [show ztop σ = 0 by omega]) hP hD hS dX5_top_13
  · skip
    refine lv_iconst (v := iI 1) hx hb dX5_top_8 rfl ?_
    refine lv_goto (tgt := 13) hx hb dX5_top_9 (by decide) ?_
    have ht9 := ztop_c σ
    exact K H locs _ () _ ls 0 0 (by omega) (by omega) rfl (by rw [show ztop σ = 1 by omega]) hP hD hS dX5_top_13

abbrev rmX5_low : Room := { frames := 1, cells := 0, slots := 0, locals := 20 }
set_option maxHeartbeats 4000000 in
set_option maxRecDepth 100000 in
theorem c_X5_low (l : Launch) (D : va_G) (sz : Nat) (a : Nat → Nat) (σ : Nat → Int) (dg : Int) (h0 : 1 ≤ σ 0 ∧ σ 0 ≤ 8) : zMi l yX5_low wsX5_low rmX5_low D [] [.ref (a 0)] [mO a σ dg] sz (S := Unit) (fun r _ => r = iI (σ 1 - ztop σ - σ 3)) (fun _ => [mO a σ dg]) 0 0 := by
  refine z_starti (cc := cX5_low) (maxL := 1) (ty := .int) (own := RX5) (nm := "low") (by decide) rfl rfl rfl (Nat.le_of_ble_eq_true rfl) ?_
  intro p e R s m args below meth c A Q ls H locs hBd hP hD hS hl K
  obtain ⟨hx, hb, hml, hown, hts, ⟨hRf, hRl, hRc, hRs⟩, hmn, hK, hN, hA⟩ := hBd
  have hl : lv_has ls 1 [(0, .ref (a 0))] := hl
  have inX5 : ∀ w ∈ wsX50, w ∈ wsX5_low := by decide +kernel
  have kfieldLink_RX5_61_ZScreensModel_lines_I := hts (.fieldLink RX5 61 "ZScreensModel" "lines" "I") (by decide +kernel)
  have kfieldLink_RX5_77_ZScreensModel_height_I := hts (.fieldLink RX5 77 "ZScreensModel" "height" "I") (by decide +kernel)
  have hP : va_P D vwCl [(a 0, .inr (6, [.ref (a 1), .ref (a 2), .int (iI (σ 0)), .int (iI (σ 2)), .int (iI (σ 1)), .int (iI (σ 3)), .int (iI (σ 4)), .int (iI (σ 10)), .int (iI (σ 11)), .int (iI (σ 12)), .int (iI (σ 13)), .int (iI (σ 7)), .int (iI (σ 8)), .int (iI (σ 9)), .int (iI (σ 5)), .ref (a 3), .int (iI (σ 18)), .int (iI (σ 14)), .int (iI (σ 15)), .int (iI (σ 16)), .int (iI (σ 17)), .ref (a 4), .int (iI (σ 19)), .int (iI (σ 6)), .ref (a 5), .int (iI (σ 20)), .ref (a 6), .int (iI dg)]))] H := hP
  have hD : va_D A [(a 0, .inr (6, [.ref (a 1), .ref (a 2), .int (iI (σ 0)), .int (iI (σ 2)), .int (iI (σ 1)), .int (iI (σ 3)), .int (iI (σ 4)), .int (iI (σ 10)), .int (iI (σ 11)), .int (iI (σ 12)), .int (iI (σ 13)), .int (iI (σ 7)), .int (iI (σ 8)), .int (iI (σ 9)), .int (iI (σ 5)), .ref (a 3), .int (iI (σ 18)), .int (iI (σ 14)), .int (iI (σ 15)), .int (iI (σ 16)), .int (iI (σ 17)), .ref (a 4), .int (iI (σ 19)), .int (iI (σ 6)), .ref (a 5), .int (iI (σ 20)), .ref (a 6), .int (iI dg)]))] := hD
  refine lv_aload_n hx hb dX5_low_0 rfl (lv_at hl 0 rfl) ?_
  refine va_get (D := D) (ci := 6) (v := .int (iI (σ 1))) (C := RX5) (T := TX5) (N := 28) hx hb hts inX5 hown hK hP 0 rfl rfl 4 (by decide) kfieldLink_RX5_61_ZScreensModel_lines_I (fun _ h9 => h9) rfl dX5_low_1 ?_
  refine lv_aload_n hx hb dX5_low_4 rfl (lv_at hl 0 rfl) ?_
  refine z_calli (w2 := fun _ => [(a 0, .inr (6, [.ref (a 1), .ref (a 2), .int (iI (σ 0)), .int (iI (σ 2)), .int (iI (σ 1)), .int (iI (σ 3)), .int (iI (σ 4)), .int (iI (σ 10)), .int (iI (σ 11)), .int (iI (σ 12)), .int (iI (σ 13)), .int (iI (σ 7)), .int (iI (σ 8)), .int (iI (σ 9)), .int (iI (σ 5)), .ref (a 3), .int (iI (σ 18)), .int (iI (σ 14)), .int (iI (σ 15)), .int (iI (σ 16)), .int (iI (σ 17)), .ref (a 4), .int (iI (σ 19)), .int (iI (σ 6)), .ref (a 5), .int (iI (σ 20)), .ref (a 6), .int (iI dg)]))]) (wc := [(a 0, .inr (6, [.ref (a 1), .ref (a 2), .int (iI (σ 0)), .int (iI (σ 2)), .int (iI (σ 1)), .int (iI (σ 3)), .int (iI (σ 4)), .int (iI (σ 10)), .int (iI (σ 11)), .int (iI (σ 12)), .int (iI (σ 13)), .int (iI (σ 7)), .int (iI (σ 8)), .int (iI (σ 9)), .int (iI (σ 5)), .ref (a 3), .int (iI (σ 18)), .int (iI (σ 14)), .int (iI (σ 15)), .int (iI (σ 16)), .int (iI (σ 17)), .ref (a 4), .int (iI (σ 19)), .int (iI (σ 6)), .ref (a 5), .int (iI (σ 20)), .ref (a 6), .int (iI dg)]))]) (wr := []) (va_runV (As := []) (rest := [.int (iI (σ 1))]) ⟨hx, hb, hml, hown, hts⟩ (c_X5_top l D H.size a σ dg (show 1 ≤ (σ 0) ∧ (σ 0) ≤ 8 by omega)) (cwV 0 hts gX5_low_X5_top rfl rfl rfl (by decide +kernel) ⟨by rw [hRf]; exact Nat.le_of_ble_eq_true rfl, by rw [hRl]; exact Nat.le_of_ble_eq_true rfl⟩) (z_preV hP hD hK hN [0] (by decide) rfl rfl [] rfl (q0 := 0) rfl (ci := 6) rfl) rfl rfl hl.1 rfl (lv_room (Nat.le_of_ble_eq_true rfl)) dX5_low_5 ⟨by rw [hRc]; exact Nat.le_of_ble_eq_true rfl, by rw [hRs]; exact Nat.le_of_ble_eq_true rfl⟩) hP hD hS hA [0] [] rfl rfl (by decide) (by decide) [0] (by decide) (fun _ => rfl) (fun r _ H locs hw hP hD hS => ?_)
  have hw : r = iI (ztop σ) := hw
  subst hw
  have hP : va_P D vwCl [(a 0, .inr (6, [.ref (a 1), .ref (a 2), .int (iI (σ 0)), .int (iI (σ 2)), .int (iI (σ 1)), .int (iI (σ 3)), .int (iI (σ 4)), .int (iI (σ 10)), .int (iI (σ 11)), .int (iI (σ 12)), .int (iI (σ 13)), .int (iI (σ 7)), .int (iI (σ 8)), .int (iI (σ 9)), .int (iI (σ 5)), .ref (a 3), .int (iI (σ 18)), .int (iI (σ 14)), .int (iI (σ 15)), .int (iI (σ 16)), .int (iI (σ 17)), .ref (a 4), .int (iI (σ 19)), .int (iI (σ 6)), .ref (a 5), .int (iI (σ 20)), .ref (a 6), .int (iI dg)]))] H := hP
  have hD : va_D A [(a 0, .inr (6, [.ref (a 1), .ref (a 2), .int (iI (σ 0)), .int (iI (σ 2)), .int (iI (σ 1)), .int (iI (σ 3)), .int (iI (σ 4)), .int (iI (σ 10)), .int (iI (σ 11)), .int (iI (σ 12)), .int (iI (σ 13)), .int (iI (σ 7)), .int (iI (σ 8)), .int (iI (σ 9)), .int (iI (σ 5)), .ref (a 3), .int (iI (σ 18)), .int (iI (σ 14)), .int (iI (σ 15)), .int (iI (σ 16)), .int (iI (σ 17)), .ref (a 4), .int (iI (σ 19)), .int (iI (σ 6)), .ref (a 5), .int (iI (σ 20)), .ref (a 6), .int (iI dg)]))] := hD
  refine z_isub hx hb dX5_low_8 ?_
  refine lv_aload_n hx hb dX5_low_9 rfl (lv_at hl 0 rfl) ?_
  refine va_get (D := D) (ci := 6) (v := .int (iI (σ 3))) (C := RX5) (T := TX5) (N := 28) hx hb hts inX5 hown hK hP 0 rfl rfl 5 (by decide) kfieldLink_RX5_77_ZScreensModel_height_I (fun _ h9 => h9) rfl dX5_low_10 ?_
  refine z_isub hx hb dX5_low_13 ?_
  exact K H locs _ () _ ls 0 0 (by omega) (by omega) rfl rfl hP hD hS dX5_low_14

abbrev rmX5_firstLow : Room := { frames := 1, cells := 0, slots := 0, locals := 20 }
set_option maxHeartbeats 4000000 in
set_option maxRecDepth 100000 in
theorem c_X5_firstLow (l : Launch) (D : va_G) (sz : Nat) (a : Nat → Nat) (σ : Nat → Int) (dg : Int) (h0 : 1 ≤ σ 0 ∧ σ 0 ≤ 8) : zMi l yX5_firstLow wsX5_firstLow rmX5_firstLow D [] [.ref (a 0)] [mO a σ dg] sz (S := Unit) (fun r _ => r = iI (ztop σ + σ 3)) (fun _ => [mO a σ dg]) 0 0 := by
  refine z_starti (cc := cX5_firstLow) (maxL := 1) (ty := .int) (own := RX5) (nm := "firstLow") (by decide) rfl rfl rfl (Nat.le_of_ble_eq_true rfl) ?_
  intro p e R s m args below meth c A Q ls H locs hBd hP hD hS hl K
  obtain ⟨hx, hb, hml, hown, hts, ⟨hRf, hRl, hRc, hRs⟩, hmn, hK, hN, hA⟩ := hBd
  have hl : lv_has ls 1 [(0, .ref (a 0))] := hl
  have inX5 : ∀ w ∈ wsX50, w ∈ wsX5_firstLow := by decide +kernel
  have kfieldLink_RX5_77_ZScreensModel_height_I := hts (.fieldLink RX5 77 "ZScreensModel" "height" "I") (by decide +kernel)
  have hP : va_P D vwCl [(a 0, .inr (6, [.ref (a 1), .ref (a 2), .int (iI (σ 0)), .int (iI (σ 2)), .int (iI (σ 1)), .int (iI (σ 3)), .int (iI (σ 4)), .int (iI (σ 10)), .int (iI (σ 11)), .int (iI (σ 12)), .int (iI (σ 13)), .int (iI (σ 7)), .int (iI (σ 8)), .int (iI (σ 9)), .int (iI (σ 5)), .ref (a 3), .int (iI (σ 18)), .int (iI (σ 14)), .int (iI (σ 15)), .int (iI (σ 16)), .int (iI (σ 17)), .ref (a 4), .int (iI (σ 19)), .int (iI (σ 6)), .ref (a 5), .int (iI (σ 20)), .ref (a 6), .int (iI dg)]))] H := hP
  have hD : va_D A [(a 0, .inr (6, [.ref (a 1), .ref (a 2), .int (iI (σ 0)), .int (iI (σ 2)), .int (iI (σ 1)), .int (iI (σ 3)), .int (iI (σ 4)), .int (iI (σ 10)), .int (iI (σ 11)), .int (iI (σ 12)), .int (iI (σ 13)), .int (iI (σ 7)), .int (iI (σ 8)), .int (iI (σ 9)), .int (iI (σ 5)), .ref (a 3), .int (iI (σ 18)), .int (iI (σ 14)), .int (iI (σ 15)), .int (iI (σ 16)), .int (iI (σ 17)), .ref (a 4), .int (iI (σ 19)), .int (iI (σ 6)), .ref (a 5), .int (iI (σ 20)), .ref (a 6), .int (iI dg)]))] := hD
  refine lv_aload_n hx hb dX5_firstLow_0 rfl (lv_at hl 0 rfl) ?_
  refine z_calli (w2 := fun _ => [(a 0, .inr (6, [.ref (a 1), .ref (a 2), .int (iI (σ 0)), .int (iI (σ 2)), .int (iI (σ 1)), .int (iI (σ 3)), .int (iI (σ 4)), .int (iI (σ 10)), .int (iI (σ 11)), .int (iI (σ 12)), .int (iI (σ 13)), .int (iI (σ 7)), .int (iI (σ 8)), .int (iI (σ 9)), .int (iI (σ 5)), .ref (a 3), .int (iI (σ 18)), .int (iI (σ 14)), .int (iI (σ 15)), .int (iI (σ 16)), .int (iI (σ 17)), .ref (a 4), .int (iI (σ 19)), .int (iI (σ 6)), .ref (a 5), .int (iI (σ 20)), .ref (a 6), .int (iI dg)]))]) (wc := [(a 0, .inr (6, [.ref (a 1), .ref (a 2), .int (iI (σ 0)), .int (iI (σ 2)), .int (iI (σ 1)), .int (iI (σ 3)), .int (iI (σ 4)), .int (iI (σ 10)), .int (iI (σ 11)), .int (iI (σ 12)), .int (iI (σ 13)), .int (iI (σ 7)), .int (iI (σ 8)), .int (iI (σ 9)), .int (iI (σ 5)), .ref (a 3), .int (iI (σ 18)), .int (iI (σ 14)), .int (iI (σ 15)), .int (iI (σ 16)), .int (iI (σ 17)), .ref (a 4), .int (iI (σ 19)), .int (iI (σ 6)), .ref (a 5), .int (iI (σ 20)), .ref (a 6), .int (iI dg)]))]) (wr := []) (va_runV (As := []) (rest := []) ⟨hx, hb, hml, hown, hts⟩ (c_X5_top l D H.size a σ dg (show 1 ≤ (σ 0) ∧ (σ 0) ≤ 8 by omega)) (cwV 0 hts gX5_firstLow_X5_top rfl rfl rfl (by decide +kernel) ⟨by rw [hRf]; exact Nat.le_of_ble_eq_true rfl, by rw [hRl]; exact Nat.le_of_ble_eq_true rfl⟩) (z_preV hP hD hK hN [0] (by decide) rfl rfl [] rfl (q0 := 0) rfl (ci := 6) rfl) rfl rfl hl.1 rfl (lv_room (Nat.le_of_ble_eq_true rfl)) dX5_firstLow_1 ⟨by rw [hRc]; exact Nat.le_of_ble_eq_true rfl, by rw [hRs]; exact Nat.le_of_ble_eq_true rfl⟩) hP hD hS hA [0] [] rfl rfl (by decide) (by decide) [0] (by decide) (fun _ => rfl) (fun r _ H locs hw hP hD hS => ?_)
  have hw : r = iI (ztop σ) := hw
  subst hw
  have hP : va_P D vwCl [(a 0, .inr (6, [.ref (a 1), .ref (a 2), .int (iI (σ 0)), .int (iI (σ 2)), .int (iI (σ 1)), .int (iI (σ 3)), .int (iI (σ 4)), .int (iI (σ 10)), .int (iI (σ 11)), .int (iI (σ 12)), .int (iI (σ 13)), .int (iI (σ 7)), .int (iI (σ 8)), .int (iI (σ 9)), .int (iI (σ 5)), .ref (a 3), .int (iI (σ 18)), .int (iI (σ 14)), .int (iI (σ 15)), .int (iI (σ 16)), .int (iI (σ 17)), .ref (a 4), .int (iI (σ 19)), .int (iI (σ 6)), .ref (a 5), .int (iI (σ 20)), .ref (a 6), .int (iI dg)]))] H := hP
  have hD : va_D A [(a 0, .inr (6, [.ref (a 1), .ref (a 2), .int (iI (σ 0)), .int (iI (σ 2)), .int (iI (σ 1)), .int (iI (σ 3)), .int (iI (σ 4)), .int (iI (σ 10)), .int (iI (σ 11)), .int (iI (σ 12)), .int (iI (σ 13)), .int (iI (σ 7)), .int (iI (σ 8)), .int (iI (σ 9)), .int (iI (σ 5)), .ref (a 3), .int (iI (σ 18)), .int (iI (σ 14)), .int (iI (σ 15)), .int (iI (σ 16)), .int (iI (σ 17)), .ref (a 4), .int (iI (σ 19)), .int (iI (σ 6)), .ref (a 5), .int (iI (σ 20)), .ref (a 6), .int (iI dg)]))] := hD
  refine lv_aload_n hx hb dX5_firstLow_4 rfl (lv_at hl 0 rfl) ?_
  refine va_get (D := D) (ci := 6) (v := .int (iI (σ 3))) (C := RX5) (T := TX5) (N := 28) hx hb hts inX5 hown hK hP 0 rfl rfl 5 (by decide) kfieldLink_RX5_77_ZScreensModel_height_I (fun _ h9 => h9) rfl dX5_firstLow_5 ?_
  refine z_iadd hx hb dX5_firstLow_8 ?_
  exact K H locs _ () _ ls 0 0 (by omega) (by omega) rfl rfl hP hD hS dX5_firstLow_9

abbrev rmX5_made : Room := { frames := 0, cells := 0, slots := 0, locals := 0 }
set_option maxHeartbeats 4000000 in
set_option maxRecDepth 100000 in
theorem c_X5_made (l : Launch) (D : va_G) (sz : Nat) (a : Nat → Nat) (σ : Nat → Int) (dg : Int) (n : Int) (h0 : 1 ≤ σ 0 ∧ σ 0 ≤ 8) : zMi l yX5_made wsX5_made rmX5_made D [] [.ref (a 0), .int (iI n)] [mO a σ dg] sz (S := Unit) (fun r _ => r = encM n (σ 14) (σ 15) (σ 16) (σ 17)) (fun _ => [mO a σ dg]) 0 0 := by
  refine z_starti (cc := cX5_made) (maxL := 2) (ty := .int) (own := RX5) (nm := "made") (by decide) rfl rfl rfl (Nat.le_of_ble_eq_true rfl) ?_
  intro p e R s m args below meth c A Q ls H locs hBd hP hD hS hl K
  obtain ⟨hx, hb, hml, hown, hts, ⟨hRf, hRl, hRc, hRs⟩, hmn, hK, hN, hA⟩ := hBd
  have hl : lv_has ls 2 [(0, .ref (a 0)), (1, .int (iI n))] := hl
  have inX5 : ∀ w ∈ wsX50, w ∈ wsX5_made := by decide +kernel
  have kfieldLink_RX5_33_ZScreensModel_font_I := hts (.fieldLink RX5 33 "ZScreensModel" "font" "I") (by decide +kernel)
  have kfieldLink_RX5_36_ZScreensModel_first_I := hts (.fieldLink RX5 36 "ZScreensModel" "first" "I") (by decide +kernel)
  have kfieldLink_RX5_39_ZScreensModel_second_I := hts (.fieldLink RX5 39 "ZScreensModel" "second" "I") (by decide +kernel)
  have kfieldLink_RX5_80_ZScreensModel_style_I := hts (.fieldLink RX5 80 "ZScreensModel" "style" "I") (by decide +kernel)
  have hP : va_P D vwCl [(a 0, .inr (6, [.ref (a 1), .ref (a 2), .int (iI (σ 0)), .int (iI (σ 2)), .int (iI (σ 1)), .int (iI (σ 3)), .int (iI (σ 4)), .int (iI (σ 10)), .int (iI (σ 11)), .int (iI (σ 12)), .int (iI (σ 13)), .int (iI (σ 7)), .int (iI (σ 8)), .int (iI (σ 9)), .int (iI (σ 5)), .ref (a 3), .int (iI (σ 18)), .int (iI (σ 14)), .int (iI (σ 15)), .int (iI (σ 16)), .int (iI (σ 17)), .ref (a 4), .int (iI (σ 19)), .int (iI (σ 6)), .ref (a 5), .int (iI (σ 20)), .ref (a 6), .int (iI dg)]))] H := hP
  have hD : va_D A [(a 0, .inr (6, [.ref (a 1), .ref (a 2), .int (iI (σ 0)), .int (iI (σ 2)), .int (iI (σ 1)), .int (iI (σ 3)), .int (iI (σ 4)), .int (iI (σ 10)), .int (iI (σ 11)), .int (iI (σ 12)), .int (iI (σ 13)), .int (iI (σ 7)), .int (iI (σ 8)), .int (iI (σ 9)), .int (iI (σ 5)), .ref (a 3), .int (iI (σ 18)), .int (iI (σ 14)), .int (iI (σ 15)), .int (iI (σ 16)), .int (iI (σ 17)), .ref (a 4), .int (iI (σ 19)), .int (iI (σ 6)), .ref (a 5), .int (iI (σ 20)), .ref (a 6), .int (iI dg)]))] := hD
  refine lv_iload_n hx hb dX5_made_0 rfl (lv_at hl 1 rfl) ?_
  refine lv_aload_n hx hb dX5_made_1 rfl (lv_at hl 0 rfl) ?_
  refine va_get (D := D) (ci := 6) (v := .int (iI (σ 14))) (C := RX5) (T := TX5) (N := 28) hx hb hts inX5 hown hK hP 0 rfl rfl 17 (by decide) kfieldLink_RX5_80_ZScreensModel_style_I (fun _ h9 => h9) rfl dX5_made_2 ?_
  refine lv_bipush (v := iI 7) hx hb dX5_made_5 (by decide) ?_
  refine lv_ishl hx hb dX5_made_7 ?_
  refine lv_ior hx hb dX5_made_8 ?_
  refine lv_aload_n hx hb dX5_made_9 rfl (lv_at hl 0 rfl) ?_
  refine va_get (D := D) (ci := 6) (v := .int (iI (σ 15))) (C := RX5) (T := TX5) (N := 28) hx hb hts inX5 hown hK hP 0 rfl rfl 18 (by decide) kfieldLink_RX5_33_ZScreensModel_font_I (fun _ h9 => h9) rfl dX5_made_10 ?_
  refine lv_bipush (v := iI 11) hx hb dX5_made_13 (by decide) ?_
  refine lv_ishl hx hb dX5_made_15 ?_
  refine lv_ior hx hb dX5_made_16 ?_
  refine lv_aload_n hx hb dX5_made_17 rfl (lv_at hl 0 rfl) ?_
  refine va_get (D := D) (ci := 6) (v := .int (iI (σ 16))) (C := RX5) (T := TX5) (N := 28) hx hb hts inX5 hown hK hP 0 rfl rfl 19 (by decide) kfieldLink_RX5_36_ZScreensModel_first_I (fun _ h9 => h9) rfl dX5_made_18 ?_
  refine lv_bipush (v := iI 14) hx hb dX5_made_21 (by decide) ?_
  refine lv_ishl hx hb dX5_made_23 ?_
  refine lv_ior hx hb dX5_made_24 ?_
  refine lv_aload_n hx hb dX5_made_25 rfl (lv_at hl 0 rfl) ?_
  refine va_get (D := D) (ci := 6) (v := .int (iI (σ 17))) (C := RX5) (T := TX5) (N := 28) hx hb hts inX5 hown hK hP 0 rfl rfl 20 (by decide) kfieldLink_RX5_39_ZScreensModel_second_I (fun _ h9 => h9) rfl dX5_made_26 ?_
  refine lv_bipush (v := iI 18) hx hb dX5_made_29 (by decide) ?_
  refine lv_ishl hx hb dX5_made_31 ?_
  refine lv_ior hx hb dX5_made_32 ?_
  exact K H locs _ () _ ls 0 0 (by omega) (by omega) rfl rfl hP hD hS dX5_made_33

abbrev rmX5_blank : Room := { frames := 0, cells := 0, slots := 0, locals := 0 }
set_option maxHeartbeats 4000000 in
set_option maxRecDepth 100000 in
theorem c_X5_blank (l : Launch) (D : va_G) (sz : Nat) (a : Nat → Nat) (σ : Nat → Int) (dg : Int) (h0 : 1 ≤ σ 0 ∧ σ 0 ≤ 8) : zMi l yX5_blank wsX5_blank rmX5_blank D [] [.ref (a 0)] [mO a σ dg] sz (S := Unit) (fun r _ => r = encM 32 0 1 (σ 16) (σ 17)) (fun _ => [mO a σ dg]) 0 0 := by
  refine z_starti (cc := cX5_blank) (maxL := 1) (ty := .int) (own := RX5) (nm := "blank") (by decide) rfl rfl rfl (Nat.le_of_ble_eq_true rfl) ?_
  intro p e R s m args below meth c A Q ls H locs hBd hP hD hS hl K
  obtain ⟨hx, hb, hml, hown, hts, ⟨hRf, hRl, hRc, hRs⟩, hmn, hK, hN, hA⟩ := hBd
  have hl : lv_has ls 1 [(0, .ref (a 0))] := hl
  have inX5 : ∀ w ∈ wsX50, w ∈ wsX5_blank := by decide +kernel
  have kfieldLink_RX5_36_ZScreensModel_first_I := hts (.fieldLink RX5 36 "ZScreensModel" "first" "I") (by decide +kernel)
  have kfieldLink_RX5_39_ZScreensModel_second_I := hts (.fieldLink RX5 39 "ZScreensModel" "second" "I") (by decide +kernel)
  have hP : va_P D vwCl [(a 0, .inr (6, [.ref (a 1), .ref (a 2), .int (iI (σ 0)), .int (iI (σ 2)), .int (iI (σ 1)), .int (iI (σ 3)), .int (iI (σ 4)), .int (iI (σ 10)), .int (iI (σ 11)), .int (iI (σ 12)), .int (iI (σ 13)), .int (iI (σ 7)), .int (iI (σ 8)), .int (iI (σ 9)), .int (iI (σ 5)), .ref (a 3), .int (iI (σ 18)), .int (iI (σ 14)), .int (iI (σ 15)), .int (iI (σ 16)), .int (iI (σ 17)), .ref (a 4), .int (iI (σ 19)), .int (iI (σ 6)), .ref (a 5), .int (iI (σ 20)), .ref (a 6), .int (iI dg)]))] H := hP
  have hD : va_D A [(a 0, .inr (6, [.ref (a 1), .ref (a 2), .int (iI (σ 0)), .int (iI (σ 2)), .int (iI (σ 1)), .int (iI (σ 3)), .int (iI (σ 4)), .int (iI (σ 10)), .int (iI (σ 11)), .int (iI (σ 12)), .int (iI (σ 13)), .int (iI (σ 7)), .int (iI (σ 8)), .int (iI (σ 9)), .int (iI (σ 5)), .ref (a 3), .int (iI (σ 18)), .int (iI (σ 14)), .int (iI (σ 15)), .int (iI (σ 16)), .int (iI (σ 17)), .ref (a 4), .int (iI (σ 19)), .int (iI (σ 6)), .ref (a 5), .int (iI (σ 20)), .ref (a 6), .int (iI dg)]))] := hD
  refine lv_sipush (v := iI 2080) hx hb dX5_blank_0 (by decide) ?_
  refine lv_aload_n hx hb dX5_blank_3 rfl (lv_at hl 0 rfl) ?_
  refine va_get (D := D) (ci := 6) (v := .int (iI (σ 16))) (C := RX5) (T := TX5) (N := 28) hx hb hts inX5 hown hK hP 0 rfl rfl 19 (by decide) kfieldLink_RX5_36_ZScreensModel_first_I (fun _ h9 => h9) rfl dX5_blank_4 ?_
  refine lv_bipush (v := iI 14) hx hb dX5_blank_7 (by decide) ?_
  refine lv_ishl hx hb dX5_blank_9 ?_
  refine lv_ior hx hb dX5_blank_10 ?_
  refine lv_aload_n hx hb dX5_blank_11 rfl (lv_at hl 0 rfl) ?_
  refine va_get (D := D) (ci := 6) (v := .int (iI (σ 17))) (C := RX5) (T := TX5) (N := 28) hx hb hts inX5 hown hK hP 0 rfl rfl 20 (by decide) kfieldLink_RX5_39_ZScreensModel_second_I (fun _ h9 => h9) rfl dX5_blank_12 ?_
  refine lv_bipush (v := iI 18) hx hb dX5_blank_15 (by decide) ?_
  refine lv_ishl hx hb dX5_blank_17 ?_
  refine lv_ior hx hb dX5_blank_18 ?_
  exact K H locs _ () _ ls 0 0 (by omega) (by omega) rfl (encM_bl _ _) hP hD hS dX5_blank_19

abbrev rmX5_clear : Room := { frames := 1, cells := 0, slots := 0, locals := 20 }
set_option maxHeartbeats 4000000 in
set_option maxRecDepth 100000 in
theorem c_X5_clear (l : Launch) (D : va_G) (sz : Nat) (cA : ClassId) (a : Nat → Nat) (σ : Nat → Int) (dg : Int) (f : Nat → Int32) (y1 x1 : Int) (h : (1 ≤ σ 0 ∧ σ 0 ≤ 8) ∧ (8 ≤ σ 2 ∧ σ 2 ≤ 80) ∧ (0 ≤ y1 ∧ y1 ≤ 39) ∧ 0 ≤ x1 ∧ x1 ≤ 81) : zMv l yX5_clear wsX5_clear rmX5_clear D [(cA, .int)] [.ref (a 0), .int (iI y1), .int (iI x1)] [(a 0, .inr (6, [.ref (a 1), .ref (a 2), .int (iI (σ 0)), .int (iI (σ 2)), .int (iI (σ 1)), .int (iI (σ 3)), .int (iI (σ 4)), .int (iI (σ 10)), .int (iI (σ 11)), .int (iI (σ 12)), .int (iI (σ 13)), .int (iI (σ 7)), .int (iI (σ 8)), .int (iI (σ 9)), .int (iI (σ 5)), .ref (a 3), .int (iI (σ 18)), .int (iI (σ 14)), .int (iI (σ 15)), .int (iI (σ 16)), .int (iI (σ 17)), .ref (a 4), .int (iI (σ 19)), .int (iI (σ 6)), .ref (a 5), .int (iI (σ 20)), .ref (a 6), .int (iI dg)])), (a 1, .inl (cA, 3200, .inl f))] sz (S := Unit) (fun _ => True) (fun _ => [(a 0, .inr (6, [.ref (a 1), .ref (a 2), .int (iI (σ 0)), .int (iI (σ 2)), .int (iI (σ 1)), .int (iI (σ 3)), .int (iI (σ 4)), .int (iI (σ 10)), .int (iI (σ 11)), .int (iI (σ 12)), .int (iI (σ 13)), .int (iI (σ 7)), .int (iI (σ 8)), .int (iI (σ 9)), .int (iI (σ 5)), .ref (a 3), .int (iI (σ 18)), .int (iI (σ 14)), .int (iI (σ 15)), .int (iI (σ 16)), .int (iI (σ 17)), .ref (a 4), .int (iI (σ 19)), .int (iI (σ 6)), .ref (a 5), .int (iI (σ 20)), .ref (a 6), .int (iI dg)])), (a 1, .inl (cA, 3200, .inl (zfill f (80 * y1 + x1) (80 * y1 + σ 2) (encM 32 0 1 (σ 16) (σ 17)))))]) 0 0 := by
  refine z_startv (cc := cX5_clear) (maxL := 4) (own := RX5) (nm := "clear") (by decide) rfl rfl rfl (Nat.le_of_ble_eq_true rfl) ?_
  intro p e R s m args below meth c A Q ls H locs hBd hP hD hS hl K
  obtain ⟨hx, hb, hml, hown, hts, ⟨hRf, hRl, hRc, hRs⟩, hmn, hK, hN, hA⟩ := hBd
  have hl : lv_has ls 4 [(0, .ref (a 0)), (1, .int (iI y1)), (2, .int (iI x1))] := hl
  have inX5 : ∀ w ∈ wsX50, w ∈ wsX5_clear := by decide +kernel
  have kfieldLink_RX5_58_ZScreensModel_width_I := hts (.fieldLink RX5 58 "ZScreensModel" "width" "I") (by decide +kernel)
  have kfieldLink_RX5_7_ZScreensModel_cells_I := hts (.fieldLink RX5 7 "ZScreensModel" "cells" "[I") (by decide +kernel)
  have hP : va_P D vwCl [(a 0, .inr (6, [.ref (a 1), .ref (a 2), .int (iI (σ 0)), .int (iI (σ 2)), .int (iI (σ 1)), .int (iI (σ 3)), .int (iI (σ 4)), .int (iI (σ 10)), .int (iI (σ 11)), .int (iI (σ 12)), .int (iI (σ 13)), .int (iI (σ 7)), .int (iI (σ 8)), .int (iI (σ 9)), .int (iI (σ 5)), .ref (a 3), .int (iI (σ 18)), .int (iI (σ 14)), .int (iI (σ 15)), .int (iI (σ 16)), .int (iI (σ 17)), .ref (a 4), .int (iI (σ 19)), .int (iI (σ 6)), .ref (a 5), .int (iI (σ 20)), .ref (a 6), .int (iI dg)])), (a 1, .inl (cA, 3200, .inl f))] H := hP
  have hD : va_D A [(a 0, .inr (6, [.ref (a 1), .ref (a 2), .int (iI (σ 0)), .int (iI (σ 2)), .int (iI (σ 1)), .int (iI (σ 3)), .int (iI (σ 4)), .int (iI (σ 10)), .int (iI (σ 11)), .int (iI (σ 12)), .int (iI (σ 13)), .int (iI (σ 7)), .int (iI (σ 8)), .int (iI (σ 9)), .int (iI (σ 5)), .ref (a 3), .int (iI (σ 18)), .int (iI (σ 14)), .int (iI (σ 15)), .int (iI (σ 16)), .int (iI (σ 17)), .ref (a 4), .int (iI (σ 19)), .int (iI (σ 6)), .ref (a 5), .int (iI (σ 20)), .ref (a 6), .int (iI dg)])), (a 1, .inl (cA, 3200, .inl f))] := hD
  refine lv_iload_n hx hb dX5_clear_0 rfl (lv_at hl 2 rfl) ?_
  refine lv_istore_n (lv' := [(3, .int (iI x1)), (0, .ref (a 0)), (1, .int (iI y1)), (2, .int (iI x1))]) hx hb dX5_clear_1 rfl hl (by decide) rfl (fun ls hl => ?_)
  have L2 : ∀ (fuel : Nat) (i : Int) (g : Nat → Int32) (H : Heap) (locs : List Loc) (ls : Array Slot), (x1 ≤ i ∧ (i ≤ σ 2 ∨ i = x1)) → g = zfill f (80 * y1 + x1) (80 * y1 + i) (encM 32 0 1 (σ 16) (σ 17)) → (81 - i).toNat < fuel → va_P D vwCl [(a 0, .inr (6, [.ref (a 1), .ref (a 2), .int (iI (σ 0)), .int (iI (σ 2)), .int (iI (σ 1)), .int (iI (σ 3)), .int (iI (σ 4)), .int (iI (σ 10)), .int (iI (σ 11)), .int (iI (σ 12)), .int (iI (σ 13)), .int (iI (σ 7)), .int (iI (σ 8)), .int (iI (σ 9)), .int (iI (σ 5)), .ref (a 3), .int (iI (σ 18)), .int (iI (σ 14)), .int (iI (σ 15)), .int (iI (σ 16)), .int (iI (σ 17)), .ref (a 4), .int (iI (σ 19)), .int (iI (σ 6)), .ref (a 5), .int (iI (σ 20)), .ref (a 6), .int (iI dg)])), (a 1, .inl (cA, 3200, .inl g))] H → va_D A [(a 0, .inr (6, [.ref (a 1), .ref (a 2), .int (iI (σ 0)), .int (iI (σ 2)), .int (iI (σ 1)), .int (iI (σ 3)), .int (iI (σ 4)), .int (iI (σ 10)), .int (iI (σ 11)), .int (iI (σ 12)), .int (iI (σ 13)), .int (iI (σ 7)), .int (iI (σ 8)), .int (iI (σ 9)), .int (iI (σ 5)), .ref (a 3), .int (iI (σ 18)), .int (iI (σ 14)), .int (iI (σ 15)), .int (iI (σ 16)), .int (iI (σ 17)), .ref (a 4), .int (iI (σ 19)), .int (iI (σ 6)), .ref (a 5), .int (iI (σ 20)), .ref (a 6), .int (iI dg)])), (a 1, .inl (cA, 3200, .inl g))] → va_S A s.heap H locs → lv_has ls 4 [(3, .int (iI i)), (0, .ref (a 0)), (1, .int (iI y1)), (2, .int (iI x1))] → W p l e R s m args below meth c H locs 0 0 Q (F0 m 2 ls []) := by
    intro fuel
    induction fuel with
    | zero => intro i g H locs ls hi hg hfu; exact absurd hfu (Nat.not_lt_zero _)
    | succ fuel ih2 =>
      intro i g H locs ls hi hg hfu hP hD hS hl
      refine lv_iload_n hx hb dX5_clear_2 rfl (lv_at hl 0 rfl) ?_
      refine lv_aload_n hx hb dX5_clear_3 rfl (lv_at hl 1 rfl) ?_
      refine va_get (D := D) (ci := 6) (v := .int (iI (σ 2))) (C := RX5) (T := TX5) (N := 28) hx hb hts inX5 hown hK hP 0 rfl rfl 3 (by decide) kfieldLink_RX5_58_ZScreensModel_width_I (fun _ h9 => h9) rfl dX5_clear_4 ?_
      refine z_icmp_ge hx hb 31 (by omega) dX5_clear_7 (by decide) (fun c7 => ?_) (fun c7 => ?_)
      · skip
        have e9 : zfill f (80 * y1 + x1) (80 * y1 + σ 2) (encM 32 0 1 (σ 16) (σ 17)) = g := by
          rw [hg]
          rcases hi.2 with h9 | h9
          · rw [show i = σ 2 by omega]
          · rw [zfill_nil f _ (by omega), zfill_nil f _ (by omega)]
        exact K H locs () _ ls 0 0 (by omega) (by omega) trivial (by rw [e9]; exact hP) (by rw [e9]; exact hD) hS dX5_clear_31
      · skip
        refine lv_aload_n hx hb dX5_clear_10 rfl (lv_at hl 1 rfl) ?_
        refine va_get (D := D) (ci := 6) (v := .ref (a 1)) (C := RX5) (T := TX5) (N := 28) hx hb hts inX5 hown hK hP 0 rfl rfl 0 (by decide) kfieldLink_RX5_7_ZScreensModel_cells_I (fun _ h9 => h9) rfl dX5_clear_11 ?_
        refine lv_bipush (v := iI 80) hx hb dX5_clear_14 (by decide) ?_
        refine lv_iload_n hx hb dX5_clear_16 rfl (lv_at hl 2 rfl) ?_
        refine z_imul hx hb dX5_clear_17 ?_
        refine lv_iload_n hx hb dX5_clear_18 rfl (lv_at hl 0 rfl) ?_
        refine z_iadd hx hb dX5_clear_19 ?_
        refine lv_aload_n hx hb dX5_clear_20 rfl (lv_at hl 1 rfl) ?_
        refine z_calli (w2 := fun _ => [(a 0, .inr (6, [.ref (a 1), .ref (a 2), .int (iI (σ 0)), .int (iI (σ 2)), .int (iI (σ 1)), .int (iI (σ 3)), .int (iI (σ 4)), .int (iI (σ 10)), .int (iI (σ 11)), .int (iI (σ 12)), .int (iI (σ 13)), .int (iI (σ 7)), .int (iI (σ 8)), .int (iI (σ 9)), .int (iI (σ 5)), .ref (a 3), .int (iI (σ 18)), .int (iI (σ 14)), .int (iI (σ 15)), .int (iI (σ 16)), .int (iI (σ 17)), .ref (a 4), .int (iI (σ 19)), .int (iI (σ 6)), .ref (a 5), .int (iI (σ 20)), .ref (a 6), .int (iI dg)])), (a 1, .inl (cA, 3200, .inl g))]) (wc := [(a 0, .inr (6, [.ref (a 1), .ref (a 2), .int (iI (σ 0)), .int (iI (σ 2)), .int (iI (σ 1)), .int (iI (σ 3)), .int (iI (σ 4)), .int (iI (σ 10)), .int (iI (σ 11)), .int (iI (σ 12)), .int (iI (σ 13)), .int (iI (σ 7)), .int (iI (σ 8)), .int (iI (σ 9)), .int (iI (σ 5)), .ref (a 3), .int (iI (σ 18)), .int (iI (σ 14)), .int (iI (σ 15)), .int (iI (σ 16)), .int (iI (σ 17)), .ref (a 4), .int (iI (σ 19)), .int (iI (σ 6)), .ref (a 5), .int (iI (σ 20)), .ref (a 6), .int (iI dg)]))]) (wr := [(a 1, .inl (cA, 3200, .inl g))]) (va_runV (As := []) (rest := [.int (iI ((80 * y1) + i)), .ref (a 1)]) ⟨hx, hb, hml, hown, hts⟩ (c_X5_blank l D H.size a σ dg (show 1 ≤ (σ 0) ∧ (σ 0) ≤ 8 by omega)) (cwV 0 hts gX5_clear_X5_blank rfl rfl rfl (by decide +kernel) ⟨by rw [hRf]; exact Nat.le_of_ble_eq_true rfl, by rw [hRl]; exact Nat.le_of_ble_eq_true rfl⟩) (z_preV hP hD hK hN [0] (by decide) rfl rfl [] rfl (q0 := 0) rfl (ci := 6) rfl) rfl rfl hl.1 rfl (lv_room (Nat.le_of_ble_eq_true rfl)) dX5_clear_21 ⟨by rw [hRc]; exact Nat.le_of_ble_eq_true rfl, by rw [hRs]; exact Nat.le_of_ble_eq_true rfl⟩) hP hD hS hA [0] [1] rfl rfl (by decide) (by decide) [1, 0] (by decide) (fun _ => rfl) (fun r _ H locs hw hP hD hS => ?_)
        have hw : r = encM 32 0 1 ((σ 16)) ((σ 17)) := hw
        subst hw
        have hP : va_P D vwCl [(a 0, .inr (6, [.ref (a 1), .ref (a 2), .int (iI (σ 0)), .int (iI (σ 2)), .int (iI (σ 1)), .int (iI (σ 3)), .int (iI (σ 4)), .int (iI (σ 10)), .int (iI (σ 11)), .int (iI (σ 12)), .int (iI (σ 13)), .int (iI (σ 7)), .int (iI (σ 8)), .int (iI (σ 9)), .int (iI (σ 5)), .ref (a 3), .int (iI (σ 18)), .int (iI (σ 14)), .int (iI (σ 15)), .int (iI (σ 16)), .int (iI (σ 17)), .ref (a 4), .int (iI (σ 19)), .int (iI (σ 6)), .ref (a 5), .int (iI (σ 20)), .ref (a 6), .int (iI dg)])), (a 1, .inl (cA, 3200, .inl g))] H := hP
        have hD : va_D A [(a 0, .inr (6, [.ref (a 1), .ref (a 2), .int (iI (σ 0)), .int (iI (σ 2)), .int (iI (σ 1)), .int (iI (σ 3)), .int (iI (σ 4)), .int (iI (σ 10)), .int (iI (σ 11)), .int (iI (σ 12)), .int (iI (σ 13)), .int (iI (σ 7)), .int (iI (σ 8)), .int (iI (σ 9)), .int (iI (σ 5)), .ref (a 3), .int (iI (σ 18)), .int (iI (σ 14)), .int (iI (σ 15)), .int (iI (σ 16)), .int (iI (σ 17)), .ref (a 4), .int (iI (σ 19)), .int (iI (σ 6)), .ref (a 5), .int (iI (σ 20)), .ref (a 6), .int (iI dg)])), (a 1, .inl (cA, 3200, .inl g))] := hD
        refine z_iast hx hb hK hP hD hS 1 0 rfl rfl (by omega) dX5_clear_24 (fun H locs hP hD hS => ?_)
        have hP : va_P D vwCl [(a 0, .inr (6, [.ref (a 1), .ref (a 2), .int (iI (σ 0)), .int (iI (σ 2)), .int (iI (σ 1)), .int (iI (σ 3)), .int (iI (σ 4)), .int (iI (σ 10)), .int (iI (σ 11)), .int (iI (σ 12)), .int (iI (σ 13)), .int (iI (σ 7)), .int (iI (σ 8)), .int (iI (σ 9)), .int (iI (σ 5)), .ref (a 3), .int (iI (σ 18)), .int (iI (σ 14)), .int (iI (σ 15)), .int (iI (σ 16)), .int (iI (σ 17)), .ref (a 4), .int (iI (σ 19)), .int (iI (σ 6)), .ref (a 5), .int (iI (σ 20)), .ref (a 6), .int (iI dg)])), (a 1, .inl (cA, 3200, .inl (upd g ((80 * y1) + i).toNat (encM 32 0 1 ((σ 16)) ((σ 17))))))] H := hP
        have hD : va_D A [(a 0, .inr (6, [.ref (a 1), .ref (a 2), .int (iI (σ 0)), .int (iI (σ 2)), .int (iI (σ 1)), .int (iI (σ 3)), .int (iI (σ 4)), .int (iI (σ 10)), .int (iI (σ 11)), .int (iI (σ 12)), .int (iI (σ 13)), .int (iI (σ 7)), .int (iI (σ 8)), .int (iI (σ 9)), .int (iI (σ 5)), .ref (a 3), .int (iI (σ 18)), .int (iI (σ 14)), .int (iI (σ 15)), .int (iI (σ 16)), .int (iI (σ 17)), .ref (a 4), .int (iI (σ 19)), .int (iI (σ 6)), .ref (a 5), .int (iI (σ 20)), .ref (a 6), .int (iI dg)])), (a 1, .inl (cA, 3200, .inl (upd g ((80 * y1) + i).toNat (encM 32 0 1 ((σ 16)) ((σ 17))))))] := hD
        refine lv_iinc (v := iI (i + 1)) (lv' := [(3, .int (iI (i + 1))), (0, .ref (a 0)), (1, .int (iI y1)), (2, .int (iI x1))]) hx hb dX5_clear_25 hl (k := 0) rfl (iI_add _ _) (by decide) rfl (fun ls hl => ?_)
        refine lv_goto (tgt := 2) hx hb dX5_clear_28 (by decide) ?_
        exact ih2 (i + 1) (upd g ((80 * y1) + i).toNat (encM 32 0 1 ((σ 16)) ((σ 17)))) _ _ _ (by omega) (by rw [hg, show 80 * y1 + (i + 1) = 80 * y1 + i + 1 by omega]; exact zfill_step f _ (by omega)) (by omega) hP hD hS (lv_sub hl [0, 1, 2, 3] rfl)
  exact L2 82 (x1) (f) _ _ _ (by omega) (zfill_nil f _ (by omega)).symm (by omega) hP hD hS (lv_sub hl [0, 1, 2, 3] rfl)

abbrev rmX5_newLine : Room := { frames := 2, cells := 0, slots := 0, locals := 43 }
set_option maxHeartbeats 4000000 in
set_option maxRecDepth 100000 in
theorem c_X5_newLine (l : Launch) (D : va_G) (sz : Nat) (cA : ClassId) (a : Nat → Nat) (σ : Nat → Int) (dg : Int) (f fo fw ft fs fd : Nat → Int32) (hI : zInv σ) (G : ZG) (hG : zRG encMK f G (σ 1) (σ 2))  : zMv l yX5_newLine wsX5_newLine rmX5_newLine D [(cA, .int)] [.ref (a 0)] (mW cA a σ dg f fo fw ft fs fd) sz (S := (Nat → Int32)) (fun u => zRG encMK u (nlG σ G) (σ 1) (σ 2)) (fun u => mW cA a (nlS σ) dg u fo fw ft fs fd) 0 0 := by
  obtain ⟨i0, i1, i2, i3, i4, i5, i6, i8, i10, i11, i12, i13, i14, i15, i16, i17, i18, i19, i20, it, j4, j12, j5⟩ := id hI
  have ht9 := ztop_c σ
  refine z_startv (cc := cX5_newLine) (maxL := 3) (own := RX5) (nm := "newLine") (by decide) rfl rfl rfl (Nat.le_of_ble_eq_true rfl) ?_
  intro p e R s m args below meth c A Q ls H locs hBd hP hD hS hl K
  obtain ⟨hx, hb, hml, hown, hts, ⟨hRf, hRl, hRc, hRs⟩, hmn, hK, hN, hA⟩ := hBd
  have hl : lv_has ls 3 [(0, .ref (a 0))] := hl
  have inX5 : ∀ w ∈ wsX50, w ∈ wsX5_newLine := by decide +kernel
  have kfieldLink_RX5_16_ZScreensModel_lowColumn_I := hts (.fieldLink RX5 16 "ZScreensModel" "lowColumn" "I") (by decide +kernel)
  have kfieldLink_RX5_58_ZScreensModel_width_I := hts (.fieldLink RX5 58 "ZScreensModel" "width" "I") (by decide +kernel)
  have kfieldLink_RX5_61_ZScreensModel_lines_I := hts (.fieldLink RX5 61 "ZScreensModel" "lines" "I") (by decide +kernel)
  have kfieldLink_RX5_71_ZScreensModel_lowLine_I := hts (.fieldLink RX5 71 "ZScreensModel" "lowLine" "I") (by decide +kernel)
  have kfieldLink_RX5_7_ZScreensModel_cells_I := hts (.fieldLink RX5 7 "ZScreensModel" "cells" "[I") (by decide +kernel)
  have kfieldLink_RX5_83_ZScreensModel_newLines_I := hts (.fieldLink RX5 83 "ZScreensModel" "newLines" "I") (by decide +kernel)
  have kfieldLink_RX5_93_ZScreensModel_count_I := hts (.fieldLink RX5 93 "ZScreensModel" "count" "I") (by decide +kernel)
  have kfieldLink_RX5_96_ZScreensModel_more_I := hts (.fieldLink RX5 96 "ZScreensModel" "more" "I") (by decide +kernel)
  have hP : va_P D vwCl [(a 0, .inr (6, [.ref (a 1), .ref (a 2), .int (iI (σ 0)), .int (iI (σ 2)), .int (iI (σ 1)), .int (iI (σ 3)), .int (iI (σ 4)), .int (iI (σ 10)), .int (iI (σ 11)), .int (iI (σ 12)), .int (iI (σ 13)), .int (iI (σ 7)), .int (iI (σ 8)), .int (iI (σ 9)), .int (iI (σ 5)), .ref (a 3), .int (iI (σ 18)), .int (iI (σ 14)), .int (iI (σ 15)), .int (iI (σ 16)), .int (iI (σ 17)), .ref (a 4), .int (iI (σ 19)), .int (iI (σ 6)), .ref (a 5), .int (iI (σ 20)), .ref (a 6), .int (iI dg)])), (a 1, .inl (cA, 3200, .inl f)), (a 2, .inl (cA, 3200, .inl fo)), (a 3, .inl (cA, 80, .inl fw)), (a 4, .inl (cA, 60, .inl ft)), (a 5, .inl (cA, 500, .inl fs)), (a 6, .inl (cA, 20, .inl fd))] H := hP
  have hD : va_D A [(a 0, .inr (6, [.ref (a 1), .ref (a 2), .int (iI (σ 0)), .int (iI (σ 2)), .int (iI (σ 1)), .int (iI (σ 3)), .int (iI (σ 4)), .int (iI (σ 10)), .int (iI (σ 11)), .int (iI (σ 12)), .int (iI (σ 13)), .int (iI (σ 7)), .int (iI (σ 8)), .int (iI (σ 9)), .int (iI (σ 5)), .ref (a 3), .int (iI (σ 18)), .int (iI (σ 14)), .int (iI (σ 15)), .int (iI (σ 16)), .int (iI (σ 17)), .ref (a 4), .int (iI (σ 19)), .int (iI (σ 6)), .ref (a 5), .int (iI (σ 20)), .ref (a 6), .int (iI dg)])), (a 1, .inl (cA, 3200, .inl f)), (a 2, .inl (cA, 3200, .inl fo)), (a 3, .inl (cA, 80, .inl fw)), (a 4, .inl (cA, 60, .inl ft)), (a 5, .inl (cA, 500, .inl fs)), (a 6, .inl (cA, 20, .inl fd))] := hD
  refine lv_aload_n hx hb dX5_newLine_0 rfl (lv_at hl 0 rfl) ?_
  refine lv_dup hx hb dX5_newLine_1 rfl ?_
  refine va_get (D := D) (ci := 6) (v := .int (iI (σ 7))) (C := RX5) (T := TX5) (N := 28) hx hb hts inX5 hown hK hP 0 rfl rfl 11 (by decide) kfieldLink_RX5_83_ZScreensModel_newLines_I (fun _ h9 => h9) rfl dX5_newLine_2 ?_
  refine lv_iconst (v := iI 1) hx hb dX5_newLine_5 rfl ?_
  refine z_iadd hx hb dX5_newLine_6 ?_
  refine va_put (D := D) (ci := 6) (v := .int (iI ((σ 7) + 1))) (ty := .int) (C := RX5) (T := TX5) (N := 28) hx hb hts inX5 tyX5 tyX5_ok nmX5 hown hK hP hD hS 0 rfl rfl 11 (by decide) kfieldLink_RX5_83_ZScreensModel_newLines_I (fun _ h9 => h9) rfl (by decide +kernel) rfl rfl (Nat.le_of_ble_eq_true rfl) dX5_newLine_7 (fun H locs hP hD hS => ?_)
  have hP : va_P D vwCl [(a 0, .inr (6, [.ref (a 1), .ref (a 2), .int (iI (σ 0)), .int (iI (σ 2)), .int (iI (σ 1)), .int (iI (σ 3)), .int (iI (σ 4)), .int (iI (σ 10)), .int (iI (σ 11)), .int (iI (σ 12)), .int (iI (σ 13)), .int (iI ((σ 7) + 1)), .int (iI (σ 8)), .int (iI (σ 9)), .int (iI (σ 5)), .ref (a 3), .int (iI (σ 18)), .int (iI (σ 14)), .int (iI (σ 15)), .int (iI (σ 16)), .int (iI (σ 17)), .ref (a 4), .int (iI (σ 19)), .int (iI (σ 6)), .ref (a 5), .int (iI (σ 20)), .ref (a 6), .int (iI dg)])), (a 1, .inl (cA, 3200, .inl f)), (a 2, .inl (cA, 3200, .inl fo)), (a 3, .inl (cA, 80, .inl fw)), (a 4, .inl (cA, 60, .inl ft)), (a 5, .inl (cA, 500, .inl fs)), (a 6, .inl (cA, 20, .inl fd))] H := hP
  have hD : va_D A [(a 0, .inr (6, [.ref (a 1), .ref (a 2), .int (iI (σ 0)), .int (iI (σ 2)), .int (iI (σ 1)), .int (iI (σ 3)), .int (iI (σ 4)), .int (iI (σ 10)), .int (iI (σ 11)), .int (iI (σ 12)), .int (iI (σ 13)), .int (iI ((σ 7) + 1)), .int (iI (σ 8)), .int (iI (σ 9)), .int (iI (σ 5)), .ref (a 3), .int (iI (σ 18)), .int (iI (σ 14)), .int (iI (σ 15)), .int (iI (σ 16)), .int (iI (σ 17)), .ref (a 4), .int (iI (σ 19)), .int (iI (σ 6)), .ref (a 5), .int (iI (σ 20)), .ref (a 6), .int (iI dg)])), (a 1, .inl (cA, 3200, .inl f)), (a 2, .inl (cA, 3200, .inl fo)), (a 3, .inl (cA, 80, .inl fw)), (a 4, .inl (cA, 60, .inl ft)), (a 5, .inl (cA, 500, .inl fs)), (a 6, .inl (cA, 20, .inl fd))] := hD
  refine lv_aload_n hx hb dX5_newLine_10 rfl (lv_at hl 0 rfl) ?_
  refine lv_iconst (v := iI 1) hx hb dX5_newLine_11 rfl ?_
  refine va_put (D := D) (ci := 6) (v := .int (iI 1)) (ty := .int) (C := RX5) (T := TX5) (N := 28) hx hb hts inX5 tyX5 tyX5_ok nmX5 hown hK hP hD hS 0 rfl rfl 8 (by decide) kfieldLink_RX5_16_ZScreensModel_lowColumn_I (fun _ h9 => h9) rfl (by decide +kernel) rfl rfl (Nat.le_of_ble_eq_true rfl) dX5_newLine_12 (fun H locs hP hD hS => ?_)
  have hP : va_P D vwCl [(a 0, .inr (6, [.ref (a 1), .ref (a 2), .int (iI (σ 0)), .int (iI (σ 2)), .int (iI (σ 1)), .int (iI (σ 3)), .int (iI (σ 4)), .int (iI (σ 10)), .int (iI 1), .int (iI (σ 12)), .int (iI (σ 13)), .int (iI ((σ 7) + 1)), .int (iI (σ 8)), .int (iI (σ 9)), .int (iI (σ 5)), .ref (a 3), .int (iI (σ 18)), .int (iI (σ 14)), .int (iI (σ 15)), .int (iI (σ 16)), .int (iI (σ 17)), .ref (a 4), .int (iI (σ 19)), .int (iI (σ 6)), .ref (a 5), .int (iI (σ 20)), .ref (a 6), .int (iI dg)])), (a 1, .inl (cA, 3200, .inl f)), (a 2, .inl (cA, 3200, .inl fo)), (a 3, .inl (cA, 80, .inl fw)), (a 4, .inl (cA, 60, .inl ft)), (a 5, .inl (cA, 500, .inl fs)), (a 6, .inl (cA, 20, .inl fd))] H := hP
  have hD : va_D A [(a 0, .inr (6, [.ref (a 1), .ref (a 2), .int (iI (σ 0)), .int (iI (σ 2)), .int (iI (σ 1)), .int (iI (σ 3)), .int (iI (σ 4)), .int (iI (σ 10)), .int (iI 1), .int (iI (σ 12)), .int (iI (σ 13)), .int (iI ((σ 7) + 1)), .int (iI (σ 8)), .int (iI (σ 9)), .int (iI (σ 5)), .ref (a 3), .int (iI (σ 18)), .int (iI (σ 14)), .int (iI (σ 15)), .int (iI (σ 16)), .int (iI (σ 17)), .ref (a 4), .int (iI (σ 19)), .int (iI (σ 6)), .ref (a 5), .int (iI (σ 20)), .ref (a 6), .int (iI dg)])), (a 1, .inl (cA, 3200, .inl f)), (a 2, .inl (cA, 3200, .inl fo)), (a 3, .inl (cA, 80, .inl fw)), (a 4, .inl (cA, 60, .inl ft)), (a 5, .inl (cA, 500, .inl fs)), (a 6, .inl (cA, 20, .inl fd))] := hD
  have J112 : ∀ (ll : Int) (g : Nat → Int32) (H : Heap) (locs : List Loc) (ls : Array Slot), ll = (if σ 10 < σ 1 - (ztop σ + σ 3) then σ 10 + 1 else σ 10) → zRG encMK g (nlG σ G) (σ 1) (σ 2) → va_P D vwCl [(a 0, .inr (6, [.ref (a 1), .ref (a 2), .int (iI (σ 0)), .int (iI (σ 2)), .int (iI (σ 1)), .int (iI (σ 3)), .int (iI (σ 4)), .int (iI ll), .int (iI 1), .int (iI (σ 12)), .int (iI (σ 13)), .int (iI (σ 7 + 1)), .int (iI (σ 8)), .int (iI (σ 9)), .int (iI (σ 5)), .ref (a 3), .int (iI (σ 18)), .int (iI (σ 14)), .int (iI (σ 15)), .int (iI (σ 16)), .int (iI (σ 17)), .ref (a 4), .int (iI (σ 19)), .int (iI (σ 6)), .ref (a 5), .int (iI (σ 20)), .ref (a 6), .int (iI dg)])), (a 1, .inl (cA, 3200, .inl g)), (a 2, .inl (cA, 3200, .inl fo)), (a 3, .inl (cA, 80, .inl fw)), (a 4, .inl (cA, 60, .inl ft)), (a 5, .inl (cA, 500, .inl fs)), (a 6, .inl (cA, 20, .inl fd))] H → va_D A [(a 0, .inr (6, [.ref (a 1), .ref (a 2), .int (iI (σ 0)), .int (iI (σ 2)), .int (iI (σ 1)), .int (iI (σ 3)), .int (iI (σ 4)), .int (iI ll), .int (iI 1), .int (iI (σ 12)), .int (iI (σ 13)), .int (iI (σ 7 + 1)), .int (iI (σ 8)), .int (iI (σ 9)), .int (iI (σ 5)), .ref (a 3), .int (iI (σ 18)), .int (iI (σ 14)), .int (iI (σ 15)), .int (iI (σ 16)), .int (iI (σ 17)), .ref (a 4), .int (iI (σ 19)), .int (iI (σ 6)), .ref (a 5), .int (iI (σ 20)), .ref (a 6), .int (iI dg)])), (a 1, .inl (cA, 3200, .inl g)), (a 2, .inl (cA, 3200, .inl fo)), (a 3, .inl (cA, 80, .inl fw)), (a 4, .inl (cA, 60, .inl ft)), (a 5, .inl (cA, 500, .inl fs)), (a 6, .inl (cA, 20, .inl fd))] → va_S A s.heap H locs → lv_has ls 3 [(0, .ref (a 0))] → W p l e R s m args below meth c H locs 0 0 Q (F0 m 112 ls []) := by
    intro ll g H locs ls hll hg1 hP hD hS hl
    refine lv_aload_n hx hb dX5_newLine_112 rfl (lv_at hl 0 rfl) ?_
    refine lv_dup hx hb dX5_newLine_113 rfl ?_
    refine va_get (D := D) (ci := 6) (v := .int (iI (σ 8))) (C := RX5) (T := TX5) (N := 28) hx hb hts inX5 hown hK hP 0 rfl rfl 12 (by decide) kfieldLink_RX5_93_ZScreensModel_count_I (fun _ h9 => h9) rfl dX5_newLine_114 ?_
    refine lv_iconst (v := iI 1) hx hb dX5_newLine_117 rfl ?_
    refine z_iadd hx hb dX5_newLine_118 ?_
    refine va_put (D := D) (ci := 6) (v := .int (iI ((σ 8) + 1))) (ty := .int) (C := RX5) (T := TX5) (N := 28) hx hb hts inX5 tyX5 tyX5_ok nmX5 hown hK hP hD hS 0 rfl rfl 12 (by decide) kfieldLink_RX5_93_ZScreensModel_count_I (fun _ h9 => h9) rfl (by decide +kernel) rfl rfl (Nat.le_of_ble_eq_true rfl) dX5_newLine_119 (fun H locs hP hD hS => ?_)
    have hP : va_P D vwCl [(a 0, .inr (6, [.ref (a 1), .ref (a 2), .int (iI (σ 0)), .int (iI (σ 2)), .int (iI (σ 1)), .int (iI (σ 3)), .int (iI (σ 4)), .int (iI ll), .int (iI 1), .int (iI (σ 12)), .int (iI (σ 13)), .int (iI (σ 7 + 1)), .int (iI ((σ 8) + 1)), .int (iI (σ 9)), .int (iI (σ 5)), .ref (a 3), .int (iI (σ 18)), .int (iI (σ 14)), .int (iI (σ 15)), .int (iI (σ 16)), .int (iI (σ 17)), .ref (a 4), .int (iI (σ 19)), .int (iI (σ 6)), .ref (a 5), .int (iI (σ 20)), .ref (a 6), .int (iI dg)])), (a 1, .inl (cA, 3200, .inl g)), (a 2, .inl (cA, 3200, .inl fo)), (a 3, .inl (cA, 80, .inl fw)), (a 4, .inl (cA, 60, .inl ft)), (a 5, .inl (cA, 500, .inl fs)), (a 6, .inl (cA, 20, .inl fd))] H := hP
    have hD : va_D A [(a 0, .inr (6, [.ref (a 1), .ref (a 2), .int (iI (σ 0)), .int (iI (σ 2)), .int (iI (σ 1)), .int (iI (σ 3)), .int (iI (σ 4)), .int (iI ll), .int (iI 1), .int (iI (σ 12)), .int (iI (σ 13)), .int (iI (σ 7 + 1)), .int (iI ((σ 8) + 1)), .int (iI (σ 9)), .int (iI (σ 5)), .ref (a 3), .int (iI (σ 18)), .int (iI (σ 14)), .int (iI (σ 15)), .int (iI (σ 16)), .int (iI (σ 17)), .ref (a 4), .int (iI (σ 19)), .int (iI (σ 6)), .ref (a 5), .int (iI (σ 20)), .ref (a 6), .int (iI dg)])), (a 1, .inl (cA, 3200, .inl g)), (a 2, .inl (cA, 3200, .inl fo)), (a 3, .inl (cA, 80, .inl fw)), (a 4, .inl (cA, 60, .inl ft)), (a 5, .inl (cA, 500, .inl fs)), (a 6, .inl (cA, 20, .inl fd))] := hD
    refine lv_aload_n hx hb dX5_newLine_122 rfl (lv_at hl 0 rfl) ?_
    refine z_calli (w2 := fun _ => [(a 0, .inr (6, [.ref (a 1), .ref (a 2), .int (iI (σ 0)), .int (iI (σ 2)), .int (iI (σ 1)), .int (iI (σ 3)), .int (iI (σ 4)), .int (iI ll), .int (iI 1), .int (iI (σ 12)), .int (iI (σ 13)), .int (iI (σ 7 + 1)), .int (iI ((σ 8) + 1)), .int (iI (σ 9)), .int (iI (σ 5)), .ref (a 3), .int (iI (σ 18)), .int (iI (σ 14)), .int (iI (σ 15)), .int (iI (σ 16)), .int (iI (σ 17)), .ref (a 4), .int (iI (σ 19)), .int (iI (σ 6)), .ref (a 5), .int (iI (σ 20)), .ref (a 6), .int (iI dg)])), (a 1, .inl (cA, 3200, .inl g)), (a 2, .inl (cA, 3200, .inl fo)), (a 3, .inl (cA, 80, .inl fw)), (a 4, .inl (cA, 60, .inl ft)), (a 5, .inl (cA, 500, .inl fs)), (a 6, .inl (cA, 20, .inl fd))]) (wc := [(a 0, .inr (6, [.ref (a 1), .ref (a 2), .int (iI (σ 0)), .int (iI (σ 2)), .int (iI (σ 1)), .int (iI (σ 3)), .int (iI (σ 4)), .int (iI ll), .int (iI 1), .int (iI (σ 12)), .int (iI (σ 13)), .int (iI (σ 7 + 1)), .int (iI ((σ 8) + 1)), .int (iI (σ 9)), .int (iI (σ 5)), .ref (a 3), .int (iI (σ 18)), .int (iI (σ 14)), .int (iI (σ 15)), .int (iI (σ 16)), .int (iI (σ 17)), .ref (a 4), .int (iI (σ 19)), .int (iI (σ 6)), .ref (a 5), .int (iI (σ 20)), .ref (a 6), .int (iI dg)]))]) (wr := [(a 1, .inl (cA, 3200, .inl g)), (a 2, .inl (cA, 3200, .inl fo)), (a 3, .inl (cA, 80, .inl fw)), (a 4, .inl (cA, 60, .inl ft)), (a 5, .inl (cA, 500, .inl fs)), (a 6, .inl (cA, 20, .inl fd))]) (va_runV (As := []) (rest := []) ⟨hx, hb, hml, hown, hts⟩ (c_X5_low l D H.size a (zu (zu (zu (zu σ 7 (σ 7 + 1)) 8 ((σ 8) + 1)) 10 (ll)) 11 (1)) dg (show 1 ≤ (σ 0) ∧ (σ 0) ≤ 8 by omega)) (cwV 0 hts gX5_newLine_X5_low rfl rfl rfl (by decide +kernel) ⟨by rw [hRf]; exact Nat.le_of_ble_eq_true rfl, by rw [hRl]; exact Nat.le_of_ble_eq_true rfl⟩) (z_preV hP hD hK hN [0] (by decide) rfl rfl [] rfl (q0 := 0) rfl (ci := 6) rfl) rfl rfl hl.1 rfl (lv_room (Nat.le_of_ble_eq_true rfl)) dX5_newLine_123 ⟨by rw [hRc]; exact Nat.le_of_ble_eq_true rfl, by rw [hRs]; exact Nat.le_of_ble_eq_true rfl⟩) hP hD hS hA [0] [1, 2, 3, 4, 5, 6] rfl rfl (by decide) (by decide) [6, 0, 1, 2, 3, 4, 5] (by decide) (fun _ => rfl) (fun r _ H locs hw hP hD hS => ?_)
    have hw : r = iI ((σ 1) - ztop σ - (σ 3)) := hw
    subst hw
    have hP : va_P D vwCl [(a 0, .inr (6, [.ref (a 1), .ref (a 2), .int (iI (σ 0)), .int (iI (σ 2)), .int (iI (σ 1)), .int (iI (σ 3)), .int (iI (σ 4)), .int (iI ll), .int (iI 1), .int (iI (σ 12)), .int (iI (σ 13)), .int (iI (σ 7 + 1)), .int (iI ((σ 8) + 1)), .int (iI (σ 9)), .int (iI (σ 5)), .ref (a 3), .int (iI (σ 18)), .int (iI (σ 14)), .int (iI (σ 15)), .int (iI (σ 16)), .int (iI (σ 17)), .ref (a 4), .int (iI (σ 19)), .int (iI (σ 6)), .ref (a 5), .int (iI (σ 20)), .ref (a 6), .int (iI dg)])), (a 1, .inl (cA, 3200, .inl g)), (a 2, .inl (cA, 3200, .inl fo)), (a 3, .inl (cA, 80, .inl fw)), (a 4, .inl (cA, 60, .inl ft)), (a 5, .inl (cA, 500, .inl fs)), (a 6, .inl (cA, 20, .inl fd))] H := hP
    have hD : va_D A [(a 0, .inr (6, [.ref (a 1), .ref (a 2), .int (iI (σ 0)), .int (iI (σ 2)), .int (iI (σ 1)), .int (iI (σ 3)), .int (iI (σ 4)), .int (iI ll), .int (iI 1), .int (iI (σ 12)), .int (iI (σ 13)), .int (iI (σ 7 + 1)), .int (iI ((σ 8) + 1)), .int (iI (σ 9)), .int (iI (σ 5)), .ref (a 3), .int (iI (σ 18)), .int (iI (σ 14)), .int (iI (σ 15)), .int (iI (σ 16)), .int (iI (σ 17)), .ref (a 4), .int (iI (σ 19)), .int (iI (σ 6)), .ref (a 5), .int (iI (σ 20)), .ref (a 6), .int (iI dg)])), (a 1, .inl (cA, 3200, .inl g)), (a 2, .inl (cA, 3200, .inl fo)), (a 3, .inl (cA, 80, .inl fw)), (a 4, .inl (cA, 60, .inl ft)), (a 5, .inl (cA, 500, .inl fs)), (a 6, .inl (cA, 20, .inl fd))] := hD
    refine lv_iconst (v := iI 1) hx hb dX5_newLine_126 rfl ?_
    refine z_isub hx hb dX5_newLine_127 ?_
    refine lv_iconst (v := iI 1) hx hb dX5_newLine_128 rfl ?_
    refine z_icmp_le hx hb 141 (by omega) dX5_newLine_129 (by decide) (fun c129 => ?_) (fun c129 => ?_)
    · skip
      refine lv_iconst (v := iI 1) hx hb dX5_newLine_141 rfl ?_
      refine lv_istore_n (lv' := [(1, .int (iI 1)), (0, .ref (a 0))]) hx hb dX5_newLine_142 rfl hl (by decide) rfl (fun ls hl => ?_)
      refine lv_aload_n hx hb dX5_newLine_143 rfl (lv_at hl 1 rfl) ?_
      refine va_get (D := D) (ci := 6) (v := .int (iI ((σ 8) + 1))) (C := RX5) (T := TX5) (N := 28) hx hb hts inX5 hown hK hP 0 rfl rfl 12 (by decide) kfieldLink_RX5_93_ZScreensModel_count_I (fun _ h9 => h9) rfl dX5_newLine_144 ?_
      refine lv_iload_n hx hb dX5_newLine_147 rfl (lv_at hl 0 rfl) ?_
      refine z_icmp_lt hx hb 166 (by omega) dX5_newLine_148 (by decide) (fun c148 => ?_) (fun c148 => ?_)
      · skip
        have hB : ¬ (max 1 (σ 1 - (ztop σ + σ 3) - 1) ≤ σ 8 + 1) := by omega
        have eS : nlS σ = zu (zu (zu (zu (zu σ 7 (σ 7 + 1)) 8 ((σ 8) + 1)) 9 (σ 9)) 10 (ll)) 11 (1) := by simp only [nlS, if_neg hB, hll]
        exact K H locs g _ ls 0 0 (by omega) (by omega) hg1 (by rw [eS]; exact hP) (by rw [eS]; exact hD) hS dX5_newLine_166
      · skip
        refine lv_aload_n hx hb dX5_newLine_151 rfl (lv_at hl 1 rfl) ?_
        refine lv_dup hx hb dX5_newLine_152 rfl ?_
        refine va_get (D := D) (ci := 6) (v := .int (iI (σ 9))) (C := RX5) (T := TX5) (N := 28) hx hb hts inX5 hown hK hP 0 rfl rfl 13 (by decide) kfieldLink_RX5_96_ZScreensModel_more_I (fun _ h9 => h9) rfl dX5_newLine_153 ?_
        refine lv_iconst (v := iI 1) hx hb dX5_newLine_156 rfl ?_
        refine z_iadd hx hb dX5_newLine_157 ?_
        refine va_put (D := D) (ci := 6) (v := .int (iI ((σ 9) + 1))) (ty := .int) (C := RX5) (T := TX5) (N := 28) hx hb hts inX5 tyX5 tyX5_ok nmX5 hown hK hP hD hS 0 rfl rfl 13 (by decide) kfieldLink_RX5_96_ZScreensModel_more_I (fun _ h9 => h9) rfl (by decide +kernel) rfl rfl (Nat.le_of_ble_eq_true rfl) dX5_newLine_158 (fun H locs hP hD hS => ?_)
        have hP : va_P D vwCl [(a 0, .inr (6, [.ref (a 1), .ref (a 2), .int (iI (σ 0)), .int (iI (σ 2)), .int (iI (σ 1)), .int (iI (σ 3)), .int (iI (σ 4)), .int (iI ll), .int (iI 1), .int (iI (σ 12)), .int (iI (σ 13)), .int (iI (σ 7 + 1)), .int (iI ((σ 8) + 1)), .int (iI ((σ 9) + 1)), .int (iI (σ 5)), .ref (a 3), .int (iI (σ 18)), .int (iI (σ 14)), .int (iI (σ 15)), .int (iI (σ 16)), .int (iI (σ 17)), .ref (a 4), .int (iI (σ 19)), .int (iI (σ 6)), .ref (a 5), .int (iI (σ 20)), .ref (a 6), .int (iI dg)])), (a 1, .inl (cA, 3200, .inl g)), (a 2, .inl (cA, 3200, .inl fo)), (a 3, .inl (cA, 80, .inl fw)), (a 4, .inl (cA, 60, .inl ft)), (a 5, .inl (cA, 500, .inl fs)), (a 6, .inl (cA, 20, .inl fd))] H := hP
        have hD : va_D A [(a 0, .inr (6, [.ref (a 1), .ref (a 2), .int (iI (σ 0)), .int (iI (σ 2)), .int (iI (σ 1)), .int (iI (σ 3)), .int (iI (σ 4)), .int (iI ll), .int (iI 1), .int (iI (σ 12)), .int (iI (σ 13)), .int (iI (σ 7 + 1)), .int (iI ((σ 8) + 1)), .int (iI ((σ 9) + 1)), .int (iI (σ 5)), .ref (a 3), .int (iI (σ 18)), .int (iI (σ 14)), .int (iI (σ 15)), .int (iI (σ 16)), .int (iI (σ 17)), .ref (a 4), .int (iI (σ 19)), .int (iI (σ 6)), .ref (a 5), .int (iI (σ 20)), .ref (a 6), .int (iI dg)])), (a 1, .inl (cA, 3200, .inl g)), (a 2, .inl (cA, 3200, .inl fo)), (a 3, .inl (cA, 80, .inl fw)), (a 4, .inl (cA, 60, .inl ft)), (a 5, .inl (cA, 500, .inl fs)), (a 6, .inl (cA, 20, .inl fd))] := hD
        refine lv_aload_n hx hb dX5_newLine_161 rfl (lv_at hl 1 rfl) ?_
        refine lv_iconst (v := iI 0) hx hb dX5_newLine_162 rfl ?_
        refine va_put (D := D) (ci := 6) (v := .int (iI 0)) (ty := .int) (C := RX5) (T := TX5) (N := 28) hx hb hts inX5 tyX5 tyX5_ok nmX5 hown hK hP hD hS 0 rfl rfl 12 (by decide) kfieldLink_RX5_93_ZScreensModel_count_I (fun _ h9 => h9) rfl (by decide +kernel) rfl rfl (Nat.le_of_ble_eq_true rfl) dX5_newLine_163 (fun H locs hP hD hS => ?_)
        have hP : va_P D vwCl [(a 0, .inr (6, [.ref (a 1), .ref (a 2), .int (iI (σ 0)), .int (iI (σ 2)), .int (iI (σ 1)), .int (iI (σ 3)), .int (iI (σ 4)), .int (iI ll), .int (iI 1), .int (iI (σ 12)), .int (iI (σ 13)), .int (iI (σ 7 + 1)), .int (iI 0), .int (iI ((σ 9) + 1)), .int (iI (σ 5)), .ref (a 3), .int (iI (σ 18)), .int (iI (σ 14)), .int (iI (σ 15)), .int (iI (σ 16)), .int (iI (σ 17)), .ref (a 4), .int (iI (σ 19)), .int (iI (σ 6)), .ref (a 5), .int (iI (σ 20)), .ref (a 6), .int (iI dg)])), (a 1, .inl (cA, 3200, .inl g)), (a 2, .inl (cA, 3200, .inl fo)), (a 3, .inl (cA, 80, .inl fw)), (a 4, .inl (cA, 60, .inl ft)), (a 5, .inl (cA, 500, .inl fs)), (a 6, .inl (cA, 20, .inl fd))] H := hP
        have hD : va_D A [(a 0, .inr (6, [.ref (a 1), .ref (a 2), .int (iI (σ 0)), .int (iI (σ 2)), .int (iI (σ 1)), .int (iI (σ 3)), .int (iI (σ 4)), .int (iI ll), .int (iI 1), .int (iI (σ 12)), .int (iI (σ 13)), .int (iI (σ 7 + 1)), .int (iI 0), .int (iI ((σ 9) + 1)), .int (iI (σ 5)), .ref (a 3), .int (iI (σ 18)), .int (iI (σ 14)), .int (iI (σ 15)), .int (iI (σ 16)), .int (iI (σ 17)), .ref (a 4), .int (iI (σ 19)), .int (iI (σ 6)), .ref (a 5), .int (iI (σ 20)), .ref (a 6), .int (iI dg)])), (a 1, .inl (cA, 3200, .inl g)), (a 2, .inl (cA, 3200, .inl fo)), (a 3, .inl (cA, 80, .inl fw)), (a 4, .inl (cA, 60, .inl ft)), (a 5, .inl (cA, 500, .inl fs)), (a 6, .inl (cA, 20, .inl fd))] := hD
        have hB : (max 1 (σ 1 - (ztop σ + σ 3) - 1) ≤ σ 8 + 1) := by omega
        have eS : nlS σ = zu (zu (zu (zu (zu σ 7 (σ 7 + 1)) 8 (0)) 9 ((σ 9) + 1)) 10 (ll)) 11 (1) := by simp only [nlS, if_pos hB, hll]
        exact K H locs g _ ls 0 0 (by omega) (by omega) hg1 (by rw [eS]; exact hP) (by rw [eS]; exact hD) hS dX5_newLine_166
    · skip
      refine lv_aload_n hx hb dX5_newLine_132 rfl (lv_at hl 0 rfl) ?_
      refine z_calli (w2 := fun _ => [(a 0, .inr (6, [.ref (a 1), .ref (a 2), .int (iI (σ 0)), .int (iI (σ 2)), .int (iI (σ 1)), .int (iI (σ 3)), .int (iI (σ 4)), .int (iI ll), .int (iI 1), .int (iI (σ 12)), .int (iI (σ 13)), .int (iI (σ 7 + 1)), .int (iI ((σ 8) + 1)), .int (iI (σ 9)), .int (iI (σ 5)), .ref (a 3), .int (iI (σ 18)), .int (iI (σ 14)), .int (iI (σ 15)), .int (iI (σ 16)), .int (iI (σ 17)), .ref (a 4), .int (iI (σ 19)), .int (iI (σ 6)), .ref (a 5), .int (iI (σ 20)), .ref (a 6), .int (iI dg)])), (a 1, .inl (cA, 3200, .inl g)), (a 2, .inl (cA, 3200, .inl fo)), (a 3, .inl (cA, 80, .inl fw)), (a 4, .inl (cA, 60, .inl ft)), (a 5, .inl (cA, 500, .inl fs)), (a 6, .inl (cA, 20, .inl fd))]) (wc := [(a 0, .inr (6, [.ref (a 1), .ref (a 2), .int (iI (σ 0)), .int (iI (σ 2)), .int (iI (σ 1)), .int (iI (σ 3)), .int (iI (σ 4)), .int (iI ll), .int (iI 1), .int (iI (σ 12)), .int (iI (σ 13)), .int (iI (σ 7 + 1)), .int (iI ((σ 8) + 1)), .int (iI (σ 9)), .int (iI (σ 5)), .ref (a 3), .int (iI (σ 18)), .int (iI (σ 14)), .int (iI (σ 15)), .int (iI (σ 16)), .int (iI (σ 17)), .ref (a 4), .int (iI (σ 19)), .int (iI (σ 6)), .ref (a 5), .int (iI (σ 20)), .ref (a 6), .int (iI dg)]))]) (wr := [(a 1, .inl (cA, 3200, .inl g)), (a 2, .inl (cA, 3200, .inl fo)), (a 3, .inl (cA, 80, .inl fw)), (a 4, .inl (cA, 60, .inl ft)), (a 5, .inl (cA, 500, .inl fs)), (a 6, .inl (cA, 20, .inl fd))]) (va_runV (As := []) (rest := []) ⟨hx, hb, hml, hown, hts⟩ (c_X5_low l D H.size a (zu (zu (zu (zu σ 7 (σ 7 + 1)) 8 ((σ 8) + 1)) 10 (ll)) 11 (1)) dg (show 1 ≤ (σ 0) ∧ (σ 0) ≤ 8 by omega)) (cwV 0 hts gX5_newLine_X5_low rfl rfl rfl (by decide +kernel) ⟨by rw [hRf]; exact Nat.le_of_ble_eq_true rfl, by rw [hRl]; exact Nat.le_of_ble_eq_true rfl⟩) (z_preV hP hD hK hN [0] (by decide) rfl rfl [] rfl (q0 := 0) rfl (ci := 6) rfl) rfl rfl hl.1 rfl (lv_room (Nat.le_of_ble_eq_true rfl)) dX5_newLine_133 ⟨by rw [hRc]; exact Nat.le_of_ble_eq_true rfl, by rw [hRs]; exact Nat.le_of_ble_eq_true rfl⟩) hP hD hS hA [0] [1, 2, 3, 4, 5, 6] rfl rfl (by decide) (by decide) [6, 0, 1, 2, 3, 4, 5] (by decide) (fun _ => rfl) (fun r _ H locs hw hP hD hS => ?_)
      have hw : r = iI ((σ 1) - ztop σ - (σ 3)) := hw
      subst hw
      have hP : va_P D vwCl [(a 0, .inr (6, [.ref (a 1), .ref (a 2), .int (iI (σ 0)), .int (iI (σ 2)), .int (iI (σ 1)), .int (iI (σ 3)), .int (iI (σ 4)), .int (iI ll), .int (iI 1), .int (iI (σ 12)), .int (iI (σ 13)), .int (iI (σ 7 + 1)), .int (iI ((σ 8) + 1)), .int (iI (σ 9)), .int (iI (σ 5)), .ref (a 3), .int (iI (σ 18)), .int (iI (σ 14)), .int (iI (σ 15)), .int (iI (σ 16)), .int (iI (σ 17)), .ref (a 4), .int (iI (σ 19)), .int (iI (σ 6)), .ref (a 5), .int (iI (σ 20)), .ref (a 6), .int (iI dg)])), (a 1, .inl (cA, 3200, .inl g)), (a 2, .inl (cA, 3200, .inl fo)), (a 3, .inl (cA, 80, .inl fw)), (a 4, .inl (cA, 60, .inl ft)), (a 5, .inl (cA, 500, .inl fs)), (a 6, .inl (cA, 20, .inl fd))] H := hP
      have hD : va_D A [(a 0, .inr (6, [.ref (a 1), .ref (a 2), .int (iI (σ 0)), .int (iI (σ 2)), .int (iI (σ 1)), .int (iI (σ 3)), .int (iI (σ 4)), .int (iI ll), .int (iI 1), .int (iI (σ 12)), .int (iI (σ 13)), .int (iI (σ 7 + 1)), .int (iI ((σ 8) + 1)), .int (iI (σ 9)), .int (iI (σ 5)), .ref (a 3), .int (iI (σ 18)), .int (iI (σ 14)), .int (iI (σ 15)), .int (iI (σ 16)), .int (iI (σ 17)), .ref (a 4), .int (iI (σ 19)), .int (iI (σ 6)), .ref (a 5), .int (iI (σ 20)), .ref (a 6), .int (iI dg)])), (a 1, .inl (cA, 3200, .inl g)), (a 2, .inl (cA, 3200, .inl fo)), (a 3, .inl (cA, 80, .inl fw)), (a 4, .inl (cA, 60, .inl ft)), (a 5, .inl (cA, 500, .inl fs)), (a 6, .inl (cA, 20, .inl fd))] := hD
      refine lv_iconst (v := iI 1) hx hb dX5_newLine_136 rfl ?_
      refine z_isub hx hb dX5_newLine_137 ?_
      refine lv_goto (tgt := 142) hx hb dX5_newLine_138 (by decide) ?_
      refine lv_istore_n (lv' := [(1, .int (iI (((σ 1) - ztop σ - (σ 3)) - 1))), (0, .ref (a 0))]) hx hb dX5_newLine_142 rfl hl (by decide) rfl (fun ls hl => ?_)
      refine lv_aload_n hx hb dX5_newLine_143 rfl (lv_at hl 1 rfl) ?_
      refine va_get (D := D) (ci := 6) (v := .int (iI ((σ 8) + 1))) (C := RX5) (T := TX5) (N := 28) hx hb hts inX5 hown hK hP 0 rfl rfl 12 (by decide) kfieldLink_RX5_93_ZScreensModel_count_I (fun _ h9 => h9) rfl dX5_newLine_144 ?_
      refine lv_iload_n hx hb dX5_newLine_147 rfl (lv_at hl 0 rfl) ?_
      refine z_icmp_lt hx hb 166 (by omega) dX5_newLine_148 (by decide) (fun c148 => ?_) (fun c148 => ?_)
      · skip
        have hB : ¬ (max 1 (σ 1 - (ztop σ + σ 3) - 1) ≤ σ 8 + 1) := by omega
        have eS : nlS σ = zu (zu (zu (zu (zu σ 7 (σ 7 + 1)) 8 ((σ 8) + 1)) 9 (σ 9)) 10 (ll)) 11 (1) := by simp only [nlS, if_neg hB, hll]
        exact K H locs g _ ls 0 0 (by omega) (by omega) hg1 (by rw [eS]; exact hP) (by rw [eS]; exact hD) hS dX5_newLine_166
      · skip
        refine lv_aload_n hx hb dX5_newLine_151 rfl (lv_at hl 1 rfl) ?_
        refine lv_dup hx hb dX5_newLine_152 rfl ?_
        refine va_get (D := D) (ci := 6) (v := .int (iI (σ 9))) (C := RX5) (T := TX5) (N := 28) hx hb hts inX5 hown hK hP 0 rfl rfl 13 (by decide) kfieldLink_RX5_96_ZScreensModel_more_I (fun _ h9 => h9) rfl dX5_newLine_153 ?_
        refine lv_iconst (v := iI 1) hx hb dX5_newLine_156 rfl ?_
        refine z_iadd hx hb dX5_newLine_157 ?_
        refine va_put (D := D) (ci := 6) (v := .int (iI ((σ 9) + 1))) (ty := .int) (C := RX5) (T := TX5) (N := 28) hx hb hts inX5 tyX5 tyX5_ok nmX5 hown hK hP hD hS 0 rfl rfl 13 (by decide) kfieldLink_RX5_96_ZScreensModel_more_I (fun _ h9 => h9) rfl (by decide +kernel) rfl rfl (Nat.le_of_ble_eq_true rfl) dX5_newLine_158 (fun H locs hP hD hS => ?_)
        have hP : va_P D vwCl [(a 0, .inr (6, [.ref (a 1), .ref (a 2), .int (iI (σ 0)), .int (iI (σ 2)), .int (iI (σ 1)), .int (iI (σ 3)), .int (iI (σ 4)), .int (iI ll), .int (iI 1), .int (iI (σ 12)), .int (iI (σ 13)), .int (iI (σ 7 + 1)), .int (iI ((σ 8) + 1)), .int (iI ((σ 9) + 1)), .int (iI (σ 5)), .ref (a 3), .int (iI (σ 18)), .int (iI (σ 14)), .int (iI (σ 15)), .int (iI (σ 16)), .int (iI (σ 17)), .ref (a 4), .int (iI (σ 19)), .int (iI (σ 6)), .ref (a 5), .int (iI (σ 20)), .ref (a 6), .int (iI dg)])), (a 1, .inl (cA, 3200, .inl g)), (a 2, .inl (cA, 3200, .inl fo)), (a 3, .inl (cA, 80, .inl fw)), (a 4, .inl (cA, 60, .inl ft)), (a 5, .inl (cA, 500, .inl fs)), (a 6, .inl (cA, 20, .inl fd))] H := hP
        have hD : va_D A [(a 0, .inr (6, [.ref (a 1), .ref (a 2), .int (iI (σ 0)), .int (iI (σ 2)), .int (iI (σ 1)), .int (iI (σ 3)), .int (iI (σ 4)), .int (iI ll), .int (iI 1), .int (iI (σ 12)), .int (iI (σ 13)), .int (iI (σ 7 + 1)), .int (iI ((σ 8) + 1)), .int (iI ((σ 9) + 1)), .int (iI (σ 5)), .ref (a 3), .int (iI (σ 18)), .int (iI (σ 14)), .int (iI (σ 15)), .int (iI (σ 16)), .int (iI (σ 17)), .ref (a 4), .int (iI (σ 19)), .int (iI (σ 6)), .ref (a 5), .int (iI (σ 20)), .ref (a 6), .int (iI dg)])), (a 1, .inl (cA, 3200, .inl g)), (a 2, .inl (cA, 3200, .inl fo)), (a 3, .inl (cA, 80, .inl fw)), (a 4, .inl (cA, 60, .inl ft)), (a 5, .inl (cA, 500, .inl fs)), (a 6, .inl (cA, 20, .inl fd))] := hD
        refine lv_aload_n hx hb dX5_newLine_161 rfl (lv_at hl 1 rfl) ?_
        refine lv_iconst (v := iI 0) hx hb dX5_newLine_162 rfl ?_
        refine va_put (D := D) (ci := 6) (v := .int (iI 0)) (ty := .int) (C := RX5) (T := TX5) (N := 28) hx hb hts inX5 tyX5 tyX5_ok nmX5 hown hK hP hD hS 0 rfl rfl 12 (by decide) kfieldLink_RX5_93_ZScreensModel_count_I (fun _ h9 => h9) rfl (by decide +kernel) rfl rfl (Nat.le_of_ble_eq_true rfl) dX5_newLine_163 (fun H locs hP hD hS => ?_)
        have hP : va_P D vwCl [(a 0, .inr (6, [.ref (a 1), .ref (a 2), .int (iI (σ 0)), .int (iI (σ 2)), .int (iI (σ 1)), .int (iI (σ 3)), .int (iI (σ 4)), .int (iI ll), .int (iI 1), .int (iI (σ 12)), .int (iI (σ 13)), .int (iI (σ 7 + 1)), .int (iI 0), .int (iI ((σ 9) + 1)), .int (iI (σ 5)), .ref (a 3), .int (iI (σ 18)), .int (iI (σ 14)), .int (iI (σ 15)), .int (iI (σ 16)), .int (iI (σ 17)), .ref (a 4), .int (iI (σ 19)), .int (iI (σ 6)), .ref (a 5), .int (iI (σ 20)), .ref (a 6), .int (iI dg)])), (a 1, .inl (cA, 3200, .inl g)), (a 2, .inl (cA, 3200, .inl fo)), (a 3, .inl (cA, 80, .inl fw)), (a 4, .inl (cA, 60, .inl ft)), (a 5, .inl (cA, 500, .inl fs)), (a 6, .inl (cA, 20, .inl fd))] H := hP
        have hD : va_D A [(a 0, .inr (6, [.ref (a 1), .ref (a 2), .int (iI (σ 0)), .int (iI (σ 2)), .int (iI (σ 1)), .int (iI (σ 3)), .int (iI (σ 4)), .int (iI ll), .int (iI 1), .int (iI (σ 12)), .int (iI (σ 13)), .int (iI (σ 7 + 1)), .int (iI 0), .int (iI ((σ 9) + 1)), .int (iI (σ 5)), .ref (a 3), .int (iI (σ 18)), .int (iI (σ 14)), .int (iI (σ 15)), .int (iI (σ 16)), .int (iI (σ 17)), .ref (a 4), .int (iI (σ 19)), .int (iI (σ 6)), .ref (a 5), .int (iI (σ 20)), .ref (a 6), .int (iI dg)])), (a 1, .inl (cA, 3200, .inl g)), (a 2, .inl (cA, 3200, .inl fo)), (a 3, .inl (cA, 80, .inl fw)), (a 4, .inl (cA, 60, .inl ft)), (a 5, .inl (cA, 500, .inl fs)), (a 6, .inl (cA, 20, .inl fd))] := hD
        have hB : (max 1 (σ 1 - (ztop σ + σ 3) - 1) ≤ σ 8 + 1) := by omega
        have eS : nlS σ = zu (zu (zu (zu (zu σ 7 (σ 7 + 1)) 8 (0)) 9 ((σ 9) + 1)) 10 (ll)) 11 (1) := by simp only [nlS, if_pos hB, hll]
        exact K H locs g _ ls 0 0 (by omega) (by omega) hg1 (by rw [eS]; exact hP) (by rw [eS]; exact hD) hS dX5_newLine_166
  refine lv_aload_n hx hb dX5_newLine_15 rfl (lv_at hl 0 rfl) ?_
  refine va_get (D := D) (ci := 6) (v := .int (iI (σ 10))) (C := RX5) (T := TX5) (N := 28) hx hb hts inX5 hown hK hP 0 rfl rfl 7 (by decide) kfieldLink_RX5_71_ZScreensModel_lowLine_I (fun _ h9 => h9) rfl dX5_newLine_16 ?_
  refine lv_aload_n hx hb dX5_newLine_19 rfl (lv_at hl 0 rfl) ?_
  refine z_calli (w2 := fun _ => [(a 0, .inr (6, [.ref (a 1), .ref (a 2), .int (iI (σ 0)), .int (iI (σ 2)), .int (iI (σ 1)), .int (iI (σ 3)), .int (iI (σ 4)), .int (iI (σ 10)), .int (iI 1), .int (iI (σ 12)), .int (iI (σ 13)), .int (iI ((σ 7) + 1)), .int (iI (σ 8)), .int (iI (σ 9)), .int (iI (σ 5)), .ref (a 3), .int (iI (σ 18)), .int (iI (σ 14)), .int (iI (σ 15)), .int (iI (σ 16)), .int (iI (σ 17)), .ref (a 4), .int (iI (σ 19)), .int (iI (σ 6)), .ref (a 5), .int (iI (σ 20)), .ref (a 6), .int (iI dg)])), (a 1, .inl (cA, 3200, .inl f)), (a 2, .inl (cA, 3200, .inl fo)), (a 3, .inl (cA, 80, .inl fw)), (a 4, .inl (cA, 60, .inl ft)), (a 5, .inl (cA, 500, .inl fs)), (a 6, .inl (cA, 20, .inl fd))]) (wc := [(a 0, .inr (6, [.ref (a 1), .ref (a 2), .int (iI (σ 0)), .int (iI (σ 2)), .int (iI (σ 1)), .int (iI (σ 3)), .int (iI (σ 4)), .int (iI (σ 10)), .int (iI 1), .int (iI (σ 12)), .int (iI (σ 13)), .int (iI ((σ 7) + 1)), .int (iI (σ 8)), .int (iI (σ 9)), .int (iI (σ 5)), .ref (a 3), .int (iI (σ 18)), .int (iI (σ 14)), .int (iI (σ 15)), .int (iI (σ 16)), .int (iI (σ 17)), .ref (a 4), .int (iI (σ 19)), .int (iI (σ 6)), .ref (a 5), .int (iI (σ 20)), .ref (a 6), .int (iI dg)]))]) (wr := [(a 1, .inl (cA, 3200, .inl f)), (a 2, .inl (cA, 3200, .inl fo)), (a 3, .inl (cA, 80, .inl fw)), (a 4, .inl (cA, 60, .inl ft)), (a 5, .inl (cA, 500, .inl fs)), (a 6, .inl (cA, 20, .inl fd))]) (va_runV (As := []) (rest := [.int (iI (σ 10))]) ⟨hx, hb, hml, hown, hts⟩ (c_X5_low l D H.size a (zu (zu σ 7 ((σ 7) + 1)) 11 (1)) dg (show 1 ≤ (σ 0) ∧ (σ 0) ≤ 8 by omega)) (cwV 0 hts gX5_newLine_X5_low rfl rfl rfl (by decide +kernel) ⟨by rw [hRf]; exact Nat.le_of_ble_eq_true rfl, by rw [hRl]; exact Nat.le_of_ble_eq_true rfl⟩) (z_preV hP hD hK hN [0] (by decide) rfl rfl [] rfl (q0 := 0) rfl (ci := 6) rfl) rfl rfl hl.1 rfl (lv_room (Nat.le_of_ble_eq_true rfl)) dX5_newLine_20 ⟨by rw [hRc]; exact Nat.le_of_ble_eq_true rfl, by rw [hRs]; exact Nat.le_of_ble_eq_true rfl⟩) hP hD hS hA [0] [1, 2, 3, 4, 5, 6] rfl rfl (by decide) (by decide) [6, 0, 1, 2, 3, 4, 5] (by decide) (fun _ => rfl) (fun r _ H locs hw hP hD hS => ?_)
  have hw : r = iI ((σ 1) - ztop σ - (σ 3)) := hw
  subst hw
  have hP : va_P D vwCl [(a 0, .inr (6, [.ref (a 1), .ref (a 2), .int (iI (σ 0)), .int (iI (σ 2)), .int (iI (σ 1)), .int (iI (σ 3)), .int (iI (σ 4)), .int (iI (σ 10)), .int (iI 1), .int (iI (σ 12)), .int (iI (σ 13)), .int (iI ((σ 7) + 1)), .int (iI (σ 8)), .int (iI (σ 9)), .int (iI (σ 5)), .ref (a 3), .int (iI (σ 18)), .int (iI (σ 14)), .int (iI (σ 15)), .int (iI (σ 16)), .int (iI (σ 17)), .ref (a 4), .int (iI (σ 19)), .int (iI (σ 6)), .ref (a 5), .int (iI (σ 20)), .ref (a 6), .int (iI dg)])), (a 1, .inl (cA, 3200, .inl f)), (a 2, .inl (cA, 3200, .inl fo)), (a 3, .inl (cA, 80, .inl fw)), (a 4, .inl (cA, 60, .inl ft)), (a 5, .inl (cA, 500, .inl fs)), (a 6, .inl (cA, 20, .inl fd))] H := hP
  have hD : va_D A [(a 0, .inr (6, [.ref (a 1), .ref (a 2), .int (iI (σ 0)), .int (iI (σ 2)), .int (iI (σ 1)), .int (iI (σ 3)), .int (iI (σ 4)), .int (iI (σ 10)), .int (iI 1), .int (iI (σ 12)), .int (iI (σ 13)), .int (iI ((σ 7) + 1)), .int (iI (σ 8)), .int (iI (σ 9)), .int (iI (σ 5)), .ref (a 3), .int (iI (σ 18)), .int (iI (σ 14)), .int (iI (σ 15)), .int (iI (σ 16)), .int (iI (σ 17)), .ref (a 4), .int (iI (σ 19)), .int (iI (σ 6)), .ref (a 5), .int (iI (σ 20)), .ref (a 6), .int (iI dg)])), (a 1, .inl (cA, 3200, .inl f)), (a 2, .inl (cA, 3200, .inl fo)), (a 3, .inl (cA, 80, .inl fw)), (a 4, .inl (cA, 60, .inl ft)), (a 5, .inl (cA, 500, .inl fs)), (a 6, .inl (cA, 20, .inl fd))] := hD
  refine z_icmp_ge hx hb 39 (by omega) dX5_newLine_23 (by decide) (fun c23 => ?_) (fun c23 => ?_)
  · skip
    refine lv_aload_n hx hb dX5_newLine_39 rfl (lv_at hl 0 rfl) ?_
    refine z_calli (w2 := fun _ => [(a 0, .inr (6, [.ref (a 1), .ref (a 2), .int (iI (σ 0)), .int (iI (σ 2)), .int (iI (σ 1)), .int (iI (σ 3)), .int (iI (σ 4)), .int (iI (σ 10)), .int (iI 1), .int (iI (σ 12)), .int (iI (σ 13)), .int (iI ((σ 7) + 1)), .int (iI (σ 8)), .int (iI (σ 9)), .int (iI (σ 5)), .ref (a 3), .int (iI (σ 18)), .int (iI (σ 14)), .int (iI (σ 15)), .int (iI (σ 16)), .int (iI (σ 17)), .ref (a 4), .int (iI (σ 19)), .int (iI (σ 6)), .ref (a 5), .int (iI (σ 20)), .ref (a 6), .int (iI dg)])), (a 1, .inl (cA, 3200, .inl f)), (a 2, .inl (cA, 3200, .inl fo)), (a 3, .inl (cA, 80, .inl fw)), (a 4, .inl (cA, 60, .inl ft)), (a 5, .inl (cA, 500, .inl fs)), (a 6, .inl (cA, 20, .inl fd))]) (wc := [(a 0, .inr (6, [.ref (a 1), .ref (a 2), .int (iI (σ 0)), .int (iI (σ 2)), .int (iI (σ 1)), .int (iI (σ 3)), .int (iI (σ 4)), .int (iI (σ 10)), .int (iI 1), .int (iI (σ 12)), .int (iI (σ 13)), .int (iI ((σ 7) + 1)), .int (iI (σ 8)), .int (iI (σ 9)), .int (iI (σ 5)), .ref (a 3), .int (iI (σ 18)), .int (iI (σ 14)), .int (iI (σ 15)), .int (iI (σ 16)), .int (iI (σ 17)), .ref (a 4), .int (iI (σ 19)), .int (iI (σ 6)), .ref (a 5), .int (iI (σ 20)), .ref (a 6), .int (iI dg)]))]) (wr := [(a 1, .inl (cA, 3200, .inl f)), (a 2, .inl (cA, 3200, .inl fo)), (a 3, .inl (cA, 80, .inl fw)), (a 4, .inl (cA, 60, .inl ft)), (a 5, .inl (cA, 500, .inl fs)), (a 6, .inl (cA, 20, .inl fd))]) (va_runV (As := []) (rest := []) ⟨hx, hb, hml, hown, hts⟩ (c_X5_firstLow l D H.size a (zu (zu σ 7 ((σ 7) + 1)) 11 (1)) dg (show 1 ≤ (σ 0) ∧ (σ 0) ≤ 8 by omega)) (cwV 0 hts gX5_newLine_X5_firstLow rfl rfl rfl (by decide +kernel) ⟨by rw [hRf]; exact Nat.le_of_ble_eq_true rfl, by rw [hRl]; exact Nat.le_of_ble_eq_true rfl⟩) (z_preV hP hD hK hN [0] (by decide) rfl rfl [] rfl (q0 := 0) rfl (ci := 6) rfl) rfl rfl hl.1 rfl (lv_room (Nat.le_of_ble_eq_true rfl)) dX5_newLine_40 ⟨by rw [hRc]; exact Nat.le_of_ble_eq_true rfl, by rw [hRs]; exact Nat.le_of_ble_eq_true rfl⟩) hP hD hS hA [0] [1, 2, 3, 4, 5, 6] rfl rfl (by decide) (by decide) [6, 0, 1, 2, 3, 4, 5] (by decide) (fun _ => rfl) (fun r _ H locs hw hP hD hS => ?_)
    have hw : r = iI (ztop σ + (σ 3)) := hw
    subst hw
    have hP : va_P D vwCl [(a 0, .inr (6, [.ref (a 1), .ref (a 2), .int (iI (σ 0)), .int (iI (σ 2)), .int (iI (σ 1)), .int (iI (σ 3)), .int (iI (σ 4)), .int (iI (σ 10)), .int (iI 1), .int (iI (σ 12)), .int (iI (σ 13)), .int (iI ((σ 7) + 1)), .int (iI (σ 8)), .int (iI (σ 9)), .int (iI (σ 5)), .ref (a 3), .int (iI (σ 18)), .int (iI (σ 14)), .int (iI (σ 15)), .int (iI (σ 16)), .int (iI (σ 17)), .ref (a 4), .int (iI (σ 19)), .int (iI (σ 6)), .ref (a 5), .int (iI (σ 20)), .ref (a 6), .int (iI dg)])), (a 1, .inl (cA, 3200, .inl f)), (a 2, .inl (cA, 3200, .inl fo)), (a 3, .inl (cA, 80, .inl fw)), (a 4, .inl (cA, 60, .inl ft)), (a 5, .inl (cA, 500, .inl fs)), (a 6, .inl (cA, 20, .inl fd))] H := hP
    have hD : va_D A [(a 0, .inr (6, [.ref (a 1), .ref (a 2), .int (iI (σ 0)), .int (iI (σ 2)), .int (iI (σ 1)), .int (iI (σ 3)), .int (iI (σ 4)), .int (iI (σ 10)), .int (iI 1), .int (iI (σ 12)), .int (iI (σ 13)), .int (iI ((σ 7) + 1)), .int (iI (σ 8)), .int (iI (σ 9)), .int (iI (σ 5)), .ref (a 3), .int (iI (σ 18)), .int (iI (σ 14)), .int (iI (σ 15)), .int (iI (σ 16)), .int (iI (σ 17)), .ref (a 4), .int (iI (σ 19)), .int (iI (σ 6)), .ref (a 5), .int (iI (σ 20)), .ref (a 6), .int (iI dg)])), (a 1, .inl (cA, 3200, .inl f)), (a 2, .inl (cA, 3200, .inl fo)), (a 3, .inl (cA, 80, .inl fw)), (a 4, .inl (cA, 60, .inl ft)), (a 5, .inl (cA, 500, .inl fs)), (a 6, .inl (cA, 20, .inl fd))] := hD
    refine lv_istore_n (lv' := [(1, .int (iI (ztop σ + (σ 3)))), (0, .ref (a 0))]) hx hb dX5_newLine_43 rfl hl (by decide) rfl (fun ls hl => ?_)
    have L44 : ∀ (fuel : Nat) (k : Int) (g : Nat → Int32) (H : Heap) (locs : List Loc) (ls : Array Slot), (ztop σ + σ 3 ≤ k ∧ k ≤ σ 1 - 1) → zRG encMK g (gsc G (ztop σ + σ 3) k) (σ 1) (σ 2) → (σ 1 - 1 - k).toNat < fuel → va_P D vwCl [(a 0, .inr (6, [.ref (a 1), .ref (a 2), .int (iI (σ 0)), .int (iI (σ 2)), .int (iI (σ 1)), .int (iI (σ 3)), .int (iI (σ 4)), .int (iI (σ 10)), .int (iI 1), .int (iI (σ 12)), .int (iI (σ 13)), .int (iI ((σ 7) + 1)), .int (iI (σ 8)), .int (iI (σ 9)), .int (iI (σ 5)), .ref (a 3), .int (iI (σ 18)), .int (iI (σ 14)), .int (iI (σ 15)), .int (iI (σ 16)), .int (iI (σ 17)), .ref (a 4), .int (iI (σ 19)), .int (iI (σ 6)), .ref (a 5), .int (iI (σ 20)), .ref (a 6), .int (iI dg)])), (a 1, .inl (cA, 3200, .inl g)), (a 2, .inl (cA, 3200, .inl fo)), (a 3, .inl (cA, 80, .inl fw)), (a 4, .inl (cA, 60, .inl ft)), (a 5, .inl (cA, 500, .inl fs)), (a 6, .inl (cA, 20, .inl fd))] H → va_D A [(a 0, .inr (6, [.ref (a 1), .ref (a 2), .int (iI (σ 0)), .int (iI (σ 2)), .int (iI (σ 1)), .int (iI (σ 3)), .int (iI (σ 4)), .int (iI (σ 10)), .int (iI 1), .int (iI (σ 12)), .int (iI (σ 13)), .int (iI ((σ 7) + 1)), .int (iI (σ 8)), .int (iI (σ 9)), .int (iI (σ 5)), .ref (a 3), .int (iI (σ 18)), .int (iI (σ 14)), .int (iI (σ 15)), .int (iI (σ 16)), .int (iI (σ 17)), .ref (a 4), .int (iI (σ 19)), .int (iI (σ 6)), .ref (a 5), .int (iI (σ 20)), .ref (a 6), .int (iI dg)])), (a 1, .inl (cA, 3200, .inl g)), (a 2, .inl (cA, 3200, .inl fo)), (a 3, .inl (cA, 80, .inl fw)), (a 4, .inl (cA, 60, .inl ft)), (a 5, .inl (cA, 500, .inl fs)), (a 6, .inl (cA, 20, .inl fd))] → va_S A s.heap H locs → lv_has ls 3 [(1, .int (iI k)), (0, .ref (a 0))] → W p l e R s m args below meth c H locs 0 0 Q (F0 m 44 ls []) := by
      intro fuel
      induction fuel with
      | zero => intro k g H locs ls hk hg hfu; exact absurd hfu (Nat.not_lt_zero _)
      | succ fuel ih44 =>
        intro k g H locs ls hk hg hfu hP hD hS hl
        refine lv_iload_n hx hb dX5_newLine_44 rfl (lv_at hl 0 rfl) ?_
        refine lv_aload_n hx hb dX5_newLine_45 rfl (lv_at hl 1 rfl) ?_
        refine va_get (D := D) (ci := 6) (v := .int (iI (σ 1))) (C := RX5) (T := TX5) (N := 28) hx hb hts inX5 hown hK hP 0 rfl rfl 4 (by decide) kfieldLink_RX5_61_ZScreensModel_lines_I (fun _ h9 => h9) rfl dX5_newLine_46 ?_
        refine lv_iconst (v := iI 1) hx hb dX5_newLine_49 rfl ?_
        refine z_isub hx hb dX5_newLine_50 ?_
        refine z_icmp_ge hx hb 101 (by omega) dX5_newLine_51 (by decide) (fun c51 => ?_) (fun c51 => ?_)
        · skip
          refine lv_aload_n hx hb dX5_newLine_101 rfl (lv_at hl 1 rfl) ?_
          refine lv_aload_n hx hb dX5_newLine_102 rfl (lv_at hl 1 rfl) ?_
          refine va_get (D := D) (ci := 6) (v := .int (iI (σ 1))) (C := RX5) (T := TX5) (N := 28) hx hb hts inX5 hown hK hP 0 rfl rfl 4 (by decide) kfieldLink_RX5_61_ZScreensModel_lines_I (fun _ h9 => h9) rfl dX5_newLine_103 ?_
          refine lv_iconst (v := iI 1) hx hb dX5_newLine_106 rfl ?_
          refine z_isub hx hb dX5_newLine_107 ?_
          refine lv_iconst (v := iI 0) hx hb dX5_newLine_108 rfl ?_
          refine z_callv (w2 := fun _ => [(a 0, .inr (6, [.ref (a 1), .ref (a 2), .int (iI (σ 0)), .int (iI (σ 2)), .int (iI (σ 1)), .int (iI (σ 3)), .int (iI (σ 4)), .int (iI (σ 10)), .int (iI 1), .int (iI (σ 12)), .int (iI (σ 13)), .int (iI ((σ 7) + 1)), .int (iI (σ 8)), .int (iI (σ 9)), .int (iI (σ 5)), .ref (a 3), .int (iI (σ 18)), .int (iI (σ 14)), .int (iI (σ 15)), .int (iI (σ 16)), .int (iI (σ 17)), .ref (a 4), .int (iI (σ 19)), .int (iI (σ 6)), .ref (a 5), .int (iI (σ 20)), .ref (a 6), .int (iI dg)])), (a 1, .inl (cA, 3200, .inl (zfill g (80 * ((σ 1) - 1) + 0) (80 * ((σ 1) - 1) + (σ 2)) (encM 32 0 1 ((σ 16)) ((σ 17)))))), (a 2, .inl (cA, 3200, .inl fo)), (a 3, .inl (cA, 80, .inl fw)), (a 4, .inl (cA, 60, .inl ft)), (a 5, .inl (cA, 500, .inl fs)), (a 6, .inl (cA, 20, .inl fd))]) (wc := [(a 0, .inr (6, [.ref (a 1), .ref (a 2), .int (iI (σ 0)), .int (iI (σ 2)), .int (iI (σ 1)), .int (iI (σ 3)), .int (iI (σ 4)), .int (iI (σ 10)), .int (iI 1), .int (iI (σ 12)), .int (iI (σ 13)), .int (iI ((σ 7) + 1)), .int (iI (σ 8)), .int (iI (σ 9)), .int (iI (σ 5)), .ref (a 3), .int (iI (σ 18)), .int (iI (σ 14)), .int (iI (σ 15)), .int (iI (σ 16)), .int (iI (σ 17)), .ref (a 4), .int (iI (σ 19)), .int (iI (σ 6)), .ref (a 5), .int (iI (σ 20)), .ref (a 6), .int (iI dg)])), (a 1, .inl (cA, 3200, .inl g))]) (wr := [(a 2, .inl (cA, 3200, .inl fo)), (a 3, .inl (cA, 80, .inl fw)), (a 4, .inl (cA, 60, .inl ft)), (a 5, .inl (cA, 500, .inl fs)), (a 6, .inl (cA, 20, .inl fd))]) (va_runV (As := [.int (iI ((σ 1) - 1)), .int (iI 0)]) (rest := []) ⟨hx, hb, hml, hown, hts⟩ (c_X5_clear l D H.size cA a (zu (zu σ 7 ((σ 7) + 1)) 11 (1)) dg g ((σ 1) - 1) 0 (show (1 ≤ (σ 0) ∧ (σ 0) ≤ 8) ∧ (8 ≤ (σ 2) ∧ (σ 2) ≤ 80) ∧ (0 ≤ (((σ 1)) - 1) ∧ (((σ 1)) - 1) ≤ 39) ∧ 0 ≤ 0 ∧ 0 ≤ 81 by omega)) (cwV 2 hts gX5_newLine_X5_clear rfl rfl rfl (by decide +kernel) ⟨by rw [hRf]; exact Nat.le_of_ble_eq_true rfl, by rw [hRl]; exact Nat.le_of_ble_eq_true rfl⟩) (z_preV hP hD hK hN [0, 1] (by decide) rfl rfl [0] rfl (q0 := 0) rfl (ci := 6) rfl) rfl rfl hl.1 rfl (lv_room (Nat.le_of_ble_eq_true rfl)) dX5_newLine_109 ⟨by rw [hRc]; exact Nat.le_of_ble_eq_true rfl, by rw [hRs]; exact Nat.le_of_ble_eq_true rfl⟩) hP hD hS hA [0, 1] [2, 3, 4, 5, 6] rfl rfl (by decide) (by decide) [5, 6, 0, 1, 2, 3, 4] (by decide) (fun _ => rfl) (fun _ H locs hw hP hD hS => ?_)
          have hP : va_P D vwCl [(a 0, .inr (6, [.ref (a 1), .ref (a 2), .int (iI (σ 0)), .int (iI (σ 2)), .int (iI (σ 1)), .int (iI (σ 3)), .int (iI (σ 4)), .int (iI (σ 10)), .int (iI 1), .int (iI (σ 12)), .int (iI (σ 13)), .int (iI ((σ 7) + 1)), .int (iI (σ 8)), .int (iI (σ 9)), .int (iI (σ 5)), .ref (a 3), .int (iI (σ 18)), .int (iI (σ 14)), .int (iI (σ 15)), .int (iI (σ 16)), .int (iI (σ 17)), .ref (a 4), .int (iI (σ 19)), .int (iI (σ 6)), .ref (a 5), .int (iI (σ 20)), .ref (a 6), .int (iI dg)])), (a 1, .inl (cA, 3200, .inl (zfill g (80 * ((σ 1) - 1) + 0) (80 * ((σ 1) - 1) + (σ 2)) (encM 32 0 1 ((σ 16)) ((σ 17)))))), (a 2, .inl (cA, 3200, .inl fo)), (a 3, .inl (cA, 80, .inl fw)), (a 4, .inl (cA, 60, .inl ft)), (a 5, .inl (cA, 500, .inl fs)), (a 6, .inl (cA, 20, .inl fd))] H := hP
          have hD : va_D A [(a 0, .inr (6, [.ref (a 1), .ref (a 2), .int (iI (σ 0)), .int (iI (σ 2)), .int (iI (σ 1)), .int (iI (σ 3)), .int (iI (σ 4)), .int (iI (σ 10)), .int (iI 1), .int (iI (σ 12)), .int (iI (σ 13)), .int (iI ((σ 7) + 1)), .int (iI (σ 8)), .int (iI (σ 9)), .int (iI (σ 5)), .ref (a 3), .int (iI (σ 18)), .int (iI (σ 14)), .int (iI (σ 15)), .int (iI (σ 16)), .int (iI (σ 17)), .ref (a 4), .int (iI (σ 19)), .int (iI (σ 6)), .ref (a 5), .int (iI (σ 20)), .ref (a 6), .int (iI dg)])), (a 1, .inl (cA, 3200, .inl (zfill g (80 * ((σ 1) - 1) + 0) (80 * ((σ 1) - 1) + (σ 2)) (encM 32 0 1 ((σ 16)) ((σ 17)))))), (a 2, .inl (cA, 3200, .inl fo)), (a 3, .inl (cA, 80, .inl fw)), (a 4, .inl (cA, 60, .inl ft)), (a 5, .inl (cA, 500, .inl fs)), (a 6, .inl (cA, 20, .inl fd))] := hD
          exact J112 (σ 10) (zfill g (80 * ((σ 1) - 1) + 0) (80 * ((σ 1) - 1) + (σ 2)) (encM 32 0 1 ((σ 16)) ((σ 17)))) _ _ _ (by rw [if_neg (show ¬ (σ 10 < σ 1 - (ztop σ + σ 3)) by omega)]) (by unfold nlG; rw [if_neg (show ¬ (σ 10 < σ 1 - (ztop σ + σ 3)) by omega)]; have h9 := hg; rw [show k = σ 1 - 1 by omega] at h9; exact rg_fill h9 (by omega) (zblK σ) (by omega) (by omega) (by omega) (by omega)) hP hD hS (lv_sub hl [1] rfl)
        · skip
          refine lv_iconst (v := iI 0) hx hb dX5_newLine_54 rfl ?_
          refine lv_istore_n (lv' := [(2, .int (iI 0)), (1, .int (iI k)), (0, .ref (a 0))]) hx hb dX5_newLine_55 rfl hl (by decide) rfl (fun ls hl => ?_)
          have L56 : ∀ (fuel : Nat) (c2 : Int) (g2 : Nat → Int32) (H : Heap) (locs : List Loc) (ls : Array Slot), (0 ≤ c2 ∧ c2 ≤ σ 2) → zRG encMK g2 (gcpp (gsc G (ztop σ + σ 3) k) (k + 1) k c2) (σ 1) (σ 2) → (σ 2 - c2).toNat < fuel → va_P D vwCl [(a 0, .inr (6, [.ref (a 1), .ref (a 2), .int (iI (σ 0)), .int (iI (σ 2)), .int (iI (σ 1)), .int (iI (σ 3)), .int (iI (σ 4)), .int (iI (σ 10)), .int (iI 1), .int (iI (σ 12)), .int (iI (σ 13)), .int (iI ((σ 7) + 1)), .int (iI (σ 8)), .int (iI (σ 9)), .int (iI (σ 5)), .ref (a 3), .int (iI (σ 18)), .int (iI (σ 14)), .int (iI (σ 15)), .int (iI (σ 16)), .int (iI (σ 17)), .ref (a 4), .int (iI (σ 19)), .int (iI (σ 6)), .ref (a 5), .int (iI (σ 20)), .ref (a 6), .int (iI dg)])), (a 1, .inl (cA, 3200, .inl g2)), (a 2, .inl (cA, 3200, .inl fo)), (a 3, .inl (cA, 80, .inl fw)), (a 4, .inl (cA, 60, .inl ft)), (a 5, .inl (cA, 500, .inl fs)), (a 6, .inl (cA, 20, .inl fd))] H → va_D A [(a 0, .inr (6, [.ref (a 1), .ref (a 2), .int (iI (σ 0)), .int (iI (σ 2)), .int (iI (σ 1)), .int (iI (σ 3)), .int (iI (σ 4)), .int (iI (σ 10)), .int (iI 1), .int (iI (σ 12)), .int (iI (σ 13)), .int (iI ((σ 7) + 1)), .int (iI (σ 8)), .int (iI (σ 9)), .int (iI (σ 5)), .ref (a 3), .int (iI (σ 18)), .int (iI (σ 14)), .int (iI (σ 15)), .int (iI (σ 16)), .int (iI (σ 17)), .ref (a 4), .int (iI (σ 19)), .int (iI (σ 6)), .ref (a 5), .int (iI (σ 20)), .ref (a 6), .int (iI dg)])), (a 1, .inl (cA, 3200, .inl g2)), (a 2, .inl (cA, 3200, .inl fo)), (a 3, .inl (cA, 80, .inl fw)), (a 4, .inl (cA, 60, .inl ft)), (a 5, .inl (cA, 500, .inl fs)), (a 6, .inl (cA, 20, .inl fd))] → va_S A s.heap H locs → lv_has ls 3 [(2, .int (iI c2)), (1, .int (iI k)), (0, .ref (a 0))] → W p l e R s m args below meth c H locs 0 0 Q (F0 m 56 ls []) := by
            intro fuel
            induction fuel with
            | zero => intro c2 g2 H locs ls hc2 hg2 hfu; exact absurd hfu (Nat.not_lt_zero _)
            | succ fuel ih56 =>
              intro c2 g2 H locs ls hc2 hg2 hfu hP hD hS hl
              refine lv_iload_n hx hb dX5_newLine_56 rfl (lv_at hl 0 rfl) ?_
              refine lv_aload_n hx hb dX5_newLine_57 rfl (lv_at hl 2 rfl) ?_
              refine va_get (D := D) (ci := 6) (v := .int (iI (σ 2))) (C := RX5) (T := TX5) (N := 28) hx hb hts inX5 hown hK hP 0 rfl rfl 3 (by decide) kfieldLink_RX5_58_ZScreensModel_width_I (fun _ h9 => h9) rfl dX5_newLine_58 ?_
              refine z_icmp_ge hx hb 95 (by omega) dX5_newLine_61 (by decide) (fun c61 => ?_) (fun c61 => ?_)
              · skip
                refine lv_iinc (v := iI (k + 1)) (lv' := [(1, .int (iI (k + 1))), (2, .int (iI c2)), (0, .ref (a 0))]) hx hb dX5_newLine_95 hl (k := 1) rfl (iI_add _ _) (by decide) rfl (fun ls hl => ?_)
                refine lv_goto (tgt := 44) hx hb dX5_newLine_98 (by decide) ?_
                exact ih44 (k + 1) (g2) _ _ _ (by omega) (by rw [← gs_step (by omega)]; exact rg_cpe hg2 (by omega)) (by omega) hP hD hS (lv_sub hl [0, 2] rfl)
              · skip
                refine lv_aload_n hx hb dX5_newLine_64 rfl (lv_at hl 2 rfl) ?_
                refine va_get (D := D) (ci := 6) (v := .ref (a 1)) (C := RX5) (T := TX5) (N := 28) hx hb hts inX5 hown hK hP 0 rfl rfl 0 (by decide) kfieldLink_RX5_7_ZScreensModel_cells_I (fun _ h9 => h9) rfl dX5_newLine_65 ?_
                refine lv_bipush (v := iI 80) hx hb dX5_newLine_68 (by decide) ?_
                refine lv_iload_n hx hb dX5_newLine_70 rfl (lv_at hl 1 rfl) ?_
                refine z_imul hx hb dX5_newLine_71 ?_
                refine lv_iload_n hx hb dX5_newLine_72 rfl (lv_at hl 0 rfl) ?_
                refine z_iadd hx hb dX5_newLine_73 ?_
                refine lv_aload_n hx hb dX5_newLine_74 rfl (lv_at hl 2 rfl) ?_
                refine va_get (D := D) (ci := 6) (v := .ref (a 1)) (C := RX5) (T := TX5) (N := 28) hx hb hts inX5 hown hK hP 0 rfl rfl 0 (by decide) kfieldLink_RX5_7_ZScreensModel_cells_I (fun _ h9 => h9) rfl dX5_newLine_75 ?_
                refine lv_bipush (v := iI 80) hx hb dX5_newLine_78 (by decide) ?_
                refine lv_iload_n hx hb dX5_newLine_80 rfl (lv_at hl 1 rfl) ?_
                refine z_imul hx hb dX5_newLine_81 ?_
                refine lv_bipush (v := iI 80) hx hb dX5_newLine_82 (by decide) ?_
                refine z_iadd hx hb dX5_newLine_84 ?_
                refine lv_iload_n hx hb dX5_newLine_85 rfl (lv_at hl 0 rfl) ?_
                refine z_iadd hx hb dX5_newLine_86 ?_
                refine z_iald hx hb hK hP 1 0 rfl rfl (by omega) dX5_newLine_87 ?_
                refine z_iast hx hb hK hP hD hS 1 0 rfl rfl (by omega) dX5_newLine_88 (fun H locs hP hD hS => ?_)
                have hP : va_P D vwCl [(a 0, .inr (6, [.ref (a 1), .ref (a 2), .int (iI (σ 0)), .int (iI (σ 2)), .int (iI (σ 1)), .int (iI (σ 3)), .int (iI (σ 4)), .int (iI (σ 10)), .int (iI 1), .int (iI (σ 12)), .int (iI (σ 13)), .int (iI ((σ 7) + 1)), .int (iI (σ 8)), .int (iI (σ 9)), .int (iI (σ 5)), .ref (a 3), .int (iI (σ 18)), .int (iI (σ 14)), .int (iI (σ 15)), .int (iI (σ 16)), .int (iI (σ 17)), .ref (a 4), .int (iI (σ 19)), .int (iI (σ 6)), .ref (a 5), .int (iI (σ 20)), .ref (a 6), .int (iI dg)])), (a 1, .inl (cA, 3200, .inl (upd g2 ((80 * k) + c2).toNat (g2 (((80 * k) + 80) + c2).toNat)))), (a 2, .inl (cA, 3200, .inl fo)), (a 3, .inl (cA, 80, .inl fw)), (a 4, .inl (cA, 60, .inl ft)), (a 5, .inl (cA, 500, .inl fs)), (a 6, .inl (cA, 20, .inl fd))] H := hP
                have hD : va_D A [(a 0, .inr (6, [.ref (a 1), .ref (a 2), .int (iI (σ 0)), .int (iI (σ 2)), .int (iI (σ 1)), .int (iI (σ 3)), .int (iI (σ 4)), .int (iI (σ 10)), .int (iI 1), .int (iI (σ 12)), .int (iI (σ 13)), .int (iI ((σ 7) + 1)), .int (iI (σ 8)), .int (iI (σ 9)), .int (iI (σ 5)), .ref (a 3), .int (iI (σ 18)), .int (iI (σ 14)), .int (iI (σ 15)), .int (iI (σ 16)), .int (iI (σ 17)), .ref (a 4), .int (iI (σ 19)), .int (iI (σ 6)), .ref (a 5), .int (iI (σ 20)), .ref (a 6), .int (iI dg)])), (a 1, .inl (cA, 3200, .inl (upd g2 ((80 * k) + c2).toNat (g2 (((80 * k) + 80) + c2).toNat)))), (a 2, .inl (cA, 3200, .inl fo)), (a 3, .inl (cA, 80, .inl fw)), (a 4, .inl (cA, 60, .inl ft)), (a 5, .inl (cA, 500, .inl fs)), (a 6, .inl (cA, 20, .inl fd))] := hD
                refine lv_iinc (v := iI (c2 + 1)) (lv' := [(2, .int (iI (c2 + 1))), (1, .int (iI k)), (0, .ref (a 0))]) hx hb dX5_newLine_89 hl (k := 0) rfl (iI_add _ _) (by decide) rfl (fun ls hl => ?_)
                refine lv_goto (tgt := 56) hx hb dX5_newLine_92 (by decide) ?_
                exact ih56 (c2 + 1) (upd g2 ((80 * k) + c2).toNat (g2 (((80 * k) + 80) + c2).toNat)) _ _ _ (by omega) (rg_cpp hg2 (by omega) (by omega) (by omega) (by omega) (by omega) (by omega)) (by omega) hP hD hS (lv_sub hl [0, 1, 2] rfl)
          exact L56 ((σ 2).toNat + 1) (0) (g) _ _ _ (by omega) (by rw [gcp_0 (by omega)]; exact hg) (by omega) hP hD hS (lv_sub hl [0, 1, 2] rfl)
    exact L44 ((σ 1).toNat + 1) (ztop σ + σ 3) (f) _ _ _ (by omega) (by rw [gs_nil (by omega)]; exact hG) (by omega) hP hD hS (lv_sub hl [0, 1] rfl)
  · skip
    refine lv_aload_n hx hb dX5_newLine_26 rfl (lv_at hl 0 rfl) ?_
    refine lv_dup hx hb dX5_newLine_27 rfl ?_
    refine va_get (D := D) (ci := 6) (v := .int (iI (σ 10))) (C := RX5) (T := TX5) (N := 28) hx hb hts inX5 hown hK hP 0 rfl rfl 7 (by decide) kfieldLink_RX5_71_ZScreensModel_lowLine_I (fun _ h9 => h9) rfl dX5_newLine_28 ?_
    refine lv_iconst (v := iI 1) hx hb dX5_newLine_31 rfl ?_
    refine z_iadd hx hb dX5_newLine_32 ?_
    refine va_put (D := D) (ci := 6) (v := .int (iI ((σ 10) + 1))) (ty := .int) (C := RX5) (T := TX5) (N := 28) hx hb hts inX5 tyX5 tyX5_ok nmX5 hown hK hP hD hS 0 rfl rfl 7 (by decide) kfieldLink_RX5_71_ZScreensModel_lowLine_I (fun _ h9 => h9) rfl (by decide +kernel) rfl rfl (Nat.le_of_ble_eq_true rfl) dX5_newLine_33 (fun H locs hP hD hS => ?_)
    have hP : va_P D vwCl [(a 0, .inr (6, [.ref (a 1), .ref (a 2), .int (iI (σ 0)), .int (iI (σ 2)), .int (iI (σ 1)), .int (iI (σ 3)), .int (iI (σ 4)), .int (iI ((σ 10) + 1)), .int (iI 1), .int (iI (σ 12)), .int (iI (σ 13)), .int (iI ((σ 7) + 1)), .int (iI (σ 8)), .int (iI (σ 9)), .int (iI (σ 5)), .ref (a 3), .int (iI (σ 18)), .int (iI (σ 14)), .int (iI (σ 15)), .int (iI (σ 16)), .int (iI (σ 17)), .ref (a 4), .int (iI (σ 19)), .int (iI (σ 6)), .ref (a 5), .int (iI (σ 20)), .ref (a 6), .int (iI dg)])), (a 1, .inl (cA, 3200, .inl f)), (a 2, .inl (cA, 3200, .inl fo)), (a 3, .inl (cA, 80, .inl fw)), (a 4, .inl (cA, 60, .inl ft)), (a 5, .inl (cA, 500, .inl fs)), (a 6, .inl (cA, 20, .inl fd))] H := hP
    have hD : va_D A [(a 0, .inr (6, [.ref (a 1), .ref (a 2), .int (iI (σ 0)), .int (iI (σ 2)), .int (iI (σ 1)), .int (iI (σ 3)), .int (iI (σ 4)), .int (iI ((σ 10) + 1)), .int (iI 1), .int (iI (σ 12)), .int (iI (σ 13)), .int (iI ((σ 7) + 1)), .int (iI (σ 8)), .int (iI (σ 9)), .int (iI (σ 5)), .ref (a 3), .int (iI (σ 18)), .int (iI (σ 14)), .int (iI (σ 15)), .int (iI (σ 16)), .int (iI (σ 17)), .ref (a 4), .int (iI (σ 19)), .int (iI (σ 6)), .ref (a 5), .int (iI (σ 20)), .ref (a 6), .int (iI dg)])), (a 1, .inl (cA, 3200, .inl f)), (a 2, .inl (cA, 3200, .inl fo)), (a 3, .inl (cA, 80, .inl fw)), (a 4, .inl (cA, 60, .inl ft)), (a 5, .inl (cA, 500, .inl fs)), (a 6, .inl (cA, 20, .inl fd))] := hD
    refine lv_goto (tgt := 112) hx hb dX5_newLine_36 (by decide) ?_
    exact J112 ((σ 10) + 1) (f) _ _ _ (by rw [if_pos (show σ 10 < σ 1 - (ztop σ + σ 3) by omega)]) (by unfold nlG; rw [if_pos (show σ 10 < σ 1 - (ztop σ + σ 3) by omega)]; exact hG) hP hD hS (lv_sub hl [0] rfl)
