/-! the class: what status needs without the JDK (draft) -/
abbrev rmX4_statusCell : Room := { frames := 1, cells := 0, slots := 0, locals := 26 }
set_option maxHeartbeats 4000000 in
set_option maxRecDepth 100000 in
theorem c_X4_statusCell (l : Launch) (D : va_G) (sz : Nat) (a : Nat → Nat) (σ : Nat → Int) (x : Int) : zMi l yX4_statusCell wsX4_statusCell rmX4_statusCell D [] [.ref (a 0), .int (iI x)] [(a 0, .inr (5, [.int (iI (σ 0)), .ref (a 1), .ref (a 3), .ref (a 4), .ref (a 5), .ref (a 6), .ref (a 8), .ref (a 10), .int (iI (σ 1)), .int (iI (σ 2)), .int (iI (σ 3)), .int (iI (σ 4)), .int (iI (σ 5)), .int (iI (σ 6)), .int (iI (σ 7)), .int (iI (σ 8)), .int (iI (σ 9))])), (a 3, .inr (2, [.int (iI (σ 14)), .int (iI (σ 15)), .int (iI (σ 16)), .int (iI (σ 17))]))] sz (S := Unit) (fun r _ => r = encC x 1 1 (σ 16) (σ 17)) (fun _ => [(a 0, .inr (5, [.int (iI (σ 0)), .ref (a 1), .ref (a 3), .ref (a 4), .ref (a 5), .ref (a 6), .ref (a 8), .ref (a 10), .int (iI (σ 1)), .int (iI (σ 2)), .int (iI (σ 3)), .int (iI (σ 4)), .int (iI (σ 5)), .int (iI (σ 6)), .int (iI (σ 7)), .int (iI (σ 8)), .int (iI (σ 9))])), (a 3, .inr (2, [.int (iI (σ 14)), .int (iI (σ 15)), .int (iI (σ 16)), .int (iI (σ 17))]))]) 0 0 := by
  refine z_starti (cc := cX4_statusCell) (maxL := 2) (ty := .int) (own := RX4) (nm := "statusCell") (by decide) rfl rfl rfl (Nat.le_of_ble_eq_true rfl) ?_
  intro p e R s m args below meth c A Q ls H locs hBd hP hD hS hl K
  obtain ⟨hx, hb, hml, hown, hts, ⟨hRf, hRl, hRc, hRs⟩, hmn, hK, hN, hA⟩ := hBd
  have hl : lv_has ls 2 [(0, .ref (a 0)), (1, .int (iI x))] := hl
  have inX1 : ∀ w ∈ wsX10, w ∈ wsX4_statusCell := by decide +kernel
  have inX4 : ∀ w ∈ wsX40, w ∈ wsX4_statusCell := by decide +kernel
  have kfieldLink_RX4_10_ZScreens_pen_LZScreens_Pen := hts (.fieldLink RX4 10 "ZScreens" "pen" "LZScreens$Pen;") (by decide +kernel)
  have kinitialized_RX1 := hts (.initialized RX1) (by decide +kernel)
  have kstatic_yX1_pack := hts (.static yX1_pack) (by decide +kernel)
  have hP : va_P D vwCl [(a 0, .inr (5, [.int (iI (σ 0)), .ref (a 1), .ref (a 3), .ref (a 4), .ref (a 5), .ref (a 6), .ref (a 8), .ref (a 10), .int (iI (σ 1)), .int (iI (σ 2)), .int (iI (σ 3)), .int (iI (σ 4)), .int (iI (σ 5)), .int (iI (σ 6)), .int (iI (σ 7)), .int (iI (σ 8)), .int (iI (σ 9))])), (a 3, .inr (2, [.int (iI (σ 14)), .int (iI (σ 15)), .int (iI (σ 16)), .int (iI (σ 17))]))] H := hP
  have hD : va_D A [(a 0, .inr (5, [.int (iI (σ 0)), .ref (a 1), .ref (a 3), .ref (a 4), .ref (a 5), .ref (a 6), .ref (a 8), .ref (a 10), .int (iI (σ 1)), .int (iI (σ 2)), .int (iI (σ 3)), .int (iI (σ 4)), .int (iI (σ 5)), .int (iI (σ 6)), .int (iI (σ 7)), .int (iI (σ 8)), .int (iI (σ 9))])), (a 3, .inr (2, [.int (iI (σ 14)), .int (iI (σ 15)), .int (iI (σ 16)), .int (iI (σ 17))]))] := hD
  refine lv_iload_n hx hb dX4_statusCell_0 rfl (lv_at hl 1 rfl) ?_
  refine lv_iconst (v := iI 1) hx hb dX4_statusCell_1 rfl ?_
  refine lv_iconst (v := iI 1) hx hb dX4_statusCell_2 rfl ?_
  refine lv_aload_n hx hb dX4_statusCell_3 rfl (lv_at hl 0 rfl) ?_
  refine va_get (D := D) (ci := 5) (v := .ref (a 3)) (C := RX4) (T := TX4) (N := 17) hx hb hts inX4 hown hK hP 0 rfl rfl 2 (by decide) kfieldLink_RX4_10_ZScreens_pen_LZScreens_Pen (fun _ h9 => h9) rfl dX4_statusCell_4 ?_
  refine va_getN (D := D) (ci := 2) (v := .int (iI (σ 16))) (C := RX1) (T := TX1) (N := 4) hx hb hts inX1 hown hK hP 1 rfl rfl 2 (by decide) (hN.use (.fieldLinkNest RX4 148 "ZScreens$Pen" "ink" "I" "ZScreens") (by decide +kernel)) (fun _ h9 => h9) rfl dX4_statusCell_7 ?_
  refine lv_aload_n hx hb dX4_statusCell_10 rfl (lv_at hl 0 rfl) ?_
  refine va_get (D := D) (ci := 5) (v := .ref (a 3)) (C := RX4) (T := TX4) (N := 17) hx hb hts inX4 hown hK hP 0 rfl rfl 2 (by decide) kfieldLink_RX4_10_ZScreens_pen_LZScreens_Pen (fun _ h9 => h9) rfl dX4_statusCell_11 ?_
  refine va_getN (D := D) (ci := 2) (v := .int (iI (σ 17))) (C := RX1) (T := TX1) (N := 4) hx hb hts inX1 hown hK hP 1 rfl rfl 3 (by decide) (hN.use (.fieldLinkNest RX4 151 "ZScreens$Pen" "paper" "I" "ZScreens") (by decide +kernel)) (fun _ h9 => h9) rfl dX4_statusCell_14 ?_
  refine z_calli (w2 := fun _ => [(a 0, .inr (5, [.int (iI (σ 0)), .ref (a 1), .ref (a 3), .ref (a 4), .ref (a 5), .ref (a 6), .ref (a 8), .ref (a 10), .int (iI (σ 1)), .int (iI (σ 2)), .int (iI (σ 3)), .int (iI (σ 4)), .int (iI (σ 5)), .int (iI (σ 6)), .int (iI (σ 7)), .int (iI (σ 8)), .int (iI (σ 9))])), (a 3, .inr (2, [.int (iI (σ 14)), .int (iI (σ 15)), .int (iI (σ 16)), .int (iI (σ 17))]))]) (wc := []) (wr := [(a 0, .inr (5, [.int (iI (σ 0)), .ref (a 1), .ref (a 3), .ref (a 4), .ref (a 5), .ref (a 6), .ref (a 8), .ref (a 10), .int (iI (σ 1)), .int (iI (σ 2)), .int (iI (σ 3)), .int (iI (σ 4)), .int (iI (σ 5)), .int (iI (σ 6)), .int (iI (σ 7)), .int (iI (σ 8)), .int (iI (σ 9))])), (a 3, .inr (2, [.int (iI (σ 14)), .int (iI (σ 15)), .int (iI (σ 16)), .int (iI (σ 17))]))]) (va_runSN (As := [.int (iI x), .int (iI 1), .int (iI 1), .int (iI (σ 16)), .int (iI (σ 17))]) (rest := []) ⟨hx, hb, hml, hown, hts⟩ (c_X1_pack l D H.size x 1 1 (σ 16) (σ 17)) (⟨va_cnB 5 hts gX4_statusCell_X1_pack_n255 rfl rfl rfl (hN (.methodLinkNest RX4 255 yX1_pack "ZScreens") (by decide +kernel)) kinitialized_RX1 (by decide +kernel) ⟨by rw [hRf]; exact Nat.le_of_ble_eq_true rfl, by rw [hRl]; exact Nat.le_of_ble_eq_true rfl⟩, kstatic_yX1_pack, trivial⟩) (z_preS hP hD hK hN [] (by decide) rfl rfl [] rfl) rfl rfl hl.1 rfl (lv_room (Nat.le_of_ble_eq_true rfl)) dX4_statusCell_17 ⟨by rw [hRc]; exact Nat.le_of_ble_eq_true rfl, by rw [hRs]; exact Nat.le_of_ble_eq_true rfl⟩) hP hD hS hA [] [0, 1] rfl rfl (by decide) (by decide) [0, 1] (by decide) (fun _ => rfl) (fun r _ H locs hw hP hD hS => ?_)
  subst hw
  have hP : va_P D vwCl [(a 0, .inr (5, [.int (iI (σ 0)), .ref (a 1), .ref (a 3), .ref (a 4), .ref (a 5), .ref (a 6), .ref (a 8), .ref (a 10), .int (iI (σ 1)), .int (iI (σ 2)), .int (iI (σ 3)), .int (iI (σ 4)), .int (iI (σ 5)), .int (iI (σ 6)), .int (iI (σ 7)), .int (iI (σ 8)), .int (iI (σ 9))])), (a 3, .inr (2, [.int (iI (σ 14)), .int (iI (σ 15)), .int (iI (σ 16)), .int (iI (σ 17))]))] H := hP
  have hD : va_D A [(a 0, .inr (5, [.int (iI (σ 0)), .ref (a 1), .ref (a 3), .ref (a 4), .ref (a 5), .ref (a 6), .ref (a 8), .ref (a 10), .int (iI (σ 1)), .int (iI (σ 2)), .int (iI (σ 3)), .int (iI (σ 4)), .int (iI (σ 5)), .int (iI (σ 6)), .int (iI (σ 7)), .int (iI (σ 8)), .int (iI (σ 9))])), (a 3, .inr (2, [.int (iI (σ 14)), .int (iI (σ 15)), .int (iI (σ 16)), .int (iI (σ 17))]))] := hD
  exact K H locs _ () _ ls 0 0 (by omega) (by omega) rfl rfl hP hD hS dX4_statusCell_20

abbrev rmX4_areNumbersOf : Room := { frames := 1, cells := 0, slots := 0, locals := 22 }
set_option maxHeartbeats 4000000 in
set_option maxRecDepth 100000 in
theorem c_X4_areNumbersOf (l : Launch) (D : va_G) (sz : Nat) (k x y : Int) (h : (-2147483648 ≤ k ∧ k ≤ 2147483647) ∧ (-2147483648 ≤ x ∧ x ≤ 2147483647) ∧ (-2147483648 ≤ y ∧ y ≤ 2147483647)) : zMi l yX4_areNumbersOf wsX4_areNumbersOf rmX4_areNumbersOf D [] [.int (iI k), .int (iI x), .int (iI y)] [] sz (S := Unit) (fun r _ => r = iI (if ((k = 0 ∧ (-9999 ≤ x ∧ x ≤ 9999) ∧ -9999 ≤ y ∧ y ≤ 9999) ∨ (¬ k = 0 ∧ (0 ≤ x ∧ x ≤ 23) ∧ 0 ≤ y ∧ y ≤ 59)) then 1 else 0)) (fun _ => []) 0 0 := by
  refine z_starti (cc := cX4_areNumbersOf) (maxL := 3) (ty := .boolean) (own := RX4) (nm := "areNumbersOf") (by decide) rfl rfl rfl (Nat.le_of_ble_eq_true rfl) ?_
  intro p e R s m args below meth c A Q ls H locs hBd hP hD hS hl K
  obtain ⟨hx, hb, hml, hown, hts, ⟨hRf, hRl, hRc, hRs⟩, hmn, hK, hN, hA⟩ := hBd
  have hl : lv_has ls 3 [(0, .int (iI k)), (1, .int (iI x)), (2, .int (iI y))] := hl
  have hP : va_P D vwCl [] H := hP
  have hD : va_D A [] := hD
  refine lv_iload_n hx hb dX4_areNumbersOf_0 rfl (lv_at hl 0 rfl) ?_
  refine z_if_ne hx hb 36 (by omega) dX4_areNumbersOf_1 (by decide) (fun c1 => ?_) (fun c1 => ?_)
  · skip
    refine lv_iload_n hx hb dX4_areNumbersOf_36 rfl (lv_at hl 1 rfl) ?_
    refine lv_iconst (v := iI 0) hx hb dX4_areNumbersOf_37 rfl ?_
    refine lv_bipush (v := iI 23) hx hb dX4_areNumbersOf_38 (by decide) ?_
    refine z_calli (w2 := fun _ => []) (wc := []) (wr := []) (va_runS (As := [.int (iI x), .int (iI 0), .int (iI 23)]) (rest := []) ⟨hx, hb, hml, hown, hts⟩ (c_X4_isOutside l D H.size x 0 23 (by omega)) (va_cwS 3 hts gX4_areNumbersOf_X4_isOutside rfl rfl rfl (by decide +kernel) ⟨by rw [hRf]; exact Nat.le_of_ble_eq_true rfl, by rw [hRl]; exact Nat.le_of_ble_eq_true rfl⟩) (z_preS hP hD hK hN [] (by decide) rfl rfl [] rfl) rfl rfl hl.1 rfl (lv_room (Nat.le_of_ble_eq_true rfl)) dX4_areNumbersOf_40 ⟨by rw [hRc]; exact Nat.le_of_ble_eq_true rfl, by rw [hRs]; exact Nat.le_of_ble_eq_true rfl⟩) hP hD hS hA [] [] rfl rfl (by decide) (by decide) [] (by decide) (fun _ => rfl) (fun r _ H locs hw hP hD hS => ?_)
    subst hw
    have hP : va_P D vwCl [] H := hP
    have hD : va_D A [] := hD
    refine z_if_ne hx hb 60 (by omega) dX4_areNumbersOf_43 (by decide) (fun c43 => ?_) (fun c43 => ?_)
    · skip
      refine lv_iconst (v := iI 0) hx hb dX4_areNumbersOf_60 rfl ?_
      exact K H locs _ () _ ls 0 0 (by omega) (by omega) (by decide) (by rw [if_neg (by omega)]) hP hD hS dX4_areNumbersOf_61
    · skip
      refine lv_iload_n hx hb dX4_areNumbersOf_46 rfl (lv_at hl 2 rfl) ?_
      refine lv_iconst (v := iI 0) hx hb dX4_areNumbersOf_47 rfl ?_
      refine lv_bipush (v := iI 59) hx hb dX4_areNumbersOf_48 (by decide) ?_
      refine z_calli (w2 := fun _ => []) (wc := []) (wr := []) (va_runS (As := [.int (iI y), .int (iI 0), .int (iI 59)]) (rest := []) ⟨hx, hb, hml, hown, hts⟩ (c_X4_isOutside l D H.size y 0 59 (by omega)) (va_cwS 3 hts gX4_areNumbersOf_X4_isOutside rfl rfl rfl (by decide +kernel) ⟨by rw [hRf]; exact Nat.le_of_ble_eq_true rfl, by rw [hRl]; exact Nat.le_of_ble_eq_true rfl⟩) (z_preS hP hD hK hN [] (by decide) rfl rfl [] rfl) rfl rfl hl.1 rfl (lv_room (Nat.le_of_ble_eq_true rfl)) dX4_areNumbersOf_50 ⟨by rw [hRc]; exact Nat.le_of_ble_eq_true rfl, by rw [hRs]; exact Nat.le_of_ble_eq_true rfl⟩) hP hD hS hA [] [] rfl rfl (by decide) (by decide) [] (by decide) (fun _ => rfl) (fun r _ H locs hw hP hD hS => ?_)
      subst hw
      have hP : va_P D vwCl [] H := hP
      have hD : va_D A [] := hD
      refine z_if_ne hx hb 60 (by omega) dX4_areNumbersOf_53 (by decide) (fun c53 => ?_) (fun c53 => ?_)
      · skip
        refine lv_iconst (v := iI 0) hx hb dX4_areNumbersOf_60 rfl ?_
        exact K H locs _ () _ ls 0 0 (by omega) (by omega) (by decide) (by rw [if_neg (by omega)]) hP hD hS dX4_areNumbersOf_61
      · skip
        refine lv_iconst (v := iI 1) hx hb dX4_areNumbersOf_56 rfl ?_
        refine lv_goto (tgt := 61) hx hb dX4_areNumbersOf_57 (by decide) ?_
        exact K H locs _ () _ ls 0 0 (by omega) (by omega) (by decide) (by rw [if_pos (by omega)]) hP hD hS dX4_areNumbersOf_61
  · skip
    refine lv_iload_n hx hb dX4_areNumbersOf_4 rfl (lv_at hl 1 rfl) ?_
    refine lv_sipush (v := iI (-9999)) hx hb dX4_areNumbersOf_5 (by decide) ?_
    refine lv_sipush (v := iI 9999) hx hb dX4_areNumbersOf_8 (by decide) ?_
    refine z_calli (w2 := fun _ => []) (wc := []) (wr := []) (va_runS (As := [.int (iI x), .int (iI ((-9999))), .int (iI 9999)]) (rest := []) ⟨hx, hb, hml, hown, hts⟩ (c_X4_isOutside l D H.size x ((-9999)) 9999 (by omega)) (va_cwS 3 hts gX4_areNumbersOf_X4_isOutside rfl rfl rfl (by decide +kernel) ⟨by rw [hRf]; exact Nat.le_of_ble_eq_true rfl, by rw [hRl]; exact Nat.le_of_ble_eq_true rfl⟩) (z_preS hP hD hK hN [] (by decide) rfl rfl [] rfl) rfl rfl hl.1 rfl (lv_room (Nat.le_of_ble_eq_true rfl)) dX4_areNumbersOf_11 ⟨by rw [hRc]; exact Nat.le_of_ble_eq_true rfl, by rw [hRs]; exact Nat.le_of_ble_eq_true rfl⟩) hP hD hS hA [] [] rfl rfl (by decide) (by decide) [] (by decide) (fun _ => rfl) (fun r _ H locs hw hP hD hS => ?_)
    subst hw
    have hP : va_P D vwCl [] H := hP
    have hD : va_D A [] := hD
    refine z_if_ne hx hb 34 (by omega) dX4_areNumbersOf_14 (by decide) (fun c14 => ?_) (fun c14 => ?_)
    · skip
      refine lv_iconst (v := iI 0) hx hb dX4_areNumbersOf_34 rfl ?_
      exact K H locs _ () _ ls 0 0 (by omega) (by omega) (by decide) (by rw [if_neg (by omega)]) hP hD hS dX4_areNumbersOf_35
    · skip
      refine lv_iload_n hx hb dX4_areNumbersOf_17 rfl (lv_at hl 2 rfl) ?_
      refine lv_sipush (v := iI (-9999)) hx hb dX4_areNumbersOf_18 (by decide) ?_
      refine lv_sipush (v := iI 9999) hx hb dX4_areNumbersOf_21 (by decide) ?_
      refine z_calli (w2 := fun _ => []) (wc := []) (wr := []) (va_runS (As := [.int (iI y), .int (iI ((-9999))), .int (iI 9999)]) (rest := []) ⟨hx, hb, hml, hown, hts⟩ (c_X4_isOutside l D H.size y ((-9999)) 9999 (by omega)) (va_cwS 3 hts gX4_areNumbersOf_X4_isOutside rfl rfl rfl (by decide +kernel) ⟨by rw [hRf]; exact Nat.le_of_ble_eq_true rfl, by rw [hRl]; exact Nat.le_of_ble_eq_true rfl⟩) (z_preS hP hD hK hN [] (by decide) rfl rfl [] rfl) rfl rfl hl.1 rfl (lv_room (Nat.le_of_ble_eq_true rfl)) dX4_areNumbersOf_24 ⟨by rw [hRc]; exact Nat.le_of_ble_eq_true rfl, by rw [hRs]; exact Nat.le_of_ble_eq_true rfl⟩) hP hD hS hA [] [] rfl rfl (by decide) (by decide) [] (by decide) (fun _ => rfl) (fun r _ H locs hw hP hD hS => ?_)
      subst hw
      have hP : va_P D vwCl [] H := hP
      have hD : va_D A [] := hD
      refine z_if_ne hx hb 34 (by omega) dX4_areNumbersOf_27 (by decide) (fun c27 => ?_) (fun c27 => ?_)
      · skip
        refine lv_iconst (v := iI 0) hx hb dX4_areNumbersOf_34 rfl ?_
        exact K H locs _ () _ ls 0 0 (by omega) (by omega) (by decide) (by rw [if_neg (by omega)]) hP hD hS dX4_areNumbersOf_35
      · skip
        refine lv_iconst (v := iI 1) hx hb dX4_areNumbersOf_30 rfl ?_
        refine lv_goto (tgt := 35) hx hb dX4_areNumbersOf_31 (by decide) ?_
        exact K H locs _ () _ ls 0 0 (by omega) (by omega) (by decide) (by rw [if_pos (by omega)]) hP hD hS dX4_areNumbersOf_35

def gtl (G : ZG) (s : Nat → ZK) (n : Int) : ZG := fun l' c' => if l' = 0 ∧ 1 ≤ (c' : Int) ∧ (c' : Int) < n + 1 then s c' else G l' c'
theorem gtl_step {G : ZG} {s : Nat → ZK} {n : Int} (h : 0 ≤ n) : gset (gtl G s n) 0 (n + 1) (s (n + 1).toNat) = gtl G s (n + 1) := by
  funext l' c'
  unfold gset gtl
  by_cases e : (l' : Int) = 0 ∧ (c' : Int) = n + 1
  · rw [if_pos e, if_pos (by omega), show (n + 1).toNat = c' by omega]
  · rw [if_neg e]
    by_cases e2 : l' = 0 ∧ 1 ≤ (c' : Int) ∧ (c' : Int) < n + 1
    · rw [if_pos e2, if_pos (by omega)]
    · rw [if_neg e2, if_neg (by omega)]
theorem gtl_nil {G : ZG} {s : Nat → ZK} {n : Int} (h : n ≤ 0) : gtl G s n = G := by
  funext l' c'
  exact if_neg (by omega)

abbrev rmX4_drawTitle : Room := { frames := 2, cells := 0, slots := 0, locals := 47 }
set_option maxHeartbeats 4000000 in
set_option maxRecDepth 100000 in
theorem c_X4_drawTitle (l : Launch) (D : va_G) (sz : Nat) (cA : ClassId) (a : Nat → Nat) (σ : Nat → Int) (f ft : Nat → Int32) (G : ZG) (nm : Nat → Int) (la : Int) (h : (1 ≤ σ 0 ∧ σ 0 ≤ 8) ∧ (0 ≤ σ 19 ∧ σ 19 ≤ 60) ∧ (1 ≤ σ 1 ∧ σ 1 ≤ 40) ∧ (8 ≤ σ 2 ∧ σ 2 ≤ 80) ∧ -100 ≤ la ∧ la ≤ 80) (hM : ∀ i : Nat, (i : Int) < σ 19 → ft i = iI (nm i)) (hG : zRG encK f G (σ 1) (σ 2)) : zMv l yX4_drawTitle wsX4_drawTitle rmX4_drawTitle D [(cA, .int)] [.ref (a 0), .int (iI la)] [(a 0, .inr (5, [.int (iI (σ 0)), .ref (a 1), .ref (a 3), .ref (a 4), .ref (a 5), .ref (a 6), .ref (a 8), .ref (a 10), .int (iI (σ 1)), .int (iI (σ 2)), .int (iI (σ 3)), .int (iI (σ 4)), .int (iI (σ 5)), .int (iI (σ 6)), .int (iI (σ 7)), .int (iI (σ 8)), .int (iI (σ 9))])), (a 1, .inr (1, [.ref (a 2)])), (a 2, .inl (cA, 3200, .inl f)), (a 3, .inr (2, [.int (iI (σ 14)), .int (iI (σ 15)), .int (iI (σ 16)), .int (iI (σ 17))])), (a 8, .inr (3, [.ref (a 9), .int (iI (σ 19))])), (a 9, .inl (cA, 60, .inl ft))] sz (S := (Nat → Int32)) (fun u => zRG encK u (gtl G (fun q => (nm (q - 1), 1, 1, σ 16, σ 17)) (max 0 (min (σ 19) (la - 1)))) (σ 1) (σ 2)) (fun u => [(a 0, .inr (5, [.int (iI (σ 0)), .ref (a 1), .ref (a 3), .ref (a 4), .ref (a 5), .ref (a 6), .ref (a 8), .ref (a 10), .int (iI (σ 1)), .int (iI (σ 2)), .int (iI (σ 3)), .int (iI (σ 4)), .int (iI (σ 5)), .int (iI (σ 6)), .int (iI (σ 7)), .int (iI (σ 8)), .int (iI (σ 9))])), (a 1, .inr (1, [.ref (a 2)])), (a 2, .inl (cA, 3200, .inl u)), (a 3, .inr (2, [.int (iI (σ 14)), .int (iI (σ 15)), .int (iI (σ 16)), .int (iI (σ 17))])), (a 8, .inr (3, [.ref (a 9), .int (iI (σ 19))])), (a 9, .inl (cA, 60, .inl ft))]) 0 0 := by
  refine z_startv (cc := cX4_drawTitle) (maxL := 3) (own := RX4) (nm := "drawTitle") (by decide) rfl rfl rfl (Nat.le_of_ble_eq_true rfl) ?_
  intro p e R s m args below meth c A Q ls H locs hBd hP hD hS hl K
  obtain ⟨hx, hb, hml, hown, hts, ⟨hRf, hRl, hRc, hRs⟩, hmn, hK, hN, hA⟩ := hBd
  have hl : lv_has ls 3 [(0, .ref (a 0)), (1, .int (iI la))] := hl
  have inX2 : ∀ w ∈ wsX20, w ∈ wsX4_drawTitle := by decide +kernel
  have inX4 : ∀ w ∈ wsX40, w ∈ wsX4_drawTitle := by decide +kernel
  have kfieldLink_RX4_35_ZScreens_title_LZScreens_Pile := hts (.fieldLink RX4 35 "ZScreens" "title" "LZScreens$Pile;") (by decide +kernel)
  have kfieldLink_RX4_84_ZScreens_grid_LZScreens_Grid := hts (.fieldLink RX4 84 "ZScreens" "grid" "LZScreens$Grid;") (by decide +kernel)
  have kinitialized_RX0 := hts (.initialized RX0) (by decide +kernel)
  have kinitialized_RX2 := hts (.initialized RX2) (by decide +kernel)
  have kinstanceMethod_yX0_set := hts (.instanceMethod yX0_set) (by decide +kernel)
  have kinstanceMethod_yX2_get := hts (.instanceMethod yX2_get) (by decide +kernel)
  have kselects_RX0_yX0_set_yX0_set := hts (.selects RX0 yX0_set yX0_set) (by decide +kernel)
  have kselects_RX2_yX2_get_yX2_get := hts (.selects RX2 yX2_get yX2_get) (by decide +kernel)
  have hP : va_P D vwCl [(a 0, .inr (5, [.int (iI (σ 0)), .ref (a 1), .ref (a 3), .ref (a 4), .ref (a 5), .ref (a 6), .ref (a 8), .ref (a 10), .int (iI (σ 1)), .int (iI (σ 2)), .int (iI (σ 3)), .int (iI (σ 4)), .int (iI (σ 5)), .int (iI (σ 6)), .int (iI (σ 7)), .int (iI (σ 8)), .int (iI (σ 9))])), (a 1, .inr (1, [.ref (a 2)])), (a 2, .inl (cA, 3200, .inl f)), (a 3, .inr (2, [.int (iI (σ 14)), .int (iI (σ 15)), .int (iI (σ 16)), .int (iI (σ 17))])), (a 8, .inr (3, [.ref (a 9), .int (iI (σ 19))])), (a 9, .inl (cA, 60, .inl ft))] H := hP
  have hD : va_D A [(a 0, .inr (5, [.int (iI (σ 0)), .ref (a 1), .ref (a 3), .ref (a 4), .ref (a 5), .ref (a 6), .ref (a 8), .ref (a 10), .int (iI (σ 1)), .int (iI (σ 2)), .int (iI (σ 3)), .int (iI (σ 4)), .int (iI (σ 5)), .int (iI (σ 6)), .int (iI (σ 7)), .int (iI (σ 8)), .int (iI (σ 9))])), (a 1, .inr (1, [.ref (a 2)])), (a 2, .inl (cA, 3200, .inl f)), (a 3, .inr (2, [.int (iI (σ 14)), .int (iI (σ 15)), .int (iI (σ 16)), .int (iI (σ 17))])), (a 8, .inr (3, [.ref (a 9), .int (iI (σ 19))])), (a 9, .inl (cA, 60, .inl ft))] := hD
  refine lv_iconst (v := iI 0) hx hb dX4_drawTitle_0 rfl ?_
  refine lv_istore_n (lv' := [(2, .int (iI 0)), (0, .ref (a 0)), (1, .int (iI la))]) hx hb dX4_drawTitle_1 rfl hl (by decide) rfl (fun ls hl => ?_)
  have L2 : ∀ (fuel : Nat) (j : Int) (g : Nat → Int32) (H : Heap) (locs : List Loc) (ls : Array Slot), (0 ≤ j ∧ j ≤ max 0 (min (σ 19) (la - 1))) → zRG encK g (gtl G (fun q => (nm (q - 1), 1, 1, σ 16, σ 17)) j) (σ 1) (σ 2) → (60 - j).toNat < fuel → va_P D vwCl [(a 0, .inr (5, [.int (iI (σ 0)), .ref (a 1), .ref (a 3), .ref (a 4), .ref (a 5), .ref (a 6), .ref (a 8), .ref (a 10), .int (iI (σ 1)), .int (iI (σ 2)), .int (iI (σ 3)), .int (iI (σ 4)), .int (iI (σ 5)), .int (iI (σ 6)), .int (iI (σ 7)), .int (iI (σ 8)), .int (iI (σ 9))])), (a 1, .inr (1, [.ref (a 2)])), (a 2, .inl (cA, 3200, .inl g)), (a 3, .inr (2, [.int (iI (σ 14)), .int (iI (σ 15)), .int (iI (σ 16)), .int (iI (σ 17))])), (a 8, .inr (3, [.ref (a 9), .int (iI (σ 19))])), (a 9, .inl (cA, 60, .inl ft))] H → va_D A [(a 0, .inr (5, [.int (iI (σ 0)), .ref (a 1), .ref (a 3), .ref (a 4), .ref (a 5), .ref (a 6), .ref (a 8), .ref (a 10), .int (iI (σ 1)), .int (iI (σ 2)), .int (iI (σ 3)), .int (iI (σ 4)), .int (iI (σ 5)), .int (iI (σ 6)), .int (iI (σ 7)), .int (iI (σ 8)), .int (iI (σ 9))])), (a 1, .inr (1, [.ref (a 2)])), (a 2, .inl (cA, 3200, .inl g)), (a 3, .inr (2, [.int (iI (σ 14)), .int (iI (σ 15)), .int (iI (σ 16)), .int (iI (σ 17))])), (a 8, .inr (3, [.ref (a 9), .int (iI (σ 19))])), (a 9, .inl (cA, 60, .inl ft))] → va_S A s.heap H locs → lv_has ls 3 [(2, .int (iI j)), (0, .ref (a 0)), (1, .int (iI la))] → W p l e R s m args below meth c H locs 0 0 Q (F0 m 2 ls []) := by
    intro fuel
    induction fuel with
    | zero => intro j g H locs ls hj hg hfu; exact absurd hfu (Nat.not_lt_zero _)
    | succ fuel ih2 =>
      intro j g H locs ls hj hg hfu hP hD hS hl
      refine lv_iload_n hx hb dX4_drawTitle_2 rfl (lv_at hl 0 rfl) ?_
      refine lv_aload_n hx hb dX4_drawTitle_3 rfl (lv_at hl 1 rfl) ?_
      refine va_get (D := D) (ci := 5) (v := .ref (a 8)) (C := RX4) (T := TX4) (N := 17) hx hb hts inX4 hown hK hP 0 rfl rfl 6 (by decide) kfieldLink_RX4_35_ZScreens_title_LZScreens_Pile (fun _ h9 => h9) rfl dX4_drawTitle_4 ?_
      refine va_getN (D := D) (ci := 3) (v := .int (iI (σ 19))) (C := RX2) (T := TX2) (N := 2) hx hb hts inX2 hown hK hP 4 rfl rfl 1 (by decide) (hN.use (.fieldLinkNest RX4 163 "ZScreens$Pile" "length" "I" "ZScreens") (by decide +kernel)) (fun _ h9 => h9) rfl dX4_drawTitle_7 ?_
      refine z_icmp_ge hx hb 49 (by omega) dX4_drawTitle_10 (by decide) (fun c10 => ?_) (fun c10 => ?_)
      · skip
        exact K H locs g _ ls 0 0 (by omega) (by omega) (by rw [show max 0 (min (σ 19) (la - 1)) = j by omega]; exact hg) hP hD hS dX4_drawTitle_49
      · skip
        refine lv_iload_n hx hb dX4_drawTitle_13 rfl (lv_at hl 0 rfl) ?_
        refine lv_iconst (v := iI 2) hx hb dX4_drawTitle_14 rfl ?_
        refine z_iadd hx hb dX4_drawTitle_15 ?_
        refine lv_iload_n hx hb dX4_drawTitle_16 rfl (lv_at hl 2 rfl) ?_
        refine z_icmp_gt hx hb 49 (by omega) dX4_drawTitle_17 (by decide) (fun c17 => ?_) (fun c17 => ?_)
        · skip
          exact K H locs g _ ls 0 0 (by omega) (by omega) (by rw [show max 0 (min (σ 19) (la - 1)) = j by omega]; exact hg) hP hD hS dX4_drawTitle_49
        · skip
          refine lv_aload_n hx hb dX4_drawTitle_20 rfl (lv_at hl 1 rfl) ?_
          refine va_get (D := D) (ci := 5) (v := .ref (a 1)) (C := RX4) (T := TX4) (N := 17) hx hb hts inX4 hown hK hP 0 rfl rfl 1 (by decide) kfieldLink_RX4_84_ZScreens_grid_LZScreens_Grid (fun _ h9 => h9) rfl dX4_drawTitle_21 ?_
          refine lv_iconst (v := iI 1) hx hb dX4_drawTitle_24 rfl ?_
          refine lv_iload_n hx hb dX4_drawTitle_25 rfl (lv_at hl 0 rfl) ?_
          refine lv_iconst (v := iI 2) hx hb dX4_drawTitle_26 rfl ?_
          refine z_iadd hx hb dX4_drawTitle_27 ?_
          refine lv_aload_n hx hb dX4_drawTitle_28 rfl (lv_at hl 1 rfl) ?_
          refine lv_aload_n hx hb dX4_drawTitle_29 rfl (lv_at hl 1 rfl) ?_
          refine va_get (D := D) (ci := 5) (v := .ref (a 8)) (C := RX4) (T := TX4) (N := 17) hx hb hts inX4 hown hK hP 0 rfl rfl 6 (by decide) kfieldLink_RX4_35_ZScreens_title_LZScreens_Pile (fun _ h9 => h9) rfl dX4_drawTitle_30 ?_
          refine lv_iload_n hx hb dX4_drawTitle_33 rfl (lv_at hl 0 rfl) ?_
          refine z_calli (w2 := fun _ => [(a 0, .inr (5, [.int (iI (σ 0)), .ref (a 1), .ref (a 3), .ref (a 4), .ref (a 5), .ref (a 6), .ref (a 8), .ref (a 10), .int (iI (σ 1)), .int (iI (σ 2)), .int (iI (σ 3)), .int (iI (σ 4)), .int (iI (σ 5)), .int (iI (σ 6)), .int (iI (σ 7)), .int (iI (σ 8)), .int (iI (σ 9))])), (a 1, .inr (1, [.ref (a 2)])), (a 2, .inl (cA, 3200, .inl g)), (a 3, .inr (2, [.int (iI (σ 14)), .int (iI (σ 15)), .int (iI (σ 16)), .int (iI (σ 17))])), (a 8, .inr (3, [.ref (a 9), .int (iI (σ 19))])), (a 9, .inl (cA, 60, .inl ft))]) (wc := [(a 8, .inr (3, [.ref (a 9), .int (iI (σ 19))])), (a 9, .inl (cA, 60, .inl ft))]) (wr := [(a 0, .inr (5, [.int (iI (σ 0)), .ref (a 1), .ref (a 3), .ref (a 4), .ref (a 5), .ref (a 6), .ref (a 8), .ref (a 10), .int (iI (σ 1)), .int (iI (σ 2)), .int (iI (σ 3)), .int (iI (σ 4)), .int (iI (σ 5)), .int (iI (σ 6)), .int (iI (σ 7)), .int (iI (σ 8)), .int (iI (σ 9))])), (a 1, .inr (1, [.ref (a 2)])), (a 2, .inl (cA, 3200, .inl g)), (a 3, .inr (2, [.int (iI (σ 14)), .int (iI (σ 15)), .int (iI (σ 16)), .int (iI (σ 17))]))]) (va_runVN (As := [.int (iI j)]) (rest := [.ref (a 0), .int (iI (j + 2)), .int (iI 1), .ref (a 1)]) ⟨hx, hb, hml, hown, hts⟩ (c_X2_get l D H.size cA (a 8) (a 9) 60 ft (σ 19) j (by omega)) (⟨va_cnB 1 hts gX4_drawTitle_X2_get_n199 rfl rfl rfl (hN (.methodLinkNest RX4 199 yX2_get "ZScreens") (by decide +kernel)) kinitialized_RX2 (by decide +kernel) ⟨by rw [hRf]; exact Nat.le_of_ble_eq_true rfl, by rw [hRl]; exact Nat.le_of_ble_eq_true rfl⟩, kinstanceMethod_yX2_get, kselects_RX2_yX2_get_yX2_get⟩) (z_preV hP hD hK hN [4, 5] (by decide) rfl rfl [0] rfl (q0 := 0) rfl (ci := 3) rfl) rfl rfl hl.1 rfl (lv_room (Nat.le_of_ble_eq_true rfl)) dX4_drawTitle_34 ⟨by rw [hRc]; exact Nat.le_of_ble_eq_true rfl, by rw [hRs]; exact Nat.le_of_ble_eq_true rfl⟩) hP hD hS hA [4, 5] [0, 1, 2, 3] rfl rfl (by decide) (by decide) [0, 1, 2, 3, 4, 5] (by decide) (fun _ => rfl) (fun r _ H locs hw hP hD hS => ?_)
          rw [hM _ (by omega)] at hw
          subst hw
          have hP : va_P D vwCl [(a 0, .inr (5, [.int (iI (σ 0)), .ref (a 1), .ref (a 3), .ref (a 4), .ref (a 5), .ref (a 6), .ref (a 8), .ref (a 10), .int (iI (σ 1)), .int (iI (σ 2)), .int (iI (σ 3)), .int (iI (σ 4)), .int (iI (σ 5)), .int (iI (σ 6)), .int (iI (σ 7)), .int (iI (σ 8)), .int (iI (σ 9))])), (a 1, .inr (1, [.ref (a 2)])), (a 2, .inl (cA, 3200, .inl g)), (a 3, .inr (2, [.int (iI (σ 14)), .int (iI (σ 15)), .int (iI (σ 16)), .int (iI (σ 17))])), (a 8, .inr (3, [.ref (a 9), .int (iI (σ 19))])), (a 9, .inl (cA, 60, .inl ft))] H := hP
          have hD : va_D A [(a 0, .inr (5, [.int (iI (σ 0)), .ref (a 1), .ref (a 3), .ref (a 4), .ref (a 5), .ref (a 6), .ref (a 8), .ref (a 10), .int (iI (σ 1)), .int (iI (σ 2)), .int (iI (σ 3)), .int (iI (σ 4)), .int (iI (σ 5)), .int (iI (σ 6)), .int (iI (σ 7)), .int (iI (σ 8)), .int (iI (σ 9))])), (a 1, .inr (1, [.ref (a 2)])), (a 2, .inl (cA, 3200, .inl g)), (a 3, .inr (2, [.int (iI (σ 14)), .int (iI (σ 15)), .int (iI (σ 16)), .int (iI (σ 17))])), (a 8, .inr (3, [.ref (a 9), .int (iI (σ 19))])), (a 9, .inl (cA, 60, .inl ft))] := hD
          refine z_calli (w2 := fun _ => [(a 0, .inr (5, [.int (iI (σ 0)), .ref (a 1), .ref (a 3), .ref (a 4), .ref (a 5), .ref (a 6), .ref (a 8), .ref (a 10), .int (iI (σ 1)), .int (iI (σ 2)), .int (iI (σ 3)), .int (iI (σ 4)), .int (iI (σ 5)), .int (iI (σ 6)), .int (iI (σ 7)), .int (iI (σ 8)), .int (iI (σ 9))])), (a 1, .inr (1, [.ref (a 2)])), (a 2, .inl (cA, 3200, .inl g)), (a 3, .inr (2, [.int (iI (σ 14)), .int (iI (σ 15)), .int (iI (σ 16)), .int (iI (σ 17))])), (a 8, .inr (3, [.ref (a 9), .int (iI (σ 19))])), (a 9, .inl (cA, 60, .inl ft))]) (wc := [(a 0, .inr (5, [.int (iI (σ 0)), .ref (a 1), .ref (a 3), .ref (a 4), .ref (a 5), .ref (a 6), .ref (a 8), .ref (a 10), .int (iI (σ 1)), .int (iI (σ 2)), .int (iI (σ 3)), .int (iI (σ 4)), .int (iI (σ 5)), .int (iI (σ 6)), .int (iI (σ 7)), .int (iI (σ 8)), .int (iI (σ 9))])), (a 3, .inr (2, [.int (iI (σ 14)), .int (iI (σ 15)), .int (iI (σ 16)), .int (iI (σ 17))]))]) (wr := [(a 1, .inr (1, [.ref (a 2)])), (a 2, .inl (cA, 3200, .inl g)), (a 8, .inr (3, [.ref (a 9), .int (iI (σ 19))])), (a 9, .inl (cA, 60, .inl ft))]) (va_runV (As := [.int (iI (nm (j).toNat))]) (rest := [.int (iI (j + 2)), .int (iI 1), .ref (a 1)]) ⟨hx, hb, hml, hown, hts⟩ (c_X4_statusCell l D H.size a σ (nm (j).toNat)) (cwV 1 hts gX4_drawTitle_X4_statusCell rfl rfl rfl (by decide +kernel) ⟨by rw [hRf]; exact Nat.le_of_ble_eq_true rfl, by rw [hRl]; exact Nat.le_of_ble_eq_true rfl⟩) (z_preV hP hD hK hN [0, 3] (by decide) rfl rfl [] rfl (q0 := 0) rfl (ci := 5) rfl) rfl rfl hl.1 rfl (lv_room (Nat.le_of_ble_eq_true rfl)) dX4_drawTitle_37 ⟨by rw [hRc]; exact Nat.le_of_ble_eq_true rfl, by rw [hRs]; exact Nat.le_of_ble_eq_true rfl⟩) hP hD hS hA [0, 3] [1, 2, 4, 5] rfl rfl (by decide) (by decide) [4, 0, 1, 5, 2, 3] (by decide) (fun _ => rfl) (fun r _ H locs hw hP hD hS => ?_)
          have hw : r = encC (nm (j).toNat) 1 1 (σ 16) (σ 17) := hw
          subst hw
          have hP : va_P D vwCl [(a 0, .inr (5, [.int (iI (σ 0)), .ref (a 1), .ref (a 3), .ref (a 4), .ref (a 5), .ref (a 6), .ref (a 8), .ref (a 10), .int (iI (σ 1)), .int (iI (σ 2)), .int (iI (σ 3)), .int (iI (σ 4)), .int (iI (σ 5)), .int (iI (σ 6)), .int (iI (σ 7)), .int (iI (σ 8)), .int (iI (σ 9))])), (a 1, .inr (1, [.ref (a 2)])), (a 2, .inl (cA, 3200, .inl g)), (a 3, .inr (2, [.int (iI (σ 14)), .int (iI (σ 15)), .int (iI (σ 16)), .int (iI (σ 17))])), (a 8, .inr (3, [.ref (a 9), .int (iI (σ 19))])), (a 9, .inl (cA, 60, .inl ft))] H := hP
          have hD : va_D A [(a 0, .inr (5, [.int (iI (σ 0)), .ref (a 1), .ref (a 3), .ref (a 4), .ref (a 5), .ref (a 6), .ref (a 8), .ref (a 10), .int (iI (σ 1)), .int (iI (σ 2)), .int (iI (σ 3)), .int (iI (σ 4)), .int (iI (σ 5)), .int (iI (σ 6)), .int (iI (σ 7)), .int (iI (σ 8)), .int (iI (σ 9))])), (a 1, .inr (1, [.ref (a 2)])), (a 2, .inl (cA, 3200, .inl g)), (a 3, .inr (2, [.int (iI (σ 14)), .int (iI (σ 15)), .int (iI (σ 16)), .int (iI (σ 17))])), (a 8, .inr (3, [.ref (a 9), .int (iI (σ 19))])), (a 9, .inl (cA, 60, .inl ft))] := hD
          refine z_callv (w2 := fun _ => [(a 0, .inr (5, [.int (iI (σ 0)), .ref (a 1), .ref (a 3), .ref (a 4), .ref (a 5), .ref (a 6), .ref (a 8), .ref (a 10), .int (iI (σ 1)), .int (iI (σ 2)), .int (iI (σ 3)), .int (iI (σ 4)), .int (iI (σ 5)), .int (iI (σ 6)), .int (iI (σ 7)), .int (iI (σ 8)), .int (iI (σ 9))])), (a 1, .inr (1, [.ref (a 2)])), (a 2, .inl (cA, 3200, .inl (upd g ((1 - 1) * 80 + (j + 2) - 1).toNat (encC (nm (j).toNat) 1 1 (σ 16) (σ 17))))), (a 3, .inr (2, [.int (iI (σ 14)), .int (iI (σ 15)), .int (iI (σ 16)), .int (iI (σ 17))])), (a 8, .inr (3, [.ref (a 9), .int (iI (σ 19))])), (a 9, .inl (cA, 60, .inl ft))]) (wc := [(a 1, .inr (1, [.ref (a 2)])), (a 2, .inl (cA, 3200, .inl g))]) (wr := [(a 0, .inr (5, [.int (iI (σ 0)), .ref (a 1), .ref (a 3), .ref (a 4), .ref (a 5), .ref (a 6), .ref (a 8), .ref (a 10), .int (iI (σ 1)), .int (iI (σ 2)), .int (iI (σ 3)), .int (iI (σ 4)), .int (iI (σ 5)), .int (iI (σ 6)), .int (iI (σ 7)), .int (iI (σ 8)), .int (iI (σ 9))])), (a 3, .inr (2, [.int (iI (σ 14)), .int (iI (σ 15)), .int (iI (σ 16)), .int (iI (σ 17))])), (a 8, .inr (3, [.ref (a 9), .int (iI (σ 19))])), (a 9, .inl (cA, 60, .inl ft))]) (va_runVN (As := [.int (iI 1), .int (iI (j + 2)), .int (encC (nm (j).toNat) 1 1 (σ 16) (σ 17))]) (rest := []) ⟨hx, hb, hml, hown, hts⟩ (c_X0_set l D H.size cA (a 1) (a 2) g 1 (j + 2) (encC (nm (j).toNat) 1 1 (σ 16) (σ 17)) (by omega)) (⟨va_cnB 3 hts gX4_drawTitle_X0_set_n189 rfl rfl rfl (hN (.methodLinkNest RX4 189 yX0_set "ZScreens") (by decide +kernel)) kinitialized_RX0 (by decide +kernel) ⟨by rw [hRf]; exact Nat.le_of_ble_eq_true rfl, by rw [hRl]; exact Nat.le_of_ble_eq_true rfl⟩, kinstanceMethod_yX0_set, kselects_RX0_yX0_set_yX0_set⟩) (z_preV hP hD hK hN [1, 2] (by decide) rfl rfl [0] rfl (q0 := 0) rfl (ci := 1) rfl) rfl rfl hl.1 rfl (lv_room (Nat.le_of_ble_eq_true rfl)) dX4_drawTitle_40 ⟨by rw [hRc]; exact Nat.le_of_ble_eq_true rfl, by rw [hRs]; exact Nat.le_of_ble_eq_true rfl⟩) hP hD hS hA [1, 2] [0, 3, 4, 5] rfl rfl (by decide) (by decide) [0, 4, 5, 1, 2, 3] (by decide) (fun _ => rfl) (fun _ H locs hw hP hD hS => ?_)
          have hP : va_P D vwCl [(a 0, .inr (5, [.int (iI (σ 0)), .ref (a 1), .ref (a 3), .ref (a 4), .ref (a 5), .ref (a 6), .ref (a 8), .ref (a 10), .int (iI (σ 1)), .int (iI (σ 2)), .int (iI (σ 3)), .int (iI (σ 4)), .int (iI (σ 5)), .int (iI (σ 6)), .int (iI (σ 7)), .int (iI (σ 8)), .int (iI (σ 9))])), (a 1, .inr (1, [.ref (a 2)])), (a 2, .inl (cA, 3200, .inl (upd g ((1 - 1) * 80 + (j + 2) - 1).toNat (encC (nm (j).toNat) 1 1 (σ 16) (σ 17))))), (a 3, .inr (2, [.int (iI (σ 14)), .int (iI (σ 15)), .int (iI (σ 16)), .int (iI (σ 17))])), (a 8, .inr (3, [.ref (a 9), .int (iI (σ 19))])), (a 9, .inl (cA, 60, .inl ft))] H := hP
          have hD : va_D A [(a 0, .inr (5, [.int (iI (σ 0)), .ref (a 1), .ref (a 3), .ref (a 4), .ref (a 5), .ref (a 6), .ref (a 8), .ref (a 10), .int (iI (σ 1)), .int (iI (σ 2)), .int (iI (σ 3)), .int (iI (σ 4)), .int (iI (σ 5)), .int (iI (σ 6)), .int (iI (σ 7)), .int (iI (σ 8)), .int (iI (σ 9))])), (a 1, .inr (1, [.ref (a 2)])), (a 2, .inl (cA, 3200, .inl (upd g ((1 - 1) * 80 + (j + 2) - 1).toNat (encC (nm (j).toNat) 1 1 (σ 16) (σ 17))))), (a 3, .inr (2, [.int (iI (σ 14)), .int (iI (σ 15)), .int (iI (σ 16)), .int (iI (σ 17))])), (a 8, .inr (3, [.ref (a 9), .int (iI (σ 19))])), (a 9, .inl (cA, 60, .inl ft))] := hD
          refine lv_iinc (v := iI (j + 1)) (lv' := [(2, .int (iI (j + 1))), (0, .ref (a 0)), (1, .int (iI la))]) hx hb dX4_drawTitle_43 hl (k := 0) rfl (iI_add _ _) (by decide) rfl (fun ls hl => ?_)
          refine lv_goto (tgt := 2) hx hb dX4_drawTitle_46 (by decide) ?_
          exact ih2 (j + 1) (upd g ((1 - 1) * 80 + (j + 2) - 1).toNat (encC (nm (j).toNat) 1 1 (σ 16) (σ 17))) _ _ _ (by omega) (by rw [← gtl_step (by omega), show (j + 1).toNat - 1 = j.toNat by omega]; exact rg_set hg (by omega) (nm j.toNat, 1, 1, σ 16, σ 17) (by omega) (by omega) (by omega)) (by omega) hP hD hS (lv_sub hl [0, 1, 2] rfl)
  exact L2 61 (0) (f) _ _ _ (by omega) (by rw [gtl_nil (by omega)]; exact hG) (by omega) hP hD hS (lv_sub hl [0, 1, 2] rfl)
