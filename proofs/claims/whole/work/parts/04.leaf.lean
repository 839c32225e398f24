/-! Arrays of ints filled, grids, pens, piles, cursors: the leaves -/
def zfill (f : Nat → Int32) (a b : Int) (v : Int32) : Nat → Int32 := fun k => if a ≤ (k : Int) ∧ (k : Int) < b then v else f k
theorem zfill_nil (f : Nat → Int32) {a b : Int} (v : Int32) (h : b ≤ a) : zfill f a b v = f := by
  funext k
  exact if_neg (by omega)
theorem zfill_step (f : Nat → Int32) {a i : Int} (v : Int32) (h : 0 ≤ a ∧ a ≤ i) : upd (zfill f a i v) i.toNat v = zfill f a (i + 1) v := by
  funext k
  by_cases hk : k = i.toNat
  · subst hk
    rw [pk_us]
    exact (if_pos (by omega)).symm
  · rw [pk_un hk]
    unfold zfill
    by_cases h2 : a ≤ (k : Int) ∧ (k : Int) < i
    · rw [if_pos h2, if_pos (by omega)]
    · rw [if_neg h2, if_neg (by omega)]
abbrev rmJ7_rangeCheck_23922 : Room := { frames := 0, cells := 0, slots := 0, locals := 0 }
set_option maxHeartbeats 4000000 in
set_option maxRecDepth 100000 in
theorem c_J7_rangeCheck_23922 (l : Launch) (D : va_G) (sz : Nat) (n a b : Int) (h : 0 ≤ a ∧ a ≤ b ∧ b ≤ n ∧ n ≤ 100000) : zMv l yJ7_rangeCheck_23922 wsJ7_rangeCheck_23922 rmJ7_rangeCheck_23922 D [] [.int (iI n), .int (iI a), .int (iI b)] [] sz (S := Unit) (fun _ => True) (fun _ => []) 0 0 := by
  refine z_startv (cc := cJ7_rangeCheck_23922) (maxL := 3) (own := RJ7) (nm := "rangeCheck") (by decide) rfl rfl rfl (Nat.le_of_ble_eq_true rfl) ?_
  intro p e R s m args below meth c A Q ls H locs hBd hP hD hS hl K
  obtain ⟨hx, hb, hml, hown, hts, ⟨hRf, hRl, hRc, hRs⟩, hmn, hK, hN, hA⟩ := hBd
  have hl : lv_has ls 3 [(0, .int (iI n)), (1, .int (iI a)), (2, .int (iI b))] := hl
  have hP : va_P D vwCl [] H := hP
  have hD : va_D A [] := hD
  refine lv_iload_n hx hb dJ7_rangeCheck_23922_0 rfl (lv_at hl 1 rfl) ?_
  refine lv_iload_n hx hb dJ7_rangeCheck_23922_1 rfl (lv_at hl 2 rfl) ?_
  refine z_icmp_le hx hb 46 (by omega) dJ7_rangeCheck_23922_2 (by decide) (fun c2 => ?_) (fun c2 => absurd c2 (by omega))
  refine lv_iload_n hx hb dJ7_rangeCheck_23922_46 rfl (lv_at hl 1 rfl) ?_
  refine z_if_ge hx hb 59 (by omega) dJ7_rangeCheck_23922_47 (by decide) (fun c47 => ?_) (fun c47 => absurd c47 (by omega))
  refine lv_iload_n hx hb dJ7_rangeCheck_23922_59 rfl (lv_at hl 2 rfl) ?_
  refine lv_iload_n hx hb dJ7_rangeCheck_23922_60 rfl (lv_at hl 0 rfl) ?_
  refine z_icmp_le hx hb 73 (by omega) dJ7_rangeCheck_23922_61 (by decide) (fun c61 => ?_) (fun c61 => absurd c61 (by omega))
  exact K H locs () _ ls 0 0 (by omega) (by omega) trivial hP hD hS dJ7_rangeCheck_23922_73

abbrev rmJ7_fill_fda19 : Room := { frames := 1, cells := 0, slots := 0, locals := 22 }
set_option maxHeartbeats 4000000 in
set_option maxRecDepth 100000 in
theorem c_J7_fill_fda19 (l : Launch) (D : va_G) (sz : Nat) (cA : ClassId) (h0 n : Nat) (f : Nat → Int32) (a b : Int) (v : Int32) (h : 0 ≤ a ∧ a ≤ b ∧ b ≤ (n : Int) ∧ n ≤ 100000) : zMv l yJ7_fill_fda19 wsJ7_fill_fda19 rmJ7_fill_fda19 D [(cA, .int)] [.ref h0, .int (iI a), .int (iI b), .int (v)] [(h0, .inl (cA, n, .inl f))] sz (S := Unit) (fun _ => True) (fun _ => [(h0, .inl (cA, n, .inl (zfill f a b v)))]) 0 0 := by
  refine z_startv (cc := cJ7_fill_fda19) (maxL := 5) (own := RJ7) (nm := "fill") (by decide) rfl rfl rfl (Nat.le_of_ble_eq_true rfl) ?_
  intro p e R s m args below meth c A Q ls H locs hBd hP hD hS hl K
  obtain ⟨hx, hb, hml, hown, hts, ⟨hRf, hRl, hRc, hRs⟩, hmn, hK, hN, hA⟩ := hBd
  have hl : lv_has ls 5 [(0, .ref h0), (1, .int (iI a)), (2, .int (iI b)), (3, .int (v))] := hl
  have hP : va_P D vwCl [(h0, .inl (cA, n, .inl f))] H := hP
  have hD : va_D A [(h0, .inl (cA, n, .inl f))] := hD
  refine lv_aload_n hx hb dJ7_fill_fda19_0 rfl (lv_at hl 0 rfl) ?_
  refine va_alen hx hb hK hP 0 0 rfl rfl (v := iI n) rfl dJ7_fill_fda19_1 ?_
  refine lv_iload_n hx hb dJ7_fill_fda19_2 rfl (lv_at hl 1 rfl) ?_
  refine lv_iload_n hx hb dJ7_fill_fda19_3 rfl (lv_at hl 2 rfl) ?_
  refine z_callv (w2 := fun _ => [(h0, .inl (cA, n, .inl f))]) (wc := []) (wr := [(h0, .inl (cA, n, .inl f))]) (va_runS (As := [.int (iI n), .int (iI a), .int (iI b)]) (rest := []) ⟨hx, hb, hml, hown, hts⟩ (c_J7_rangeCheck_23922 l D H.size n a b (by omega)) (va_cwS 3 hts gJ7_fill_fda19_J7_rangeCheck_23922 rfl rfl rfl (by decide +kernel) ⟨by rw [hRf]; exact Nat.le_of_ble_eq_true rfl, by rw [hRl]; exact Nat.le_of_ble_eq_true rfl⟩) (z_preS hP hD hK hN [] (by decide) rfl rfl [] rfl) rfl rfl hl.1 rfl (lv_room (Nat.le_of_ble_eq_true rfl)) dJ7_fill_fda19_4 ⟨by rw [hRc]; exact Nat.le_of_ble_eq_true rfl, by rw [hRs]; exact Nat.le_of_ble_eq_true rfl⟩) hP hD hS hA [] [0] rfl rfl (by decide) (by decide) [0] (by decide) (fun _ => rfl) (fun _ H locs hw hP hD hS => ?_)
  have hP : va_P D vwCl [(h0, .inl (cA, n, .inl f))] H := hP
  have hD : va_D A [(h0, .inl (cA, n, .inl f))] := hD
  refine lv_iload_n hx hb dJ7_fill_fda19_7 rfl (lv_at hl 1 rfl) ?_
  refine lv_istore (lv' := [(4, .int (iI a)), (0, .ref h0), (1, .int (iI a)), (2, .int (iI b)), (3, .int (v))]) hx hb dJ7_fill_fda19_8 hl (by decide) rfl (fun ls hl => ?_)
  have L10 : ∀ (fuel : Nat) (i : Int) (g : Nat → Int32) (H : Heap) (locs : List Loc) (ls : Array Slot), (a ≤ i ∧ i ≤ b) → g = zfill f a i v → (b - i).toNat < fuel → va_P D vwCl [(h0, .inl (cA, n, .inl g))] H → va_D A [(h0, .inl (cA, n, .inl g))] → va_S A s.heap H locs → lv_has ls 5 [(4, .int (iI i)), (0, .ref h0), (1, .int (iI a)), (2, .int (iI b)), (3, .int (v))] → W p l e R s m args below meth c H locs 0 0 Q (F0 m 10 ls []) := by
    intro fuel
    induction fuel with
    | zero => intro i g H locs ls hi hg hfu; exact absurd hfu (Nat.not_lt_zero _)
    | succ fuel ih =>
      intro i g H locs ls hi hg hfu hP hD hS hl
      refine lv_iload hx hb dJ7_fill_fda19_10 (lv_at hl 0 rfl) ?_
      refine lv_iload_n hx hb dJ7_fill_fda19_12 rfl (lv_at hl 3 rfl) ?_
      refine z_icmp_ge hx hb 27 (by omega) dJ7_fill_fda19_13 (by decide) (fun c13 => ?_) (fun c13 => ?_)
      · skip
        obtain rfl : i = b := by omega
        subst hg
        exact K H locs () _ ls 0 0 (by omega) (by omega) trivial hP hD hS dJ7_fill_fda19_27
      · skip
        refine lv_aload_n hx hb dJ7_fill_fda19_16 rfl (lv_at hl 1 rfl) ?_
        refine lv_iload hx hb dJ7_fill_fda19_17 (lv_at hl 0 rfl) ?_
        refine lv_iload_n hx hb dJ7_fill_fda19_19 rfl (lv_at hl 4 rfl) ?_
        refine z_iast hx hb hK hP hD hS 0 0 rfl rfl (by omega) dJ7_fill_fda19_20 (fun H locs hP hD hS => ?_)
        have hP : va_P D vwCl [(h0, .inl (cA, n, .inl (upd g (i).toNat v)))] H := hP
        have hD : va_D A [(h0, .inl (cA, n, .inl (upd g (i).toNat v)))] := hD
        refine lv_iinc (v := iI (i + 1)) (lv' := [(4, .int (iI (i + 1))), (0, .ref h0), (1, .int (iI a)), (2, .int (iI b)), (3, .int (v))]) hx hb dJ7_fill_fda19_21 hl (k := 0) rfl (iI_add _ _) (by decide) rfl (fun ls hl => ?_)
        refine lv_goto (tgt := 10) hx hb dJ7_fill_fda19_24 (by decide) ?_
        exact ih (i + 1) (upd g (i).toNat v) _ _ _ (by omega) (by rw [hg]; exact zfill_step f v (by omega)) (by omega) hP hD hS (lv_sub hl [0, 1, 2, 3, 4] rfl)
  exact L10 ((b - a).toNat + 1) (a) (f) _ _ _ (by omega) (zfill_nil f v (by omega)).symm (by omega) hP hD hS (lv_sub hl [0, 1, 2, 3, 4] rfl)

abbrev rmJ7_fill_53178 : Room := { frames := 0, cells := 0, slots := 0, locals := 0 }
set_option maxHeartbeats 4000000 in
set_option maxRecDepth 100000 in
theorem c_J7_fill_53178 (l : Launch) (D : va_G) (sz : Nat) (cA : ClassId) (h0 n : Nat) (f : Nat → Int32) (v : Int32) (h : n ≤ 100000) : zMv l yJ7_fill_53178 wsJ7_fill_53178 rmJ7_fill_53178 D [(cA, .int)] [.ref h0, .int (v)] [(h0, .inl (cA, n, .inl f))] sz (S := Unit) (fun _ => True) (fun _ => [(h0, .inl (cA, n, .inl (zfill f 0 n v)))]) 0 0 := by
  refine z_startv (cc := cJ7_fill_53178) (maxL := 4) (own := RJ7) (nm := "fill") (by decide) rfl rfl rfl (Nat.le_of_ble_eq_true rfl) ?_
  intro p e R s m args below meth c A Q ls H locs hBd hP hD hS hl K
  obtain ⟨hx, hb, hml, hown, hts, ⟨hRf, hRl, hRc, hRs⟩, hmn, hK, hN, hA⟩ := hBd
  have hl : lv_has ls 4 [(0, .ref h0), (1, .int (v))] := hl
  have hP : va_P D vwCl [(h0, .inl (cA, n, .inl f))] H := hP
  have hD : va_D A [(h0, .inl (cA, n, .inl f))] := hD
  refine lv_iconst (v := iI 0) hx hb dJ7_fill_53178_0 rfl ?_
  refine lv_istore_n (lv' := [(2, .int (iI 0)), (0, .ref h0), (1, .int (v))]) hx hb dJ7_fill_53178_1 rfl hl (by decide) rfl (fun ls hl => ?_)
  refine lv_aload_n hx hb dJ7_fill_53178_2 rfl (lv_at hl 1 rfl) ?_
  refine va_alen hx hb hK hP 0 0 rfl rfl (v := iI n) rfl dJ7_fill_53178_3 ?_
  refine lv_istore_n (lv' := [(3, .int (iI n)), (2, .int (iI 0)), (0, .ref h0), (1, .int (v))]) hx hb dJ7_fill_53178_4 rfl hl (by decide) rfl (fun ls hl => ?_)
  have L5 : ∀ (fuel : Nat) (i : Int) (g : Nat → Int32) (H : Heap) (locs : List Loc) (ls : Array Slot), (0 ≤ i ∧ i ≤ (n : Int)) → g = zfill f 0 i v → ((n : Int) - i).toNat < fuel → va_P D vwCl [(h0, .inl (cA, n, .inl g))] H → va_D A [(h0, .inl (cA, n, .inl g))] → va_S A s.heap H locs → lv_has ls 4 [(2, .int (iI i)), (0, .ref h0), (1, .int (v)), (3, .int (iI ((n : Int))))] → W p l e R s m args below meth c H locs 0 0 Q (F0 m 5 ls []) := by
    intro fuel
    induction fuel with
    | zero => intro i g H locs ls hi hg hfu; exact absurd hfu (Nat.not_lt_zero _)
    | succ fuel ih =>
      intro i g H locs ls hi hg hfu hP hD hS hl
      refine lv_iload_n hx hb dJ7_fill_53178_5 rfl (lv_at hl 0 rfl) ?_
      refine lv_iload_n hx hb dJ7_fill_53178_6 rfl (lv_at hl 3 rfl) ?_
      refine z_icmp_ge hx hb 20 (by omega) dJ7_fill_53178_7 (by decide) (fun c7 => ?_) (fun c7 => ?_)
      · skip
        obtain rfl : i = (n : Int) := by omega
        subst hg
        exact K H locs () _ ls 0 0 (by omega) (by omega) trivial hP hD hS dJ7_fill_53178_20
      · skip
        refine lv_aload_n hx hb dJ7_fill_53178_10 rfl (lv_at hl 1 rfl) ?_
        refine lv_iload_n hx hb dJ7_fill_53178_11 rfl (lv_at hl 0 rfl) ?_
        refine lv_iload_n hx hb dJ7_fill_53178_12 rfl (lv_at hl 2 rfl) ?_
        refine z_iast hx hb hK hP hD hS 0 0 rfl rfl (by omega) dJ7_fill_53178_13 (fun H locs hP hD hS => ?_)
        have hP : va_P D vwCl [(h0, .inl (cA, n, .inl (upd g (i).toNat v)))] H := hP
        have hD : va_D A [(h0, .inl (cA, n, .inl (upd g (i).toNat v)))] := hD
        refine lv_iinc (v := iI (i + 1)) (lv' := [(2, .int (iI (i + 1))), (0, .ref h0), (1, .int (v)), (3, .int (iI ((n : Int))))]) hx hb dJ7_fill_53178_14 hl (k := 0) rfl (iI_add _ _) (by decide) rfl (fun ls hl => ?_)
        refine lv_goto (tgt := 5) hx hb dJ7_fill_53178_17 (by decide) ?_
        exact ih (i + 1) (upd g (i).toNat v) _ _ _ (by omega) (by rw [hg]; exact zfill_step f v (by omega)) (by omega) hP hD hS (lv_sub hl [0, 1, 2, 3] rfl)
  exact L5 (n + 1) (0) (f) _ _ _ (by omega) (zfill_nil f v (by omega)).symm (by omega) hP hD hS (lv_sub hl [1, 2, 3, 0] rfl)

abbrev rmX0_isIn : Room := { frames := 0, cells := 0, slots := 0, locals := 0 }
set_option maxHeartbeats 4000000 in
set_option maxRecDepth 100000 in
theorem c_X0_isIn (l : Launch) (D : va_G) (sz : Nat) (a b : Int) (h : (-2147483648 ≤ a ∧ a ≤ 2147483647) ∧ (-2147483648 ≤ b ∧ b ≤ 2147483647)) : zMi l yX0_isIn wsX0_isIn rmX0_isIn D [] [.int (iI a), .int (iI b)] [] sz (S := Unit) (fun r _ => r = iI (if (1 ≤ a ∧ a ≤ 40) ∧ 1 ≤ b ∧ b ≤ 80 then 1 else 0)) (fun _ => []) 0 0 := by
  refine z_starti (cc := cX0_isIn) (maxL := 2) (ty := .boolean) (own := RX0) (nm := "isIn") (by decide) rfl rfl rfl (Nat.le_of_ble_eq_true rfl) ?_
  intro p e R s m args below meth c A Q ls H locs hBd hP hD hS hl K
  obtain ⟨hx, hb, hml, hown, hts, ⟨hRf, hRl, hRc, hRs⟩, hmn, hK, hN, hA⟩ := hBd
  have hl : lv_has ls 2 [(0, .int (iI a)), (1, .int (iI b))] := hl
  have hP : va_P D vwCl [] H := hP
  have hD : va_D A [] := hD
  refine lv_iload_n hx hb dX0_isIn_0 rfl (lv_at hl 0 rfl) ?_
  refine lv_iconst (v := iI 1) hx hb dX0_isIn_1 rfl ?_
  refine z_icmp_lt hx hb 26 (by omega) dX0_isIn_2 (by decide) (fun c2 => ?_) (fun c2 => ?_)
  · skip
    refine lv_iconst (v := iI 0) hx hb dX0_isIn_26 rfl ?_
    exact K H locs _ () _ ls 0 0 (by omega) (by omega) (by decide) (by rw [if_neg (by omega)]) hP hD hS dX0_isIn_27
  · skip
    refine lv_iload_n hx hb dX0_isIn_5 rfl (lv_at hl 0 rfl) ?_
    refine lv_bipush (v := iI 40) hx hb dX0_isIn_6 (by decide) ?_
    refine z_icmp_gt hx hb 26 (by omega) dX0_isIn_8 (by decide) (fun c8 => ?_) (fun c8 => ?_)
    · skip
      refine lv_iconst (v := iI 0) hx hb dX0_isIn_26 rfl ?_
      exact K H locs _ () _ ls 0 0 (by omega) (by omega) (by decide) (by rw [if_neg (by omega)]) hP hD hS dX0_isIn_27
    · skip
      refine lv_iload_n hx hb dX0_isIn_11 rfl (lv_at hl 1 rfl) ?_
      refine lv_iconst (v := iI 1) hx hb dX0_isIn_12 rfl ?_
      refine z_icmp_lt hx hb 26 (by omega) dX0_isIn_13 (by decide) (fun c13 => ?_) (fun c13 => ?_)
      · skip
        refine lv_iconst (v := iI 0) hx hb dX0_isIn_26 rfl ?_
        exact K H locs _ () _ ls 0 0 (by omega) (by omega) (by decide) (by rw [if_neg (by omega)]) hP hD hS dX0_isIn_27
      · skip
        refine lv_iload_n hx hb dX0_isIn_16 rfl (lv_at hl 1 rfl) ?_
        refine lv_bipush (v := iI 80) hx hb dX0_isIn_17 (by decide) ?_
        refine z_icmp_gt hx hb 26 (by omega) dX0_isIn_19 (by decide) (fun c19 => ?_) (fun c19 => ?_)
        · skip
          refine lv_iconst (v := iI 0) hx hb dX0_isIn_26 rfl ?_
          exact K H locs _ () _ ls 0 0 (by omega) (by omega) (by decide) (by rw [if_neg (by omega)]) hP hD hS dX0_isIn_27
        · skip
          refine lv_iconst (v := iI 1) hx hb dX0_isIn_22 rfl ?_
          refine lv_goto (tgt := 27) hx hb dX0_isIn_23 (by decide) ?_
          exact K H locs _ () _ ls 0 0 (by omega) (by omega) (by decide) (by rw [if_pos (by omega)]) hP hD hS dX0_isIn_27

abbrev rmX0_indexOf : Room := { frames := 0, cells := 0, slots := 0, locals := 0 }
set_option maxHeartbeats 4000000 in
set_option maxRecDepth 100000 in
theorem c_X0_indexOf (l : Launch) (D : va_G) (sz : Nat) (a b : Int) : zMi l yX0_indexOf wsX0_indexOf rmX0_indexOf D [] [.int (iI a), .int (iI b)] [] sz (S := Unit) (fun r _ => r = iI ((a - 1) * 80 + b - 1)) (fun _ => []) 0 0 := by
  refine z_starti (cc := cX0_indexOf) (maxL := 2) (ty := .int) (own := RX0) (nm := "indexOf") (by decide) rfl rfl rfl (Nat.le_of_ble_eq_true rfl) ?_
  intro p e R s m args below meth c A Q ls H locs hBd hP hD hS hl K
  obtain ⟨hx, hb, hml, hown, hts, ⟨hRf, hRl, hRc, hRs⟩, hmn, hK, hN, hA⟩ := hBd
  have hl : lv_has ls 2 [(0, .int (iI a)), (1, .int (iI b))] := hl
  have hP : va_P D vwCl [] H := hP
  have hD : va_D A [] := hD
  refine lv_iload_n hx hb dX0_indexOf_0 rfl (lv_at hl 0 rfl) ?_
  refine lv_iconst (v := iI 1) hx hb dX0_indexOf_1 rfl ?_
  refine z_isub hx hb dX0_indexOf_2 ?_
  refine lv_bipush (v := iI 80) hx hb dX0_indexOf_3 (by decide) ?_
  refine z_imul hx hb dX0_indexOf_5 ?_
  refine lv_iload_n hx hb dX0_indexOf_6 rfl (lv_at hl 1 rfl) ?_
  refine z_iadd hx hb dX0_indexOf_7 ?_
  refine lv_iconst (v := iI 1) hx hb dX0_indexOf_8 rfl ?_
  refine z_isub hx hb dX0_indexOf_9 ?_
  exact K H locs _ () _ ls 0 0 (by omega) (by omega) rfl rfl hP hD hS dX0_indexOf_10

abbrev rmX0_get : Room := { frames := 1, cells := 0, slots := 0, locals := 21 }
set_option maxHeartbeats 4000000 in
set_option maxRecDepth 100000 in
theorem c_X0_get (l : Launch) (D : va_G) (sz : Nat) (cA : ClassId) (g ga : Nat) (f : Nat → Int32) (a b : Int) (h : (1 ≤ a ∧ a ≤ 40) ∧ 1 ≤ b ∧ b ≤ 80) : zMi l yX0_get wsX0_get rmX0_get D [(cA, .int)] [.ref g, .int (iI a), .int (iI b)] [(g, .inr (1, [.ref ga])), (ga, .inl (cA, 3200, .inl f))] sz (S := Unit) (fun r _ => r = f ((a - 1) * 80 + b - 1).toNat) (fun _ => [(g, .inr (1, [.ref ga])), (ga, .inl (cA, 3200, .inl (f)))]) 0 0 := by
  refine z_starti (cc := cX0_get) (maxL := 3) (ty := .int) (own := RX0) (nm := "get") (by decide) rfl rfl rfl (Nat.le_of_ble_eq_true rfl) ?_
  intro p e R s m args below meth c A Q ls H locs hBd hP hD hS hl K
  obtain ⟨hx, hb, hml, hown, hts, ⟨hRf, hRl, hRc, hRs⟩, hmn, hK, hN, hA⟩ := hBd
  have hl : lv_has ls 3 [(0, .ref g), (1, .int (iI a)), (2, .int (iI b))] := hl
  have inX0 : ∀ w ∈ wsX00, w ∈ wsX0_get := by decide +kernel
  have kfieldLink_RX0_9_ZScreens_Grid_cells_I := hts (.fieldLink RX0 9 "ZScreens$Grid" "cells" "[I") (by decide +kernel)
  have hP : va_P D vwCl [(g, .inr (1, [.ref ga])), (ga, .inl (cA, 3200, .inl f))] H := hP
  have hD : va_D A [(g, .inr (1, [.ref ga])), (ga, .inl (cA, 3200, .inl f))] := hD
  refine lv_iload_n hx hb dX0_get_0 rfl (lv_at hl 1 rfl) ?_
  refine lv_iload_n hx hb dX0_get_1 rfl (lv_at hl 2 rfl) ?_
  refine z_calli (w2 := fun _ => [(g, .inr (1, [.ref ga])), (ga, .inl (cA, 3200, .inl f))]) (wc := []) (wr := [(g, .inr (1, [.ref ga])), (ga, .inl (cA, 3200, .inl f))]) (va_runS (As := [.int (iI a), .int (iI b)]) (rest := []) ⟨hx, hb, hml, hown, hts⟩ (c_X0_isIn l D H.size a b (by omega)) (va_cwS 2 hts gX0_get_X0_isIn rfl rfl rfl (by decide +kernel) ⟨by rw [hRf]; exact Nat.le_of_ble_eq_true rfl, by rw [hRl]; exact Nat.le_of_ble_eq_true rfl⟩) (z_preS hP hD hK hN [] (by decide) rfl rfl [] rfl) rfl rfl hl.1 rfl (lv_room (Nat.le_of_ble_eq_true rfl)) dX0_get_2 ⟨by rw [hRc]; exact Nat.le_of_ble_eq_true rfl, by rw [hRs]; exact Nat.le_of_ble_eq_true rfl⟩) hP hD hS hA [] [0, 1] rfl rfl (by decide) (by decide) [0, 1] (by decide) (fun _ => rfl) (fun r _ H locs hw hP hD hS => ?_)
  rw [if_pos (by omega)] at hw
  subst hw
  have hP : va_P D vwCl [(g, .inr (1, [.ref ga])), (ga, .inl (cA, 3200, .inl f))] H := hP
  have hD : va_D A [(g, .inr (1, [.ref ga])), (ga, .inl (cA, 3200, .inl f))] := hD
  refine z_if_eq hx hb 21 (by omega) dX0_get_5 (by decide) (fun c5 => absurd c5 (by omega)) (fun c5 => ?_)
  refine lv_aload_n hx hb dX0_get_8 rfl (lv_at hl 0 rfl) ?_
  refine va_get (D := D) (ci := 1) (v := .ref ga) (C := RX0) (T := TX0) (N := 1) hx hb hts inX0 hown hK hP 0 rfl rfl 0 (by decide) kfieldLink_RX0_9_ZScreens_Grid_cells_I (fun _ h9 => h9) rfl dX0_get_9 ?_
  refine lv_iload_n hx hb dX0_get_12 rfl (lv_at hl 1 rfl) ?_
  refine lv_iload_n hx hb dX0_get_13 rfl (lv_at hl 2 rfl) ?_
  refine z_calli (w2 := fun _ => [(g, .inr (1, [.ref ga])), (ga, .inl (cA, 3200, .inl f))]) (wc := []) (wr := [(g, .inr (1, [.ref ga])), (ga, .inl (cA, 3200, .inl f))]) (va_runS (As := [.int (iI a), .int (iI b)]) (rest := [.ref ga]) ⟨hx, hb, hml, hown, hts⟩ (c_X0_indexOf l D H.size a b) (va_cwS 2 hts gX0_get_X0_indexOf rfl rfl rfl (by decide +kernel) ⟨by rw [hRf]; exact Nat.le_of_ble_eq_true rfl, by rw [hRl]; exact Nat.le_of_ble_eq_true rfl⟩) (z_preS hP hD hK hN [] (by decide) rfl rfl [] rfl) rfl rfl hl.1 rfl (lv_room (Nat.le_of_ble_eq_true rfl)) dX0_get_14 ⟨by rw [hRc]; exact Nat.le_of_ble_eq_true rfl, by rw [hRs]; exact Nat.le_of_ble_eq_true rfl⟩) hP hD hS hA [] [0, 1] rfl rfl (by decide) (by decide) [0, 1] (by decide) (fun _ => rfl) (fun r _ H locs hw hP hD hS => ?_)
  subst hw
  have hP : va_P D vwCl [(g, .inr (1, [.ref ga])), (ga, .inl (cA, 3200, .inl f))] H := hP
  have hD : va_D A [(g, .inr (1, [.ref ga])), (ga, .inl (cA, 3200, .inl f))] := hD
  refine z_iald hx hb hK hP 1 0 rfl rfl (by omega) dX0_get_17 ?_
  refine lv_goto (tgt := 22) hx hb dX0_get_18 (by decide) ?_
  exact K H locs _ () _ ls 0 0 (by omega) (by omega) rfl rfl hP hD hS dX0_get_22

abbrev rmX0_set : Room := { frames := 1, cells := 0, slots := 0, locals := 21 }
set_option maxHeartbeats 4000000 in
set_option maxRecDepth 100000 in
theorem c_X0_set (l : Launch) (D : va_G) (sz : Nat) (cA : ClassId) (g ga : Nat) (f : Nat → Int32) (a b : Int) (v : Int32) (h : (1 ≤ a ∧ a ≤ 40) ∧ 1 ≤ b ∧ b ≤ 80) : zMv l yX0_set wsX0_set rmX0_set D [(cA, .int)] [.ref g, .int (iI a), .int (iI b), .int (v)] [(g, .inr (1, [.ref ga])), (ga, .inl (cA, 3200, .inl f))] sz (S := Unit) (fun _ => True) (fun _ => [(g, .inr (1, [.ref ga])), (ga, .inl (cA, 3200, .inl (upd f ((a - 1) * 80 + b - 1).toNat v)))]) 0 0 := by
  refine z_startv (cc := cX0_set) (maxL := 4) (own := RX0) (nm := "set") (by decide) rfl rfl rfl (Nat.le_of_ble_eq_true rfl) ?_
  intro p e R s m args below meth c A Q ls H locs hBd hP hD hS hl K
  obtain ⟨hx, hb, hml, hown, hts, ⟨hRf, hRl, hRc, hRs⟩, hmn, hK, hN, hA⟩ := hBd
  have hl : lv_has ls 4 [(0, .ref g), (1, .int (iI a)), (2, .int (iI b)), (3, .int (v))] := hl
  have inX0 : ∀ w ∈ wsX00, w ∈ wsX0_set := by decide +kernel
  have kfieldLink_RX0_9_ZScreens_Grid_cells_I := hts (.fieldLink RX0 9 "ZScreens$Grid" "cells" "[I") (by decide +kernel)
  have hP : va_P D vwCl [(g, .inr (1, [.ref ga])), (ga, .inl (cA, 3200, .inl f))] H := hP
  have hD : va_D A [(g, .inr (1, [.ref ga])), (ga, .inl (cA, 3200, .inl f))] := hD
  refine lv_iload_n hx hb dX0_set_0 rfl (lv_at hl 1 rfl) ?_
  refine lv_iload_n hx hb dX0_set_1 rfl (lv_at hl 2 rfl) ?_
  refine z_calli (w2 := fun _ => [(g, .inr (1, [.ref ga])), (ga, .inl (cA, 3200, .inl f))]) (wc := []) (wr := [(g, .inr (1, [.ref ga])), (ga, .inl (cA, 3200, .inl f))]) (va_runS (As := [.int (iI a), .int (iI b)]) (rest := []) ⟨hx, hb, hml, hown, hts⟩ (c_X0_isIn l D H.size a b (by omega)) (va_cwS 2 hts gX0_set_X0_isIn rfl rfl rfl (by decide +kernel) ⟨by rw [hRf]; exact Nat.le_of_ble_eq_true rfl, by rw [hRl]; exact Nat.le_of_ble_eq_true rfl⟩) (z_preS hP hD hK hN [] (by decide) rfl rfl [] rfl) rfl rfl hl.1 rfl (lv_room (Nat.le_of_ble_eq_true rfl)) dX0_set_2 ⟨by rw [hRc]; exact Nat.le_of_ble_eq_true rfl, by rw [hRs]; exact Nat.le_of_ble_eq_true rfl⟩) hP hD hS hA [] [0, 1] rfl rfl (by decide) (by decide) [0, 1] (by decide) (fun _ => rfl) (fun r _ H locs hw hP hD hS => ?_)
  rw [if_pos (by omega)] at hw
  subst hw
  have hP : va_P D vwCl [(g, .inr (1, [.ref ga])), (ga, .inl (cA, 3200, .inl f))] H := hP
  have hD : va_D A [(g, .inr (1, [.ref ga])), (ga, .inl (cA, 3200, .inl f))] := hD
  refine z_if_eq hx hb 19 (by omega) dX0_set_5 (by decide) (fun c5 => absurd c5 (by omega)) (fun c5 => ?_)
  refine lv_aload_n hx hb dX0_set_8 rfl (lv_at hl 0 rfl) ?_
  refine va_get (D := D) (ci := 1) (v := .ref ga) (C := RX0) (T := TX0) (N := 1) hx hb hts inX0 hown hK hP 0 rfl rfl 0 (by decide) kfieldLink_RX0_9_ZScreens_Grid_cells_I (fun _ h9 => h9) rfl dX0_set_9 ?_
  refine lv_iload_n hx hb dX0_set_12 rfl (lv_at hl 1 rfl) ?_
  refine lv_iload_n hx hb dX0_set_13 rfl (lv_at hl 2 rfl) ?_
  refine z_calli (w2 := fun _ => [(g, .inr (1, [.ref ga])), (ga, .inl (cA, 3200, .inl f))]) (wc := []) (wr := [(g, .inr (1, [.ref ga])), (ga, .inl (cA, 3200, .inl f))]) (va_runS (As := [.int (iI a), .int (iI b)]) (rest := [.ref ga]) ⟨hx, hb, hml, hown, hts⟩ (c_X0_indexOf l D H.size a b) (va_cwS 2 hts gX0_set_X0_indexOf rfl rfl rfl (by decide +kernel) ⟨by rw [hRf]; exact Nat.le_of_ble_eq_true rfl, by rw [hRl]; exact Nat.le_of_ble_eq_true rfl⟩) (z_preS hP hD hK hN [] (by decide) rfl rfl [] rfl) rfl rfl hl.1 rfl (lv_room (Nat.le_of_ble_eq_true rfl)) dX0_set_14 ⟨by rw [hRc]; exact Nat.le_of_ble_eq_true rfl, by rw [hRs]; exact Nat.le_of_ble_eq_true rfl⟩) hP hD hS hA [] [0, 1] rfl rfl (by decide) (by decide) [0, 1] (by decide) (fun _ => rfl) (fun r _ H locs hw hP hD hS => ?_)
  subst hw
  have hP : va_P D vwCl [(g, .inr (1, [.ref ga])), (ga, .inl (cA, 3200, .inl f))] H := hP
  have hD : va_D A [(g, .inr (1, [.ref ga])), (ga, .inl (cA, 3200, .inl f))] := hD
  refine lv_iload_n hx hb dX0_set_17 rfl (lv_at hl 3 rfl) ?_
  refine z_iast hx hb hK hP hD hS 1 0 rfl rfl (by omega) dX0_set_18 (fun H locs hP hD hS => ?_)
  have hP : va_P D vwCl [(g, .inr (1, [.ref ga])), (ga, .inl (cA, 3200, .inl (upd f ((a - 1) * 80 + b - 1).toNat v)))] H := hP
  have hD : va_D A [(g, .inr (1, [.ref ga])), (ga, .inl (cA, 3200, .inl (upd f ((a - 1) * 80 + b - 1).toNat v)))] := hD
  exact K H locs () _ ls 0 0 (by omega) (by omega) trivial hP hD hS dX0_set_19

abbrev rmX0_set2 : Room := { frames := 1, cells := 0, slots := 0, locals := 21 }
set_option maxHeartbeats 4000000 in
set_option maxRecDepth 100000 in
theorem c_X0_set2 (l : Launch) (D : va_G) (sz : Nat) (cA : ClassId) (g ga : Nat) (f : Nat → Int32) (a b : Int) (v : Int32) (h : (1 ≤ a ∧ a ≤ 40) ∧ (-2147483648 ≤ b ∧ b ≤ 2147483647) ∧ (b < 1 ∨ 80 < b)) : zMv l yX0_set wsX0_set rmX0_set2 D [(cA, .int)] [.ref g, .int (iI a), .int (iI b), .int (v)] [(g, .inr (1, [.ref ga])), (ga, .inl (cA, 3200, .inl f))] sz (S := Unit) (fun _ => True) (fun _ => [(g, .inr (1, [.ref ga])), (ga, .inl (cA, 3200, .inl (f)))]) 0 0 := by
  refine z_startv (cc := cX0_set) (maxL := 4) (own := RX0) (nm := "set") (by decide) rfl rfl rfl (Nat.le_of_ble_eq_true rfl) ?_
  intro p e R s m args below meth c A Q ls H locs hBd hP hD hS hl K
  obtain ⟨hx, hb, hml, hown, hts, ⟨hRf, hRl, hRc, hRs⟩, hmn, hK, hN, hA⟩ := hBd
  have hl : lv_has ls 4 [(0, .ref g), (1, .int (iI a)), (2, .int (iI b)), (3, .int (v))] := hl
  have hP : va_P D vwCl [(g, .inr (1, [.ref ga])), (ga, .inl (cA, 3200, .inl f))] H := hP
  have hD : va_D A [(g, .inr (1, [.ref ga])), (ga, .inl (cA, 3200, .inl f))] := hD
  refine lv_iload_n hx hb dX0_set_0 rfl (lv_at hl 1 rfl) ?_
  refine lv_iload_n hx hb dX0_set_1 rfl (lv_at hl 2 rfl) ?_
  refine z_calli (w2 := fun _ => [(g, .inr (1, [.ref ga])), (ga, .inl (cA, 3200, .inl f))]) (wc := []) (wr := [(g, .inr (1, [.ref ga])), (ga, .inl (cA, 3200, .inl f))]) (va_runS (As := [.int (iI a), .int (iI b)]) (rest := []) ⟨hx, hb, hml, hown, hts⟩ (c_X0_isIn l D H.size a b (by omega)) (va_cwS 2 hts gX0_set_X0_isIn rfl rfl rfl (by decide +kernel) ⟨by rw [hRf]; exact Nat.le_of_ble_eq_true rfl, by rw [hRl]; exact Nat.le_of_ble_eq_true rfl⟩) (z_preS hP hD hK hN [] (by decide) rfl rfl [] rfl) rfl rfl hl.1 rfl (lv_room (Nat.le_of_ble_eq_true rfl)) dX0_set_2 ⟨by rw [hRc]; exact Nat.le_of_ble_eq_true rfl, by rw [hRs]; exact Nat.le_of_ble_eq_true rfl⟩) hP hD hS hA [] [0, 1] rfl rfl (by decide) (by decide) [0, 1] (by decide) (fun _ => rfl) (fun r _ H locs hw hP hD hS => ?_)
  rw [if_neg (by omega)] at hw
  subst hw
  have hP : va_P D vwCl [(g, .inr (1, [.ref ga])), (ga, .inl (cA, 3200, .inl f))] H := hP
  have hD : va_D A [(g, .inr (1, [.ref ga])), (ga, .inl (cA, 3200, .inl f))] := hD
  refine z_if_eq hx hb 19 (by omega) dX0_set_5 (by decide) (fun c5 => ?_) (fun c5 => absurd c5 (by omega))
  exact K H locs () _ ls 0 0 (by omega) (by omega) trivial hP hD hS dX0_set_19

abbrev rmX0_fill : Room := { frames := 2, cells := 0, slots := 0, locals := 46 }
set_option maxHeartbeats 4000000 in
set_option maxRecDepth 100000 in
theorem c_X0_fill (l : Launch) (D : va_G) (sz : Nat) (cA : ClassId) (g ga : Nat) (f : Nat → Int32) (a b1 b2 : Int) (v : Int32) (h : (1 ≤ a ∧ a ≤ 40) ∧ 1 ≤ b1 ∧ b1 ≤ 81 ∧ 0 ≤ b2 ∧ b2 ≤ 80) : zMv l yX0_fill wsX0_fill rmX0_fill D [(cA, .int)] [.ref g, .int (iI a), .int (iI b1), .int (iI b2), .int (v)] [(g, .inr (1, [.ref ga])), (ga, .inl (cA, 3200, .inl f))] sz (S := Unit) (fun _ => True) (fun _ => [(g, .inr (1, [.ref ga])), (ga, .inl (cA, 3200, .inl (zfill f ((a - 1) * 80 + b1 - 1) ((a - 1) * 80 + b2 - 1 + 1) v)))]) 0 0 := by
  refine z_startv (cc := cX0_fill) (maxL := 5) (own := RX0) (nm := "fill") (by decide) rfl rfl rfl (Nat.le_of_ble_eq_true rfl) ?_
  intro p e R s m args below meth c A Q ls H locs hBd hP hD hS hl K
  obtain ⟨hx, hb, hml, hown, hts, ⟨hRf, hRl, hRc, hRs⟩, hmn, hK, hN, hA⟩ := hBd
  have hl : lv_has ls 5 [(0, .ref g), (1, .int (iI a)), (2, .int (iI b1)), (3, .int (iI b2)), (4, .int (v))] := hl
  have inX0 : ∀ w ∈ wsX00, w ∈ wsX0_fill := by decide +kernel
  have kfieldLink_RX0_9_ZScreens_Grid_cells_I := hts (.fieldLink RX0 9 "ZScreens$Grid" "cells" "[I") (by decide +kernel)
  have hP : va_P D vwCl [(g, .inr (1, [.ref ga])), (ga, .inl (cA, 3200, .inl f))] H := hP
  have hD : va_D A [(g, .inr (1, [.ref ga])), (ga, .inl (cA, 3200, .inl f))] := hD
  refine lv_iload_n hx hb dX0_fill_0 rfl (lv_at hl 2 rfl) ?_
  refine lv_iload_n hx hb dX0_fill_1 rfl (lv_at hl 3 rfl) ?_
  refine z_icmp_gt hx hb 42 (by omega) dX0_fill_2 (by decide) (fun c2 => ?_) (fun c2 => ?_)
  · skip
    rw [← zfill_nil f (a := (a - 1) * 80 + b1 - 1) (b := (a - 1) * 80 + b2 - 1 + 1) v (by omega)] at hP hD
    exact K H locs () _ ls 0 0 (by omega) (by omega) trivial hP hD hS dX0_fill_42
  · skip
    refine lv_iload_n hx hb dX0_fill_5 rfl (lv_at hl 1 rfl) ?_
    refine lv_iload_n hx hb dX0_fill_6 rfl (lv_at hl 2 rfl) ?_
    refine z_calli (w2 := fun _ => [(g, .inr (1, [.ref ga])), (ga, .inl (cA, 3200, .inl f))]) (wc := []) (wr := [(g, .inr (1, [.ref ga])), (ga, .inl (cA, 3200, .inl f))]) (va_runS (As := [.int (iI a), .int (iI b1)]) (rest := []) ⟨hx, hb, hml, hown, hts⟩ (c_X0_isIn l D H.size a b1 (by omega)) (va_cwS 2 hts gX0_fill_X0_isIn rfl rfl rfl (by decide +kernel) ⟨by rw [hRf]; exact Nat.le_of_ble_eq_true rfl, by rw [hRl]; exact Nat.le_of_ble_eq_true rfl⟩) (z_preS hP hD hK hN [] (by decide) rfl rfl [] rfl) rfl rfl hl.1 rfl (lv_room (Nat.le_of_ble_eq_true rfl)) dX0_fill_7 ⟨by rw [hRc]; exact Nat.le_of_ble_eq_true rfl, by rw [hRs]; exact Nat.le_of_ble_eq_true rfl⟩) hP hD hS hA [] [0, 1] rfl rfl (by decide) (by decide) [0, 1] (by decide) (fun _ => rfl) (fun r _ H locs hw hP hD hS => ?_)
    rw [if_pos (by omega)] at hw
    subst hw
    have hP : va_P D vwCl [(g, .inr (1, [.ref ga])), (ga, .inl (cA, 3200, .inl f))] H := hP
    have hD : va_D A [(g, .inr (1, [.ref ga])), (ga, .inl (cA, 3200, .inl f))] := hD
    refine z_if_eq hx hb 42 (by omega) dX0_fill_10 (by decide) (fun c10 => absurd c10 (by omega)) (fun c10 => ?_)
    refine lv_iload_n hx hb dX0_fill_13 rfl (lv_at hl 1 rfl) ?_
    refine lv_iload_n hx hb dX0_fill_14 rfl (lv_at hl 3 rfl) ?_
    refine z_calli (w2 := fun _ => [(g, .inr (1, [.ref ga])), (ga, .inl (cA, 3200, .inl f))]) (wc := []) (wr := [(g, .inr (1, [.ref ga])), (ga, .inl (cA, 3200, .inl f))]) (va_runS (As := [.int (iI a), .int (iI b2)]) (rest := []) ⟨hx, hb, hml, hown, hts⟩ (c_X0_isIn l D H.size a b2 (by omega)) (va_cwS 2 hts gX0_fill_X0_isIn rfl rfl rfl (by decide +kernel) ⟨by rw [hRf]; exact Nat.le_of_ble_eq_true rfl, by rw [hRl]; exact Nat.le_of_ble_eq_true rfl⟩) (z_preS hP hD hK hN [] (by decide) rfl rfl [] rfl) rfl rfl hl.1 rfl (lv_room (Nat.le_of_ble_eq_true rfl)) dX0_fill_15 ⟨by rw [hRc]; exact Nat.le_of_ble_eq_true rfl, by rw [hRs]; exact Nat.le_of_ble_eq_true rfl⟩) hP hD hS hA [] [0, 1] rfl rfl (by decide) (by decide) [0, 1] (by decide) (fun _ => rfl) (fun r _ H locs hw hP hD hS => ?_)
    rw [if_pos (by omega)] at hw
    subst hw
    have hP : va_P D vwCl [(g, .inr (1, [.ref ga])), (ga, .inl (cA, 3200, .inl f))] H := hP
    have hD : va_D A [(g, .inr (1, [.ref ga])), (ga, .inl (cA, 3200, .inl f))] := hD
    refine z_if_eq hx hb 42 (by omega) dX0_fill_18 (by decide) (fun c18 => absurd c18 (by omega)) (fun c18 => ?_)
    refine lv_aload_n hx hb dX0_fill_21 rfl (lv_at hl 0 rfl) ?_
    refine va_get (D := D) (ci := 1) (v := .ref ga) (C := RX0) (T := TX0) (N := 1) hx hb hts inX0 hown hK hP 0 rfl rfl 0 (by decide) kfieldLink_RX0_9_ZScreens_Grid_cells_I (fun _ h9 => h9) rfl dX0_fill_22 ?_
    refine lv_iload_n hx hb dX0_fill_25 rfl (lv_at hl 1 rfl) ?_
    refine lv_iload_n hx hb dX0_fill_26 rfl (lv_at hl 2 rfl) ?_
    refine z_calli (w2 := fun _ => [(g, .inr (1, [.ref ga])), (ga, .inl (cA, 3200, .inl f))]) (wc := []) (wr := [(g, .inr (1, [.ref ga])), (ga, .inl (cA, 3200, .inl f))]) (va_runS (As := [.int (iI a), .int (iI b1)]) (rest := [.ref ga]) ⟨hx, hb, hml, hown, hts⟩ (c_X0_indexOf l D H.size a b1) (va_cwS 2 hts gX0_fill_X0_indexOf rfl rfl rfl (by decide +kernel) ⟨by rw [hRf]; exact Nat.le_of_ble_eq_true rfl, by rw [hRl]; exact Nat.le_of_ble_eq_true rfl⟩) (z_preS hP hD hK hN [] (by decide) rfl rfl [] rfl) rfl rfl hl.1 rfl (lv_room (Nat.le_of_ble_eq_true rfl)) dX0_fill_27 ⟨by rw [hRc]; exact Nat.le_of_ble_eq_true rfl, by rw [hRs]; exact Nat.le_of_ble_eq_true rfl⟩) hP hD hS hA [] [0, 1] rfl rfl (by decide) (by decide) [0, 1] (by decide) (fun _ => rfl) (fun r _ H locs hw hP hD hS => ?_)
    subst hw
    have hP : va_P D vwCl [(g, .inr (1, [.ref ga])), (ga, .inl (cA, 3200, .inl f))] H := hP
    have hD : va_D A [(g, .inr (1, [.ref ga])), (ga, .inl (cA, 3200, .inl f))] := hD
    refine lv_iload_n hx hb dX0_fill_30 rfl (lv_at hl 1 rfl) ?_
    refine lv_iload_n hx hb dX0_fill_31 rfl (lv_at hl 3 rfl) ?_
    refine z_calli (w2 := fun _ => [(g, .inr (1, [.ref ga])), (ga, .inl (cA, 3200, .inl f))]) (wc := []) (wr := [(g, .inr (1, [.ref ga])), (ga, .inl (cA, 3200, .inl f))]) (va_runS (As := [.int (iI a), .int (iI b2)]) (rest := [.int (iI ((a - 1) * 80 + b1 - 1)), .ref ga]) ⟨hx, hb, hml, hown, hts⟩ (c_X0_indexOf l D H.size a b2) (va_cwS 2 hts gX0_fill_X0_indexOf rfl rfl rfl (by decide +kernel) ⟨by rw [hRf]; exact Nat.le_of_ble_eq_true rfl, by rw [hRl]; exact Nat.le_of_ble_eq_true rfl⟩) (z_preS hP hD hK hN [] (by decide) rfl rfl [] rfl) rfl rfl hl.1 rfl (lv_room (Nat.le_of_ble_eq_true rfl)) dX0_fill_32 ⟨by rw [hRc]; exact Nat.le_of_ble_eq_true rfl, by rw [hRs]; exact Nat.le_of_ble_eq_true rfl⟩) hP hD hS hA [] [0, 1] rfl rfl (by decide) (by decide) [0, 1] (by decide) (fun _ => rfl) (fun r _ H locs hw hP hD hS => ?_)
    subst hw
    have hP : va_P D vwCl [(g, .inr (1, [.ref ga])), (ga, .inl (cA, 3200, .inl f))] H := hP
    have hD : va_D A [(g, .inr (1, [.ref ga])), (ga, .inl (cA, 3200, .inl f))] := hD
    refine lv_iconst (v := iI 1) hx hb dX0_fill_35 rfl ?_
    refine z_iadd hx hb dX0_fill_36 ?_
    refine lv_iload hx hb dX0_fill_37 (lv_at hl 4 rfl) ?_
    refine z_callv (w2 := fun _ => [(g, .inr (1, [.ref ga])), (ga, .inl (cA, 3200, .inl (zfill f ((a - 1) * 80 + b1 - 1) (((a - 1) * 80 + b2 - 1) + 1) v)))]) (wc := [(ga, .inl (cA, 3200, .inl f))]) (wr := [(g, .inr (1, [.ref ga]))]) (va_runS (As := [.ref ga, .int (iI ((a - 1) * 80 + b1 - 1)), .int (iI (((a - 1) * 80 + b2 - 1) + 1)), .int (v)]) (rest := []) ⟨hx, hb, hml, hown, hts⟩ (c_J7_fill_fda19 l D H.size cA ga 3200 f ((a - 1) * 80 + b1 - 1) (((a - 1) * 80 + b2 - 1) + 1) v (by omega)) (va_cwS 4 hts gX0_fill_J7_fill_fda19 rfl rfl rfl (by decide +kernel) ⟨by rw [hRf]; exact Nat.le_of_ble_eq_true rfl, by rw [hRl]; exact Nat.le_of_ble_eq_true rfl⟩) (z_preS hP hD hK hN [1] (by decide) rfl rfl [0] rfl) rfl rfl hl.1 rfl (lv_room (Nat.le_of_ble_eq_true rfl)) dX0_fill_39 ⟨by rw [hRc]; exact Nat.le_of_ble_eq_true rfl, by rw [hRs]; exact Nat.le_of_ble_eq_true rfl⟩) hP hD hS hA [1] [0] rfl rfl (by decide) (by decide) [0, 1] (by decide) (fun _ => rfl) (fun _ H locs hw hP hD hS => ?_)
    have hP : va_P D vwCl [(g, .inr (1, [.ref ga])), (ga, .inl (cA, 3200, .inl (zfill f ((a - 1) * 80 + b1 - 1) (((a - 1) * 80 + b2 - 1) + 1) v)))] H := hP
    have hD : va_D A [(g, .inr (1, [.ref ga])), (ga, .inl (cA, 3200, .inl (zfill f ((a - 1) * 80 + b1 - 1) (((a - 1) * 80 + b2 - 1) + 1) v)))] := hD
    exact K H locs () _ ls 0 0 (by omega) (by omega) trivial hP hD hS dX0_fill_42

abbrev rmX0_copyLine : Room := { frames := 2, cells := 0, slots := 0, locals := 60 }
set_option maxHeartbeats 4000000 in
set_option maxRecDepth 100000 in
theorem c_X0_copyLine (l : Launch) (D : va_G) (sz : Nat) (cA : ClassId) (g ga : Nat) (f : Nat → Int32) (a b : Int) (h : (1 ≤ a ∧ a ≤ 40) ∧ 1 ≤ b ∧ b ≤ 40) : zMv l yX0_copyLine wsX0_copyLine rmX0_copyLine D [(cA, .int)] [.ref g, .int (iI a), .int (iI b)] [(g, .inr (1, [.ref ga])), (ga, .inl (cA, 3200, .inl f))] sz (S := Unit) (fun _ => True) (fun _ => [(g, .inr (1, [.ref ga])), (ga, .inl (cA, 3200, .inl (va_cpy f f ((a - 1) * 80 + 1 - 1).toNat ((b - 1) * 80 + 1 - 1).toNat 80)))]) 0 0 := by
  refine z_startv (cc := cX0_copyLine) (maxL := 3) (own := RX0) (nm := "copyLine") (by decide) rfl rfl rfl (Nat.le_of_ble_eq_true rfl) ?_
  intro p e R s m args below meth c A Q ls H locs hBd hP hD hS hl K
  obtain ⟨hx, hb, hml, hown, hts, ⟨hRf, hRl, hRc, hRs⟩, hmn, hK, hN, hA⟩ := hBd
  have hl : lv_has ls 3 [(0, .ref g), (1, .int (iI a)), (2, .int (iI b))] := hl
  have inX0 : ∀ w ∈ wsX00, w ∈ wsX0_copyLine := by decide +kernel
  have kfieldLink_RX0_9_ZScreens_Grid_cells_I := hts (.fieldLink RX0 9 "ZScreens$Grid" "cells" "[I") (by decide +kernel)
  have kinitialized_java_lang_System := hts (.initialized "java/lang/System") (by decide +kernel)
  have kmethodLink_RX0_32_arraycopyName := hts (.methodLink RX0 32 arraycopyName) (by decide +kernel)
  have knative_arraycopyName := hts (.native arraycopyName) (by decide +kernel)
  have kstatic_arraycopyName := hts (.static arraycopyName) (by decide +kernel)
  have hP : va_P D vwCl [(g, .inr (1, [.ref ga])), (ga, .inl (cA, 3200, .inl f))] H := hP
  have hD : va_D A [(g, .inr (1, [.ref ga])), (ga, .inl (cA, 3200, .inl f))] := hD
  refine lv_iload_n hx hb dX0_copyLine_0 rfl (lv_at hl 1 rfl) ?_
  refine lv_iconst (v := iI 1) hx hb dX0_copyLine_1 rfl ?_
  refine z_calli (w2 := fun _ => [(g, .inr (1, [.ref ga])), (ga, .inl (cA, 3200, .inl f))]) (wc := []) (wr := [(g, .inr (1, [.ref ga])), (ga, .inl (cA, 3200, .inl f))]) (va_runS (As := [.int (iI a), .int (iI 1)]) (rest := []) ⟨hx, hb, hml, hown, hts⟩ (c_X0_isIn l D H.size a 1 (by omega)) (va_cwS 2 hts gX0_copyLine_X0_isIn rfl rfl rfl (by decide +kernel) ⟨by rw [hRf]; exact Nat.le_of_ble_eq_true rfl, by rw [hRl]; exact Nat.le_of_ble_eq_true rfl⟩) (z_preS hP hD hK hN [] (by decide) rfl rfl [] rfl) rfl rfl hl.1 rfl (lv_room (Nat.le_of_ble_eq_true rfl)) dX0_copyLine_2 ⟨by rw [hRc]; exact Nat.le_of_ble_eq_true rfl, by rw [hRs]; exact Nat.le_of_ble_eq_true rfl⟩) hP hD hS hA [] [0, 1] rfl rfl (by decide) (by decide) [0, 1] (by decide) (fun _ => rfl) (fun r _ H locs hw hP hD hS => ?_)
  rw [if_pos (by omega)] at hw
  subst hw
  have hP : va_P D vwCl [(g, .inr (1, [.ref ga])), (ga, .inl (cA, 3200, .inl f))] H := hP
  have hD : va_D A [(g, .inr (1, [.ref ga])), (ga, .inl (cA, 3200, .inl f))] := hD
  refine z_if_eq hx hb 39 (by omega) dX0_copyLine_5 (by decide) (fun c5 => absurd c5 (by omega)) (fun c5 => ?_)
  refine lv_iload_n hx hb dX0_copyLine_8 rfl (lv_at hl 2 rfl) ?_
  refine lv_iconst (v := iI 1) hx hb dX0_copyLine_9 rfl ?_
  refine z_calli (w2 := fun _ => [(g, .inr (1, [.ref ga])), (ga, .inl (cA, 3200, .inl f))]) (wc := []) (wr := [(g, .inr (1, [.ref ga])), (ga, .inl (cA, 3200, .inl f))]) (va_runS (As := [.int (iI b), .int (iI 1)]) (rest := []) ⟨hx, hb, hml, hown, hts⟩ (c_X0_isIn l D H.size b 1 (by omega)) (va_cwS 2 hts gX0_copyLine_X0_isIn rfl rfl rfl (by decide +kernel) ⟨by rw [hRf]; exact Nat.le_of_ble_eq_true rfl, by rw [hRl]; exact Nat.le_of_ble_eq_true rfl⟩) (z_preS hP hD hK hN [] (by decide) rfl rfl [] rfl) rfl rfl hl.1 rfl (lv_room (Nat.le_of_ble_eq_true rfl)) dX0_copyLine_10 ⟨by rw [hRc]; exact Nat.le_of_ble_eq_true rfl, by rw [hRs]; exact Nat.le_of_ble_eq_true rfl⟩) hP hD hS hA [] [0, 1] rfl rfl (by decide) (by decide) [0, 1] (by decide) (fun _ => rfl) (fun r _ H locs hw hP hD hS => ?_)
  rw [if_pos (by omega)] at hw
  subst hw
  have hP : va_P D vwCl [(g, .inr (1, [.ref ga])), (ga, .inl (cA, 3200, .inl f))] H := hP
  have hD : va_D A [(g, .inr (1, [.ref ga])), (ga, .inl (cA, 3200, .inl f))] := hD
  refine z_if_eq hx hb 39 (by omega) dX0_copyLine_13 (by decide) (fun c13 => absurd c13 (by omega)) (fun c13 => ?_)
  refine lv_aload_n hx hb dX0_copyLine_16 rfl (lv_at hl 0 rfl) ?_
  refine va_get (D := D) (ci := 1) (v := .ref ga) (C := RX0) (T := TX0) (N := 1) hx hb hts inX0 hown hK hP 0 rfl rfl 0 (by decide) kfieldLink_RX0_9_ZScreens_Grid_cells_I (fun _ h9 => h9) rfl dX0_copyLine_17 ?_
  refine lv_iload_n hx hb dX0_copyLine_20 rfl (lv_at hl 1 rfl) ?_
  refine lv_iconst (v := iI 1) hx hb dX0_copyLine_21 rfl ?_
  refine z_calli (w2 := fun _ => [(g, .inr (1, [.ref ga])), (ga, .inl (cA, 3200, .inl f))]) (wc := []) (wr := [(g, .inr (1, [.ref ga])), (ga, .inl (cA, 3200, .inl f))]) (va_runS (As := [.int (iI a), .int (iI 1)]) (rest := [.ref ga]) ⟨hx, hb, hml, hown, hts⟩ (c_X0_indexOf l D H.size a 1) (va_cwS 2 hts gX0_copyLine_X0_indexOf rfl rfl rfl (by decide +kernel) ⟨by rw [hRf]; exact Nat.le_of_ble_eq_true rfl, by rw [hRl]; exact Nat.le_of_ble_eq_true rfl⟩) (z_preS hP hD hK hN [] (by decide) rfl rfl [] rfl) rfl rfl hl.1 rfl (lv_room (Nat.le_of_ble_eq_true rfl)) dX0_copyLine_22 ⟨by rw [hRc]; exact Nat.le_of_ble_eq_true rfl, by rw [hRs]; exact Nat.le_of_ble_eq_true rfl⟩) hP hD hS hA [] [0, 1] rfl rfl (by decide) (by decide) [0, 1] (by decide) (fun _ => rfl) (fun r _ H locs hw hP hD hS => ?_)
  subst hw
  have hP : va_P D vwCl [(g, .inr (1, [.ref ga])), (ga, .inl (cA, 3200, .inl f))] H := hP
  have hD : va_D A [(g, .inr (1, [.ref ga])), (ga, .inl (cA, 3200, .inl f))] := hD
  refine lv_aload_n hx hb dX0_copyLine_25 rfl (lv_at hl 0 rfl) ?_
  refine va_get (D := D) (ci := 1) (v := .ref ga) (C := RX0) (T := TX0) (N := 1) hx hb hts inX0 hown hK hP 0 rfl rfl 0 (by decide) kfieldLink_RX0_9_ZScreens_Grid_cells_I (fun _ h9 => h9) rfl dX0_copyLine_26 ?_
  refine lv_iload_n hx hb dX0_copyLine_29 rfl (lv_at hl 2 rfl) ?_
  refine lv_iconst (v := iI 1) hx hb dX0_copyLine_30 rfl ?_
  refine z_calli (w2 := fun _ => [(g, .inr (1, [.ref ga])), (ga, .inl (cA, 3200, .inl f))]) (wc := []) (wr := [(g, .inr (1, [.ref ga])), (ga, .inl (cA, 3200, .inl f))]) (va_runS (As := [.int (iI b), .int (iI 1)]) (rest := [.ref ga, .int (iI ((a - 1) * 80 + 1 - 1)), .ref ga]) ⟨hx, hb, hml, hown, hts⟩ (c_X0_indexOf l D H.size b 1) (va_cwS 2 hts gX0_copyLine_X0_indexOf rfl rfl rfl (by decide +kernel) ⟨by rw [hRf]; exact Nat.le_of_ble_eq_true rfl, by rw [hRl]; exact Nat.le_of_ble_eq_true rfl⟩) (z_preS hP hD hK hN [] (by decide) rfl rfl [] rfl) rfl rfl hl.1 rfl (lv_room (Nat.le_of_ble_eq_true rfl)) dX0_copyLine_31 ⟨by rw [hRc]; exact Nat.le_of_ble_eq_true rfl, by rw [hRs]; exact Nat.le_of_ble_eq_true rfl⟩) hP hD hS hA [] [0, 1] rfl rfl (by decide) (by decide) [0, 1] (by decide) (fun _ => rfl) (fun r _ H locs hw hP hD hS => ?_)
  subst hw
  have hP : va_P D vwCl [(g, .inr (1, [.ref ga])), (ga, .inl (cA, 3200, .inl f))] H := hP
  have hD : va_D A [(g, .inr (1, [.ref ga])), (ga, .inl (cA, 3200, .inl f))] := hD
  refine lv_bipush (v := iI 80) hx hb dX0_copyLine_34 (by decide) ?_
  refine z_copyi hx hb (by rw [hml]; exact hl.1.symm) hown kmethodLink_RX0_32_arraycopyName knative_arraycopyName kstatic_arraycopyName kinitialized_java_lang_System hK hP hD hS 1 1 0 rfl rfl rfl (by omega) (by rw [hRf]; exact Nat.le_of_ble_eq_true rfl) (by rw [hRl]; exact Nat.le_of_ble_eq_true rfl) dX0_copyLine_36 (fun H locs hP hD hS => ?_)
  have hP : va_P D vwCl [(g, .inr (1, [.ref ga])), (ga, .inl (cA, 3200, .inl (va_cpy f f ((a - 1) * 80 + 1 - 1).toNat ((b - 1) * 80 + 1 - 1).toNat 80)))] H := hP
  have hD : va_D A [(g, .inr (1, [.ref ga])), (ga, .inl (cA, 3200, .inl (va_cpy f f ((a - 1) * 80 + 1 - 1).toNat ((b - 1) * 80 + 1 - 1).toNat 80)))] := hD
  exact K H locs () _ ls 0 0 (by omega) (by omega) trivial hP hD hS dX0_copyLine_39

def encC (c s f i p : Int) : Int32 := iI c ||| ((iI s ||| (iI f <<< (iI 4 &&& 31)) ||| ((iI i ||| (iI p <<< (iI 4 &&& 31))) <<< (iI 8 &&& 31))) <<< (iI 7 &&& 31))

abbrev rmX1_pack : Room := { frames := 0, cells := 0, slots := 0, locals := 0 }
set_option maxHeartbeats 4000000 in
set_option maxRecDepth 100000 in
theorem c_X1_pack (l : Launch) (D : va_G) (sz : Nat) (x1 x2 x3 x4 x5 : Int) : zMi l yX1_pack wsX1_pack rmX1_pack D [] [.int (iI x1), .int (iI x2), .int (iI x3), .int (iI x4), .int (iI x5)] [] sz (S := Unit) (fun r _ => r = encC x1 x2 x3 x4 x5) (fun _ => []) 0 0 := by
  refine z_starti (cc := cX1_pack) (maxL := 7) (ty := .int) (own := RX1) (nm := "pack") (by decide) rfl rfl rfl (Nat.le_of_ble_eq_true rfl) ?_
  intro p e R s m args below meth c A Q ls H locs hBd hP hD hS hl K
  obtain ⟨hx, hb, hml, hown, hts, ⟨hRf, hRl, hRc, hRs⟩, hmn, hK, hN, hA⟩ := hBd
  have hl : lv_has ls 7 [(0, .int (iI x1)), (1, .int (iI x2)), (2, .int (iI x3)), (3, .int (iI x4)), (4, .int (iI x5))] := hl
  have hP : va_P D vwCl [] H := hP
  have hD : va_D A [] := hD
  refine lv_iload_n hx hb dX1_pack_0 rfl (lv_at hl 3 rfl) ?_
  refine lv_iload hx hb dX1_pack_1 (lv_at hl 4 rfl) ?_
  refine lv_iconst (v := iI 4) hx hb dX1_pack_3 rfl ?_
  refine lv_ishl hx hb dX1_pack_4 ?_
  refine lv_ior hx hb dX1_pack_5 ?_
  refine lv_istore (lv' := [(5, .int ((iI x4) ||| ((iI x5) <<< ((iI 4) &&& 31)))), (0, .int (iI x1)), (1, .int (iI x2)), (2, .int (iI x3)), (3, .int (iI x4)), (4, .int (iI x5))]) hx hb dX1_pack_6 hl (by decide) rfl (fun ls hl => ?_)
  refine lv_iload_n hx hb dX1_pack_8 rfl (lv_at hl 2 rfl) ?_
  refine lv_iload_n hx hb dX1_pack_9 rfl (lv_at hl 3 rfl) ?_
  refine lv_iconst (v := iI 4) hx hb dX1_pack_10 rfl ?_
  refine lv_ishl hx hb dX1_pack_11 ?_
  refine lv_ior hx hb dX1_pack_12 ?_
  refine lv_iload hx hb dX1_pack_13 (lv_at hl 0 rfl) ?_
  refine lv_bipush (v := iI 8) hx hb dX1_pack_15 (by decide) ?_
  refine lv_ishl hx hb dX1_pack_17 ?_
  refine lv_ior hx hb dX1_pack_18 ?_
  refine lv_istore (lv' := [(6, .int (((iI x2) ||| ((iI x3) <<< ((iI 4) &&& 31))) ||| (((iI x4) ||| ((iI x5) <<< ((iI 4) &&& 31))) <<< ((iI 8) &&& 31)))), (5, .int ((iI x4) ||| ((iI x5) <<< ((iI 4) &&& 31)))), (0, .int (iI x1)), (1, .int (iI x2)), (2, .int (iI x3)), (3, .int (iI x4)), (4, .int (iI x5))]) hx hb dX1_pack_19 hl (by decide) rfl (fun ls hl => ?_)
  refine lv_iload_n hx hb dX1_pack_21 rfl (lv_at hl 2 rfl) ?_
  refine lv_iload hx hb dX1_pack_22 (lv_at hl 0 rfl) ?_
  refine lv_bipush (v := iI 7) hx hb dX1_pack_24 (by decide) ?_
  refine lv_ishl hx hb dX1_pack_26 ?_
  refine lv_ior hx hb dX1_pack_27 ?_
  exact K H locs _ () _ ls 0 0 (by omega) (by omega) rfl rfl hP hD hS dX1_pack_28

abbrev rmX1_draw : Room := { frames := 1, cells := 0, slots := 0, locals := 26 }
set_option maxHeartbeats 4000000 in
set_option maxRecDepth 100000 in
theorem c_X1_draw (l : Launch) (D : va_G) (sz : Nat) (g : Nat) (x1 x2 x3 x4 : Int) (k : Int) : zMi l yX1_draw wsX1_draw rmX1_draw D [] [.ref g, .int (iI k)] [(g, .inr (2, [.int (iI x1), .int (iI x2), .int (iI x3), .int (iI x4)]))] sz (S := Unit) (fun r _ => r = encC k x1 x2 x3 x4) (fun _ => [(g, .inr (2, [.int (iI x1), .int (iI x2), .int (iI x3), .int (iI x4)]))]) 0 0 := by
  refine z_starti (cc := cX1_draw) (maxL := 2) (ty := .int) (own := RX1) (nm := "draw") (by decide) rfl rfl rfl (Nat.le_of_ble_eq_true rfl) ?_
  intro p e R s m args below meth c A Q ls H locs hBd hP hD hS hl K
  obtain ⟨hx, hb, hml, hown, hts, ⟨hRf, hRl, hRc, hRs⟩, hmn, hK, hN, hA⟩ := hBd
  have hl : lv_has ls 2 [(0, .ref g), (1, .int (iI k))] := hl
  have inX1 : ∀ w ∈ wsX10, w ∈ wsX1_draw := by decide +kernel
  have kfieldLink_RX1_15_ZScreens_Pen_font_I := hts (.fieldLink RX1 15 "ZScreens$Pen" "font" "I") (by decide +kernel)
  have kfieldLink_RX1_18_ZScreens_Pen_ink_I := hts (.fieldLink RX1 18 "ZScreens$Pen" "ink" "I") (by decide +kernel)
  have kfieldLink_RX1_21_ZScreens_Pen_paper_I := hts (.fieldLink RX1 21 "ZScreens$Pen" "paper" "I") (by decide +kernel)
  have kfieldLink_RX1_9_ZScreens_Pen_style_I := hts (.fieldLink RX1 9 "ZScreens$Pen" "style" "I") (by decide +kernel)
  have hP : va_P D vwCl [(g, .inr (2, [.int (iI x1), .int (iI x2), .int (iI x3), .int (iI x4)]))] H := hP
  have hD : va_D A [(g, .inr (2, [.int (iI x1), .int (iI x2), .int (iI x3), .int (iI x4)]))] := hD
  refine lv_iload_n hx hb dX1_draw_0 rfl (lv_at hl 1 rfl) ?_
  refine lv_aload_n hx hb dX1_draw_1 rfl (lv_at hl 0 rfl) ?_
  refine va_get (D := D) (ci := 2) (v := .int (iI x1)) (C := RX1) (T := TX1) (N := 4) hx hb hts inX1 hown hK hP 0 rfl rfl 0 (by decide) kfieldLink_RX1_9_ZScreens_Pen_style_I (fun _ h9 => h9) rfl dX1_draw_2 ?_
  refine lv_aload_n hx hb dX1_draw_5 rfl (lv_at hl 0 rfl) ?_
  refine va_get (D := D) (ci := 2) (v := .int (iI x2)) (C := RX1) (T := TX1) (N := 4) hx hb hts inX1 hown hK hP 0 rfl rfl 1 (by decide) kfieldLink_RX1_15_ZScreens_Pen_font_I (fun _ h9 => h9) rfl dX1_draw_6 ?_
  refine lv_aload_n hx hb dX1_draw_9 rfl (lv_at hl 0 rfl) ?_
  refine va_get (D := D) (ci := 2) (v := .int (iI x3)) (C := RX1) (T := TX1) (N := 4) hx hb hts inX1 hown hK hP 0 rfl rfl 2 (by decide) kfieldLink_RX1_18_ZScreens_Pen_ink_I (fun _ h9 => h9) rfl dX1_draw_10 ?_
  refine lv_aload_n hx hb dX1_draw_13 rfl (lv_at hl 0 rfl) ?_
  refine va_get (D := D) (ci := 2) (v := .int (iI x4)) (C := RX1) (T := TX1) (N := 4) hx hb hts inX1 hown hK hP 0 rfl rfl 3 (by decide) kfieldLink_RX1_21_ZScreens_Pen_paper_I (fun _ h9 => h9) rfl dX1_draw_14 ?_
  refine z_calli (w2 := fun _ => [(g, .inr (2, [.int (iI x1), .int (iI x2), .int (iI x3), .int (iI x4)]))]) (wc := []) (wr := [(g, .inr (2, [.int (iI x1), .int (iI x2), .int (iI x3), .int (iI x4)]))]) (va_runS (As := [.int (iI k), .int (iI x1), .int (iI x2), .int (iI x3), .int (iI x4)]) (rest := []) ⟨hx, hb, hml, hown, hts⟩ (c_X1_pack l D H.size k x1 x2 x3 x4) (va_cwS 5 hts gX1_draw_X1_pack rfl rfl rfl (by decide +kernel) ⟨by rw [hRf]; exact Nat.le_of_ble_eq_true rfl, by rw [hRl]; exact Nat.le_of_ble_eq_true rfl⟩) (z_preS hP hD hK hN [] (by decide) rfl rfl [] rfl) rfl rfl hl.1 rfl (lv_room (Nat.le_of_ble_eq_true rfl)) dX1_draw_17 ⟨by rw [hRc]; exact Nat.le_of_ble_eq_true rfl, by rw [hRs]; exact Nat.le_of_ble_eq_true rfl⟩) hP hD hS hA [] [0] rfl rfl (by decide) (by decide) [0] (by decide) (fun _ => rfl) (fun r _ H locs hw hP hD hS => ?_)
  subst hw
  have hP : va_P D vwCl [(g, .inr (2, [.int (iI x1), .int (iI x2), .int (iI x3), .int (iI x4)]))] H := hP
  have hD : va_D A [(g, .inr (2, [.int (iI x1), .int (iI x2), .int (iI x3), .int (iI x4)]))] := hD
  exact K H locs _ () _ ls 0 0 (by omega) (by omega) rfl rfl hP hD hS dX1_draw_20

abbrev rmX1_blank : Room := { frames := 1, cells := 0, slots := 0, locals := 26 }
set_option maxHeartbeats 4000000 in
set_option maxRecDepth 100000 in
theorem c_X1_blank (l : Launch) (D : va_G) (sz : Nat) (g : Nat) (x1 x2 x3 x4 : Int) : zMi l yX1_blank wsX1_blank rmX1_blank D [] [.ref g] [(g, .inr (2, [.int (iI x1), .int (iI x2), .int (iI x3), .int (iI x4)]))] sz (S := Unit) (fun r _ => r = encC 32 0 1 x3 x4) (fun _ => [(g, .inr (2, [.int (iI x1), .int (iI x2), .int (iI x3), .int (iI x4)]))]) 0 0 := by
  refine z_starti (cc := cX1_blank) (maxL := 1) (ty := .int) (own := RX1) (nm := "blank") (by decide) rfl rfl rfl (Nat.le_of_ble_eq_true rfl) ?_
  intro p e R s m args below meth c A Q ls H locs hBd hP hD hS hl K
  obtain ⟨hx, hb, hml, hown, hts, ⟨hRf, hRl, hRc, hRs⟩, hmn, hK, hN, hA⟩ := hBd
  have hl : lv_has ls 1 [(0, .ref g)] := hl
  have inX1 : ∀ w ∈ wsX10, w ∈ wsX1_blank := by decide +kernel
  have kfieldLink_RX1_18_ZScreens_Pen_ink_I := hts (.fieldLink RX1 18 "ZScreens$Pen" "ink" "I") (by decide +kernel)
  have kfieldLink_RX1_21_ZScreens_Pen_paper_I := hts (.fieldLink RX1 21 "ZScreens$Pen" "paper" "I") (by decide +kernel)
  have hP : va_P D vwCl [(g, .inr (2, [.int (iI x1), .int (iI x2), .int (iI x3), .int (iI x4)]))] H := hP
  have hD : va_D A [(g, .inr (2, [.int (iI x1), .int (iI x2), .int (iI x3), .int (iI x4)]))] := hD
  refine lv_bipush (v := iI 32) hx hb dX1_blank_0 (by decide) ?_
  refine lv_iconst (v := iI 0) hx hb dX1_blank_2 rfl ?_
  refine lv_iconst (v := iI 1) hx hb dX1_blank_3 rfl ?_
  refine lv_aload_n hx hb dX1_blank_4 rfl (lv_at hl 0 rfl) ?_
  refine va_get (D := D) (ci := 2) (v := .int (iI x3)) (C := RX1) (T := TX1) (N := 4) hx hb hts inX1 hown hK hP 0 rfl rfl 2 (by decide) kfieldLink_RX1_18_ZScreens_Pen_ink_I (fun _ h9 => h9) rfl dX1_blank_5 ?_
  refine lv_aload_n hx hb dX1_blank_8 rfl (lv_at hl 0 rfl) ?_
  refine va_get (D := D) (ci := 2) (v := .int (iI x4)) (C := RX1) (T := TX1) (N := 4) hx hb hts inX1 hown hK hP 0 rfl rfl 3 (by decide) kfieldLink_RX1_21_ZScreens_Pen_paper_I (fun _ h9 => h9) rfl dX1_blank_9 ?_
  refine z_calli (w2 := fun _ => [(g, .inr (2, [.int (iI x1), .int (iI x2), .int (iI x3), .int (iI x4)]))]) (wc := []) (wr := [(g, .inr (2, [.int (iI x1), .int (iI x2), .int (iI x3), .int (iI x4)]))]) (va_runS (As := [.int (iI 32), .int (iI 0), .int (iI 1), .int (iI x3), .int (iI x4)]) (rest := []) ⟨hx, hb, hml, hown, hts⟩ (c_X1_pack l D H.size 32 0 1 x3 x4) (va_cwS 5 hts gX1_blank_X1_pack rfl rfl rfl (by decide +kernel) ⟨by rw [hRf]; exact Nat.le_of_ble_eq_true rfl, by rw [hRl]; exact Nat.le_of_ble_eq_true rfl⟩) (z_preS hP hD hK hN [] (by decide) rfl rfl [] rfl) rfl rfl hl.1 rfl (lv_room (Nat.le_of_ble_eq_true rfl)) dX1_blank_12 ⟨by rw [hRc]; exact Nat.le_of_ble_eq_true rfl, by rw [hRs]; exact Nat.le_of_ble_eq_true rfl⟩) hP hD hS hA [] [0] rfl rfl (by decide) (by decide) [0] (by decide) (fun _ => rfl) (fun r _ H locs hw hP hD hS => ?_)
  subst hw
  have hP : va_P D vwCl [(g, .inr (2, [.int (iI x1), .int (iI x2), .int (iI x3), .int (iI x4)]))] H := hP
  have hD : va_D A [(g, .inr (2, [.int (iI x1), .int (iI x2), .int (iI x3), .int (iI x4)]))] := hD
  exact K H locs _ () _ ls 0 0 (by omega) (by omega) rfl rfl hP hD hS dX1_blank_15

abbrev rmX3_moveTo : Room := { frames := 0, cells := 0, slots := 0, locals := 0 }
set_option maxHeartbeats 4000000 in
set_option maxRecDepth 100000 in
theorem c_X3_moveTo (l : Launch) (D : va_G) (sz : Nat) (g : Nat) (x1 x2 x3 x4 : Int) : zMv l yX3_moveTo wsX3_moveTo rmX3_moveTo D [] [.ref g, .int (iI x3), .int (iI x4)] [(g, .inr (4, [.int (iI x1), .int (iI x2)]))] sz (S := Unit) (fun _ => True) (fun _ => [(g, .inr (4, [.int (iI x3), .int (iI x4)]))]) 0 0 := by
  refine z_startv (cc := cX3_moveTo) (maxL := 3) (own := RX3) (nm := "moveTo") (by decide) rfl rfl rfl (Nat.le_of_ble_eq_true rfl) ?_
  intro p e R s m args below meth c A Q ls H locs hBd hP hD hS hl K
  obtain ⟨hx, hb, hml, hown, hts, ⟨hRf, hRl, hRc, hRs⟩, hmn, hK, hN, hA⟩ := hBd
  have hl : lv_has ls 3 [(0, .ref g), (1, .int (iI x3)), (2, .int (iI x4))] := hl
  have inX3 : ∀ w ∈ wsX30, w ∈ wsX3_moveTo := by decide +kernel
  have kfieldLink_RX3_13_ZScreens_Spot_column_I := hts (.fieldLink RX3 13 "ZScreens$Spot" "column" "I") (by decide +kernel)
  have kfieldLink_RX3_7_ZScreens_Spot_line_I := hts (.fieldLink RX3 7 "ZScreens$Spot" "line" "I") (by decide +kernel)
  have hP : va_P D vwCl [(g, .inr (4, [.int (iI x1), .int (iI x2)]))] H := hP
  have hD : va_D A [(g, .inr (4, [.int (iI x1), .int (iI x2)]))] := hD
  refine lv_aload_n hx hb dX3_moveTo_0 rfl (lv_at hl 0 rfl) ?_
  refine lv_iload_n hx hb dX3_moveTo_1 rfl (lv_at hl 1 rfl) ?_
  refine va_put (D := D) (ci := 4) (v := .int (iI x3)) (ty := .int) (C := RX3) (T := TX3) (N := 2) hx hb hts inX3 tyX3 tyX3_ok nmX3 hown hK hP hD hS 0 rfl rfl 0 (by decide) kfieldLink_RX3_7_ZScreens_Spot_line_I (fun _ h9 => h9) rfl (by decide +kernel) rfl rfl (Nat.le_of_ble_eq_true rfl) dX3_moveTo_2 (fun H locs hP hD hS => ?_)
  have hP : va_P D vwCl [(g, .inr (4, [.int (iI x3), .int (iI x2)]))] H := hP
  have hD : va_D A [(g, .inr (4, [.int (iI x3), .int (iI x2)]))] := hD
  refine lv_aload_n hx hb dX3_moveTo_5 rfl (lv_at hl 0 rfl) ?_
  refine lv_iload_n hx hb dX3_moveTo_6 rfl (lv_at hl 2 rfl) ?_
  refine va_put (D := D) (ci := 4) (v := .int (iI x4)) (ty := .int) (C := RX3) (T := TX3) (N := 2) hx hb hts inX3 tyX3 tyX3_ok nmX3 hown hK hP hD hS 0 rfl rfl 1 (by decide) kfieldLink_RX3_13_ZScreens_Spot_column_I (fun _ h9 => h9) rfl (by decide +kernel) rfl rfl (Nat.le_of_ble_eq_true rfl) dX3_moveTo_7 (fun H locs hP hD hS => ?_)
  have hP : va_P D vwCl [(g, .inr (4, [.int (iI x3), .int (iI x4)]))] H := hP
  have hD : va_D A [(g, .inr (4, [.int (iI x3), .int (iI x4)]))] := hD
  exact K H locs () _ ls 0 0 (by omega) (by omega) trivial hP hD hS dX3_moveTo_10

abbrev rmX2_add : Room := { frames := 0, cells := 0, slots := 0, locals := 0 }
set_option maxHeartbeats 4000000 in
set_option maxRecDepth 100000 in
theorem c_X2_add (l : Launch) (D : va_G) (sz : Nat) (cA : ClassId) (g ga n : Nat) (f : Nat → Int32) (k : Int) (v : Int32) (h : 0 ≤ k ∧ k ≤ (n : Int) ∧ n ≤ 100000) : zMv l yX2_add wsX2_add rmX2_add D [(cA, .int)] [.ref g, .int (v)] [(g, .inr (3, [.ref ga, .int (iI k)])), (ga, .inl (cA, n, .inl f))] sz (S := (Int × (Nat → Int32))) (fun u => u.1 = (if k < (n : Int) then k + 1 else k) ∧ u.2 = (if k < (n : Int) then upd f k.toNat v else f)) (fun u => [(g, .inr (3, [.ref ga, .int (iI u.1)])), (ga, .inl (cA, n, .inl u.2))]) 0 0 := by
  refine z_startv (cc := cX2_add) (maxL := 2) (own := RX2) (nm := "add") (by decide) rfl rfl rfl (Nat.le_of_ble_eq_true rfl) ?_
  intro p e R s m args below meth c A Q ls H locs hBd hP hD hS hl K
  obtain ⟨hx, hb, hml, hown, hts, ⟨hRf, hRl, hRc, hRs⟩, hmn, hK, hN, hA⟩ := hBd
  have hl : lv_has ls 2 [(0, .ref g), (1, .int (v))] := hl
  have inX2 : ∀ w ∈ wsX20, w ∈ wsX2_add := by decide +kernel
  have kfieldLink_RX2_19_ZScreens_Pile_items_I := hts (.fieldLink RX2 19 "ZScreens$Pile" "items" "[I") (by decide +kernel)
  have kfieldLink_RX2_7_ZScreens_Pile_length_I := hts (.fieldLink RX2 7 "ZScreens$Pile" "length" "I") (by decide +kernel)
  have hP : va_P D vwCl [(g, .inr (3, [.ref ga, .int (iI k)])), (ga, .inl (cA, n, .inl f))] H := hP
  have hD : va_D A [(g, .inr (3, [.ref ga, .int (iI k)])), (ga, .inl (cA, n, .inl f))] := hD
  refine lv_aload_n hx hb dX2_add_0 rfl (lv_at hl 0 rfl) ?_
  refine va_get (D := D) (ci := 3) (v := .int (iI k)) (C := RX2) (T := TX2) (N := 2) hx hb hts inX2 hown hK hP 0 rfl rfl 1 (by decide) kfieldLink_RX2_7_ZScreens_Pile_length_I (fun _ h9 => h9) rfl dX2_add_1 ?_
  refine lv_aload_n hx hb dX2_add_4 rfl (lv_at hl 0 rfl) ?_
  refine va_get (D := D) (ci := 3) (v := .ref ga) (C := RX2) (T := TX2) (N := 2) hx hb hts inX2 hown hK hP 0 rfl rfl 0 (by decide) kfieldLink_RX2_19_ZScreens_Pile_items_I (fun _ h9 => h9) rfl dX2_add_5 ?_
  refine va_alen hx hb hK hP 1 0 rfl rfl (v := iI n) rfl dX2_add_8 ?_
  refine z_icmp_ge hx hb 32 (by omega) dX2_add_9 (by decide) (fun c9 => ?_) (fun c9 => ?_)
  · skip
    exact K H locs (k, f) _ ls 0 0 (by omega) (by omega) ⟨(if_neg (by omega)).symm, (if_neg (by omega)).symm⟩ hP hD hS dX2_add_32
  · skip
    refine lv_aload_n hx hb dX2_add_12 rfl (lv_at hl 0 rfl) ?_
    refine va_get (D := D) (ci := 3) (v := .ref ga) (C := RX2) (T := TX2) (N := 2) hx hb hts inX2 hown hK hP 0 rfl rfl 0 (by decide) kfieldLink_RX2_19_ZScreens_Pile_items_I (fun _ h9 => h9) rfl dX2_add_13 ?_
    refine lv_aload_n hx hb dX2_add_16 rfl (lv_at hl 0 rfl) ?_
    refine va_get (D := D) (ci := 3) (v := .int (iI k)) (C := RX2) (T := TX2) (N := 2) hx hb hts inX2 hown hK hP 0 rfl rfl 1 (by decide) kfieldLink_RX2_7_ZScreens_Pile_length_I (fun _ h9 => h9) rfl dX2_add_17 ?_
    refine lv_iload_n hx hb dX2_add_20 rfl (lv_at hl 1 rfl) ?_
    refine z_iast hx hb hK hP hD hS 1 0 rfl rfl (by omega) dX2_add_21 (fun H locs hP hD hS => ?_)
    have hP : va_P D vwCl [(g, .inr (3, [.ref ga, .int (iI k)])), (ga, .inl (cA, n, .inl (upd f (k).toNat v)))] H := hP
    have hD : va_D A [(g, .inr (3, [.ref ga, .int (iI k)])), (ga, .inl (cA, n, .inl (upd f (k).toNat v)))] := hD
    refine lv_aload_n hx hb dX2_add_22 rfl (lv_at hl 0 rfl) ?_
    refine lv_dup hx hb dX2_add_23 rfl ?_
    refine va_get (D := D) (ci := 3) (v := .int (iI k)) (C := RX2) (T := TX2) (N := 2) hx hb hts inX2 hown hK hP 0 rfl rfl 1 (by decide) kfieldLink_RX2_7_ZScreens_Pile_length_I (fun _ h9 => h9) rfl dX2_add_24 ?_
    refine lv_iconst (v := iI 1) hx hb dX2_add_27 rfl ?_
    refine z_iadd hx hb dX2_add_28 ?_
    refine va_put (D := D) (ci := 3) (v := .int (iI (k + 1))) (ty := .int) (C := RX2) (T := TX2) (N := 2) hx hb hts inX2 tyX2 tyX2_ok nmX2 hown hK hP hD hS 0 rfl rfl 1 (by decide) kfieldLink_RX2_7_ZScreens_Pile_length_I (fun _ h9 => h9) rfl (by decide +kernel) rfl rfl (Nat.le_of_ble_eq_true rfl) dX2_add_29 (fun H locs hP hD hS => ?_)
    have hP : va_P D vwCl [(g, .inr (3, [.ref ga, .int (iI (k + 1))])), (ga, .inl (cA, n, .inl (upd f (k).toNat v)))] H := hP
    have hD : va_D A [(g, .inr (3, [.ref ga, .int (iI (k + 1))])), (ga, .inl (cA, n, .inl (upd f (k).toNat v)))] := hD
    exact K H locs (k + 1, upd f (k).toNat v) _ ls 0 0 (by omega) (by omega) ⟨(if_pos (by omega)).symm, (if_pos (by omega)).symm⟩ hP hD hS dX2_add_32

abbrev rmX2_get : Room := { frames := 0, cells := 0, slots := 0, locals := 0 }
set_option maxHeartbeats 4000000 in
set_option maxRecDepth 100000 in
theorem c_X2_get (l : Launch) (D : va_G) (sz : Nat) (cA : ClassId) (g ga n : Nat) (f : Nat → Int32) (k : Int) (i : Int) (h : 0 ≤ i ∧ i < k ∧ k ≤ (n : Int) ∧ n ≤ 100000) : zMi l yX2_get wsX2_get rmX2_get D [(cA, .int)] [.ref g, .int (iI i)] [(g, .inr (3, [.ref ga, .int (iI k)])), (ga, .inl (cA, n, .inl f))] sz (S := Unit) (fun r _ => r = f i.toNat) (fun _ => [(g, .inr (3, [.ref ga, .int (iI (k))])), (ga, .inl (cA, n, .inl (f)))]) 0 0 := by
  refine z_starti (cc := cX2_get) (maxL := 2) (ty := .int) (own := RX2) (nm := "get") (by decide) rfl rfl rfl (Nat.le_of_ble_eq_true rfl) ?_
  intro p e R s m args below meth c A Q ls H locs hBd hP hD hS hl K
  obtain ⟨hx, hb, hml, hown, hts, ⟨hRf, hRl, hRc, hRs⟩, hmn, hK, hN, hA⟩ := hBd
  have hl : lv_has ls 2 [(0, .ref g), (1, .int (iI i))] := hl
  have inX2 : ∀ w ∈ wsX20, w ∈ wsX2_get := by decide +kernel
  have kfieldLink_RX2_19_ZScreens_Pile_items_I := hts (.fieldLink RX2 19 "ZScreens$Pile" "items" "[I") (by decide +kernel)
  have kfieldLink_RX2_7_ZScreens_Pile_length_I := hts (.fieldLink RX2 7 "ZScreens$Pile" "length" "I") (by decide +kernel)
  have hP : va_P D vwCl [(g, .inr (3, [.ref ga, .int (iI k)])), (ga, .inl (cA, n, .inl f))] H := hP
  have hD : va_D A [(g, .inr (3, [.ref ga, .int (iI k)])), (ga, .inl (cA, n, .inl f))] := hD
  refine lv_iload_n hx hb dX2_get_0 rfl (lv_at hl 1 rfl) ?_
  refine z_if_lt hx hb 30 (by omega) dX2_get_1 (by decide) (fun c1 => absurd c1 (by omega)) (fun c1 => ?_)
  refine lv_iload_n hx hb dX2_get_4 rfl (lv_at hl 1 rfl) ?_
  refine lv_aload_n hx hb dX2_get_5 rfl (lv_at hl 0 rfl) ?_
  refine va_get (D := D) (ci := 3) (v := .int (iI k)) (C := RX2) (T := TX2) (N := 2) hx hb hts inX2 hown hK hP 0 rfl rfl 1 (by decide) kfieldLink_RX2_7_ZScreens_Pile_length_I (fun _ h9 => h9) rfl dX2_get_6 ?_
  refine z_icmp_ge hx hb 30 (by omega) dX2_get_9 (by decide) (fun c9 => absurd c9 (by omega)) (fun c9 => ?_)
  refine lv_iload_n hx hb dX2_get_12 rfl (lv_at hl 1 rfl) ?_
  refine lv_aload_n hx hb dX2_get_13 rfl (lv_at hl 0 rfl) ?_
  refine va_get (D := D) (ci := 3) (v := .ref ga) (C := RX2) (T := TX2) (N := 2) hx hb hts inX2 hown hK hP 0 rfl rfl 0 (by decide) kfieldLink_RX2_19_ZScreens_Pile_items_I (fun _ h9 => h9) rfl dX2_get_14 ?_
  refine va_alen hx hb hK hP 1 0 rfl rfl (v := iI n) rfl dX2_get_17 ?_
  refine z_icmp_ge hx hb 30 (by omega) dX2_get_18 (by decide) (fun c18 => absurd c18 (by omega)) (fun c18 => ?_)
  refine lv_aload_n hx hb dX2_get_21 rfl (lv_at hl 0 rfl) ?_
  refine va_get (D := D) (ci := 3) (v := .ref ga) (C := RX2) (T := TX2) (N := 2) hx hb hts inX2 hown hK hP 0 rfl rfl 0 (by decide) kfieldLink_RX2_19_ZScreens_Pile_items_I (fun _ h9 => h9) rfl dX2_get_22 ?_
  refine lv_iload_n hx hb dX2_get_25 rfl (lv_at hl 1 rfl) ?_
  refine z_iald hx hb hK hP 1 0 rfl rfl (by omega) dX2_get_26 ?_
  refine lv_goto (tgt := 31) hx hb dX2_get_27 (by decide) ?_
  exact K H locs _ () _ ls 0 0 (by omega) (by omega) rfl rfl hP hD hS dX2_get_31

abbrev rmX2_clear : Room := { frames := 0, cells := 0, slots := 0, locals := 0 }
set_option maxHeartbeats 4000000 in
set_option maxRecDepth 100000 in
theorem c_X2_clear (l : Launch) (D : va_G) (sz : Nat) (g : Nat) (a : Value) (k : Int) : zMv l yX2_clear wsX2_clear rmX2_clear D [] [.ref g] [(g, .inr (3, [a, .int (iI k)]))] sz (S := Unit) (fun _ => True) (fun _ => [(g, .inr (3, [a, .int (iI 0)]))]) 0 0 := by
  refine z_startv (cc := cX2_clear) (maxL := 1) (own := RX2) (nm := "clear") (by decide) rfl rfl rfl (Nat.le_of_ble_eq_true rfl) ?_
  intro p e R s m args below meth c A Q ls H locs hBd hP hD hS hl K
  obtain ⟨hx, hb, hml, hown, hts, ⟨hRf, hRl, hRc, hRs⟩, hmn, hK, hN, hA⟩ := hBd
  have hl : lv_has ls 1 [(0, .ref g)] := hl
  have inX2 : ∀ w ∈ wsX20, w ∈ wsX2_clear := by decide +kernel
  have kfieldLink_RX2_7_ZScreens_Pile_length_I := hts (.fieldLink RX2 7 "ZScreens$Pile" "length" "I") (by decide +kernel)
  have hP : va_P D vwCl [(g, .inr (3, [a, .int (iI k)]))] H := hP
  have hD : va_D A [(g, .inr (3, [a, .int (iI k)]))] := hD
  refine lv_aload_n hx hb dX2_clear_0 rfl (lv_at hl 0 rfl) ?_
  refine lv_iconst (v := iI 0) hx hb dX2_clear_1 rfl ?_
  refine va_put (D := D) (ci := 3) (v := .int (iI 0)) (ty := .int) (C := RX2) (T := TX2) (N := 2) hx hb hts inX2 tyX2 tyX2_ok nmX2 hown hK hP hD hS 0 rfl rfl 1 (by decide) kfieldLink_RX2_7_ZScreens_Pile_length_I (fun _ h9 => h9) rfl (by decide +kernel) rfl rfl (Nat.le_of_ble_eq_true rfl) dX2_clear_2 (fun H locs hP hD hS => ?_)
  have hP : va_P D vwCl [(g, .inr (3, [a, .int (iI 0)]))] H := hP
  have hD : va_D A [(g, .inr (3, [a, .int (iI 0)]))] := hD
  exact K H locs () _ ls 0 0 (by omega) (by omega) trivial hP hD hS dX2_clear_5

abbrev rmX4_nearest : Room := { frames := 1, cells := 0, slots := 0, locals := 24 }
set_option maxHeartbeats 4000000 in
set_option maxRecDepth 100000 in
theorem c_X4_nearest (l : Launch) (D : va_G) (sz : Nat) (n a b : Int) (h : (-2147483648 ≤ n ∧ n ≤ 2147483647) ∧ (-2147483648 ≤ a ∧ a ≤ 2147483647) ∧ (-2147483648 ≤ b ∧ b ≤ 2147483647)) : zMi l yX4_nearest wsX4_nearest rmX4_nearest D [] [.int (iI n), .int (iI a), .int (iI b)] [] sz (S := Unit) (fun r _ => r = iI (max a (min b n))) (fun _ => []) 0 0 := by
  refine z_starti (cc := cX4_nearest) (maxL := 3) (ty := .int) (own := RX4) (nm := "nearest") (by decide) rfl rfl rfl (Nat.le_of_ble_eq_true rfl) ?_
  intro p e R s m args below meth c A Q ls H locs hBd hP hD hS hl K
  obtain ⟨hx, hb, hml, hown, hts, ⟨hRf, hRl, hRc, hRs⟩, hmn, hK, hN, hA⟩ := hBd
  have hl : lv_has ls 3 [(0, .int (iI n)), (1, .int (iI a)), (2, .int (iI b))] := hl
  have kcode_Lib_Math_max_name_Lib_Math_max_code_2_some_int := hts (.code Lib.Math.max.name Lib.Math.max.code 2 (some .int)) (by decide +kernel)
  have kcode_Lib_Math_min_name_Lib_Math_min_code_2_some_int := hts (.code Lib.Math.min.name Lib.Math.min.code 2 (some .int)) (by decide +kernel)
  have kinitialized_java_lang_Math := hts (.initialized "java/lang/Math") (by decide +kernel)
  have kmethodLink_RX4_111_Lib_Math_min_name := hts (.methodLink RX4 111 Lib.Math.min.name) (by decide +kernel)
  have kmethodLink_RX4_214_Lib_Math_max_name := hts (.methodLink RX4 214 Lib.Math.max.name) (by decide +kernel)
  have kstatic_Lib_Math_max_name := hts (.static Lib.Math.max.name) (by decide +kernel)
  have kstatic_Lib_Math_min_name := hts (.static Lib.Math.min.name) (by decide +kernel)
  have hP : va_P D vwCl [] H := hP
  have hD : va_D A [] := hD
  refine lv_iload_n hx hb dX4_nearest_0 rfl (lv_at hl 1 rfl) ?_
  refine lv_iload_n hx hb dX4_nearest_1 rfl (lv_at hl 2 rfl) ?_
  refine lv_iload_n hx hb dX4_nearest_2 rfl (lv_at hl 0 rfl) ?_
  refine z_min hx hb (by rw [hml]; exact hl.1.symm) hown kmethodLink_RX4_111_Lib_Math_min_name kstatic_Lib_Math_min_name kinitialized_java_lang_Math kcode_Lib_Math_min_name_Lib_Math_min_code_2_some_int (by rw [hRf]; exact Nat.le_of_ble_eq_true rfl) (by rw [hRl]; exact Nat.le_of_ble_eq_true rfl) (Nat.zero_le _) (Nat.zero_le _) (by omega) dX4_nearest_3 ?_
  refine z_max hx hb (by rw [hml]; exact hl.1.symm) hown kmethodLink_RX4_214_Lib_Math_max_name kstatic_Lib_Math_max_name kinitialized_java_lang_Math kcode_Lib_Math_max_name_Lib_Math_max_code_2_some_int (by rw [hRf]; exact Nat.le_of_ble_eq_true rfl) (by rw [hRl]; exact Nat.le_of_ble_eq_true rfl) (Nat.zero_le _) (Nat.zero_le _) (by omega) dX4_nearest_6 ?_
  exact K H locs _ () _ ls 0 0 (by omega) (by omega) rfl rfl hP hD hS dX4_nearest_9

abbrev rmX4_isOutside : Room := { frames := 0, cells := 0, slots := 0, locals := 0 }
set_option maxHeartbeats 4000000 in
set_option maxRecDepth 100000 in
theorem c_X4_isOutside (l : Launch) (D : va_G) (sz : Nat) (n a b : Int) (h : (-2147483648 ≤ n ∧ n ≤ 2147483647) ∧ (-2147483648 ≤ a ∧ a ≤ 2147483647) ∧ (-2147483648 ≤ b ∧ b ≤ 2147483647)) : zMi l yX4_isOutside wsX4_isOutside rmX4_isOutside D [] [.int (iI n), .int (iI a), .int (iI b)] [] sz (S := Unit) (fun r _ => r = iI (if n < a ∨ b < n then 1 else 0)) (fun _ => []) 0 0 := by
  refine z_starti (cc := cX4_isOutside) (maxL := 3) (ty := .boolean) (own := RX4) (nm := "isOutside") (by decide) rfl rfl rfl (Nat.le_of_ble_eq_true rfl) ?_
  intro p e R s m args below meth c A Q ls H locs hBd hP hD hS hl K
  obtain ⟨hx, hb, hml, hown, hts, ⟨hRf, hRl, hRc, hRs⟩, hmn, hK, hN, hA⟩ := hBd
  have hl : lv_has ls 3 [(0, .int (iI n)), (1, .int (iI a)), (2, .int (iI b))] := hl
  have hP : va_P D vwCl [] H := hP
  have hD : va_D A [] := hD
  refine lv_iload_n hx hb dX4_isOutside_0 rfl (lv_at hl 0 rfl) ?_
  refine lv_iload_n hx hb dX4_isOutside_1 rfl (lv_at hl 1 rfl) ?_
  refine z_icmp_lt hx hb 10 (by omega) dX4_isOutside_2 (by decide) (fun c2 => ?_) (fun c2 => ?_)
  · skip
    refine lv_iconst (v := iI 1) hx hb dX4_isOutside_10 rfl ?_
    refine lv_goto (tgt := 15) hx hb dX4_isOutside_11 (by decide) ?_
    exact K H locs _ () _ ls 0 0 (by omega) (by omega) (by decide) (by rw [if_pos (by omega)]) hP hD hS dX4_isOutside_15
  · skip
    refine lv_iload_n hx hb dX4_isOutside_5 rfl (lv_at hl 0 rfl) ?_
    refine lv_iload_n hx hb dX4_isOutside_6 rfl (lv_at hl 2 rfl) ?_
    refine z_icmp_le hx hb 14 (by omega) dX4_isOutside_7 (by decide) (fun c7 => ?_) (fun c7 => ?_)
    · skip
      refine lv_iconst (v := iI 0) hx hb dX4_isOutside_14 rfl ?_
      exact K H locs _ () _ ls 0 0 (by omega) (by omega) (by decide) (by rw [if_neg (by omega)]) hP hD hS dX4_isOutside_15
    · skip
      refine lv_iconst (v := iI 1) hx hb dX4_isOutside_10 rfl ?_
      refine lv_goto (tgt := 15) hx hb dX4_isOutside_11 (by decide) ?_
      exact K H locs _ () _ ls 0 0 (by omega) (by omega) (by decide) (by rw [if_pos (by omega)]) hP hD hS dX4_isOutside_15

abbrev rmX4_colourAfter : Room := { frames := 0, cells := 0, slots := 0, locals := 0 }
set_option maxHeartbeats 4000000 in
set_option maxRecDepth 100000 in
theorem c_X4_colourAfter (l : Launch) (D : va_G) (sz : Nat) (n a b : Int) (h : (-2147483648 ≤ n ∧ n ≤ 2147483647)) : zMi l yX4_colourAfter wsX4_colourAfter rmX4_colourAfter D [] [.int (iI n), .int (iI a), .int (iI b)] [] sz (S := Unit) (fun r _ => r = iI (if n = 0 then a else if n = 1 then b else n)) (fun _ => []) 0 0 := by
  refine z_starti (cc := cX4_colourAfter) (maxL := 3) (ty := .int) (own := RX4) (nm := "colourAfter") (by decide) rfl rfl rfl (Nat.le_of_ble_eq_true rfl) ?_
  intro p e R s m args below meth c A Q ls H locs hBd hP hD hS hl K
  obtain ⟨hx, hb, hml, hown, hts, ⟨hRf, hRl, hRc, hRs⟩, hmn, hK, hN, hA⟩ := hBd
  have hl : lv_has ls 3 [(0, .int (iI n)), (1, .int (iI a)), (2, .int (iI b))] := hl
  have hP : va_P D vwCl [] H := hP
  have hD : va_D A [] := hD
  refine lv_iload_n hx hb dX4_colourAfter_0 rfl (lv_at hl 0 rfl) ?_
  refine z_if_ne hx hb 6 (by omega) dX4_colourAfter_1 (by decide) (fun c1 => ?_) (fun c1 => ?_)
  · skip
    refine lv_iload_n hx hb dX4_colourAfter_6 rfl (lv_at hl 0 rfl) ?_
    refine lv_iconst (v := iI 1) hx hb dX4_colourAfter_7 rfl ?_
    refine z_icmp_ne hx hb 15 (by omega) dX4_colourAfter_8 (by decide) (fun c8 => ?_) (fun c8 => ?_)
    · skip
      refine lv_iload_n hx hb dX4_colourAfter_15 rfl (lv_at hl 0 rfl) ?_
      exact K H locs _ () _ ls 0 0 (by omega) (by omega) rfl (by rw [if_neg (by omega), if_neg (by omega)]) hP hD hS dX4_colourAfter_16
    · skip
      refine lv_iload_n hx hb dX4_colourAfter_11 rfl (lv_at hl 2 rfl) ?_
      refine lv_goto (tgt := 16) hx hb dX4_colourAfter_12 (by decide) ?_
      exact K H locs _ () _ ls 0 0 (by omega) (by omega) rfl (by rw [if_neg (by omega), if_pos (by omega)]) hP hD hS dX4_colourAfter_16
  · skip
    refine lv_iload_n hx hb dX4_colourAfter_4 rfl (lv_at hl 1 rfl) ?_
    exact K H locs _ () _ ls 0 0 (by omega) (by omega) rfl (by rw [if_pos (by omega)]) hP hD hS dX4_colourAfter_5
