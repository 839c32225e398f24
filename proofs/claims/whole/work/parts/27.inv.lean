/-! what always holds is kept by every step -/
theorem inv_sp {σ : Nat → Int} {n : Int} (hI : zInv σ) (h : 0 ≤ n ∧ n ≤ 255) : zInv (spS σ n) := by
  obtain ⟨i0, i1, i2, i3, i4, i5, i6, i8, i10, i11, i12, i13, i14, i15, i16, i17, i18, i19, i20, it, j4, j12, j5⟩ := id hI
  have ht9 := ztop_c σ
  exact ⟨i0, i1, i2, (show 0 ≤ (min n (σ 1 - ztop σ - 1)) ∧ (min n (σ 1 - ztop σ - 1)) + ztop σ + 1 ≤ σ 1 by omega), (show 0 ≤ (if min n (σ 1 - ztop σ - 1) = 0 then 0 else σ 4) ∧ (if min n (σ 1 - ztop σ - 1) = 0 then 0 else σ 4) ≤ 1 by omega), i5, i6, i8, (show 1 ≤ (if σ 3 + σ 10 - min n (σ 1 - ztop σ - 1) < 1 then 1 else σ 3 + σ 10 - min n (σ 1 - ztop σ - 1)) ∧ (if σ 3 + σ 10 - min n (σ 1 - ztop σ - 1) < 1 then 1 else σ 3 + σ 10 - min n (σ 1 - ztop σ - 1)) + ztop σ + (min n (σ 1 - ztop σ - 1)) ≤ σ 1 by omega), (show 1 ≤ (if σ 3 + σ 10 - min n (σ 1 - ztop σ - 1) < 1 then 1 else σ 11) ∧ (if σ 3 + σ 10 - min n (σ 1 - ztop σ - 1) < 1 then 1 else σ 11) ≤ σ 2 + 1 by omega), (show 1 ≤ (if min n (σ 1 - ztop σ - 1) < σ 12 then 1 else σ 12) ∧ (if min n (σ 1 - ztop σ - 1) < σ 12 then 1 else σ 12) ≤ 40 by omega), (show 1 ≤ (if min n (σ 1 - ztop σ - 1) < σ 12 then 1 else σ 13) ∧ (if min n (σ 1 - ztop σ - 1) < σ 12 then 1 else σ 13) ≤ σ 2 + 1 by omega), i14, i15, i16, i17, i18, i19, i20, it, (show (if min n (σ 1 - ztop σ - 1) = 0 then 0 else σ 4) = 1 → 1 ≤ (min n (σ 1 - ztop σ - 1)) by omega), (show (if min n (σ 1 - ztop σ - 1) < σ 12 then 1 else σ 12) ≤ (min n (σ 1 - ztop σ - 1)) ∨ (if min n (σ 1 - ztop σ - 1) < σ 12 then 1 else σ 12) = 1 by omega), j5⟩
theorem inv_ch {σ : Nat → Int} {n : Int} (hI : zInv σ) (h : (0 ≤ n ∧ n ≤ 1) ∧ ¬ (n = 1 ∧ σ 3 = 0)) : zInv (chS σ n) := by
  obtain ⟨i0, i1, i2, i3, i4, i5, i6, i8, i10, i11, i12, i13, i14, i15, i16, i17, i18, i19, i20, it, j4, j12, j5⟩ := id hI
  have ht9 := ztop_c σ
  exact ⟨i0, i1, i2, i3, (show 0 ≤ (n) ∧ (n) ≤ 1 by omega), i5, i6, i8, i10, i11, (show 1 ≤ (if n = 1 then 1 else σ 12) ∧ (if n = 1 then 1 else σ 12) ≤ 40 by omega), (show 1 ≤ (if n = 1 then 1 else σ 13) ∧ (if n = 1 then 1 else σ 13) ≤ σ 2 + 1 by omega), i14, i15, i16, i17, i18, i19, i20, it, (show (n) = 1 → 1 ≤ σ 3 by omega), (show (if n = 1 then 1 else σ 12) ≤ σ 3 ∨ (if n = 1 then 1 else σ 12) = 1 by omega), j5⟩
theorem inv_cu {σ : Nat → Int} {x y : Int} (hI : zInv σ) (h : 1 ≤ σ 3) : zInv (cuS σ x y) := by
  obtain ⟨i0, i1, i2, i3, i4, i5, i6, i8, i10, i11, i12, i13, i14, i15, i16, i17, i18, i19, i20, it, j4, j12, j5⟩ := id hI
  have ht9 := ztop_c σ
  exact ⟨i0, i1, i2, i3, i4, i5, i6, i8, i10, i11, (show 1 ≤ (max 1 (min (σ 3) x)) ∧ (max 1 (min (σ 3) x)) ≤ 40 by omega), (show 1 ≤ (max 1 (min (σ 2) y)) ∧ (max 1 (min (σ 2) y)) ≤ σ 2 + 1 by omega), i14, i15, i16, i17, i18, i19, i20, it, j4, (show (max 1 (min (σ 3) x)) ≤ σ 3 ∨ (max 1 (min (σ 3) x)) = 1 by omega), j5⟩
theorem inv_eu {σ : Nat → Int}  (hI : zInv σ)  : zInv (euS σ) := by
  obtain ⟨i0, i1, i2, i3, i4, i5, i6, i8, i10, i11, i12, i13, i14, i15, i16, i17, i18, i19, i20, it, j4, j12, j5⟩ := id hI
  have ht9 := ztop_c σ
  exact ⟨i0, i1, i2, i3, i4, i5, i6, i8, i10, i11, (show 1 ≤ (1) ∧ (1) ≤ 40 by omega), (show 1 ≤ (1) ∧ (1) ≤ σ 2 + 1 by omega), i14, i15, i16, i17, i18, i19, i20, it, j4, (show (1) ≤ σ 3 ∨ (1) = 1 by omega), j5⟩
theorem inv_el {σ : Nat → Int}  (hI : zInv σ)  : zInv (elS σ) := by
  obtain ⟨i0, i1, i2, i3, i4, i5, i6, i8, i10, i11, i12, i13, i14, i15, i16, i17, i18, i19, i20, it, j4, j12, j5⟩ := id hI
  have ht9 := ztop_c σ
  exact ⟨i0, i1, i2, i3, i4, i5, i6, (show 0 ≤ (0) ∧ (0) ≤ 40 by omega), (show 1 ≤ (if 5 ≤ σ 0 then 1 else σ 1 - (ztop σ + σ 3)) ∧ (if 5 ≤ σ 0 then 1 else σ 1 - (ztop σ + σ 3)) + ztop σ + σ 3 ≤ σ 1 by omega), (show 1 ≤ (1) ∧ (1) ≤ σ 2 + 1 by omega), i12, i13, i14, i15, i16, i17, i18, i19, i20, it, j4, j12, j5⟩
theorem inv_ea {σ : Nat → Int}  (hI : zInv σ)  : zInv (euS (eaS σ)) := by
  obtain ⟨i0, i1, i2, i3, i4, i5, i6, i8, i10, i11, i12, i13, i14, i15, i16, i17, i18, i19, i20, it, j4, j12, j5⟩ := id hI
  have ht9 := ztop_c σ
  exact ⟨i0, i1, i2, (show 0 ≤ (0) ∧ (0) + ztop σ + 1 ≤ σ 1 by omega), (show 0 ≤ (0) ∧ (0) ≤ 1 by omega), i5, i6, i8, (show 1 ≤ σ 10 ∧ σ 10 + ztop σ + (0) ≤ σ 1 by omega), i11, (show 1 ≤ (1) ∧ (1) ≤ 40 by omega), (show 1 ≤ (1) ∧ (1) ≤ σ 2 + 1 by omega), i14, i15, i16, i17, i18, i19, i20, it, (show (0) = 1 → 1 ≤ (0) by omega), (show (1) ≤ (0) ∨ (1) = 1 by omega), j5⟩
theorem inv_co {σ : Nat → Int} {x y : Int} (hI : zInv σ) (h : (0 ≤ x ∧ x ≤ 9) ∧ 0 ≤ y ∧ y ≤ 9) : zInv (coS σ x y) := by
  obtain ⟨i0, i1, i2, i3, i4, i5, i6, i8, i10, i11, i12, i13, i14, i15, i16, i17, i18, i19, i20, it, j4, j12, j5⟩ := id hI
  have ht9 := ztop_c σ
  exact ⟨i0, i1, i2, i3, i4, i5, i6, i8, i10, i11, i12, i13, i14, i15, (show 2 ≤ (if x = 0 then σ 16 else if x = 1 then 2 else x) ∧ (if x = 0 then σ 16 else if x = 1 then 2 else x) ≤ 9 by omega), (show 2 ≤ (if y = 0 then σ 17 else if y = 1 then 9 else y) ∧ (if y = 0 then σ 17 else if y = 1 then 9 else y) ≤ 9 by omega), i18, i19, i20, it, j4, j12, j5⟩
theorem inv_fo {σ : Nat → Int} {n : Int} (hI : zInv σ) (h : n = 1 ∨ n = 3 ∨ n = 4) : zInv (zu σ 15 n) := by
  obtain ⟨i0, i1, i2, i3, i4, i5, i6, i8, i10, i11, i12, i13, i14, i15, i16, i17, i18, i19, i20, it, j4, j12, j5⟩ := id hI
  have ht9 := ztop_c σ
  exact ⟨i0, i1, i2, i3, i4, i5, i6, i8, i10, i11, i12, i13, i14, (show 1 ≤ (n) ∧ (n) ≤ 4 by omega), i16, i17, i18, i19, i20, it, j4, j12, j5⟩
theorem inv_bu {σ : Nat → Int} {n : Int} (hI : zInv σ) (h : n = 0 ∨ n = 1) (h18 : σ 18 = 0) : zInv (zu σ 5 n) := by
  obtain ⟨i0, i1, i2, i3, i4, i5, i6, i8, i10, i11, i12, i13, i14, i15, i16, i17, i18, i19, i20, it, j4, j12, j5⟩ := id hI
  have ht9 := ztop_c σ
  exact ⟨i0, i1, i2, i3, i4, (show 0 ≤ (n) ∧ (n) ≤ 1 by omega), i6, i8, i10, i11, i12, i13, i14, i15, i16, i17, i18, i19, i20, it, j4, j12, (show (n) = 0 → σ 18 = 0 by omega)⟩
theorem inv_rd {σ : Nat → Int}  (hI : zInv σ)  : zInv (zu σ 8 0) := by
  obtain ⟨i0, i1, i2, i3, i4, i5, i6, i8, i10, i11, i12, i13, i14, i15, i16, i17, i18, i19, i20, it, j4, j12, j5⟩ := id hI
  have ht9 := ztop_c σ
  exact ⟨i0, i1, i2, i3, i4, i5, i6, (show 0 ≤ (0) ∧ (0) ≤ 40 by omega), i10, i11, i12, i13, i14, i15, i16, i17, i18, i19, i20, it, j4, j12, j5⟩
theorem inv_tn {σ : Nat → Int} {n : Int} (hI : zInv σ) (h : n = 0 ∨ n = 1) : zInv (zu σ 6 n) := by
  obtain ⟨i0, i1, i2, i3, i4, i5, i6, i8, i10, i11, i12, i13, i14, i15, i16, i17, i18, i19, i20, it, j4, j12, j5⟩ := id hI
  have ht9 := ztop_c σ
  exact ⟨i0, i1, i2, i3, i4, i5, (show 0 ≤ (n) ∧ (n) ≤ 1 by omega), i8, i10, i11, i12, i13, i14, i15, i16, i17, i18, i19, i20, it, j4, j12, j5⟩
theorem inv_nm {σ : Nat → Int}  (hI : zInv σ)  : zInv (nmS σ) := by
  obtain ⟨i0, i1, i2, i3, i4, i5, i6, i8, i10, i11, i12, i13, i14, i15, i16, i17, i18, i19, i20, it, j4, j12, j5⟩ := id hI
  have ht9 := ztop_c σ
  exact ⟨i0, i1, i2, i3, i4, i5, i6, i8, i10, i11, i12, i13, i14, i15, i16, i17, i18, (show 0 ≤ (if σ 19 < 60 then σ 19 + 1 else σ 19) ∧ (if σ 19 < 60 then σ 19 + 1 else σ 19) ≤ 60 by omega), i20, it, j4, j12, j5⟩
theorem inv_n0 {σ : Nat → Int}  (hI : zInv σ)  : zInv (zu σ 19 0) := by
  obtain ⟨i0, i1, i2, i3, i4, i5, i6, i8, i10, i11, i12, i13, i14, i15, i16, i17, i18, i19, i20, it, j4, j12, j5⟩ := id hI
  have ht9 := ztop_c σ
  exact ⟨i0, i1, i2, i3, i4, i5, i6, i8, i10, i11, i12, i13, i14, i15, i16, i17, i18, (show 0 ≤ (0) ∧ (0) ≤ 60 by omega), i20, it, j4, j12, j5⟩
theorem inv_u13 {σ : Nat → Int}  (hI : zInv σ) (h : σ 4 = 1) : zInv (u13S σ) := by
  obtain ⟨i0, i1, i2, i3, i4, i5, i6, i8, i10, i11, i12, i13, i14, i15, i16, i17, i18, i19, i20, it, j4, j12, j5⟩ := id hI
  have ht9 := ztop_c σ
  exact ⟨i0, i1, i2, i3, i4, i5, i6, i8, i10, i11, (show 1 ≤ (min (σ 12 + 1) (σ 3)) ∧ (min (σ 12 + 1) (σ 3)) ≤ 40 by omega), (show 1 ≤ (1) ∧ (1) ≤ σ 2 + 1 by omega), i14, i15, i16, i17, i18, i19, i20, it, j4, (show (min (σ 12 + 1) (σ 3)) ≤ σ 3 ∨ (min (σ 12 + 1) (σ 3)) = 1 by omega), j5⟩
theorem inv_uin {σ : Nat → Int}  (hI : zInv σ) (h : σ 13 ≤ σ 2) : zInv (uinS σ) := by
  obtain ⟨i0, i1, i2, i3, i4, i5, i6, i8, i10, i11, i12, i13, i14, i15, i16, i17, i18, i19, i20, it, j4, j12, j5⟩ := id hI
  have ht9 := ztop_c σ
  exact ⟨i0, i1, i2, i3, i4, i5, i6, i8, i10, i11, i12, (show 1 ≤ (σ 13 + 1) ∧ (σ 13 + 1) ≤ σ 2 + 1 by omega), i14, i15, i16, i17, i18, i19, i20, it, j4, j12, j5⟩
theorem inv_uwr {σ : Nat → Int}  (hI : zInv σ) (h : σ 12 < σ 3) : zInv (uwrS σ) := by
  obtain ⟨i0, i1, i2, i3, i4, i5, i6, i8, i10, i11, i12, i13, i14, i15, i16, i17, i18, i19, i20, it, j4, j12, j5⟩ := id hI
  have ht9 := ztop_c σ
  exact ⟨i0, i1, i2, i3, i4, i5, i6, i8, i10, i11, (show 1 ≤ (σ 12 + 1) ∧ (σ 12 + 1) ≤ 40 by omega), (show 1 ≤ (1 + 1) ∧ (1 + 1) ≤ σ 2 + 1 by omega), i14, i15, i16, i17, i18, i19, i20, it, j4, (show (σ 12 + 1) ≤ σ 3 ∨ (σ 12 + 1) = 1 by omega), j5⟩
theorem inv_pc {σ : Nat → Int}  (hI : zInv σ) (h : σ 11 ≤ σ 2) : zInv (pcS σ) := by
  obtain ⟨i0, i1, i2, i3, i4, i5, i6, i8, i10, i11, i12, i13, i14, i15, i16, i17, i18, i19, i20, it, j4, j12, j5⟩ := id hI
  have ht9 := ztop_c σ
  exact ⟨i0, i1, i2, i3, i4, i5, i6, i8, i10, (show 1 ≤ (σ 11 + 1) ∧ (σ 11 + 1) ≤ σ 2 + 1 by omega), i12, i13, i14, i15, i16, i17, i18, i19, i20, it, j4, j12, j5⟩
theorem inv_sz {σ : Nat → Int} {x y : Int} (hI : zInv σ) (h18 : σ 18 = 0) : zInv (szS σ x y) := by
  obtain ⟨i0, i1, i2, i3, i4, i5, i6, i8, i10, i11, i12, i13, i14, i15, i16, i17, i18, i19, i20, it, j4, j12, j5⟩ := id hI
  have ht9 := ztop_c σ
  exact ⟨i0, (show 3 ≤ (max 3 (min 40 y)) ∧ (max 3 (min 40 y)) ≤ 40 by omega), (show 8 ≤ (max 8 (min 80 x)) ∧ (max 8 (min 80 x)) ≤ 80 by omega), (show 0 ≤ (min (σ 3) (max 3 (min 40 y) - ztop σ - 1)) ∧ (min (σ 3) (max 3 (min 40 y) - ztop σ - 1)) + ztop σ + 1 ≤ (max 3 (min 40 y)) by omega), (show 0 ≤ (if min (σ 3) (max 3 (min 40 y) - ztop σ - 1) = 0 then 0 else σ 4) ∧ (if min (σ 3) (max 3 (min 40 y) - ztop σ - 1) = 0 then 0 else σ 4) ≤ 1 by omega), i5, i6, (show 0 ≤ (0) ∧ (0) ≤ 40 by omega), (show 1 ≤ (max 1 (σ 10 - (σ 1 - (ztop σ + σ 3) - min (σ 1 - (ztop σ + σ 3)) (max 3 (min 40 y) - (ztop σ + min (σ 3) (max 3 (min 40 y) - ztop σ - 1)))))) ∧ (max 1 (σ 10 - (σ 1 - (ztop σ + σ 3) - min (σ 1 - (ztop σ + σ 3)) (max 3 (min 40 y) - (ztop σ + min (σ 3) (max 3 (min 40 y) - ztop σ - 1)))))) + ztop σ + (min (σ 3) (max 3 (min 40 y) - ztop σ - 1)) ≤ (max 3 (min 40 y)) by omega), (show 1 ≤ (min (σ 11) (max 8 (min 80 x) + 1)) ∧ (min (σ 11) (max 8 (min 80 x) + 1)) ≤ (max 8 (min 80 x)) + 1 by omega), (show 1 ≤ (if min (σ 3) (max 3 (min 40 y) - ztop σ - 1) < σ 12 then 1 else σ 12) ∧ (if min (σ 3) (max 3 (min 40 y) - ztop σ - 1) < σ 12 then 1 else σ 12) ≤ 40 by omega), (show 1 ≤ (if min (σ 3) (max 3 (min 40 y) - ztop σ - 1) < σ 12 then 1 else min (σ 13) (max 8 (min 80 x) + 1)) ∧ (if min (σ 3) (max 3 (min 40 y) - ztop σ - 1) < σ 12 then 1 else min (σ 13) (max 8 (min 80 x) + 1)) ≤ (max 8 (min 80 x)) + 1 by omega), i14, i15, i16, i17, (show 0 ≤ σ 18 ∧ σ 18 ≤ (max 8 (min 80 x)) by omega), i19, i20, it, (show (if min (σ 3) (max 3 (min 40 y) - ztop σ - 1) = 0 then 0 else σ 4) = 1 → 1 ≤ (min (σ 3) (max 3 (min 40 y) - ztop σ - 1)) by omega), (show (if min (σ 3) (max 3 (min 40 y) - ztop σ - 1) < σ 12 then 1 else σ 12) ≤ (min (σ 3) (max 3 (min 40 y) - ztop σ - 1)) ∨ (if min (σ 3) (max 3 (min 40 y) - ztop σ - 1) < σ 12 then 1 else σ 12) = 1 by omega), j5⟩
theorem or_15 : ∀ a : Fin 16, ∀ b : Fin 16, 0 ≤ (iI (a.val : Int) ||| iI (b.val : Int)).toInt ∧ (iI (a.val : Int) ||| iI (b.val : Int)).toInt ≤ 15 := by decide +kernel
theorem or_le {x y : Int} (hx : 0 ≤ x ∧ x ≤ 15) (hy : 0 ≤ y ∧ y ≤ 15) : 0 ≤ (iI x ||| iI y).toInt ∧ (iI x ||| iI y).toInt ≤ 15 := by
  have h := or_15 ⟨x.toNat, by omega⟩ ⟨y.toNat, by omega⟩
  rw [show ((⟨x.toNat, by omega⟩ : Fin 16).val : Int) = x from Int.toNat_of_nonneg hx.1, show ((⟨y.toNat, by omega⟩ : Fin 16).val : Int) = y from Int.toNat_of_nonneg hy.1] at h
  exact h
theorem inv_st {σ : Nat → Int} {n : Int} (hI : zInv σ) (h : 0 ≤ n ∧ n ≤ 15) : zInv (stS σ n) := by
  obtain ⟨i0, i1, i2, i3, i4, i5, i6, i8, i10, i11, i12, i13, i14, i15, i16, i17, i18, i19, i20, it, j4, j12, j5⟩ := id hI
  have ht9 := ztop_c σ
  have h9 := or_le i14 h
  exact ⟨i0, i1, i2, i3, i4, i5, i6, i8, i10, i11, i12, i13, (show 0 ≤ (if σ 0 = 4 ∨ n = 0 then n else (iI (σ 14) ||| iI n).toInt) ∧ (if σ 0 = 4 ∨ n = 0 then n else (iI (σ 14) ||| iI n).toInt) ≤ 15 by omega), i15, i16, i17, i18, i19, i20, it, j4, j12, j5⟩
theorem inv_wo {σ : Nat → Int} {n : Int} (hI : zInv σ) : zInv (woS σ n) := by
  unfold woS
  split
  · exact inv_nl hI
  · split
    · split
      · exact hI
      · refine inv_pc (inv_nl hI) ?_
        have h9 := (nlS_k σ)
        have h2 := hI.2.2.1
        omega
    · exact inv_pc hI (by omega)
theorem inv_wl {σ : Nat → Int} (hI : zInv σ) (h5 : σ 5 = 1) (h : σ 18 < σ 2) : zInv (wlS σ) ∧ wlS σ 18 < wlS σ 2 := by
  have hw := inv_w1 hI (by omega) h5
  unfold wlS
  split
  · refine ⟨inv_pw hw, ?_⟩
    have h9 := pwS_k (w1S σ)
    have h2 : w1S σ 2 = σ 2 := rfl
    have h3 := hI.2.2.1
    omega
  · refine ⟨hw, ?_⟩
    show σ 18 + 1 < σ 2
    omega
theorem inv_ini (v x y : Int) : zInv (iniS v x y) := by
  have ht := ztop_c (ini0 v x y)
  have e0 : ini0 v x y 0 = max 1 (min 8 v) := rfl
  rw [e0] at ht
  refine ⟨show 1 ≤ max 1 (min 8 v) ∧ max 1 (min 8 v) ≤ 8 by omega, show 3 ≤ max 3 (min 40 y) ∧ max 3 (min 40 y) ≤ 40 by omega, show 8 ≤ max 8 (min 80 x) ∧ max 8 (min 80 x) ≤ 80 by omega, show (0 : Int) ≤ 0 ∧ 0 + ztop (ini0 v x y) + 1 ≤ max 3 (min 40 y) by omega, show (0 : Int) ≤ 0 ∧ (0 : Int) ≤ 1 by omega, show (0 : Int) ≤ 1 ∧ (1 : Int) ≤ 1 by omega, show (0 : Int) ≤ 0 ∧ (0 : Int) ≤ 1 by omega, show (0 : Int) ≤ 0 ∧ (0 : Int) ≤ 40 by omega, ?_, show (1 : Int) ≤ 1 ∧ 1 ≤ max 8 (min 80 x) + 1 by omega, show (1 : Int) ≤ 1 ∧ (1 : Int) ≤ 40 by omega, show (1 : Int) ≤ 1 ∧ 1 ≤ max 8 (min 80 x) + 1 by omega, show (0 : Int) ≤ 0 ∧ (0 : Int) ≤ 15 by omega, show (1 : Int) ≤ 1 ∧ (1 : Int) ≤ 4 by omega, show (2 : Int) ≤ 2 ∧ (2 : Int) ≤ 9 by omega, show (2 : Int) ≤ 9 ∧ (9 : Int) ≤ 9 by omega, show (0 : Int) ≤ 0 ∧ 0 ≤ max 8 (min 80 x) by omega, show (0 : Int) ≤ 0 ∧ (0 : Int) ≤ 60 by omega, show (0 : Int) ≤ 0 ∧ (0 : Int) ≤ 500 by omega, show 0 ≤ ztop (ini0 v x y) ∧ ztop (ini0 v x y) ≤ 1 by omega, show (0 : Int) = 1 → (1 : Int) ≤ 0 by omega, Or.inr rfl, fun _ => rfl⟩
  show 1 ≤ (if 5 ≤ max 1 (min 8 v) then 1 else max 3 (min 40 y) - (ztop (ini0 v x y) + 0)) ∧ (if 5 ≤ max 1 (min 8 v) then 1 else max 3 (min 40 y) - (ztop (ini0 v x y) + 0)) + ztop (ini0 v x y) + 0 ≤ max 3 (min 40 y)
  omega
/-! cells stay cells -/
def okK (k : ZK) : Prop := (0 ≤ k.1 ∧ k.1 ≤ 126) ∧ (0 ≤ k.2.1 ∧ k.2.1 ≤ 15) ∧ (1 ≤ k.2.2.1 ∧ k.2.2.1 ≤ 4) ∧ (2 ≤ k.2.2.2.1 ∧ k.2.2.2.1 ≤ 9) ∧ 2 ≤ k.2.2.2.2 ∧ k.2.2.2.2 ≤ 9
def okG (G : ZG) : Prop := ∀ l c : Nat, okK (G l c)
def okW (wd : Nat → ZK) : Prop := ∀ i : Nat, okK (wd i)
theorem ok_bl {σ : Nat → Int} (hI : zInv σ) : okK (zblK σ) := by
  obtain ⟨i0, i1, i2, i3, i4, i5, i6, i8, i10, i11, i12, i13, i14, i15, i16, i17, i18, i19, i20, it, j4, j12, j5⟩ := id hI
  exact ⟨⟨show (0 : Int) ≤ 32 by decide, show (32 : Int) ≤ 126 by decide⟩, ⟨Int.le_refl 0, show (0 : Int) ≤ 15 by decide⟩, ⟨Int.le_refl 1, show (1 : Int) ≤ 4 by decide⟩, i16, i17⟩
theorem ok_dr {σ : Nat → Int} {n : Int} (hI : zInv σ) (h : 0 ≤ n ∧ n ≤ 126) : okK (zdrK σ n) := by
  obtain ⟨i0, i1, i2, i3, i4, i5, i6, i8, i10, i11, i12, i13, i14, i15, i16, i17, i18, i19, i20, it, j4, j12, j5⟩ := id hI
  exact ⟨h, i14, i15, i16, i17⟩
theorem ok_set {G : ZG} {l c : Int} {k : ZK} (h : okG G) (hk : okK k) : okG (gset G l c k) := fun l' c' => by unfold gset; split; exact hk; exact h _ _
theorem ok_line {G : ZG} {l c : Int} {k : ZK} (h : okG G) (hk : okK k) : okG (gline G l c k) := fun l' c' => by unfold gline; split; exact hk; exact h _ _
theorem ok_lines {G : ZG} {a b : Int} {k : ZK} (h : okG G) (hk : okK k) : okG (glines G a b k) := fun l' c' => by unfold glines; split; exact hk; exact h _ _
theorem ok_sc {G : ZG} {a b : Int} (h : okG G) : okG (gsc G a b) := fun l' c' => by unfold gsc; split; exact h _ _; exact h _ _
theorem ok_wid {G : ZG} {w : Int} {k : ZK} (h : okG G) (hk : okK k) : okG (gwid G w k) := fun l' c' => by unfold gwid; split; exact hk; exact h _ _
theorem ok_mv {G : ZG} {s d n : Int} (h : okG G) : okG (gmv G s d n) := fun l' c' => by unfold gmv; split; exact h _ _; exact h _ _
theorem ok_word {G : ZG} {l c n : Int} {wd : Nat → ZK} (h : okG G) (hw : okW wd) : okG (gword G l c n wd) := fun l' c' => by unfold gword; split; exact hw _; exact h _ _
theorem ok_nl {σ : Nat → Int} {G : ZG} (hI : zInv σ) (h : okG G) : okG (nlG σ G) := by
  unfold nlG
  split
  · exact h
  · exact ok_line (ok_sc h) (ok_bl hI)
theorem ok_pw {σ : Nat → Int} {G : ZG} {wd : Nat → ZK} (hI : zInv σ) (h : okG G) (hw : okW wd) : okG (pwG σ G wd) := by
  unfold pwG
  refine ok_word ?_ hw
  unfold pw1G
  split
  · exact ok_nl hI h
  · exact h
theorem ok_sp {τ : Nat → Int} {n : Int} {G : ZG} (hI : zInv τ) (h : okG G) : okG (spG τ n G) := by
  unfold spG
  split
  · exact ok_lines h (ok_bl hI)
  · exact h
theorem ok_wo {σ : Nat → Int} {n : Int} {G : ZG} (hI : zInv σ) (hn : 0 ≤ n ∧ n ≤ 126) (h : okG G) : okG (woG σ G n) := by
  unfold woG
  split
  · exact ok_nl hI h
  · split
    · split
      · exact h
      · exact ok_set (ok_nl hI h) (ok_dr hI hn)
    · exact ok_set h (ok_dr hI hn)
theorem ok_wdU {σ : Nat → Int} {wd : Nat → ZK} {k : ZK} (h : okW wd) (hk : okK k) : okW (wdU σ wd k) := fun i => by unfold wdU; split; exact hk; exact h _
theorem ok_wl {σ : Nat → Int} {G : ZG} {wd : Nat → ZK} (hI : zInv (w1S σ)) (h : okG G) (hw : okW wd) : okG (wlG σ G wd) := by
  unfold wlG
  split
  · exact ok_pw hI h hw
  · exact h
theorem ok_sz {τ : Nat → Int} {y : Int} {G : ZG} (hI : zInv τ) (h : okG G) : okG (szG τ y G) := ok_lines (ok_mv (ok_wid h (ok_bl hI))) (ok_bl hI)
theorem ok_ini : okG iniG := fun _ _ => ⟨⟨show (0 : Int) ≤ 32 by decide, show (32 : Int) ≤ 126 by decide⟩, ⟨Int.le_refl 0, show (0 : Int) ≤ 15 by decide⟩, ⟨Int.le_refl 1, show (1 : Int) ≤ 4 by decide⟩, ⟨Int.le_refl 2, show (2 : Int) ≤ 9 by decide⟩, ⟨show (2 : Int) ≤ 9 by decide, Int.le_refl 9⟩⟩
