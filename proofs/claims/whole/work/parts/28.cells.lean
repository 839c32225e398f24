/-! what a cell's number says: class and reference say the same -/
theorem cx_or (a b : Nat) : nI a ||| nI b = nI (a ||| b) := by
  apply Int32.toBitVec_inj.mp
  apply BitVec.eq_of_toNat_eq
  show ((nI a).toBitVec ||| (nI b).toBitVec).toNat = _
  rw [BitVec.toNat_or]
  show (BitVec.ofNat 32 a).toNat ||| (BitVec.ofNat 32 b).toNat = (BitVec.ofNat 32 (a ||| b)).toNat
  rw [BitVec.toNat_ofNat, BitVec.toNat_ofNat, BitVec.toNat_ofNat, Nat.or_mod_two_pow]
theorem or_sh {a b k p : Nat} (hp : 2 ^ k = p) (ha : a < p) {s : Int32} (hs : (s.toBitVec.smod 32).toNat = k) (hb : b * p < 2 ^ 31) : nI a ||| (nI b <<< s) = nI (a + b * p) := by
  subst hp
  rw [pk_shlN s k hs (by omega), cx_or, Nat.or_comm, Nat.mul_comm, ← Nat.two_pow_add_eq_or_of_lt ha, Nat.add_comm]
theorem encC_n {c s f i p : Nat} (hc : c < 128) (hs : s < 16) (hf : f < 16) (hi : i < 16) (hp : p < 16) : encC c s f i p = nI (c + 128 * s + 2048 * f + 32768 * i + 524288 * p) := by
  unfold encC
  rw [← iI_nI c, ← iI_nI s, ← iI_nI f, ← iI_nI i, ← iI_nI p]
  rw [or_sh (a := i) (b := p) (k := 4) (p := 16) rfl hi (by decide) (by omega), or_sh (a := s) (b := f) (k := 4) (p := 16) rfl hs (by decide) (by omega), or_sh (a := s + f * 16) (b := i + p * 16) (k := 8) (p := 256) rfl (by omega) (by decide) (by omega), or_sh (a := c) (b := s + f * 16 + (i + p * 16) * 256) (k := 7) (p := 128) rfl hc (by decide) (by omega)]
  congr 1
  omega
theorem encM_n {c s f i p : Nat} (hc : c < 128) (hs : s < 16) (hf : f < 8) (hi : i < 16) (hp : p < 16) : encM c s f i p = nI (c + 128 * s + 2048 * f + 16384 * i + 262144 * p) := by
  unfold encM
  rw [← iI_nI c, ← iI_nI s, ← iI_nI f, ← iI_nI i, ← iI_nI p]
  rw [or_sh (a := c) (b := s) (k := 7) (p := 128) rfl hc (by decide) (by omega), or_sh (a := c + s * 128) (b := f) (k := 11) (p := 2048) rfl (by omega) (by decide) (by omega), or_sh (a := c + s * 128 + f * 2048) (b := i) (k := 14) (p := 16384) rfl (by omega) (by decide) (by omega), or_sh (a := c + s * 128 + f * 2048 + i * 16384) (b := p) (k := 18) (p := 262144) rfl (by omega) (by decide) (by omega)]
  congr 1
  omega
theorem an_n {N sh k p q : Nat} {s m : Int32} (hN : N < 2 ^ 31) (hs : (s.toBitVec.smod 32).toNat = sh) (hm : m.toBitVec.toNat = 2 ^ k - 1) (hp : 2 ^ sh = p) (hq : 2 ^ k = q) : (nI N >>> s) &&& m = nI (N / p % q) := by
  subst hp
  subst hq
  rw [pk_shrN hN s sh hs, pk_andN (by have := Nat.div_le_self N (2 ^ sh); omega) k hm]
def kpart (k : ZK) (w : Int) : Int := if w = 0 then k.1 else if w = 1 then k.2.1 else if w = 2 then k.2.2.1 else if w = 3 then k.2.2.2.1 else k.2.2.2.2
theorem part_C {k : ZK} (h : okK k) {w : Int} (hw : 0 ≤ w ∧ w ≤ 4) : zpart (encK k) w = iI (kpart k w) := by
  obtain ⟨c, s, f, i, p⟩ := k
  obtain ⟨h1, h2, h3, h4, h5⟩ := h
  obtain ⟨c, rfl⟩ := Int.eq_ofNat_of_zero_le (show 0 ≤ c from h1.1)
  obtain ⟨s, rfl⟩ := Int.eq_ofNat_of_zero_le (show 0 ≤ s from h2.1)
  obtain ⟨f, rfl⟩ := Int.eq_ofNat_of_zero_le (show 0 ≤ f by have : 1 ≤ f := h3.1; omega)
  obtain ⟨i, rfl⟩ := Int.eq_ofNat_of_zero_le (show 0 ≤ i by have : 2 ≤ i := h4.1; omega)
  obtain ⟨p, rfl⟩ := Int.eq_ofNat_of_zero_le (show 0 ≤ p by have : 2 ≤ p := h5.1; omega)
  have h1' : (c : Int) ≤ 126 := h1.2
  have h2' : (s : Int) ≤ 15 := h2.2
  have h3' : (f : Int) ≤ 4 := h3.2
  have h4' : (i : Int) ≤ 9 := h4.2
  have h5' : (p : Int) ≤ 9 := h5.2
  show zpart (encC c s f i p) w = _
  rw [encC_n (by omega) (by omega) (by omega) (by omega) (by omega)]
  unfold zpart
  rcases (show w = 0 ∨ w = 1 ∨ w = 2 ∨ w = 3 ∨ w = 4 by omega) with e | e | e | e | e <;> subst e
  · rw [if_pos rfl, pk_andN (by omega) 7 (by decide)]
    show _ = iI (c : Int)
    rw [← iI_nI]; congr 1; omega
  · rw [if_neg (by decide), an_n (sh := 7) (k := 4) (p := 128) (q := 16) (by omega) (by decide) (by decide) rfl rfl]
    show _ = iI (s : Int)
    rw [← iI_nI]; congr 1; omega
  · rw [if_neg (by decide), an_n (sh := 11) (k := 4) (p := 2048) (q := 16) (by omega) (by decide) (by decide) rfl rfl]
    show _ = iI (f : Int)
    rw [← iI_nI]; congr 1; omega
  · rw [if_neg (by decide), an_n (sh := 15) (k := 4) (p := 32768) (q := 16) (by omega) (by decide) (by decide) rfl rfl]
    show _ = iI (i : Int)
    rw [← iI_nI]; congr 1; omega
  · rw [if_neg (by decide), an_n (sh := 19) (k := 4) (p := 524288) (q := 16) (by omega) (by decide) (by decide) rfl rfl]
    show _ = iI (p : Int)
    rw [← iI_nI]; congr 1; omega
theorem part_M {k : ZK} (h : okK k) {w : Int} (hw : 0 ≤ w ∧ w ≤ 4) : zpartM (encMK k) w = iI (kpart k w) := by
  obtain ⟨c, s, f, i, p⟩ := k
  obtain ⟨h1, h2, h3, h4, h5⟩ := h
  obtain ⟨c, rfl⟩ := Int.eq_ofNat_of_zero_le (show 0 ≤ c from h1.1)
  obtain ⟨s, rfl⟩ := Int.eq_ofNat_of_zero_le (show 0 ≤ s from h2.1)
  obtain ⟨f, rfl⟩ := Int.eq_ofNat_of_zero_le (show 0 ≤ f by have : 1 ≤ f := h3.1; omega)
  obtain ⟨i, rfl⟩ := Int.eq_ofNat_of_zero_le (show 0 ≤ i by have : 2 ≤ i := h4.1; omega)
  obtain ⟨p, rfl⟩ := Int.eq_ofNat_of_zero_le (show 0 ≤ p by have : 2 ≤ p := h5.1; omega)
  have h1' : (c : Int) ≤ 126 := h1.2
  have h2' : (s : Int) ≤ 15 := h2.2
  have h3' : (f : Int) ≤ 4 := h3.2
  have h4' : (i : Int) ≤ 9 := h4.2
  have h5' : (p : Int) ≤ 9 := h5.2
  show zpartM (encM c s f i p) w = _
  rw [encM_n (by omega) (by omega) (by omega) (by omega) (by omega)]
  unfold zpartM
  rcases (show w = 0 ∨ w = 1 ∨ w = 2 ∨ w = 3 ∨ w = 4 by omega) with e | e | e | e | e <;> subst e
  · rw [if_pos rfl, pk_andN (by omega) 7 (by decide)]
    show _ = iI (c : Int)
    rw [← iI_nI]; congr 1; omega
  · rw [if_neg (by decide), if_pos rfl, an_n (sh := 7) (k := 4) (p := 128) (q := 16) (by omega) (by decide) (by decide) rfl rfl]
    show _ = iI (s : Int)
    rw [← iI_nI]; congr 1; omega
  · rw [if_neg (by decide), if_neg (by decide), if_pos rfl, an_n (sh := 11) (k := 3) (p := 2048) (q := 8) (by omega) (by decide) (by decide) rfl rfl]
    show _ = iI (f : Int)
    rw [← iI_nI]; congr 1; omega
  · rw [if_neg (by decide), if_neg (by decide), if_neg (by decide), if_pos rfl, an_n (sh := 14) (k := 4) (p := 16384) (q := 16) (by omega) (by decide) (by decide) rfl rfl]
    show _ = iI (i : Int)
    rw [← iI_nI]; congr 1; omega
  · rw [if_neg (by decide), if_neg (by decide), if_neg (by decide), if_neg (by decide), an_n (sh := 18) (k := 4) (p := 262144) (q := 16) (by omega) (by decide) (by decide) rfl rfl]
    show _ = iI (p : Int)
    rw [← iI_nI]; congr 1; omega
