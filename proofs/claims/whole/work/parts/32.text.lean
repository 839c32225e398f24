/-! texts: what the numbers of a status line are, as lists of signs (draft, not compiled yet) -/
def zTx (g : Nat → Int32) (tx : List Int) : Prop := ∀ j : Nat, j < tx.length → g j = iI (tx.getD j 0)
theorem tx_nil (g : Nat → Int32) : zTx g [] := fun j h => absurd h (Nat.not_lt_zero j)
theorem tx_app {g : Nat → Int32} {tx : List Int} {x : Int} {i : Nat} (h : zTx g tx) (hi : i = tx.length) : zTx (upd g i (iI x)) (tx ++ [x]) := by
  intro j hj
  subst hi
  rw [List.length_append] at hj
  by_cases e : j = tx.length
  · rw [e, pk_us]
    simp
  · have h2 : j < tx.length := by simp at hj; omega
    rw [pk_un e, h j h2]
    simp [List.getD, List.getElem?_append_left h2]
def digs (m : Int) : List Int := if m < 10 then [48 + m] else if m < 100 then [48 + m / 10, 48 + m % 10] else if m < 1000 then [48 + m / 100, 48 + m / 10 % 10, 48 + m % 10] else [48 + m / 1000, 48 + m / 100 % 10, 48 + m / 10 % 10, 48 + m % 10]
def dec (n : Int) : List Int := if n < 0 then 45 :: digs (-n) else digs n
def dec2 (n : Int) : List Int := if n < 10 then [48, 48 + n] else [48 + n / 10, 48 + n % 10]
def h12 (x : Int) : Int := if x % 12 = 0 then 12 else x % 12
def stTx (kind x y : Int) : List Int := if kind = 0 then dec x ++ [47] ++ dec y else digs (h12 x) ++ [58] ++ dec2 y ++ [if x < 12 then 97 else 112, 109]
/-- the sign of column q (from 0 on) of the status line -/
def stCh (σ : Nat → Int) (nm : Nat → Int) (tx : List Int) (q : Int) : Int := if σ 2 - tx.length ≤ q + 1 ∧ q + 1 < σ 2 then tx.getD (q + 1 - (σ 2 - tx.length)).toNat 0 else if 2 ≤ q + 1 ∧ q + 1 - 2 < σ 19 ∧ q + 1 ≤ σ 2 - tx.length - 2 then nm (q + 1 - 2).toNat else 32
def gln (G : ZG) (s : Nat → ZK) (n : Int) : ZG := fun l' c' => if l' = 0 ∧ (c' : Int) < n then s c' else G l' c'
def stK (σ : Nat → Int) (nm : Nat → Int) (tx : List Int) : Nat → ZK := fun q => (stCh σ nm tx q, 1, 1, σ 16, σ 17)
def stG (σ : Nat → Int) (nm : Nat → Int) (tx : List Int) (G : ZG) : ZG := gln G (stK σ nm tx) (σ 2)
theorem gln_step {G : ZG} {s : Nat → ZK} {n : Int} (h : 0 ≤ n) : gset (gln G s n) 0 n (s n.toNat) = gln G s (n + 1) := by
  funext l' c'
  unfold gset gln
  by_cases e : (l' : Int) = 0 ∧ (c' : Int) = n
  · rw [if_pos e, if_pos (by omega), show n.toNat = c' by omega]
  · rw [if_neg e]
    by_cases e2 : l' = 0 ∧ (c' : Int) < n
    · rw [if_pos e2, if_pos (by omega)]
    · rw [if_neg e2, if_neg (by omega)]
theorem gln_nil {G : ZG} {s : Nat → ZK} {n : Int} (h : n ≤ 0) : gln G s n = G := by
  funext l' c'
  exact if_neg (by omega)
theorem iI_div {a b : Int} (ha : 0 ≤ a ∧ a ≤ 1000000) (hb : 0 < b ∧ b ≤ 1000000) : iI a / iI b = iI (a / b) := by
  obtain ⟨x, rfl⟩ := Int.eq_ofNat_of_zero_le ha.1
  obtain ⟨y, rfl⟩ := Int.eq_ofNat_of_zero_le (Int.le_of_lt hb.1)
  rw [← iI_nI x, ← iI_nI y, pk_div (by omega) (by omega) (by omega), iI_nI]
  rfl
theorem iI_rem {a b : Int} (ha : 0 ≤ a ∧ a ≤ 1000000) (hb : 0 < b ∧ b ≤ 1000000) : iI a - iI a / iI b * iI b = iI (a % b) := by
  obtain ⟨x, rfl⟩ := Int.eq_ofNat_of_zero_le ha.1
  obtain ⟨y, rfl⟩ := Int.eq_ofNat_of_zero_le (Int.le_of_lt hb.1)
  rw [← iI_nI x, ← iI_nI y, pk_rem (by omega) (by omega) (by omega), iI_nI]
  rfl
section ZD
variable {p : Program} {l : Launch} {e : Env} {R : Room} {s : State} {m : MethodId} {args : Array Value} {below : List Frame} {meth : Method} {c : Code} {H : Heap} {locs : List Loc} {cells slots : Nat} {Q : State → Prop}
variable {cc : ByteArray} {pc : Nat} {ls : Array Slot} {rest : List Value}
theorem z_idiv (hexec : p.tables.exec = Jvm.exec) (hb : c.code = cc) {a b : Int} (h : (0 ≤ a ∧ a ≤ 1000000) ∧ 0 < b ∧ b ≤ 1000000) (hdg : decode cc pc = .ok (.idiv, 1)) (k : W p l e R s m args below meth c H locs cells slots Q (F0 m (pc + 1) ls (.int (iI (a / b)) :: rest))) : W p l e R s m args below meth c H locs cells slots Q (F0 m pc ls (.int (iI b) :: .int (iI a) :: rest)) :=
  lv_idiv hexec hb hdg (fun q => by have := (iI_eq (a := b) (b := 0) (by omega)).mp q; omega) (by rw [iI_div h.1 h.2]; exact k)
theorem z_irem (hexec : p.tables.exec = Jvm.exec) (hb : c.code = cc) {a b : Int} (h : (0 ≤ a ∧ a ≤ 1000000) ∧ 0 < b ∧ b ≤ 1000000) (hdg : decode cc pc = .ok (.irem, 1)) (k : W p l e R s m args below meth c H locs cells slots Q (F0 m (pc + 1) ls (.int (iI (a % b)) :: rest))) : W p l e R s m args below meth c H locs cells slots Q (F0 m pc ls (.int (iI b) :: .int (iI a) :: rest)) :=
  lv_irem hexec hb hdg (fun q => by have := (iI_eq (a := b) (b := 0) (by omega)).mp q; omega) (by rw [iI_rem h.1 h.2]; exact k)
end ZD
theorem encM_st (x i p : Int) : iI x ||| ((iI 2176 ||| (iI i <<< (iI 14 &&& 31))) ||| (iI p <<< (iI 18 &&& 31))) = encM x 1 1 i p := by
  unfold encM
  rw [show iI 2176 = (iI 1 <<< (iI 7 &&& 31)) ||| (iI 1 <<< (iI 11 &&& 31)) by decide]
  simp only [Int32.or_assoc]
