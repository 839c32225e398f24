/-! What a screen IS, for the class and for the reference alike: numbers (σ k), cells of the grid (line and column from 0 on), the word, the name, the transcript.
σ: 0 version, 1 lines, 2 width, 3 height, 4 chosen, 5 buffer, 6 transcript on, 7 new lines, 8 count, 9 more, 10 11 lower cursor, 12 13 upper cursor, 14 style, 15 font, 16 17 colours, 18 19 20 how many in word, name, transcript -/
abbrev ZK : Type := Int × Int × Int × Int × Int
abbrev ZG : Type := Nat → Nat → ZK
def zu (σ : Nat → Int) (k : Nat) (x : Int) : Nat → Int := fun j => if j = k then x else σ j
def ztop (σ : Nat → Int) : Int := if σ 0 ≤ 3 then 1 else 0
theorem ztop_c (σ : Nat → Int) : (σ 0 ≤ 3 ∧ ztop σ = 1) ∨ (3 < σ 0 ∧ ztop σ = 0) := by
  unfold ztop
  by_cases h : σ 0 ≤ 3
  · exact Or.inl ⟨h, if_pos h⟩
  · exact Or.inr ⟨by omega, if_neg h⟩
def zblK (σ : Nat → Int) : ZK := (32, 0, 1, σ 16, σ 17)
def zdrK (σ : Nat → Int) (c : Int) : ZK := (c, σ 14, σ 15, σ 16, σ 17)
def gset (G : ZG) (l c : Int) (k : ZK) : ZG := fun l' c' => if (l' : Int) = l ∧ (c' : Int) = c then k else G l' c'
def gline (G : ZG) (l c : Int) (k : ZK) : ZG := fun l' c' => if (l' : Int) = l ∧ c ≤ (c' : Int) then k else G l' c'
def glines (G : ZG) (a b : Int) (k : ZK) : ZG := fun l' c' => if a ≤ (l' : Int) ∧ (l' : Int) < b then k else G l' c'
def gcp (G : ZG) (a b : Int) : ZG := fun l' c' => if (l' : Int) = b then G a.toNat c' else G l' c'
def gsc (G : ZG) (a b : Int) : ZG := fun l' c' => if a ≤ (l' : Int) ∧ (l' : Int) < b then G (l' + 1) c' else G l' c'
def gwid (G : ZG) (w : Int) (k : ZK) : ZG := fun l' c' => if w ≤ (c' : Int) then k else G l' c'
def gword (G : ZG) (l c n : Int) (wd : Nat → ZK) : ZG := fun l' c' => if (l' : Int) = l ∧ c ≤ (c' : Int) ∧ (c' : Int) < c + n then wd (c' - c.toNat) else G l' c'
/-- an array of 3200 numbers shows the grid's L lines of W cells -/
def zRG (enc : ZK → Int32) (f : Nat → Int32) (G : ZG) (L W : Int) : Prop := ∀ l c : Nat, (l : Int) < L → (c : Int) < W → f (80 * l + c) = enc (G l c)
theorem rg_congr {enc : ZK → Int32} {f : Nat → Int32} {G G' : ZG} {L W : Int} (h : zRG enc f G L W) (e : ∀ l c : Nat, (l : Int) < L → (c : Int) < W → G l c = G' l c) : zRG enc f G' L W := fun l c hl hc => by rw [← e l c hl hc]; exact h l c hl hc
theorem rg_less {enc : ZK → Int32} {f : Nat → Int32} {G : ZG} {L W L' W' : Int} (h : zRG enc f G L W) (h1 : L' ≤ L) (h2 : W' ≤ W) : zRG enc f G L' W' := fun l c hl hc => h l c (by omega) (by omega)
theorem rg_set {enc : ZK → Int32} {f : Nat → Int32} {G : ZG} {L W : Int} (h : zRG enc f G L W) (hW : W ≤ 80) {l c i : Int} (k : ZK) (hi : i = 80 * l + c) (hl : 0 ≤ l) (hc : 0 ≤ c ∧ c < 80) : zRG enc (upd f i.toNat (enc k)) (gset G l c k) L W := by
  intro l' c' hl' hc'
  by_cases e : (l' : Int) = l ∧ (c' : Int) = c
  · have e2 : 80 * l' + c' = i.toNat := by omega
    unfold gset
    rw [e2, pk_us, if_pos e]
  · have e2 : 80 * l' + c' ≠ i.toNat := by omega
    unfold gset
    rw [pk_un e2, if_neg e]
    exact h l' c' hl' hc'
theorem rg_fill {enc : ZK → Int32} {f : Nat → Int32} {G : ZG} {L W : Int} (h : zRG enc f G L W) (hW : W ≤ 80) {l c i j : Int} (k : ZK) (hi : i = 80 * l + c) (hj : j = 80 * l + W) (hl : 0 ≤ l) (hc : 0 ≤ c ∧ c ≤ 80) : zRG enc (zfill f i j (enc k)) (gline G l c k) L W := by
  intro l' c' hl' hc'
  unfold zfill gline
  by_cases e : (l' : Int) = l ∧ c ≤ (c' : Int)
  · rw [if_pos e, if_pos (by omega)]
  · rw [if_neg e, if_neg (by omega)]
    exact h l' c' hl' hc'
theorem rg_copy {enc : ZK → Int32} {f : Nat → Int32} {G : ZG} {L W : Int} (h : zRG enc f G L W) (hW : W ≤ 80) {a b : Int} {i j : Nat} (hi : (i : Int) = 80 * a) (hj : (j : Int) = 80 * b) (ha : 0 ≤ a ∧ a < L) (hb : 0 ≤ b) : zRG enc (va_cpy f f i j 80) (gcp G a b) L W := by
  intro l' c' hl' hc'
  unfold gcp
  by_cases e : (l' : Int) = b
  · rw [if_pos e, pk_cpy_in (by omega) (by omega)]
    have e2 : i + (80 * l' + c' - j) = 80 * a.toNat + c' := by omega
    rw [e2]
    exact h a.toNat c' (by omega) hc'
  · rw [if_neg e, pk_cpy_out (by omega)]
    exact h l' c' hl' hc'
theorem gl_step {G : ZG} {a b : Int} (k : ZK) (h : a ≤ b) : gline (glines G a b k) b 0 k = glines G a (b + 1) k := by
  funext l' c'
  unfold gline glines
  by_cases e : (l' : Int) = b
  · rw [if_pos (by omega), if_pos (by omega)]
  · rw [if_neg (by omega)]
    by_cases e2 : a ≤ (l' : Int) ∧ (l' : Int) < b
    · rw [if_pos e2, if_pos (by omega)]
    · rw [if_neg e2, if_neg (by omega)]
theorem gl_nil {G : ZG} {a b : Int} (k : ZK) (h : b ≤ a) : glines G a b k = G := by
  funext l' c'
  exact if_neg (by omega)
theorem gs_step {G : ZG} {a b : Int} (h : a ≤ b ∧ 0 ≤ b) : gcp (gsc G a b) (b + 1) b = gsc G a (b + 1) := by
  funext l' c'
  unfold gcp gsc
  by_cases e : (l' : Int) = b
  · rw [if_pos e, if_neg (by omega), if_pos (by omega), show (b + 1).toNat = l' + 1 by omega]
  · rw [if_neg e]
    by_cases e2 : a ≤ (l' : Int) ∧ (l' : Int) < b
    · rw [if_pos e2, if_pos (by omega)]
    · rw [if_neg e2, if_neg (by omega)]
theorem gs_nil {G : ZG} {a b : Int} (h : b ≤ a) : gsc G a b = G := by
  funext l' c'
  exact if_neg (by omega)
/-- one sign more of a word -/
theorem gw_step {G : ZG} {l c n : Int} {wd : Nat → ZK} (h : 0 ≤ c ∧ 0 ≤ n) : gset (gword G l c n wd) l (c + n) (wd n.toNat) = gword G l c (n + 1) wd := by
  funext l' c'
  unfold gset gword
  by_cases e : (l' : Int) = l ∧ (c' : Int) = c + n
  · rw [if_pos e, if_pos (by omega), show c' - c.toNat = n.toNat by omega]
  · rw [if_neg e]
    by_cases e2 : (l' : Int) = l ∧ c ≤ (c' : Int) ∧ (c' : Int) < c + n
    · rw [if_pos e2, if_pos (by omega)]
    · rw [if_neg e2, if_neg (by omega)]
theorem gw_nil {G : ZG} {l c n : Int} {wd : Nat → ZK} (h : n ≤ 0) : gword G l c n wd = G := by
  funext l' c'
  exact if_neg (by omega)
def encK (k : ZK) : Int32 := encC k.1 k.2.1 k.2.2.1 k.2.2.2.1 k.2.2.2.2
abbrev zO (a : Nat → Nat) (σ : Nat → Int) : Nat × va_E := (a 0, .inr (5, [.int (iI (σ 0)), .ref (a 1), .ref (a 3), .ref (a 4), .ref (a 5), .ref (a 6), .ref (a 8), .ref (a 10), .int (iI (σ 1)), .int (iI (σ 2)), .int (iI (σ 3)), .int (iI (σ 4)), .int (iI (σ 5)), .int (iI (σ 6)), .int (iI (σ 7)), .int (iI (σ 8)), .int (iI (σ 9))]))
abbrev zW (cA : ClassId) (a : Nat → Nat) (σ : Nat → Int) (f fw ft fs : Nat → Int32) : va_W := [zO a σ, (a 1, .inr (1, [.ref (a 2)])), (a 2, .inl (cA, 3200, .inl f)), (a 3, .inr (2, [.int (iI (σ 14)), .int (iI (σ 15)), .int (iI (σ 16)), .int (iI (σ 17))])), (a 4, .inr (4, [.int (iI (σ 10)), .int (iI (σ 11))])), (a 5, .inr (4, [.int (iI (σ 12)), .int (iI (σ 13))])), (a 6, .inr (3, [.ref (a 7), .int (iI (σ 18))])), (a 7, .inl (cA, 80, .inl fw)), (a 8, .inr (3, [.ref (a 9), .int (iI (σ 19))])), (a 9, .inl (cA, 60, .inl ft)), (a 10, .inr (3, [.ref (a 11), .int (iI (σ 20))])), (a 11, .inl (cA, 500, .inl fs))]
/-- bounds that always hold -/
def zInv (σ : Nat → Int) : Prop := (1 ≤ σ 0 ∧ σ 0 ≤ 8) ∧ (3 ≤ σ 1 ∧ σ 1 ≤ 40) ∧ (8 ≤ σ 2 ∧ σ 2 ≤ 80) ∧ (0 ≤ σ 3 ∧ σ 3 + ztop σ + 1 ≤ σ 1) ∧ (0 ≤ σ 4 ∧ σ 4 ≤ 1) ∧ (0 ≤ σ 5 ∧ σ 5 ≤ 1) ∧ (0 ≤ σ 6 ∧ σ 6 ≤ 1) ∧ (0 ≤ σ 8 ∧ σ 8 ≤ 40) ∧ (1 ≤ σ 10 ∧ σ 10 + ztop σ + σ 3 ≤ σ 1) ∧ (1 ≤ σ 11 ∧ σ 11 ≤ σ 2 + 1) ∧ (1 ≤ σ 12 ∧ σ 12 ≤ 40) ∧ (1 ≤ σ 13 ∧ σ 13 ≤ σ 2 + 1) ∧ (0 ≤ σ 14 ∧ σ 14 ≤ 15) ∧ (1 ≤ σ 15 ∧ σ 15 ≤ 4) ∧ (2 ≤ σ 16 ∧ σ 16 ≤ 9) ∧ (2 ≤ σ 17 ∧ σ 17 ≤ 9) ∧ (0 ≤ σ 18 ∧ σ 18 ≤ σ 2) ∧ (0 ≤ σ 19 ∧ σ 19 ≤ 60) ∧ (0 ≤ σ 20 ∧ σ 20 ≤ 500) ∧ (0 ≤ ztop σ ∧ ztop σ ≤ 1) ∧ (σ 4 = 1 → 1 ≤ σ 3) ∧ (σ 12 ≤ σ 3 ∨ σ 12 = 1) ∧ (σ 5 = 0 → σ 18 = 0)
