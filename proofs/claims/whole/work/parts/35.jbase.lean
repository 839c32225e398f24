/-! contracts that also stand on static data of the JDK: X A U H says what is given, outside A -/
abbrev zXT : Type := (Nat → Prop) → State → Heap → Prop
def zXok (X : zXT) : Prop := (∀ (A : Nat → Prop) (U : State) (g : JFrame) (mk : MethodId) (a : Array Value), X A U U.heap → X A (U.calling g mk a) (U.calling g mk a).heap) ∧ ∀ (A B : Nat → Prop) (s U : State) (H : Heap) (locs : List Loc), X A s s.heap → va_S A s.heap H locs → (∀ q, B q → A q) → U.heap = H → s.WarmedH U.vm → X B U U.heap
def zPX (X : zXT) (sz : Nat) (D : va_G) (tys : List (ClassId × FieldType)) (ws : va_W) (U : State) : Prop := zP sz D tys ws U ∧ X (va_A ws sz) U U.heap
def zEr (D : va_G) (tys : List (ClassId × FieldType)) (A : Nat → Prop) (ra : Nat) {S : Type} (w1 : S → va_W) (u : S) (b : Nat) (t : State) : Prop := b = ra ∧ zE D tys A w1 u t
abbrev zXi (X : zXT) (l : Launch) (y : MethodName) (wy : List Cond) (rm : Room) (D : va_G) (tys : List (ClassId × FieldType)) (av : List Value) (ws : va_W) (sz : Nat) {S : Type} (post : Int32 → S → Prop) (w1 : S → va_W) (mc ms : Nat) : Prop := Met l y wy rm (va_Pc av (zPX X sz D tys ws)) (va_Qi post (zE D tys (va_A ws sz) w1) (va_A ws sz)) mc ms (va_A ws sz)
abbrev zXv (X : zXT) (l : Launch) (y : MethodName) (wy : List Cond) (rm : Room) (D : va_G) (tys : List (ClassId × FieldType)) (av : List Value) (ws : va_W) (sz : Nat) {S : Type} (post : S → Prop) (w1 : S → va_W) (mc ms : Nat) : Prop := Met l y wy rm (va_Pc av (zPX X sz D tys ws)) (va_Qv post (zE D tys (va_A ws sz) w1) (va_A ws sz)) mc ms (va_A ws sz)
abbrev zXr (ra : Nat) (X : zXT) (l : Launch) (y : MethodName) (wy : List Cond) (rm : Room) (D : va_G) (tys : List (ClassId × FieldType)) (av : List Value) (ws : va_W) (sz : Nat) {S : Type} (post : S → Prop) (w1 : S → va_W) (mc ms : Nat) : Prop := Met l y wy rm (va_Pc av (zPX X sz D tys ws)) (va_Qr post (zEr D tys (va_A ws sz) ra w1) (va_A ws sz)) mc ms (va_A ws sz)
theorem zPX.blind {X : zXT} (hX : zXok X) {sz : Nat} {D : va_G} {tys : List (ClassId × FieldType)} {ws : va_W} {av : List Value} : FrameBlind (va_Pc av (zPX X sz D tys ws)) := by
  intro a U g mk q
  obtain ⟨q0, q1, q2⟩ := q
  have h9 := zP.blind a U g mk (⟨q0, q1⟩ : va_Pc av (zP sz D tys ws) a U)
  exact ⟨q0, h9.2, hX.1 _ U g mk a q2⟩
section ZPX
variable {X : zXT} {s : State} {H : Heap} {D : va_G} {tys tc : List (ClassId × FieldType)} {ws wc : va_W} {A : Nat → Prop} {As : List Value} {locs : List Loc}
theorem z_preX (hXo : zXok X) {av : List Value} (hX : X A s s.heap) (hS : va_S A s.heap H locs) (hA : ∀ q, s.heap.size ≤ q → A q) (hP : va_P D vwCl ws H) (hD : va_D A ws) (hK : va_K D vwCl tys s) (hN : zNs s) (isC : List Nat) (hn : va_nd isC = true) (hC : isC.map (fun i => ws[i]?) = wc.map some) (hC2 : isC.filterMap (fun i => ws[i]?) = wc) (isT : List Nat) (hT : isT.filterMap (fun i => tys[i]?) = tc) (U : State) (hU : U.heap = H) (hW : s.WarmedH U.vm) : va_Pc av (zPX X H.size D tc wc) av.toArray U :=
  ⟨rfl, ⟨by rw [hU], by rw [hU]; exact hP.sub isC hC2, va_K.moved hW.alike (hK.sub isT hT), (hD.sub isC hn hC).weaken (fun _ _ _ _ => trivial), hN.warm hW⟩, hXo.2 A _ s U H locs hX hS (va_free hD hS hA isC hC) hU hW⟩
theorem z_preXV (hXo : zXok X) {b ci q0 : Nat} {q : vw_C} {fs : List Value} (hX : X A s s.heap) (hS : va_S A s.heap H locs) (hA : ∀ q, s.heap.size ≤ q → A q) (hP : va_P D vwCl ws H) (hD : va_D A ws) (hK : va_K D vwCl tys s) (hN : zNs s) (isC : List Nat) (hn : va_nd isC = true) (hC : isC.map (fun i => ws[i]?) = wc.map some) (hC2 : isC.filterMap (fun i => ws[i]?) = wc) (isT : List Nat) (hT : isT.filterMap (fun i => tys[i]?) = tc) (he : wc[q0]? = some (b, .inr (ci, fs))) (hc : vwCl[ci]? = some q) : PreV s H q.1 b (va_Pc (.ref b :: As) (zPX X H.size D tc wc)) As :=
  ⟨zPX.blind hXo, va_recv hK (hP.sub isC hC2) hc he, fun U hU hW => z_preX hXo hX hS hA hP hD hK hN isC hn hC hC2 isT hT U hU hW⟩
theorem z_preXS (hXo : zXok X) (hX : X A s s.heap) (hS : va_S A s.heap H locs) (hA : ∀ q, s.heap.size ≤ q → A q) (hP : va_P D vwCl ws H) (hD : va_D A ws) (hK : va_K D vwCl tys s) (hN : zNs s) (isC : List Nat) (hn : va_nd isC = true) (hC : isC.map (fun i => ws[i]?) = wc.map some) (hC2 : isC.filterMap (fun i => ws[i]?) = wc) (isT : List Nat) (hT : isT.filterMap (fun i => tys[i]?) = tc) : PreS s H (va_Pc As (zPX X H.size D tc wc)) As :=
  ⟨zPX.blind hXo, fun U hU hW => z_preX hXo hX hS hA hP hD hK hN isC hn hC hC2 isT hT U hU hW⟩
/-- a constant of the pool is the receiver -/
theorem z_preXK (hXo : zXok X) {b : Nat} (hO : va_O "java/lang/String" b A s s.heap) (hX : X A s s.heap) (hS : va_S A s.heap H locs) (hA : ∀ q, s.heap.size ≤ q → A q) (hP : va_P D vwCl ws H) (hD : va_D A ws) (hK : va_K D vwCl tys s) (hN : zNs s) (isC : List Nat) (hn : va_nd isC = true) (hC : isC.map (fun i => ws[i]?) = wc.map some) (hC2 : isC.filterMap (fun i => ws[i]?) = wc) (isT : List Nat) (hT : isT.filterMap (fun i => tys[i]?) = tc) : PreV s H "java/lang/String" b (va_Pc (.ref b :: As) (zPX X H.size D tc wc)) As :=
  ⟨zPX.blind hXo, by obtain ⟨cell, h1, h2, h3, -⟩ := hO.kept hS.2.1; exact ⟨cell, h1, h2, h3⟩, fun U hU hW => z_preX hXo hX hS hA hP hD hK hN isC hn hC hC2 isT hT U hU hW⟩
end ZPX
section ZCX
variable {p : Program} {l : Launch} {e : Env} {R : Room} {s : State} {m : MethodId} {args : Array Value} {below : List Frame} {meth : Method} {c : Code} {H : Heap} {locs : List Loc} {cells slots : Nat} {Q : State → Prop}
variable {pc : Nat} {ls : Array Slot} {rest st0 : List Value} {a : Array Value} {A : Nat → Prop} {mc ms : Nat} {D : va_G} {tys tc : List (ClassId × FieldType)} {ws wc wr : va_W}
theorem z_callr {S : Type} {post : S → Prop} {ra : Nat} {w1 w2 : S → va_W} (hr : va_Run p l e R s m args below meth c H locs cells slots mc ms (F0 m pc ls st0) rest (va_Qr post (zEr D tc (va_A wc H.size) ra w1) (va_A wc H.size) a) (va_A wc H.size)) (hP : va_P D vwCl ws H) (hD : va_D A ws) (hS : va_S A s.heap H locs) (hA : ∀ q, s.heap.size ≤ q → A q) (isC isR : List Nat) (hC : isC.map (fun i => ws[i]?) = wc.map some) (hR : isR.map (fun i => ws[i]?) = wr.map some) (hn : va_nd isR = true) (hdis : ∀ i ∈ isR, i ∉ isC) (perm : List Nat) (hnp : va_nd perm = true) (hperm : ∀ u, perm.map (fun i => (wr ++ w1 u)[i]?) = (w2 u).map some)
    (kk : ∀ (u : S) (H1 : Heap) (locs1 : List Loc), post u → va_P D vwCl (w2 u) H1 → va_D A (w2 u) → va_S A s.heap H1 locs1 → W p l e R s m args below meth c H1 locs1 (cells + mc) (slots + ms) Q (F0 m (pc + 3) ls (.ref ra :: rest))) : W p l e R s m args below meth c H locs cells slots Q (F0 m pc ls st0) := by
  have hFc := va_free (wc := wc) hD hS hA isC hC
  refine va_callr hr hS (fun q _ h => hFc q h) hFc (fun u r0 t H1 locs1 ht hvm hw hB hz1 hk1 hS1 => ?_)
  obtain ⟨h0, hP1, hK1, hD1⟩ := hB
  subst h0
  rw [ht] at hP1
  obtain ⟨hP2, hD2⟩ := va_join (wr := wr) (w1 := w1 u) hP hD isC isR hC hR hn hdis hk1 hFc hP1 hD1
  exact kk u H1 locs1 hw (hP2.sub perm (z_mapfm (hperm u))) (hD2.sub perm hnp (hperm u)) hS1
end ZCX
section ZMX
variable {X : zXT} {l : Launch} {y : MethodName} {wy wy' : List Cond} {rm : Room} {D : va_G} {tys : List (ClassId × FieldType)} {av : List Value} {ws : va_W} {sz : Nat} {S : Type} {mc ms : Nat} {cc : ByteArray} {maxL : Nat}
theorem z_startXv {post : S → Prop} {w1 : S → va_W} {own nm : String} (hy : plainName y.cls = true) (hw : wy = Cond.code y cc maxL none :: wy') (ho : y.cls = own) (hnm : y.name = nm) (hav : (lg_sl av).length ≤ maxL)
    (body : ∀ (p : Program) (e : Env) (R : Room) (s : State) (m : MethodId) (args : Array Value) (below : List Frame) (meth : Method) (c : Code) (A : Nat → Prop) (Q : State → Prop) (ls : Array Slot) (H : Heap) (locs : List Loc), zBd D tys own cc maxL wy rm nm p R s m args meth c A → X A s s.heap → va_P D vwCl ws H → va_D A ws → va_S A s.heap H locs → lv_has ls maxL (lv_args 0 av) →
      (∀ (H : Heap) (locs : List Loc) (u : S) (pc : Nat) (ls : Array Slot) (k n : Nat), k ≤ mc → n ≤ ms → post u → va_P D vwCl (w1 u) H → va_D A (w1 u) → va_S A s.heap H locs → decode cc pc = .ok (.return_, 1) → W p l e R s m args below meth c H locs k n Q (F0 m pc ls [])) →
      W p l e R s m args below meth c H locs 0 0 Q (F0 m 0 ls [])) : zXv X l y wy rm D tys av ws sz post w1 mc ms := by
  refine Met.ofW (cc := cc) (maxL := maxL) (ret := none) hy hw ?_
  intro p e s m args below meth c s₁ B hml hv
  obtain ⟨rfl, ⟨hsz, hP, hK, hD0, hN⟩, hX⟩ := hv
  subst hsz
  have hlocks := B.notSynchronized
  rw [lg_entry_eq]
  have hown : s.vm.findClass own = some m.cls := by rw [← ho]; exact findClass_of_methodNamed B.named
  have hname : meth.name = nm := by rw [← hnm]; exact (name_of_methodNamed B.named B.method).1
  refine body p e _ s m _ below meth c (va_A ws s.heap.size) _ _ s.heap [] ⟨B.exec, B.bytes, hml, hown, atoms_spec (ws := wy) B.pre, ⟨rfl, rfl, rfl, rfl⟩, hname, hK, hN, fun q h => Or.inr h⟩ hX hP hD0.self va_S.rf (lv_entry av hav) ?_
  intro H locs u pc ls k n hk hn hu hP hD hS hd
  refine W.widen (k := mc) (n := ms) hk hn ?_
  exact W.vret B.exec B.bytes B.returns (fun t ht hW => ⟨⟨u, rfl, hu, by rw [ht]; exact hP, va_K.moved hW.alike hK, hD⟩, hS.F ht⟩) hS.2.2 hd
theorem z_startXi {post : Int32 → S → Prop} {w1 : S → va_W} {own nm : String} {ty : FieldType} (hy : plainName y.cls = true) (hw : wy = Cond.code y cc maxL (some ty) :: wy') (ho : y.cls = own) (hnm : y.name = nm) (hav : (lg_sl av).length ≤ maxL)
    (body : ∀ (p : Program) (e : Env) (R : Room) (s : State) (m : MethodId) (args : Array Value) (below : List Frame) (meth : Method) (c : Code) (A : Nat → Prop) (Q : State → Prop) (ls : Array Slot) (H : Heap) (locs : List Loc), zBd D tys own cc maxL wy rm nm p R s m args meth c A → X A s s.heap → va_P D vwCl ws H → va_D A ws → va_S A s.heap H locs → lv_has ls maxL (lv_args 0 av) →
      (∀ (H : Heap) (locs : List Loc) (r : Int32) (u : S) (pc : Nat) (ls : Array Slot) (k n : Nat), k ≤ mc → n ≤ ms → narrow ty (.int r) = .int r → post r u → va_P D vwCl (w1 u) H → va_D A (w1 u) → va_S A s.heap H locs → decode cc pc = .ok (.ireturn, 1) → W p l e R s m args below meth c H locs k n Q (F0 m pc ls [.int r])) →
      W p l e R s m args below meth c H locs 0 0 Q (F0 m 0 ls [])) : zXi X l y wy rm D tys av ws sz post w1 mc ms := by
  refine Met.ofW (cc := cc) (maxL := maxL) (ret := some ty) hy hw ?_
  intro p e s m args below meth c s₁ B hml hv
  obtain ⟨rfl, ⟨hsz, hP, hK, hD0, hN⟩, hX⟩ := hv
  subst hsz
  have hlocks := B.notSynchronized
  rw [lg_entry_eq]
  have hown : s.vm.findClass own = some m.cls := by rw [← ho]; exact findClass_of_methodNamed B.named
  have hname : meth.name = nm := by rw [← hnm]; exact (name_of_methodNamed B.named B.method).1
  refine body p e _ s m _ below meth c (va_A ws s.heap.size) _ _ s.heap [] ⟨B.exec, B.bytes, hml, hown, atoms_spec (ws := wy) B.pre, ⟨rfl, rfl, rfl, rfl⟩, hname, hK, hN, fun q h => Or.inr h⟩ hX hP hD0.self va_S.rf (lv_entry av hav) ?_
  intro H locs r u pc ls k n hk hn hnar hu hP hD hS hd
  refine W.widen (k := mc) (n := ms) hk hn ?_
  exact W.zret B.exec B.bytes B.returns hnar (fun t ht hW => ⟨⟨r, u, rfl, hu, by rw [ht]; exact hP, va_K.moved hW.alike hK, hD⟩, hS.F ht⟩) hS.2.2 hd
theorem z_startXr {post : S → Prop} {ra : Nat} {w1 : S → va_W} {own nm rn : String} (hy : plainName y.cls = true) (hw : wy = Cond.code y cc maxL (some (.object rn)) :: wy') (ho : y.cls = own) (hnm : y.name = nm) (hav : (lg_sl av).length ≤ maxL)
    (body : ∀ (p : Program) (e : Env) (R : Room) (s : State) (m : MethodId) (args : Array Value) (below : List Frame) (meth : Method) (c : Code) (A : Nat → Prop) (Q : State → Prop) (ls : Array Slot) (H : Heap) (locs : List Loc), zBd D tys own cc maxL wy rm nm p R s m args meth c A → X A s s.heap → va_P D vwCl ws H → va_D A ws → va_S A s.heap H locs → lv_has ls maxL (lv_args 0 av) →
      (∀ (H : Heap) (locs : List Loc) (u : S) (pc : Nat) (ls : Array Slot) (k n : Nat), k ≤ mc → n ≤ ms → post u → va_P D vwCl (w1 u) H → va_D A (w1 u) → va_S A s.heap H locs → decode cc pc = .ok (.areturn, 1) → W p l e R s m args below meth c H locs k n Q (F0 m pc ls [.ref ra])) →
      W p l e R s m args below meth c H locs 0 0 Q (F0 m 0 ls [])) : zXr ra X l y wy rm D tys av ws sz post w1 mc ms := by
  refine Met.ofW (cc := cc) (maxL := maxL) (ret := some (.object rn)) hy hw ?_
  intro p e s m args below meth c s₁ B hml hv
  obtain ⟨rfl, ⟨hsz, hP, hK, hD0, hN⟩, hX⟩ := hv
  subst hsz
  have hlocks := B.notSynchronized
  rw [lg_entry_eq]
  have hown : s.vm.findClass own = some m.cls := by rw [← ho]; exact findClass_of_methodNamed B.named
  have hname : meth.name = nm := by rw [← hnm]; exact (name_of_methodNamed B.named B.method).1
  refine body p e _ s m _ below meth c (va_A ws s.heap.size) _ _ s.heap [] ⟨B.exec, B.bytes, hml, hown, atoms_spec (ws := wy) B.pre, ⟨rfl, rfl, rfl, rfl⟩, hname, hK, hN, fun q h => Or.inr h⟩ hX hP hD0.self va_S.rf (lv_entry av hav) ?_
  intro H locs u pc ls k n hk hn hu hP hD hS hd
  refine W.widen (k := mc) (n := ms) hk hn ?_
  exact W.aret B.exec B.bytes B.returns (Or.inl ⟨_, rfl⟩) (Or.inr ⟨_, rfl⟩) (fun t ht hW => ⟨⟨u, ra, rfl, hu, rfl, by rw [ht]; exact hP, va_K.moved hW.alike hK, hD⟩, hS.F ht⟩) hS.2.2 hd
end ZMX
/-- a constant text of two signs: its object, its bytes -/
def zC (o v : Nat) (c0 : Int) (A : Nat → Prop) (U : State) (H : Heap) : Prop := va_O "java/lang/String" o A U H ∧ va_OF "java/lang/String" "coder" "B" (.int (iI 0)) o A U H ∧ va_OF "java/lang/String" "value" "[B" (.ref v) o A U H ∧ va_T .byte v 2 (fun j => .int (iI (if j = 0 then c0 else 109))) A U H
def zfm (o : Option Nat) : Value := match o with | none => .null | some t => .ref t
/-- the JDK's own data: COMPACT_STRINGS, the two tables of digits, the formatter, the constants "am" and "pm" -/
def zJ (dO dT : Nat) (fm : Option Nat) (aK aV : Nat → Nat) (A : Nat → Prop) (U : State) (H : Heap) : Prop :=
  va_Z "java/lang/String" "COMPACT_STRINGS" "Z" (.int (iI 1)) A U H ∧ va_Z "java/lang/Integer" "DigitOnes" "[B" (.ref dO) A U H ∧ va_Z "java/lang/Integer" "DigitTens" "[B" (.ref dT) A U H ∧ va_Z "jdk/internal/util/Preconditions" "SIOOBE_FORMATTER" "Ljava/util/function/BiFunction;" (zfm fm) A U H ∧ va_T .byte dO 100 (fun j => .int (iI (48 + (j : Int) % 10))) A U H ∧ va_T .byte dT 100 (fun j => .int (iI (48 + (j : Int) / 10))) A U H ∧ (∀ k : Nat, k < 2 → zC (aK k) (aV k) (if k = 0 then 97 else 112) A U H) ∧ vk_R "ZScreens" 248 "am" (aK 0) U ∧ vk_R "ZScreens" 250 "pm" (aK 1) U
theorem zC.moved {o v : Nat} {c0 : Int} {A : Nat → Prop} {u U : State} {H : Heap} (hvm : u.vm.Alike U.vm) (h : zC o v c0 A u H) : zC o v c0 A U H := ⟨h.1.moved hvm, h.2.1.moved hvm, h.2.2.1.moved hvm, h.2.2.2.moved hvm⟩
theorem zC.kept {o v : Nat} {c0 : Int} {A : Nat → Prop} {U : State} {H H1 : Heap} (h : zC o v c0 A U H) (hq : ∀ a : Nat, a < H.size → ¬ A a → H1[a]? = H[a]?) : zC o v c0 A U H1 := ⟨h.1.kept hq, h.2.1.kept hq, h.2.2.1.kept hq, h.2.2.2.kept hq⟩
theorem zC.narrow {o v : Nat} {c0 : Int} {A B : Nat → Prop} {U : State} {H : Heap} (h : zC o v c0 A U H) (hAB : ∀ q, B q → A q) : zC o v c0 B U H := ⟨h.1.narrow hAB, h.2.1.narrow hAB, h.2.2.1.narrow hAB, h.2.2.2.narrow hAB⟩
theorem zJ_ok (dO dT : Nat) (fm : Option Nat) (aK aV : Nat → Nat) : zXok (zJ dO dT fm aK aV) := by
  refine ⟨?_, ?_⟩
  · intro A U g mk a h
    obtain ⟨h1, h2, h3, h4, h5, h6, h7, h8, h9⟩ := h
    have e0 : U.vm.Alike (U.calling g mk a).vm := Vm.Alike.refl U.vm
    exact ⟨va_Z.moved e0 h1, va_Z.moved e0 h2, va_Z.moved e0 h3, va_Z.moved e0 h4, va_T.moved e0 h5, va_T.moved e0 h6, fun k hk => zC.moved e0 (h7 k hk), vk_R.same (u := U) rfl h8, vk_R.same (u := U) rfl h9⟩
  · intro A B s U H locs h hS hAB hU hW
    obtain ⟨h1, h2, h3, h4, h5, h6, h7, h8, h9⟩ := h
    rw [hU]
    have e0 := hW.alike
    have hq := hS.2.1
    exact ⟨va_Z.moved e0 ((h1.kept hq).narrow hAB), va_Z.moved e0 ((h2.kept hq).narrow hAB), va_Z.moved e0 ((h3.kept hq).narrow hAB), va_Z.moved e0 ((h4.kept hq).narrow hAB), va_T.moved e0 ((h5.kept hq).narrow hAB), va_T.moved e0 ((h6.kept hq).narrow hAB), fun k hk => zC.moved e0 (((h7 k hk).kept hq).narrow hAB), vk_R.warm hW h8, vk_R.warm hW h9⟩
/-- signs below 128 as bytes and chars -/
theorem z_b8 : ∀ n : Nat, n < 128 → (iI (n : Int)).toInt8.toInt32 = iI (n : Int) ∧ vp_nar .byte (iI (n : Int)) = iI (n : Int) ∧ fits .byte (.int (iI (n : Int))) = true ∧ iI (n : Int) &&& iI 255 = iI (n : Int) ∧ ((iI (n : Int)).toUInt32 % 65536).toInt32 = iI (n : Int) ∧ narrow .char (.int (iI (n : Int))) = .int (iI (n : Int)) := by decide +kernel
theorem z_b8i {x : Int} (h : 0 ≤ x ∧ x < 128) : (iI x).toInt8.toInt32 = iI x ∧ vp_nar .byte (iI x) = iI x ∧ fits .byte (.int (iI x)) = true ∧ iI x &&& iI 255 = iI x ∧ ((iI x).toUInt32 % 65536).toInt32 = iI x ∧ narrow .char (.int (iI x)) = .int (iI x) := by
  have h9 := z_b8 x.toNat (by omega)
  rw [show ((x.toNat : Nat) : Int) = x by omega] at h9
  exact h9
theorem z_shr0 (x : Int32) : x >>> (iI 0 &&& 31) = x := sb_shr0 x
theorem z_shl0 (x : Int32) : x <<< (iI 0 &&& 31) = x := sb_shl0 x
theorem iI_ndiv {w : Int} (h : 0 ≤ w ∧ w ≤ 1000000) : iI (-w) / iI 100 = iI (-(w / 100)) := by
  obtain ⟨k, rfl⟩ := Int.eq_ofNat_of_zero_le h.1
  rw [← iI_neg, ← iI_neg, ← iI_nI]
  have h9 := sb_ndiv (w := k) (by omega)
  rw [show iI 100 = 100 by decide, h9, iI_nI]
  rfl
section ZB
variable {p : Program} {l : Launch} {e : Env} {R : Room} {s : State} {m : MethodId} {args : Array Value} {below : List Frame} {meth : Method} {c : Code} {H : Heap} {locs : List Loc} {cells slots : Nat} {Q : State → Prop}
variable {cc : ByteArray} {pc : Nat} {ls : Array Slot} {rest : List Value} {D : va_G} {A : Nat → Prop} {tys : List (ClassId × FieldType)} {ws : va_W} {H0 : Heap} {ad : Nat}
theorem z_bald (hexec : p.tables.exec = Jvm.exec) (hb : c.code = cc) (hK : va_K D vwCl tys s) (hP : va_P D vwCl ws H) (q0 t0 : Nat) {cA : ClassId} {n : Nat} {f : Nat → Int32} (ha : ws[q0]? = some (ad, .inl (cA, n, .inl f))) (ht : tys[t0]? = some (cA, .byte)) {i : Int} (hin : 0 ≤ i ∧ i < (n : Int) ∧ (n : Int) ≤ 2147483647) (hdg : decode cc pc = .ok (.baload, 1))
    (kk : W p l e R s m args below meth c H locs cells slots Q (F0 m (pc + 1) ls (.int (f i.toNat) :: rest))) : W p l e R s m args below meth c H locs cells slots Q (F0 m pc ls (.int (iI i) :: .ref ad :: rest)) :=
  va_bald hexec hb hK hP q0 t0 ha ht (iI_in hin) hdg (by rw [iI_clamp (by omega)]; exact kk)
theorem z_bast (hexec : p.tables.exec = Jvm.exec) (hb : c.code = cc) (hK : va_K D vwCl tys s) (hP : va_P D vwCl ws H) (hD : va_D A ws) (hS : va_S A H0 H locs) (q0 t0 : Nat) {cA : ClassId} {n : Nat} {f : Nat → Int32} (ha : ws[q0]? = some (ad, .inl (cA, n, .inl f))) (ht : tys[t0]? = some (cA, .byte)) {i x : Int} (hin : 0 ≤ i ∧ i < (n : Int) ∧ (n : Int) ≤ 2147483647) (hx0 : 0 ≤ x ∧ x < 128) (hdg : decode cc pc = .ok (.bastore, 1))
    (kk : ∀ (H1 : Heap) (locs1 : List Loc), va_P D vwCl (ws.set q0 (ad, .inl (cA, n, .inl (upd f i.toNat (iI x))))) H1 → va_D A (ws.set q0 (ad, .inl (cA, n, .inl (upd f i.toNat (iI x))))) → va_S A H0 H1 locs1 → W p l e R s m args below meth c H1 locs1 cells slots Q (F0 m (pc + 1) ls rest)) : W p l e R s m args below meth c H locs cells slots Q (F0 m pc ls (.int (iI x) :: .int (iI i) :: .ref ad :: rest)) :=
  va_bast hexec hb hK hP hD hS q0 t0 ha ht (iI_in hin) hdg (by rw [iI_clamp (by omega), (z_b8i hx0).2.1]; exact kk)
theorem z_newb (hexec : p.tables.exec = Jvm.exec) (hb : c.code = cc) (harr : (Cond.arrayClass .byte).before args s = true) (hK : va_K D vwCl tys s) (t0 : Nat) {cA : ClassId} (ht : tys[t0]? = some (cA, .byte)) (hP : va_P D vwCl ws H) (hD : va_D A ws) (hS : va_S A H0 H locs) (hA : ∀ q, H0.size ≤ q → A q) {x : Int} {N : Nat} (hn : x = (N : Int) ∧ N ≤ 100000) (hcells : cells + 1 ≤ R.cells) (hslots : slots + N ≤ R.slots) (hdg : decode cc pc = .ok (.newarray .byte, 2))
    (kk : ∀ (q : Nat) (H1 : Heap), va_P D vwCl (ws ++ [(q, .inl (cA, N, .inl (fun _ => 0)))]) H1 → va_D A (ws ++ [(q, .inl (cA, N, .inl (fun _ => 0)))]) → va_S A H0 H1 locs →
      W p l e R s m args below meth c H1 locs (cells + 1) (slots + N) Q (F0 m (pc + 2) ls (.ref q :: rest))) : W p l e R s m args below meth c H locs cells slots Q (F0 m pc ls (.int (iI x) :: rest)) := by
  obtain ⟨rfl, hN⟩ := hn
  refine va_newa hexec hb (atype := .byte) harr rfl hK hP hD hS hA (a0 := (N, .inl (fun _ => 0))) (fun _ => rfl) (n := iI (N : Int)) (N' := N) (fun h => by rw [show (0 : Int32) = iI 0 from rfl, iI_lt (by omega)] at h; omega) (by rw [iI_clamp (by omega)]; omega) (by show N * 1 ≤ _; omega) hcells hslots hdg (fun q cB H1 hK1 hP1 hD1 hS1 => ?_)
  have h1 := ((hK.2 t0 _ ht).2 : s.vm.findClass _ = some cA)
  have h2 := ((hK1.2 tys.length (cB, .byte) (by rw [List.getElem?_append_right (Nat.le_refl _)]; simp; rfl)).2 : s.vm.findClass _ = some cB)
  obtain rfl : cA = cB := Option.some.inj (h1.symm.trans h2)
  exact kk q H1 hP1 hD1 hS1
theorem z_i2b (hexec : p.tables.exec = Jvm.exec) (hb : c.code = cc) {x : Int} (hx0 : 0 ≤ x ∧ x < 128) (hdg : decode cc pc = .ok (.i2b, 1)) (k : W p l e R s m args below meth c H locs cells slots Q (F0 m (pc + 1) ls (.int (iI x) :: rest))) : W p l e R s m args below meth c H locs cells slots Q (F0 m pc ls (.int (iI x) :: rest)) :=
  lv_i2b hexec hb hdg (z_b8i hx0).1 k
theorem z_i2c (hexec : p.tables.exec = Jvm.exec) (hb : c.code = cc) {x : Int} (hx0 : 0 ≤ x ∧ x < 128) (hdg : decode cc pc = .ok (.i2c, 1)) (k : W p l e R s m args below meth c H locs cells slots Q (F0 m (pc + 1) ls (.int (iI x) :: rest))) : W p l e R s m args below meth c H locs cells slots Q (F0 m pc ls (.int (iI x) :: rest)) :=
  lv_i2c hexec hb hdg (z_b8i hx0).2.2.2.2.1 k
theorem z_iand255 (hexec : p.tables.exec = Jvm.exec) (hb : c.code = cc) {x : Int} (hx0 : 0 ≤ x ∧ x < 128) (hdg : decode cc pc = .ok (.iand, 1)) (k : W p l e R s m args below meth c H locs cells slots Q (F0 m (pc + 1) ls (.int (iI x) :: rest))) : W p l e R s m args below meth c H locs cells slots Q (F0 m pc ls (.int (iI 255) :: .int (iI x) :: rest)) :=
  lv_iand hexec hb hdg (by rw [(z_b8i hx0).2.2.2.1]; exact k)
theorem z_ndiv (hexec : p.tables.exec = Jvm.exec) (hb : c.code = cc) {w : Int} (h : 0 ≤ w ∧ w ≤ 1000000) (hdg : decode cc pc = .ok (.idiv, 1)) (k : W p l e R s m args below meth c H locs cells slots Q (F0 m (pc + 1) ls (.int (iI (-(w / 100))) :: rest))) : W p l e R s m args below meth c H locs cells slots Q (F0 m pc ls (.int (iI 100) :: .int (iI (-w)) :: rest)) :=
  lv_idiv hexec hb hdg (by decide) (by rw [iI_ndiv h]; exact k)
theorem z_tbO (hexec : p.tables.exec = Jvm.exec) (hb : c.code = cc) {t : Nat} (hT : va_T .byte t 100 (fun j => .int (iI (48 + (j : Int) % 10))) A s s.heap) (hS : va_S A s.heap H locs) {x : Int} (hin : 0 ≤ x ∧ x < 100) (hdg : decode cc pc = .ok (.baload, 1)) (kk : W p l e R s m args below meth c H locs cells slots Q (F0 m (pc + 1) ls (.int (iI (48 + x % 10)) :: rest))) : W p l e R s m args below meth c H locs cells slots Q (F0 m pc ls (.int (iI x) :: .ref t :: rest)) :=
  va_tb hexec hb hT hS (iI_in (by omega)) (by rw [iI_clamp (by omega), show ((x.toNat : Nat) : Int) = x by omega]) hdg kk
theorem z_tbT (hexec : p.tables.exec = Jvm.exec) (hb : c.code = cc) {t : Nat} (hT : va_T .byte t 100 (fun j => .int (iI (48 + (j : Int) / 10))) A s s.heap) (hS : va_S A s.heap H locs) {x : Int} (hin : 0 ≤ x ∧ x < 100) (hdg : decode cc pc = .ok (.baload, 1)) (kk : W p l e R s m args below meth c H locs cells slots Q (F0 m (pc + 1) ls (.int (iI (48 + x / 10)) :: rest))) : W p l e R s m args below meth c H locs cells slots Q (F0 m pc ls (.int (iI x) :: .ref t :: rest)) :=
  va_tb hexec hb hT hS (iI_in (by omega)) (by rw [iI_clamp (by omega), show ((x.toNat : Nat) : Int) = x by omega]) hdg kk
/-- System.arraycopy out of a constant's bytes -/
theorem z_copyt (hexec : p.tables.exec = Jvm.exec) (hb : c.code = cc) (hml : c.maxLocals = ls.size) {own : String} {index : Nat} (hown : s.vm.findClass own = some m.cls) (hlink : (Cond.methodLink own index arraycopyName).before args s = true) (hnat : (Cond.native arraycopyName).before args s = true) (hstat : (Cond.static arraycopyName).before args s = true) (hini : (Cond.initialized "java/lang/System").before args s = true)
    (hK : va_K D vwCl tys s) (hP : va_P D vwCl ws H) (hD : va_D A ws) (hS : va_S A s.heap H locs) {b0 : Nat} {c0 : Int} (hc0 : 0 ≤ c0 ∧ c0 < 128) (hX : va_T .byte b0 2 (fun j => .int (iI (if j = 0 then c0 else 109))) A s s.heap) (q1 t1 : Nat) {c1 : ClassId} {n1 : Nat} {g : Nat → Int32} (ha1 : ws[q1]? = some (ad, .inl (c1, n1, .inl g))) (ht1 : tys[t1]? = some (c1, .byte))
    {dp : Int} (hdp : 0 ≤ dp ∧ dp + 2 ≤ (n1 : Int) ∧ n1 ≤ 100000)
    (hframes : 1 ≤ R.frames) (hlocals : (rest.map fun v => v.category).sum + (nativeFrameWords "java/lang/System" "arraycopy" 5 + 11) ≤ R.locals) (hdg : decode cc pc = .ok (.invokestatic index, 3))
    (kk : ∀ (H1 : Heap) (locs1 : List Loc), va_P D vwCl (ws.set q1 (ad, .inl (c1, n1, .inl (va_cpy (fun j => iI (if j = 0 then c0 else 109)) g 0 dp.toNat 2)))) H1 → va_D A (ws.set q1 (ad, .inl (c1, n1, .inl (va_cpy (fun j => iI (if j = 0 then c0 else 109)) g 0 dp.toNat 2)))) → va_S A s.heap H1 locs1 → W p l e R s m args below meth c H1 locs1 cells slots Q (F0 m (pc + 3) ls rest)) : W p l e R s m args below meth c H locs cells slots Q (F0 m pc ls (.int (iI 2) :: .int (iI dp) :: .ref ad :: .int (iI 0) :: .ref b0 :: rest)) := by
  have nn : ∀ x : Int, 0 ≤ x → x ≤ 100000 → ¬ iI x < 0 := fun x h1 h2 h => by rw [show (0 : Int32) = iI 0 from rfl, iI_lt (by omega)] at h; omega
  have e0 : (iI 0).toNatClampNeg = 0 := by decide
  have e2 : (iI 2).toNatClampNeg = 2 := by decide
  refine vk_copyt (f := fun j => iI (if j = 0 then c0 else 109)) hexec hb hml hown hlink hnat hstat hini hK hP hD hS hX q1 t1 ha1 ht1 (nn 0 (by omega) (by omega)) (nn dp (by omega) (by omega)) (nn 2 (by omega) (by omega)) (by rw [e0, e2]; omega) (by rw [e2, iI_clamp (by omega)]; omega) (fun i _ => by show fits .byte (.int (iI (if _ = 0 then c0 else 109))) = true; split; exact (z_b8i hc0).2.2.1; exact (z_b8i (x := 109) (by omega)).2.2.1) hframes hlocals hdg ?_
  rw [e0, e2, iI_clamp (by omega)]
  exact kk
end ZB
/-! texts written forward and backward -/
def zTb (g : Nat → Int32) (n : Nat) (ys : List Int) : Prop := ∀ j : Nat, j < ys.length → g (n + j) = iI (ys.getD j 0)
theorem tb_nil (g : Nat → Int32) (n : Nat) : zTb g n [] := fun j h => absurd h (Nat.not_lt_zero j)
theorem tb_cons {g : Nat → Int32} {n i : Nat} {x y : Int} {ys : List Int} (h : zTb g (n + 1) ys) (hi : i = n) (hxy : x = y) : zTb (upd g i (iI x)) n (y :: ys) := by
  subst hi; subst hxy
  intro j hj
  by_cases e : j = 0
  · subst e
    rw [Nat.add_zero, pk_us]
    rfl
  · obtain ⟨k, rfl⟩ : ∃ k, j = k + 1 := ⟨j - 1, by omega⟩
    rw [pk_un (by omega), show i + (k + 1) = i + 1 + k by omega, h k (by simp at hj; omega)]
    rfl
theorem tx_keep {g : Nat → Int32} {tx : List Int} {i : Nat} {x : Int32} (h : zTx g tx) (hi : tx.length ≤ i) : zTx (upd g i x) tx := fun j hj => by rw [pk_un (by omega)]; exact h j hj
theorem tx_join {g : Nat → Int32} {tx ys : List Int} (h : zTx g tx) (h2 : zTb g tx.length ys) : zTx g (tx ++ ys) := by
  intro j hj
  by_cases e : j < tx.length
  · rw [h j e]
    simp [List.getD, List.getElem?_append_left e]
  · have h3 := h2 (j - tx.length) (by rw [List.length_append] at hj; omega)
    rw [show tx.length + (j - tx.length) = j by omega] at h3
    rw [h3]
    simp [List.getD, List.getElem?_append_right (Nat.le_of_not_lt e)]
theorem tx_cpy {g : Nat → Int32} {tx : List Int} {c0 : Int} {i : Nat} (h : zTx g tx) (hi : i = tx.length) : zTx (va_cpy (fun j => iI (if j = 0 then c0 else 109)) g 0 i 2) (tx ++ [c0, 109]) := by
  subst hi
  refine tx_join (fun j hj => by rw [pk_cpy_out (by omega)]; exact h j hj) (fun j hj => ?_)
  rw [pk_cpy_in (by omega) (by simp at hj; omega), show 0 + (tx.length + j - tx.length) = j by omega]
  obtain rfl | rfl : j = 0 ∨ j = 1 := by simp at hj; omega
  · rfl
  · rfl
def dLen (v : Int) : Int := (if v < 0 then 1 else 0) + (if -10 < v ∧ v < 10 then 1 else if -100 < v ∧ v < 100 then 2 else if -1000 < v ∧ v < 1000 then 3 else 4)
theorem dec_len (v : Int) : ((dec v).length : Int) = dLen v := by
  unfold dec digs dLen
  by_cases h0 : v < 0
  · rw [if_pos h0, if_pos h0]
    by_cases h1 : -v < 10
    · rw [if_pos h1, if_pos (show -10 < v ∧ v < 10 by omega)]; rfl
    · rw [if_neg h1, if_neg (show ¬ (-10 < v ∧ v < 10) by omega)]
      by_cases h2 : -v < 100
      · rw [if_pos h2, if_pos (show -100 < v ∧ v < 100 by omega)]; rfl
      · rw [if_neg h2, if_neg (show ¬ (-100 < v ∧ v < 100) by omega)]
        by_cases h3 : -v < 1000
        · rw [if_pos h3, if_pos (show -1000 < v ∧ v < 1000 by omega)]; rfl
        · rw [if_neg h3, if_neg (show ¬ (-1000 < v ∧ v < 1000) by omega)]; rfl
  · rw [if_neg h0, if_neg h0]
    by_cases h1 : v < 10
    · rw [if_pos h1, if_pos (show -10 < v ∧ v < 10 by omega)]; rfl
    · rw [if_neg h1, if_neg (show ¬ (-10 < v ∧ v < 10) by omega)]
      by_cases h2 : v < 100
      · rw [if_pos h2, if_pos (show -100 < v ∧ v < 100 by omega)]; rfl
      · rw [if_neg h2, if_neg (show ¬ (-100 < v ∧ v < 100) by omega)]
        by_cases h3 : v < 1000
        · rw [if_pos h3, if_pos (show -1000 < v ∧ v < 1000 by omega)]; rfl
        · rw [if_neg h3, if_neg (show ¬ (-1000 < v ∧ v < 1000) by omega)]; rfl
/-- every sign of a number is below 128 -/
def asc (tx : List Int) : Prop := ∀ j : Nat, j < tx.length → 0 ≤ tx.getD j 0 ∧ tx.getD j 0 < 128
