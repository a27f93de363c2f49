/-! the base of all contracts: worlds with the kinds of arrays, contracts over worlds, calls, returns; the words of the functions that the methods are -/
abbrev kT (cy : Nat → ClassId) : List (ClassId × FieldType) := [(cy 0, .int), (cy 1, .long), (cy 2, .boolean), (cy 3, .object "FigurePlay$Ways")]
/-- the private members that nest mates reach -/
def kNl : List Cond := [.methodLinkNest RX10 18 yX6_init RX10, .methodLinkNest RX10 238 yX8_init RX10, .methodLinkNest RX0 77 yX10_countOrNone RX10, .methodLinkNest RX9 57 yX10_countOrNone RX10, .methodLinkNest RX10 251 yX7_init RX10, .methodLinkNest RX10 193 yX4_init RX10, .methodLinkNest RX2 36 yX10_countOrNone RX10]
def kN (U : State) : Prop := va_Nw (.methodLinkNest RX10 18 yX6_init RX10) U ∧ va_Nw (.methodLinkNest RX10 238 yX8_init RX10) U ∧ va_Nw (.methodLinkNest RX0 77 yX10_countOrNone RX10) U ∧ va_Nw (.methodLinkNest RX9 57 yX10_countOrNone RX10) U ∧ va_Nw (.methodLinkNest RX10 251 yX7_init RX10) U ∧ va_Nw (.methodLinkNest RX10 193 yX4_init RX10) U ∧ va_Nw (.methodLinkNest RX2 36 yX10_countOrNone RX10) U ∧ va_AO RX9 U
theorem kN.same {u U : State} (h : u.vm = U.vm) (hN : kN u) : kN U := ⟨hN.1.same rfl h, hN.2.1.same rfl h, hN.2.2.1.same rfl h, hN.2.2.2.1.same rfl h, hN.2.2.2.2.1.same rfl h, hN.2.2.2.2.2.1.same rfl h, hN.2.2.2.2.2.2.1.same rfl h, hN.2.2.2.2.2.2.2.moved (by rw [h]; exact Vm.Alike.refl _)⟩
theorem kN.warm {s U : State} (hW : s.WarmedH U.vm) (hN : kN s) : kN U := ⟨hN.1.warmM hW, hN.2.1.warmM hW, hN.2.2.1.warmM hW, hN.2.2.2.1.warmM hW, hN.2.2.2.2.1.warmM hW, hN.2.2.2.2.2.1.warmM hW, hN.2.2.2.2.2.2.1.warmM hW, hN.2.2.2.2.2.2.2.moved hW.alike⟩
def kPre (D : va_G) (cy : Nat → ClassId) (w : va_W) (sz : Nat) (U : State) : Prop := U.heap.size = sz ∧ va_P D vwCl w U.heap ∧ va_K D vwCl (kT cy) U ∧ va_D (fun _ => True) w ∧ kN U
def kPost (D : va_G) (cy : Nat → ClassId) (A : Nat → Prop) (w1 : va_W) (t : State) : Prop := va_P D vwCl w1 t.heap ∧ va_K D vwCl (kT cy) t ∧ va_D A w1
abbrev kQi {ι : Type} (D : va_G) (cy : Nat → ClassId) (w1 : ι → va_W) (r : Int32) (A : Nat → Prop) : Array Value → State → Outcome → State → Prop := va_Qi (fun (x : Int32) (_ : ι) => x = r) (fun u t => kPost D cy A (w1 u) t) A
abbrev kQl {ι : Type} (D : va_G) (cy : Nat → ClassId) (w1 : ι → va_W) (r : Int64) (A : Nat → Prop) : Array Value → State → Outcome → State → Prop := va_Ql (fun (x : Int64) (_ : ι) => x = r) (fun u t => kPost D cy A (w1 u) t) A
abbrev kQv {ι : Type} (D : va_G) (cy : Nat → ClassId) (w1 : ι → va_W) (A : Nat → Prop) : Array Value → State → Outcome → State → Prop := va_Qv (fun (_ : ι) => True) (fun u t => kPost D cy A (w1 u) t) A
abbrev kM (l : Launch) (y : MethodName) (ws : List Cond) (rm : Room) (D : va_G) (cy : Nat → ClassId) (av : List Value) (w : va_W) (Qk : (Nat → Prop) → Array Value → State → Outcome → State → Prop) : Prop := ∀ sz : Nat, Met l y ws rm (va_Pc av (kPre D cy w sz)) (Qk (va_A w sz)) rm.cells rm.slots (va_A w sz)
theorem kPre_blind {D : va_G} {cy : Nat → ClassId} {av : List Value} {w : va_W} {sz : Nat} : ∀ (a : Array Value) (U : State) (g : JFrame) (mk : MethodId), va_Pc av (kPre D cy w sz) a U → va_Pc av (kPre D cy w sz) a (U.calling g mk a) := by
  intro a U g mk q
  obtain ⟨q0, q1, qP, qK, qD, qN⟩ := q
  exact ⟨q0, q1, qP, va_K.moved (u := U) (U := U.calling g mk a) (Vm.Alike.refl U.vm) qK, qD, kN.same (u := U) (U := U.calling g mk a) rfl qN⟩
theorem kPre_of {D : va_G} {cy : Nat → ClassId} {w : va_W} {s U : State} {H : Heap} {A : Nat → Prop} (hP : va_P D vwCl w H) (hK : va_K D vwCl (kT cy) s) (hN : kN s) (hD : va_D A w) (hU : U.heap = H) (hW : s.WarmedH U.vm) : kPre D cy w H.size U := ⟨by rw [hU], by rw [hU]; exact hP, va_K.moved hW.alike hK, hD.weaken (fun _ _ _ _ => trivial), hN.warm hW⟩
theorem kP_sub {D : va_G} {cl : List vw_C} {ws ws' : va_W} {H : Heap} (h : va_P D cl ws H) (is : List Nat) (hs : is.map (fun i => ws[i]?) = ws'.map some) : va_P D cl ws' H := by
  intro k q hk
  have h1 : (is.map (fun i => ws[i]?))[k]? = some (some q) := by rw [hs, List.getElem?_map, hk]; rfl
  rw [List.getElem?_map] at h1
  cases hi : is[k]? with
  | none => rw [hi] at h1; cases h1
  | some i => rw [hi] at h1; exact h i q (Option.some.inj h1)
/-- a method's entry -/
abbrev kX (p : Program) (s : State) (m : MethodId) (ar : Array Value) (meth : Method) (c : Code) (cc : ByteArray) (maxL : Nat) (ret : Option FieldType) (ws : List Cond) (own nm : String) : Prop := p.tables.exec = Jvm.exec ∧ c.code = cc ∧ c.maxLocals = maxL ∧ meth.sig.returnType = ret ∧ (∀ x ∈ ws, x.before ar s = true) ∧ s.vm.findClass own = some m.cls ∧ meth.locks = false ∧ meth.name = nm
theorem k_ent {l : Launch} {y : MethodName} {ws ws' : List Cond} {rm : Room} {D : va_G} {cy : Nat → ClassId} {av : List Value} {w : va_W} {Qk : (Nat → Prop) → Array Value → State → Outcome → State → Prop} {cc : ByteArray} {maxL : Nat} {ret : Option FieldType} (hy : plainName y.cls = true) (hw : ws = Cond.code y cc maxL ret :: ws') (hn : (lg_sl av).length ≤ maxL)
    (body : ∀ (p : Program) (e : Env) (s : State) (m : MethodId) (ar : Array Value) (below : List Frame) (meth : Method) (c : Code) (A : Nat → Prop) (ls : Array Slot), kX p s m ar meth c cc maxL ret ws y.cls y.name → (∀ q, s.heap.size ≤ q → A q) → va_K D vwCl (kT cy) s → kN s → va_P D vwCl w s.heap → va_D A w → va_S A s.heap s.heap [] → lv_has ls maxL (lv_args 0 av) →
      W p l e rm s m ar below meth c s.heap [] 0 0 (MQ below (Qk A) ar s rm.cells rm.slots A) (F0 m 0 ls [])) : kM l y ws rm D cy av w Qk := by
  intro sz
  refine Met.ofW (cc := cc) (maxL := maxL) (ret := ret) hy hw ?_
  intro p e s m args below meth c s₁ B hml hv
  obtain ⟨rfl, hsz, hP, hK, hD0, hN⟩ := hv
  subst hsz
  have hl := lv_entry av (n := maxL) hn
  rw [lg_entry_eq]
  generalize (lg_sl av ++ List.replicate (maxL - (lg_sl av).length) Slot.unset).toArray = ls at hl ⊢
  exact body p e s m _ below meth c _ ls ⟨B.exec, B.bytes, hml, B.returns, atoms_spec (ws := ws) B.pre, findClass_of_methodNamed B.named, B.notSynchronized, (name_of_methodNamed B.named B.method).1⟩ (fun q h => Or.inr h) hK hN hP hD0.self va_S.rf hl
theorem kent_i {ι : Type} {l : Launch} {y : MethodName} {ws ws' : List Cond} {rm : Room} {D : va_G} {cy : Nat → ClassId} {av : List Value} {w : va_W} {w1 : ι → va_W} {r : Int32} {cc : ByteArray} {maxL : Nat} (hy : plainName y.cls = true) (hw : ws = Cond.code y cc maxL (some .int) :: ws') (hn : (lg_sl av).length ≤ maxL)
    (body : ∀ (p : Program) (e : Env) (s : State) (m : MethodId) (ar : Array Value) (below : List Frame) (meth : Method) (c : Code) (A : Nat → Prop) (Q : State → Prop) (ls : Array Slot), kX p s m ar meth c cc maxL (some .int) ws y.cls y.name → (∀ q, s.heap.size ≤ q → A q) → va_K D vwCl (kT cy) s → kN s →
      (∀ (u : ι) (pc : Nat) (H : Heap) (locs : List Loc) (ls : Array Slot), decode cc pc = .ok (.ireturn, 1) → va_P D vwCl (w1 u) H → va_D A (w1 u) → va_S A s.heap H locs → W p l e rm s m ar below meth c H locs rm.cells rm.slots Q (F0 m pc ls [.int r])) →
      va_P D vwCl w s.heap → va_D A w → va_S A s.heap s.heap [] → lv_has ls maxL (lv_args 0 av) → W p l e rm s m ar below meth c s.heap [] 0 0 Q (F0 m 0 ls [])) : kM l y ws rm D cy av w (kQi D cy w1 r) := by
  refine k_ent hy hw hn ?_
  intro p e s m ar below meth c A ls C hA hK hN hP hD hS hl
  refine body p e s m ar below meth c A _ ls C hA hK hN (fun u pc H locs ls hd hP1 hD1 hS1 => ?_) hP hD hS hl
  obtain ⟨hx, hb, -, hr, -, -, hlocks, -⟩ := C
  exact W.iret (v := r) hx hb hr (fun t ht hW => ⟨⟨r, u, rfl, rfl, by rw [ht]; exact hP1, va_K.moved hW.alike hK, hD1⟩, hS1.F ht⟩) hS1.2.2 hd hlocks
theorem kent_z {ι : Type} {l : Launch} {y : MethodName} {ws ws' : List Cond} {rm : Room} {D : va_G} {cy : Nat → ClassId} {av : List Value} {w : va_W} {w1 : ι → va_W} {r : Int32} {cc : ByteArray} {maxL : Nat} (hy : plainName y.cls = true) (hw : ws = Cond.code y cc maxL (some .boolean) :: ws') (hn : (lg_sl av).length ≤ maxL)
    (body : ∀ (p : Program) (e : Env) (s : State) (m : MethodId) (ar : Array Value) (below : List Frame) (meth : Method) (c : Code) (A : Nat → Prop) (Q : State → Prop) (ls : Array Slot), kX p s m ar meth c cc maxL (some .boolean) ws y.cls y.name → (∀ q, s.heap.size ≤ q → A q) → va_K D vwCl (kT cy) s → kN s →
      (∀ (u : ι) (pc : Nat) (H : Heap) (locs : List Loc) (ls : Array Slot), r &&& 1 = r → decode cc pc = .ok (.ireturn, 1) → va_P D vwCl (w1 u) H → va_D A (w1 u) → va_S A s.heap H locs → W p l e rm s m ar below meth c H locs rm.cells rm.slots Q (F0 m pc ls [.int r])) →
      va_P D vwCl w s.heap → va_D A w → va_S A s.heap s.heap [] → lv_has ls maxL (lv_args 0 av) → W p l e rm s m ar below meth c s.heap [] 0 0 Q (F0 m 0 ls [])) : kM l y ws rm D cy av w (kQi D cy w1 r) := by
  refine k_ent hy hw hn ?_
  intro p e s m ar below meth c A ls C hA hK hN hP hD hS hl
  refine body p e s m ar below meth c A _ ls C hA hK hN (fun u pc H locs ls hz hd hP1 hD1 hS1 => ?_) hP hD hS hl
  obtain ⟨hx, hb, -, hr, -, -, hlocks, -⟩ := C
  exact W.zret (v := r) (ty := .boolean) hx hb hr (by show Value.int (r &&& 1) = _; rw [hz]) (fun t ht hW => ⟨⟨r, u, rfl, rfl, by rw [ht]; exact hP1, va_K.moved hW.alike hK, hD1⟩, hS1.F ht⟩) hS1.2.2 hd hlocks
theorem kent_l {ι : Type} {l : Launch} {y : MethodName} {ws ws' : List Cond} {rm : Room} {D : va_G} {cy : Nat → ClassId} {av : List Value} {w : va_W} {w1 : ι → va_W} {r : Int64} {cc : ByteArray} {maxL : Nat} (hy : plainName y.cls = true) (hw : ws = Cond.code y cc maxL (some .long) :: ws') (hn : (lg_sl av).length ≤ maxL)
    (body : ∀ (p : Program) (e : Env) (s : State) (m : MethodId) (ar : Array Value) (below : List Frame) (meth : Method) (c : Code) (A : Nat → Prop) (Q : State → Prop) (ls : Array Slot), kX p s m ar meth c cc maxL (some .long) ws y.cls y.name → (∀ q, s.heap.size ≤ q → A q) → va_K D vwCl (kT cy) s → kN s →
      (∀ (u : ι) (pc : Nat) (H : Heap) (locs : List Loc) (ls : Array Slot), decode cc pc = .ok (.lreturn, 1) → va_P D vwCl (w1 u) H → va_D A (w1 u) → va_S A s.heap H locs → W p l e rm s m ar below meth c H locs rm.cells rm.slots Q (F0 m pc ls [.long r])) →
      va_P D vwCl w s.heap → va_D A w → va_S A s.heap s.heap [] → lv_has ls maxL (lv_args 0 av) → W p l e rm s m ar below meth c s.heap [] 0 0 Q (F0 m 0 ls [])) : kM l y ws rm D cy av w (kQl D cy w1 r) := by
  refine k_ent hy hw hn ?_
  intro p e s m ar below meth c A ls C hA hK hN hP hD hS hl
  refine body p e s m ar below meth c A _ ls C hA hK hN (fun u pc H locs ls hd hP1 hD1 hS1 => ?_) hP hD hS hl
  obtain ⟨hx, hb, -, hr, -, -, hlocks, -⟩ := C
  exact W.lret (v := r) hx hb hr (fun t ht hW => ⟨⟨r, u, rfl, rfl, by rw [ht]; exact hP1, va_K.moved hW.alike hK, hD1⟩, hS1.F ht⟩) hS1.2.2 hd hlocks
theorem kent_v {ι : Type} {l : Launch} {y : MethodName} {ws ws' : List Cond} {rm : Room} {D : va_G} {cy : Nat → ClassId} {av : List Value} {w : va_W} {w1 : ι → va_W} {cc : ByteArray} {maxL : Nat} (hy : plainName y.cls = true) (hw : ws = Cond.code y cc maxL none :: ws') (hn : (lg_sl av).length ≤ maxL)
    (body : ∀ (p : Program) (e : Env) (s : State) (m : MethodId) (ar : Array Value) (below : List Frame) (meth : Method) (c : Code) (A : Nat → Prop) (Q : State → Prop) (ls : Array Slot), kX p s m ar meth c cc maxL none ws y.cls y.name → (∀ q, s.heap.size ≤ q → A q) → va_K D vwCl (kT cy) s → kN s →
      (∀ (u : ι) (pc : Nat) (H : Heap) (locs : List Loc) (ls : Array Slot), decode cc pc = .ok (.return_, 1) → va_P D vwCl (w1 u) H → va_D A (w1 u) → va_S A s.heap H locs → W p l e rm s m ar below meth c H locs rm.cells rm.slots Q (F0 m pc ls [])) →
      va_P D vwCl w s.heap → va_D A w → va_S A s.heap s.heap [] → lv_has ls maxL (lv_args 0 av) → W p l e rm s m ar below meth c s.heap [] 0 0 Q (F0 m 0 ls [])) : kM l y ws rm D cy av w (kQv D cy w1) := by
  refine k_ent hy hw hn ?_
  intro p e s m ar below meth c A ls C hA hK hN hP hD hS hl
  refine body p e s m ar below meth c A _ ls C hA hK hN (fun u pc H locs ls hd hP1 hD1 hS1 => ?_) hP hD hS hl
  obtain ⟨hx, hb, -, hr, -, -, hlocks, -⟩ := C
  exact W.vret hx hb hr (fun t ht hW => ⟨⟨u, rfl, trivial, by rw [ht]; exact hP1, va_K.moved hW.alike hK, hD1⟩, hS1.F ht⟩) hS1.2.2 hd hlocks
/-- where the callee's cells lie in the caller's world w: isC; the rest: isR; the world w2 u behind the call, out of rest and callee's new world: isP -/
abbrev kIn {ι : Type} (w wc wr : va_W) (wc1 w2 : ι → va_W) (isC isR isP : List Nat) : Prop := isC.map (fun i => w[i]?) = wc.map some ∧ isR.map (fun i => w[i]?) = wr.map some ∧ va_nd isC = true ∧ va_nd isR = true ∧ (∀ i ∈ isR, i ∉ isC) ∧ va_nd isP = true ∧ ∀ u, isP.map (fun i => (wr ++ wc1 u)[i]?) = (w2 u).map some
/-- the callee's cells among the caller's -/
abbrev kAt (w wc : va_W) (isC : List Nat) : Prop := isC.map (fun i => w[i]?) = wc.map some ∧ va_nd isC = true
section KC
variable {p : Program} {l : Launch} {e : Env} {R : Room} {s : State} {m : MethodId} {ar : Array Value} {below : List Frame} {meth : Method} {c : Code} {H : Heap} {locs : List Loc} {cells slots : Nat} {Q : State → Prop}
variable {pc : Nat} {ls : Array Slot} {rest st0 : List Value} {A : Nat → Prop} {D : va_G} {cy : Nat → ClassId} {cc bytes : ByteArray} {nL maxL n index : Nat} {Ts ws : List Cond} {own C : String} {y : MethodName} {rm : Room} {b : Nat} {As : List Value} {w wc wr : va_W} {ret : Option FieldType}
theorem k_join {ι : Type} {wc1 w2 : ι → va_W} {H1 : Heap} {isC isR isP : List Nat} (hP : va_P D vwCl w H) (hD : va_D A w) (hI : kIn w wc wr wc1 w2 isC isR isP) (hF : ∀ q, va_A wc H.size q → A q) (hk : ∀ q : Nat, q < H.size → ¬ va_A wc H.size q → H1[q]? = H[q]?) {u : ι} {t : State} (ht : t.heap = H1) (hB : kPost D cy (va_A wc H.size) (wc1 u) t) : va_P D vwCl (w2 u) H1 ∧ va_D A (w2 u) := by
  obtain ⟨hC, hR, hnC, hnR, hdis, hnP, hW2⟩ := hI
  obtain ⟨hP1, -, hD1⟩ := hB
  rw [ht] at hP1
  obtain ⟨hP2, hD2⟩ := va_join hP hD isC isR hC hR hnR hdis hk hF hP1 hD1
  exact ⟨kP_sub hP2 isP (hW2 u), hD2.sub isP hnP (hW2 u)⟩
theorem k_run {Qk : (Nat → Prop) → Array Value → State → Outcome → State → Prop} {isC : List Nat} (S : CallFix p m c cc nL s ar Ts own) (hM : kM l y ws rm D cy (.ref b :: As) wc Qk) (cw : CallW R s ar own C index y bytes maxL ret ws rm rm.cells rm.slots n) (hK : va_K D vwCl (kT cy) s) (hN : kN s) (hP : va_P D vwCl w H) (hD : va_D A w) (hI : kAt w wc isC) {q0 ci : Nat} {fs : List Value} {r0 : vw_C} (hcl : vwCl[ci]? = some r0) (hr0 : r0.1 = C) (he : wc[q0]? = some (b, .inr (ci, fs))) (hn : As.length = n) (hsz : ls.size = nL) (hst : st0 = As.reverse ++ .ref b :: rest) (hW : (rest.map fun v => v.category).sum ≤ 8) (hdg : decode cc pc = .ok (.invokevirtual index, 3)) (hf : cells + rm.cells ≤ R.cells ∧ slots + rm.slots ≤ R.slots) :
    va_Run p l e R s m ar below meth c H locs cells slots rm.cells rm.slots (F0 m pc ls st0) rest (Qk (va_A wc H.size) (Value.ref b :: As).toArray) (va_A wc H.size) := by
  have hPc := kP_sub hP isC hI.1
  have hDc := hD.sub isC hI.2 hI.1
  have hre := va_recv hK hPc hcl he
  rw [hr0] at hre
  exact va_runV S (hM H.size) cw ⟨kPre_blind, hre, fun U hU hW => ⟨rfl, kPre_of hPc hK hN hDc hU hW⟩⟩ rfl hn hsz hst (lv_room hW) hdg hf
theorem k_runS {Qk : (Nat → Prop) → Array Value → State → Outcome → State → Prop} {isC : List Nat} (S : CallFix p m c cc nL s ar Ts own) (hM : kM l y ws rm D cy As wc Qk) (cw : CallB R s ar own index y bytes maxL ret ws rm rm.cells rm.slots n ∧ (Cond.static y).before ar s = true) (hK : va_K D vwCl (kT cy) s) (hN : kN s) (hP : va_P D vwCl w H) (hD : va_D A w) (hI : kAt w wc isC) (hn : As.length = n) (hsz : ls.size = nL) (hst : st0 = As.reverse ++ rest) (hW : (rest.map fun v => v.category).sum ≤ 8) (hdg : decode cc pc = .ok (.invokestatic index, 3)) (hf : cells + rm.cells ≤ R.cells ∧ slots + rm.slots ≤ R.slots) :
    va_Run p l e R s m ar below meth c H locs cells slots rm.cells rm.slots (F0 m pc ls st0) rest (Qk (va_A wc H.size) As.toArray) (va_A wc H.size) := by
  have hPc := kP_sub hP isC hI.1
  have hDc := hD.sub isC hI.2 hI.1
  exact va_runS S (hM H.size) cw ⟨kPre_blind, fun U hU hW => ⟨rfl, kPre_of hPc hK hN hDc hU hW⟩⟩ rfl hn hsz hst (lv_room hW) hdg hf
theorem k_runSN {Qk : (Nat → Prop) → Array Value → State → Outcome → State → Prop} {host : String} {isC : List Nat} (S : CallFix p m c cc nL s ar Ts own) (hM : kM l y ws rm D cy As wc Qk) (cw : va_CN R s ar own index y host bytes maxL ret ws rm rm.cells rm.slots n ∧ (Cond.static y).before ar s = true ∧ True) (hK : va_K D vwCl (kT cy) s) (hN : kN s) (hP : va_P D vwCl w H) (hD : va_D A w) (hI : kAt w wc isC) (hn : As.length = n) (hsz : ls.size = nL) (hst : st0 = As.reverse ++ rest) (hW : (rest.map fun v => v.category).sum ≤ 8) (hdg : decode cc pc = .ok (.invokestatic index, 3)) (hf : cells + rm.cells ≤ R.cells ∧ slots + rm.slots ≤ R.slots) :
    va_Run p l e R s m ar below meth c H locs cells slots rm.cells rm.slots (F0 m pc ls st0) rest (Qk (va_A wc H.size) As.toArray) (va_A wc H.size) := by
  have hPc := kP_sub hP isC hI.1
  have hDc := hD.sub isC hI.2 hI.1
  exact va_runSN S (hM H.size) cw ⟨kPre_blind, fun U hU hW => ⟨rfl, kPre_of hPc hK hN hDc hU hW⟩⟩ rfl hn hsz hst (lv_room hW) hdg hf
theorem kc_i {ι : Type} {wc1 w2 : ι → va_W} {isC isR isP : List Nat} {r : Int32} {a : Array Value} {mc ms : Nat} (run : va_Run p l e R s m ar below meth c H locs cells slots mc ms (F0 m pc ls st0) rest (kQi D cy wc1 r (va_A wc H.size) a) (va_A wc H.size)) (hP : va_P D vwCl w H) (hD : va_D A w) (hS : va_S A s.heap H locs) (hA : ∀ q, s.heap.size ≤ q → A q) (hI : kIn w wc wr wc1 w2 isC isR isP)
    (kk : ∀ (u : ι) (H1 : Heap) (locs1 : List Loc), va_P D vwCl (w2 u) H1 → va_D A (w2 u) → va_S A s.heap H1 locs1 → W p l e R s m ar below meth c H1 locs1 (cells + mc) (slots + ms) Q (F0 m (pc + 3) ls (.int r :: rest))) : W p l e R s m ar below meth c H locs cells slots Q (F0 m pc ls st0) := by
  have hF := va_free (wc := wc) hD hS hA isC hI.1
  refine va_calli run hS (fun q _ h => hF q h) hF (fun x u t H1 locs1 ht hvm hw hB hz1 hk1 hS1 => ?_)
  subst hw
  obtain ⟨h1, h2⟩ := k_join hP hD hI hF hk1 ht hB
  exact kk u H1 locs1 h1 h2 hS1
theorem kc_l {ι : Type} {wc1 w2 : ι → va_W} {isC isR isP : List Nat} {r : Int64} {a : Array Value} {mc ms : Nat} (run : va_Run p l e R s m ar below meth c H locs cells slots mc ms (F0 m pc ls st0) rest (kQl D cy wc1 r (va_A wc H.size) a) (va_A wc H.size)) (hP : va_P D vwCl w H) (hD : va_D A w) (hS : va_S A s.heap H locs) (hA : ∀ q, s.heap.size ≤ q → A q) (hI : kIn w wc wr wc1 w2 isC isR isP)
    (kk : ∀ (u : ι) (H1 : Heap) (locs1 : List Loc), va_P D vwCl (w2 u) H1 → va_D A (w2 u) → va_S A s.heap H1 locs1 → W p l e R s m ar below meth c H1 locs1 (cells + mc) (slots + ms) Q (F0 m (pc + 3) ls (.long r :: rest))) : W p l e R s m ar below meth c H locs cells slots Q (F0 m pc ls st0) := by
  have hF := va_free (wc := wc) hD hS hA isC hI.1
  refine va_calll run hS (fun q _ h => hF q h) hF (fun x u t H1 locs1 ht hvm hw hB hz1 hk1 hS1 => ?_)
  subst hw
  obtain ⟨h1, h2⟩ := k_join hP hD hI hF hk1 ht hB
  exact kk u H1 locs1 h1 h2 hS1
theorem kc_v {ι : Type} {wc1 w2 : ι → va_W} {isC isR isP : List Nat} {a : Array Value} {mc ms : Nat} (run : va_Run p l e R s m ar below meth c H locs cells slots mc ms (F0 m pc ls st0) rest (kQv D cy wc1 (va_A wc H.size) a) (va_A wc H.size)) (hP : va_P D vwCl w H) (hD : va_D A w) (hS : va_S A s.heap H locs) (hA : ∀ q, s.heap.size ≤ q → A q) (hI : kIn w wc wr wc1 w2 isC isR isP)
    (kk : ∀ (u : ι) (H1 : Heap) (locs1 : List Loc), va_P D vwCl (w2 u) H1 → va_D A (w2 u) → va_S A s.heap H1 locs1 → W p l e R s m ar below meth c H1 locs1 (cells + mc) (slots + ms) Q (F0 m (pc + 3) ls rest)) : W p l e R s m ar below meth c H locs cells slots Q (F0 m pc ls st0) := by
  have hF := va_free (wc := wc) hD hS hA isC hI.1
  refine va_callv run hS (fun q _ h => hF q h) hF (fun u t H1 locs1 ht hvm hw hB hz1 hk1 hS1 => ?_)
  obtain ⟨h1, h2⟩ := k_join hP hD hI hF hk1 ht hB
  exact kk u H1 locs1 h1 h2 hS1
/-- two longs compared, and the branch behind it -/
theorem kl_gt (hx : p.tables.exec = Jvm.exec) (hb : c.code = cc) {x y : Int64} {off : Int} {tgt : Nat} (d1 : decode cc pc = .ok (.lcmp, 1)) (d2 : decode cc (pc + 1) = .ok (.ifCond .gt off, 3)) (ht : ((pc + 1 : Nat) : Int) + off = (tgt : Int)) (kt : y < x → W p l e R s m ar below meth c H locs cells slots Q (F0 m tgt ls rest)) (kf : ¬ y < x → W p l e R s m ar below meth c H locs cells slots Q (F0 m (pc + 1 + 3) ls rest)) : W p l e R s m ar below meth c H locs cells slots Q (F0 m pc ls (.long y :: .long x :: rest)) :=
  W.lcmp hx hb d1 (lv_if_gt hx hb d2 ht (fun h => kt ((lg_cmp_gt _ _).mp h)) (fun h => kf (fun z => h ((lg_cmp_gt _ _).mpr z))))
theorem kl_ge (hx : p.tables.exec = Jvm.exec) (hb : c.code = cc) {x y : Int64} {off : Int} {tgt : Nat} (d1 : decode cc pc = .ok (.lcmp, 1)) (d2 : decode cc (pc + 1) = .ok (.ifCond .ge off, 3)) (ht : ((pc + 1 : Nat) : Int) + off = (tgt : Int)) (kt : y ≤ x → W p l e R s m ar below meth c H locs cells slots Q (F0 m tgt ls rest)) (kf : ¬ y ≤ x → W p l e R s m ar below meth c H locs cells slots Q (F0 m (pc + 1 + 3) ls rest)) : W p l e R s m ar below meth c H locs cells slots Q (F0 m pc ls (.long y :: .long x :: rest)) :=
  W.lcmp hx hb d1 (lv_if_ge hx hb d2 ht (fun h => kt ((lg_cmp_ge _ _).mp h)) (fun h => kf (fun z => h ((lg_cmp_ge _ _).mpr z))))
theorem kl_lt (hx : p.tables.exec = Jvm.exec) (hb : c.code = cc) {x y : Int64} {off : Int} {tgt : Nat} (d1 : decode cc pc = .ok (.lcmp, 1)) (d2 : decode cc (pc + 1) = .ok (.ifCond .lt off, 3)) (ht : ((pc + 1 : Nat) : Int) + off = (tgt : Int)) (kt : x < y → W p l e R s m ar below meth c H locs cells slots Q (F0 m tgt ls rest)) (kf : ¬ x < y → W p l e R s m ar below meth c H locs cells slots Q (F0 m (pc + 1 + 3) ls rest)) : W p l e R s m ar below meth c H locs cells slots Q (F0 m pc ls (.long y :: .long x :: rest)) :=
  W.lcmp hx hb d1 (lv_if_lt hx hb d2 ht (fun h => kt ((lg_cmp_lt _ _).mp h)) (fun h => kf (fun z => h ((lg_cmp_lt _ _).mpr z))))
theorem kl_le (hx : p.tables.exec = Jvm.exec) (hb : c.code = cc) {x y : Int64} {off : Int} {tgt : Nat} (d1 : decode cc pc = .ok (.lcmp, 1)) (d2 : decode cc (pc + 1) = .ok (.ifCond .le off, 3)) (ht : ((pc + 1 : Nat) : Int) + off = (tgt : Int)) (kt : x ≤ y → W p l e R s m ar below meth c H locs cells slots Q (F0 m tgt ls rest)) (kf : ¬ x ≤ y → W p l e R s m ar below meth c H locs cells slots Q (F0 m (pc + 1 + 3) ls rest)) : W p l e R s m ar below meth c H locs cells slots Q (F0 m pc ls (.long y :: .long x :: rest)) :=
  W.lcmp hx hb d1 (lv_if_le hx hb d2 ht (fun h => kt ((lg_cmp_le _ _).mp h)) (fun h => kf (fun z => h ((lg_cmp_le _ _).mpr z))))
theorem kl_eq (hx : p.tables.exec = Jvm.exec) (hb : c.code = cc) {x y : Int64} {off : Int} {tgt : Nat} (d1 : decode cc pc = .ok (.lcmp, 1)) (d2 : decode cc (pc + 1) = .ok (.ifCond .eq off, 3)) (ht : ((pc + 1 : Nat) : Int) + off = (tgt : Int)) (kt : x = y → W p l e R s m ar below meth c H locs cells slots Q (F0 m tgt ls rest)) (kf : ¬ x = y → W p l e R s m ar below meth c H locs cells slots Q (F0 m (pc + 1 + 3) ls rest)) : W p l e R s m ar below meth c H locs cells slots Q (F0 m pc ls (.long y :: .long x :: rest)) :=
  W.lcmp hx hb d1 (lv_if_eq hx hb d2 ht (fun h => kt ((lg_cmp_eq _ _).mp h)) (fun h => kf (fun z => h ((lg_cmp_eq _ _).mpr z))))
theorem kl_ne (hx : p.tables.exec = Jvm.exec) (hb : c.code = cc) {x y : Int64} {off : Int} {tgt : Nat} (d1 : decode cc pc = .ok (.lcmp, 1)) (d2 : decode cc (pc + 1) = .ok (.ifCond .ne off, 3)) (ht : ((pc + 1 : Nat) : Int) + off = (tgt : Int)) (kt : ¬ x = y → W p l e R s m ar below meth c H locs cells slots Q (F0 m tgt ls rest)) (kf : x = y → W p l e R s m ar below meth c H locs cells slots Q (F0 m (pc + 1 + 3) ls rest)) : W p l e R s m ar below meth c H locs cells slots Q (F0 m pc ls (.long y :: .long x :: rest)) :=
  W.lcmp hx hb d1 (lv_if_ne hx hb d2 ht (fun h => kt (fun z => h ((lg_cmp_eq _ _).mpr z))) (fun h => kf ((lg_cmp_eq _ _).mp h)))
end KC
/-! the words of the functions that the methods are -/
def ck {α : Type} (b : Prop) [Decidable b] (k : Option α) : Option α := if b then k else none
theorem ck_some {α : Type} {b : Prop} [Decidable b] {k : Option α} {r : α} (h : ck b k = some r) : b ∧ k = some r := by
  unfold ck at h
  split at h
  · exact ⟨by assumption, h⟩
  · cases h
theorem ck_pos {α : Type} {b : Prop} [Decidable b] {k : Option α} (h : b) : ck b k = k := if_pos h
theorem ob_some {α β : Type} {o : Option α} {k : α → Option β} {r : β} (h : o.bind k = some r) : ∃ x, o = some x ∧ k x = some r := by
  cases o with
  | none => cases h
  | some x => exact ⟨x, rfl, h⟩
theorem if_t {α : Type} {b : Prop} [Decidable b] {x y : Option α} {r : α} (h : (if b then x else y) = some r) (c : b) : x = some r := (if_pos c).symm.trans h
theorem if_f {α : Type} {b : Prop} [Decidable b] {x y : Option α} {r : α} (h : (if b then x else y) = some r) (c : ¬ b) : y = some r := (if_neg c).symm.trans h
theorem no_some {α : Type} {r : α} {P : Prop} (h : (none : Option α) = some r) : P := by cases h
theorem sm_inl {α β γ : Type} {f : α → Option γ} {g : β → Option γ} {a : α} {r : γ} (h : Sum.elim f g (Sum.inl a) = some r) : f a = some r := h
theorem sm_inr {α β γ : Type} {f : α → Option γ} {g : β → Option γ} {b : β} {r : γ} (h : Sum.elim f g (Sum.inr b) = some r) : g b = some r := h
theorem ts_ne {x v : Int32} (h : ¬ x = v) : x.toInt ≠ v.toInt := fun e => h (Int32.toInt_inj.mp e)
/-- a loop: at most k rounds of its body -/
def lp {σ ε : Type} (B : (σ → Option ε) → σ → Option ε) : Nat → σ → Option ε
  | 0, _ => none
  | k + 1, x => B (lp B k) x
theorem lp_succ {σ ε : Type} (B : (σ → Option ε) → σ → Option ε) (k : Nat) (x : σ) : lp B (k + 1) x = B (lp B k) x := rfl
/-- a loop by a measure: each state of the invariant gives its answer, if the lesser ones do -/
theorem lp_run {σ ε : Type} {B : (σ → Option ε) → σ → Option ε} (I : σ → Prop) (μ : σ → Nat) (P : σ → ε → Prop) (step : ∀ (rec : σ → Option ε) (x : σ), I x → (∀ y, I y → μ y < μ x → ∃ e, rec y = some e ∧ P y e) → ∃ e, B rec x = some e ∧ P x e) : ∀ (k : Nat) (x : σ), I x → μ x < k → ∃ e, lp B k x = some e ∧ P x e := by
  intro k
  induction k with
  | zero => intro x _ h; exact absurd h (Nat.not_lt_zero _)
  | succ k ih => intro x hI hm; exact step (lp B k) x hI (fun y hy hl => ih y hy (by omega))
/-- the same with a function for the answer -/
theorem lp_fun {σ ε : Type} {B : (σ → Option ε) → σ → Option ε} (I : σ → Prop) (μ : σ → Nat) (f : σ → ε) (step : ∀ (rec : σ → Option ε) (x : σ), I x → (∀ y, I y → μ y < μ x → rec y = some (f y)) → B rec x = some (f x)) : ∀ (k : Nat) (x : σ), I x → μ x < k → lp B k x = some (f x) := by
  intro k
  induction k with
  | zero => intro x _ h; exact absurd h (Nat.not_lt_zero _)
  | succ k ih => intro x hI hm; exact step (lp B k) x hI (fun y hy hl => ih y hy (by omega))
def kpick (w : va_W) (is : List Nat) : va_W := is.filterMap (fun i => w[i]?)
theorem k_range (w : va_W) : (List.range w.length).map (fun i => w[i]?) = w.map some := by
  apply List.ext_getElem?
  intro i
  rw [List.getElem?_map, List.getElem?_map]
  rcases Nat.lt_or_ge i w.length with h | h
  · rw [List.getElem?_range h]
    show some (w[i]?) = Option.map some (w[i]?)
    rw [List.getElem?_eq_getElem h]
    rfl
  · rw [List.getElem?_eq_none (by rw [List.length_range]; exact h), List.getElem?_eq_none h]; rfl
theorem k_nd_of : ∀ (l : List Nat), l.Nodup → va_nd l = true
  | [], _ => rfl
  | a :: l, h => by
    rw [List.nodup_cons] at h
    simp only [va_nd, Bool.and_eq_true, decide_eq_true_eq]
    exact ⟨h.1, k_nd_of l h.2⟩
theorem k_nd_range (n : Nat) : va_nd (List.range n) = true := k_nd_of _ List.nodup_range
theorem kI_s {w : va_W} {w1 : Unit → va_W} : kIn w w [] w1 w1 (List.range w.length) [] (List.range (w1 ()).length) := ⟨k_range w, rfl, k_nd_range _, rfl, fun i h => (List.not_mem_nil h).elim, k_nd_range _, fun u => k_range (w1 u)⟩
theorem kI_0 {w : va_W} : kIn w [] w (fun _ : Unit => []) (fun _ : Unit => w) [] (List.range w.length) (List.range w.length) := ⟨rfl, k_range w, rfl, k_nd_range _, fun i _ h => List.not_mem_nil h, k_nd_range _, fun _ => by rw [List.append_nil]; exact k_range w⟩
theorem kA_s {w : va_W} : kAt w w (List.range w.length) := ⟨k_range w, k_nd_range _⟩
theorem kA_0 {w : va_W} : kAt w [] [] := ⟨rfl, rfl⟩
