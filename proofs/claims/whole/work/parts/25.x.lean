/-! calls of constructors; answers that are cells of a known place -/
section KI
variable {p : Program} {l : Launch} {e : Env} {R : Room} {s : State} {m : MethodId} {ar : Array Value} {below : List Frame} {meth : Method} {c : Code} {H : Heap} {locs : List Loc} {cells slots : Nat} {Q : State → Prop}
variable {pc : Nat} {ls : Array Slot} {rest st0 : List Value} {A : Nat → Prop} {D : va_G} {cy : Nat → ClassId} {cc bytes : ByteArray} {nL maxL n index : Nat} {Ts ws : List Cond} {own C : String} {y : MethodName} {rm : Room} {b : Nat} {As : List Value} {w wc wr : va_W} {ret : Option FieldType}
theorem k_runI {Qk : (Nat → Prop) → Array Value → State → Outcome → State → Prop} {isC : List Nat} (S : CallFix p m c cc nL s ar Ts own) (hM : kM l y ws rm D cy (.ref b :: As) wc Qk) (cw : CallB R s ar own index y bytes maxL none ws rm rm.cells rm.slots n ∧ y.name = "<init>" ∧ (Cond.instanceMethod y).before ar s = true) (hK : va_K D vwCl (kT cy) s) (hN : kN s) (hP : va_P D vwCl w H) (hD : va_D A w) (hI : kAt w wc isC) (hn : As.length = n) (hsz : ls.size = nL) (hst : st0 = As.reverse ++ .ref b :: rest) (hW : (rest.map fun v => v.category).sum ≤ 8) (hdg : decode cc pc = .ok (.invokespecial index, 3)) (hf : cells + rm.cells ≤ R.cells ∧ slots + rm.slots ≤ R.slots) :
    va_Run p l e R s m ar below meth c H locs cells slots rm.cells rm.slots (F0 m pc ls st0) rest (Qk (va_A wc H.size) (Value.ref b :: As).toArray) (va_A wc H.size) := by
  have hPc := kP_sub hP isC hI.1
  have hDc := hD.sub isC hI.2 hI.1
  exact va_runI S (hM H.size) cw ⟨kPre_blind, fun U hU hW => ⟨rfl, kPre_of hPc hK hN hDc hU hW⟩⟩ rfl hn hsz hst (lv_room hW) hdg hf
theorem k_runIN {Qk : (Nat → Prop) → Array Value → State → Outcome → State → Prop} {host : String} {isC : List Nat} (S : CallFix p m c cc nL s ar Ts own) (hM : kM l y ws rm D cy (.ref b :: As) wc Qk) (cw : va_CN R s ar own index y host bytes maxL none ws rm rm.cells rm.slots n ∧ y.name = "<init>" ∧ (Cond.instanceMethod y).before ar s = true) (hK : va_K D vwCl (kT cy) s) (hN : kN s) (hP : va_P D vwCl w H) (hD : va_D A w) (hI : kAt w wc isC) (hn : As.length = n) (hsz : ls.size = nL) (hst : st0 = As.reverse ++ .ref b :: rest) (hW : (rest.map fun v => v.category).sum ≤ 8) (hdg : decode cc pc = .ok (.invokespecial index, 3)) (hf : cells + rm.cells ≤ R.cells ∧ slots + rm.slots ≤ R.slots) :
    va_Run p l e R s m ar below meth c H locs cells slots rm.cells rm.slots (F0 m pc ls st0) rest (Qk (va_A wc H.size) (Value.ref b :: As).toArray) (va_A wc H.size) := by
  have hPc := kP_sub hP isC hI.1
  have hDc := hD.sub isC hI.2 hI.1
  exact va_runIN S (hM H.size) cw ⟨kPre_blind, fun U hU hW => ⟨rfl, kPre_of hPc hK hN hDc hU hW⟩⟩ rfl hn hsz hst (lv_room hW) hdg hf
theorem k_run16 {Qk : (Nat → Prop) → Array Value → State → Outcome → State → Prop} {isC : List Nat} (S : CallFix p m c cc nL s ar Ts own) (hM : kM l y ws rm D cy (.ref b :: As) wc Qk) (cw : CallW R s ar own C index y bytes maxL ret ws rm rm.cells rm.slots n) (hlo : 16 + (maxL + 11) + rm.locals ≤ R.locals) (hK : va_K D vwCl (kT cy) s) (hN : kN s) (hP : va_P D vwCl w H) (hD : va_D A w) (hI : kAt w wc isC) {q0 ci : Nat} {fs : List Value} {r0 : vw_C} (hcl : vwCl[ci]? = some r0) (hr0 : r0.1 = C) (he : wc[q0]? = some (b, .inr (ci, fs))) (hn : As.length = n) (hsz : ls.size = nL) (hst : st0 = As.reverse ++ .ref b :: rest) (hW : (rest.map fun v => v.category).sum ≤ 16) (hdg : decode cc pc = .ok (.invokevirtual index, 3)) (hf : cells + rm.cells ≤ R.cells ∧ slots + rm.slots ≤ R.slots) :
    va_Run p l e R s m ar below meth c H locs cells slots rm.cells rm.slots (F0 m pc ls st0) rest (Qk (va_A wc H.size) (Value.ref b :: As).toArray) (va_A wc H.size) := by
  have hPc := kP_sub hP isC hI.1
  have hDc := hD.sub isC hI.2 hI.1
  have hre := va_recv hK hPc hcl he
  rw [hr0] at hre
  obtain ⟨cellB, hcB, hoB, hclB⟩ := hre
  have hPu : ∀ U : State, U.heap = H → s.WarmedH U.vm → va_Pc (.ref b :: As) (kPre D cy wc H.size) (Value.ref b :: As).toArray U := fun U hU hW => ⟨rfl, kPre_of hPc hK hN hDc hU hW⟩
  obtain ⟨⟨hrc, hrs, hfr, -, hws, hcw, hcode, hini, hy, hlen, hl⟩, hin, hse⟩ := cw
  have hB : Back l R p e below s ar y 3 16 (PreOf R rm.cells rm.slots (va_Pc (.ref b :: As) (kPre D cy wc H.size))) (PostOf (Qk (va_A wc H.size)) rm.cells rm.slots (va_A wc H.size)) := back_of (bytes := bytes) (maxL := maxL) (ret := ret) (hM H.size) kPre_blind hrc hrs hfr hlo hws hcw (fun a' U hW => word_at hW (Or.inl (by first | rfl | simp [Cond.onTables, Cond.keeps, Cond.steady])) hini)
  obtain ⟨hx, hb, hml, ho, -⟩ := S
  intro T hT X
  obtain ⟨v, vm₁, ⟨U', l2, c2, s2⟩, hW₁, X', ⟨g', mk, t, L, e1, e2, hq, h1, hL, h2, h3⟩, st⟩ := callV X hx (C := C) (bytes := bytes) (maxL := maxL) (ret := ret) ho hl hin hse hcode hy hB (by rw [hT]; exact hcB) hoB hclB (g := F0 m pc ls st0) rfl (hsz.trans hml.symm) (argsL := As) (rest := rest) (fun sig h => hn.trans (hlen sig h)) hst (by have : (F0 m pc ls st0).monitorRoom = 0 := rfl; rw [this]; simpa using hW) (by rw [hb]; exact hdg)
    (fun vm₁ hW₁ => ⟨hf.1, hf.2, hPu (T.setVm vm₁) hT hW₁⟩)
  dsimp only [Pt.U, Pt.locs, Pt.cells, Pt.slots] at X' e1 e2 h1 h2 h3 st
  subst h1; subst h2; subst h3
  exact ⟨v, (T.setVm vm₁).calling g' mk (Value.ref b :: As).toArray, t, U', L, hT, X', hL, e1, e2, hq, st⟩
abbrev kQrx {ι : Type} (D : va_G) (cy : Nat → ClassId) (w1 : ι → va_W) (ad : ι → Nat) (A : Nat → Prop) : Array Value → State → Outcome → State → Prop := va_Qr (fun (_ : ι) => True) (fun u a t => a = ad u ∧ kPost D cy A (w1 u) t) A
theorem kc_rx {ι : Type} {wc1 w2 : ι → va_W} {ad : ι → Nat} {isC isR isP : List Nat} {a : Array Value} {mc ms : Nat} (run : va_Run p l e R s m ar below meth c H locs cells slots mc ms (F0 m pc ls st0) rest (kQrx D cy wc1 ad (va_A wc H.size) a) (va_A wc H.size)) (hP : va_P D vwCl w H) (hD : va_D A w) (hS : va_S A s.heap H locs) (hA : ∀ q, s.heap.size ≤ q → A q) (hI : kIn w wc wr wc1 w2 isC isR isP)
    (kk : ∀ (u : ι) (H1 : Heap) (locs1 : List Loc), va_P D vwCl (w2 u) H1 → va_D A (w2 u) → va_S A s.heap H1 locs1 → W p l e R s m ar below meth c H1 locs1 (cells + mc) (slots + ms) Q (F0 m (pc + 3) ls (.ref (ad u) :: rest))) : W p l e R s m ar below meth c H locs cells slots Q (F0 m pc ls st0) := by
  have hF := va_free (wc := wc) hD hS hA isC hI.1
  refine va_callr run hS (fun q _ h => hF q h) hF (fun u ra t H1 locs1 ht hvm hw hB hz1 hk1 hS1 => ?_)
  obtain ⟨rfl, hB⟩ := hB
  obtain ⟨h1, h2⟩ := k_join hP hD hI hF hk1 ht hB
  exact kk u H1 locs1 h1 h2 hS1
end KI
theorem kent_rx {ι : Type} {l : Launch} {y : MethodName} {ws ws' : List Cond} {rm : Room} {D : va_G} {cy : Nat → ClassId} {av : List Value} {w : va_W} {w1 : ι → va_W} {ad : ι → Nat} {cc : ByteArray} {maxL : Nat} {rt : FieldType} (hrt : (∃ n, rt = .object n) ∨ ∃ t, rt = .array t) (hy : plainName y.cls = true) (hw : ws = Cond.code y cc maxL (some rt) :: ws') (hn : (lg_sl av).length ≤ maxL)
    (body : ∀ (p : Program) (e : Env) (s : State) (m : MethodId) (ar : Array Value) (below : List Frame) (meth : Method) (c : Code) (A : Nat → Prop) (Q : State → Prop) (ls : Array Slot), kX p s m ar meth c cc maxL (some rt) ws y.cls y.name → (∀ q, s.heap.size ≤ q → A q) → va_K D vwCl (kT cy) s → kN s →
      (∀ (u : ι) (pc : Nat) (H : Heap) (locs : List Loc) (ls : Array Slot), decode cc pc = .ok (.areturn, 1) → va_P D vwCl (w1 u) H → va_D A (w1 u) → va_S A s.heap H locs → W p l e rm s m ar below meth c H locs rm.cells rm.slots Q (F0 m pc ls [.ref (ad u)])) →
      va_P D vwCl w s.heap → va_D A w → va_S A s.heap s.heap [] → lv_has ls maxL (lv_args 0 av) → W p l e rm s m ar below meth c s.heap [] 0 0 Q (F0 m 0 ls [])) : kM l y ws rm D cy av w (kQrx D cy w1 ad) := by
  refine k_ent hy hw hn ?_
  intro p e s m ar below meth c A ls C hA hK hN hP hD hS hl
  refine body p e s m ar below meth c A _ ls C hA hK hN (fun u pc H locs ls hd hP1 hD1 hS1 => ?_) hP hD hS hl
  obtain ⟨hx, hb, -, hr, -, -, hlocks, -⟩ := C
  exact W.aret (v := .ref (ad u)) hx hb hr hrt (Or.inr ⟨_, rfl⟩) (fun t ht hW => ⟨⟨u, ad u, rfl, trivial, rfl, by rw [ht]; exact hP1, va_K.moved hW.alike hK, hD1⟩, hS1.F ht⟩) hS1.2.2 hd hlocks
def kU (l : List (Nat → Nat)) (i : Nat) : Nat → Nat := l.getD i (fun _ => 0)
theorem kw_same {D : va_G} {cy : Nat → ClassId} {cA : ClassId} {s : State} (h1 : va_K D vwCl (kT cy ++ [(cA, .object RX9)]) s) (h : va_K D vwCl (kT cy) s) : cA = cy 3 := by
  obtain ⟨k1, c1, a1, a2, a3, a4⟩ := (h1.2 4 _ rfl).2
  obtain ⟨k2, c2, b1, b2, b3, b4⟩ := (h.2 3 _ rfl).2
  exact Option.some.inj (a4.symm.trans b4)
