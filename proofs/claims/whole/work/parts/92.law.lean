/-! the law: what it fetches from its script, its calls -/
/-- two ints as a long -/
def lwJ (x y : Int32) : Int64 := (x.toInt64 <<< ((32 : Int32).toInt64 &&& 63)) ||| (y.toInt64 &&& 4294967295)
section LW
variable {p : Program} {l : Launch} {e : Env} {s : State} {m : MethodId} {ar : Array Value} {below : List Frame} {meth : Method} {c : Code} {H : Heap} {locs : List Loc} {cells slots : Nat} {Q : State → Prop}
variable {pc : Nat} {ls : Array Slot} {rest st0 : List Value} {A : Nat → Prop} {D : va_G} {cy : Nat → ClassId}

theorem lw_get (hx : p.tables.exec = Jvm.exec) (hb : c.code = cL_law) {b L : Nat} {xs : Nat → Int32} (hX : va_X b L xs s s.heap) (hbl : b < s.heap.size) (hbA : ¬ A b) (hS : va_S A s.heap H locs) {lv : List (Nat × Value)} (hl : lv_has ls 4 lv) {i k : Int32} {n : Int} (h0 : lv[0]? = some (0, .ref b)) (h3 : lv[3]? = some (3, .int i)) (hn : Int32.ofInt n = k) (hin : vp_in (i + k) L) (d1 : decode cL_law pc = .ok (.aload_n 0, 1)) (d2 : decode cL_law (pc + 1) = .ok (.iload_n 3, 1)) (d3 : decode cL_law (pc + 1 + 1) = .ok (.iconst n, 1)) (d4 : decode cL_law (pc + 1 + 1 + 1) = .ok (.iadd, 1)) (d5 : decode cL_law (pc + 1 + 1 + 1 + 1) = .ok (.iaload, 1)) (kk : W p l e room_1 s m ar below meth c H locs cells slots Q (F0 m (pc + 5) ls (.int (xs (i + k).toNatClampNeg) :: rest))) : W p l e room_1 s m ar below meth c H locs cells slots Q (F0 m pc ls rest) := by
  refine lv_aload_n hx hb d1 rfl (lv_at hl 0 h0) ?_
  refine lv_iload_n hx hb d2 rfl (lv_at hl 3 h3) ?_
  refine lv_iconst (v := k) hx hb d3 hn ?_
  refine lv_iadd hx hb d4 ?_
  exact va_sld hx hb hX hbl hbA hS hin d5 kk
theorem lw_two (hx : p.tables.exec = Jvm.exec) (hb : c.code = cL_law) (hown : s.vm.findClass RL = some m.cls) (fk : (Cond.constantLong RL 23 4294967295).before ar s = true) {b L : Nat} {xs : Nat → Int32} (hX : va_X b L xs s s.heap) (hbl : b < s.heap.size) (hbA : ¬ A b) (hS : va_S A s.heap H locs) {lv : List (Nat × Value)} (hl : lv_has ls 4 lv) {i k k' : Int32} {n n' : Int} (h0 : lv[0]? = some (0, .ref b)) (h3 : lv[3]? = some (3, .int i)) (hn : Int32.ofInt n = k) (hin : vp_in (i + k) L) (hn' : Int32.ofInt n' = k') (hin' : vp_in (i + k') L) (d1 : decode cL_law pc = .ok (.aload_n 0, 1)) (d2 : decode cL_law (pc + 1) = .ok (.iload_n 3, 1)) (d3 : decode cL_law (pc + 1 + 1) = .ok (.iconst n, 1)) (d4 : decode cL_law (pc + 1 + 1 + 1) = .ok (.iadd, 1)) (d5 : decode cL_law (pc + 1 + 1 + 1 + 1) = .ok (.iaload, 1)) (d6 : decode cL_law (pc + 5) = .ok (.i2l, 1)) (d7 : decode cL_law (pc + 5 + 1) = .ok (.bipush 32, 2)) (d8 : decode cL_law (pc + 5 + 1 + 2) = .ok (.lshl, 1))
    (e1 : decode cL_law (pc + 9) = .ok (.aload_n 0, 1)) (e2 : decode cL_law (pc + 9 + 1) = .ok (.iload_n 3, 1)) (e3 : decode cL_law (pc + 9 + 1 + 1) = .ok (.iconst n', 1)) (e4 : decode cL_law (pc + 9 + 1 + 1 + 1) = .ok (.iadd, 1)) (e5 : decode cL_law (pc + 9 + 1 + 1 + 1 + 1) = .ok (.iaload, 1)) (e6 : decode cL_law (pc + 9 + 5) = .ok (.i2l, 1)) (e7 : decode cL_law (pc + 9 + 5 + 1) = .ok (.ldc2_w 23, 3)) (e8 : decode cL_law (pc + 9 + 5 + 1 + 3) = .ok (.land, 1)) (e9 : decode cL_law (pc + 9 + 5 + 1 + 3 + 1) = .ok (.lor, 1)) (kk : W p l e room_1 s m ar below meth c H locs cells slots Q (F0 m (pc + 20) ls (.long (lwJ (xs (i + k).toNatClampNeg) (xs (i + k').toNatClampNeg)) :: rest))) : W p l e room_1 s m ar below meth c H locs cells slots Q (F0 m pc ls rest) := by
  refine lw_get hx hb hX hbl hbA hS hl h0 h3 hn hin d1 d2 d3 d4 d5 ?_
  refine lv_i2l hx hb d6 rfl ?_
  refine lv_bipush (v := 32) hx hb d7 (by decide) ?_
  refine lv_lshl hx hb d8 rfl ?_
  refine lw_get hx hb hX hbl hbA hS hl h0 h3 hn' hin' e1 e2 e3 e4 e5 ?_
  refine lv_i2l hx hb e6 rfl ?_
  refine lv_ldc2 (v := (4294967295 : Int64)) hx hb hown fk e7 ?_
  refine lv_land hx hb e8 ?_
  exact lv_lor hx hb e9 kk
theorem lw_rng (n : Nat) : va_nd (List.range n) = true := k_nd_of _ List.nodup_range
theorem lw_3 (a b d : va_W) : Sel ((a ++ b) ++ d) ((a ++ d) ++ b) := by
  rw [List.append_assoc, List.append_assoc]
  exact Sel_J (G := [a, b, d]) (G' := [a, d, b]) [0, 2, 1] rfl (by decide)
theorem lw_Xi {y : MethodName} {ws : List Cond} {bytes : ByteArray} {maxL n index a : Nat} {ret : Option FieldType} {av : List Value} {w v : va_W} {r : Int32} {C S0 : Nat} {Post : Nat → Nat → va_W → Prop} (S : CallFix p m c cL_law 4 s ar wsL_law RL) (hK : va_K D vwCl (kT cy) s) (hN : kN s) (cw : ∀ rm : Room, rm.frames ≤ 20 → rm.locals ≤ 400 → CallW room_1 s ar RL RX10 index y bytes maxL ret ws rm rm.cells rm.slots n) (hXC : XCi l D cy y ws 10 a av w r C S0 Post) (hP : va_P D vwCl (w ++ v) H) (hD : va_D A (w ++ v)) (hS : va_S A s.heap H locs) (hA : ∀ q, s.heap.size ≤ q → A q) (hn : av.length = n) (hsz : ls.size = 4) (hst : st0 = av.reverse ++ .ref a :: rest) (hW : (rest.map fun v => v.category).sum ≤ 8) (hdg : decode cL_law pc = .ok (.invokevirtual index, 3)) 
    (kk : ∀ (w' : va_W) (C' S' : Nat) (H : Heap) (locs : List Loc), Post C' S' w' → va_P D vwCl (w' ++ v) H → va_D A (w' ++ v) → va_S A s.heap H locs → C' ≤ 500000 → S' ≤ 7000000 → W p l e room_1 s m ar below meth c H locs (22 + C') (214352 + S') Q (F0 m (pc + 3) ls (.int r :: rest))) : W p l e room_1 s m ar below meth c H locs (22 + C) (214352 + S0) Q (F0 m pc ls st0) := by
  obtain ⟨ι, rm, wc, wr, wc1, hsel, hk, h1, h2, ⟨q0, fs, he⟩, hc, hs, hp⟩ := hXC
  have hs' : Sel (w ++ v) (wc ++ (wr ++ v)) := by rw [← List.append_assoc]; exact Sel_app v hsel
  refine kA_i (wr := wr ++ v) (wc1 := wc1) (k_run S hk (cw rm h1 h2) hK hN (Sel_P hs' hP) (Sel_D hs' hD) (isC := List.range wc.length) ⟨kI_C wc (wr ++ v), lw_rng _⟩ (ci := 10) (r0 := (RX10, TX10, 9)) rfl rfl he hn hsz hst hW hdg ⟨by show 22 + C + rm.cells ≤ 600000; omega, by show 214352 + S0 + rm.slots ≤ 7302250; omega⟩) (Sel_P hs' hP) (Sel_D hs' hD) hS hA (fun u H1 locs1 hP1 hD1 hS1 => ?_)
  obtain ⟨w', hw', hq⟩ := hp u
  have hz : Sel ((wr ++ v) ++ wc1 u) (w' ++ v) := Sel_trans (lw_3 wr v (wc1 u)) (Sel_app v hw')
  have := kk w' _ _ H1 locs1 hq (Sel_P hz hP1) (Sel_D hz hD1) hS1 hc hs
  rw [Nat.add_assoc, Nat.add_assoc]
  exact this
theorem lw_Mi {y : MethodName} {ws : List Cond} {bytes : ByteArray} {maxL n index a : Nat} {ret : Option FieldType} {av : List Value} {w v : va_W} {r : Int32} {Post : va_W → Prop} (S : CallFix p m c cL_law 4 s ar wsL_law RL) (hK : va_K D vwCl (kT cy) s) (hN : kN s) (cw : ∀ rm : Room, rm.frames ≤ 20 → rm.locals ≤ 400 → CallW room_1 s ar RL RX11 index y bytes maxL ret ws rm rm.cells rm.slots n) (hXC : XCi l D cy y ws 11 a av w r 500000 7000000 (fun _ _ w' => Post w')) (hP : va_P D vwCl (v ++ w) H) (hD : va_D A (v ++ w)) (hS : va_S A s.heap H locs) (hA : ∀ q, s.heap.size ≤ q → A q) (hn : av.length = n) (hsz : ls.size = 4) (hst : st0 = av.reverse ++ .ref a :: rest) (hW : (rest.map fun v => v.category).sum ≤ 8) (hdg : decode cL_law pc = .ok (.invokevirtual index, 3)) (hcs : cells ≤ 600000 ∧ slots ≤ 7302250) 
    (kk : ∀ (w' : va_W) (H : Heap) (locs : List Loc), Post w' → va_P D vwCl (v ++ w') H → va_D A (v ++ w') → va_S A s.heap H locs → W p l e room_1 s m ar below meth c H locs cells slots Q (F0 m (pc + 3) ls (.int r :: rest))) : W p l e room_1 s m ar below meth c H locs cells slots Q (F0 m pc ls st0) := by
  obtain ⟨ι, rm, wc, wr, wc1, hsel, hk, h1, h2, ⟨q0, fs, he⟩, hc, hs, hp⟩ := hXC
  have hs0 : Sel (w ++ v) (wc ++ (wr ++ v)) := by rw [← List.append_assoc]; exact Sel_app v hsel
  have hs' : Sel (v ++ w) (wc ++ (wr ++ v)) := Sel_trans (Sel_sw v w) hs0
  refine kA_i (wr := wr ++ v) (wc1 := wc1) (k_run S hk (cw rm h1 h2) hK hN (Sel_P hs' hP) (Sel_D hs' hD) (isC := List.range wc.length) ⟨kI_C wc (wr ++ v), lw_rng _⟩ (ci := 11) (r0 := (RX11, TX11, 24)) rfl rfl he hn hsz hst hW hdg ⟨by show cells + rm.cells ≤ 600000; omega, by show slots + rm.slots ≤ 7302250; omega⟩) (Sel_P hs' hP) (Sel_D hs' hD) hS hA (fun u H1 locs1 hP1 hD1 hS1 => ?_)
  obtain ⟨w', hw', hq⟩ := hp u
  have hz : Sel ((wr ++ v) ++ wc1 u) (w' ++ v) := Sel_trans (lw_3 wr v (wc1 u)) (Sel_app v hw')
  have hz2 := Sel_trans hz (Sel_sw w' v)
  have := kk w' H1 locs1 hq (Sel_P hz2 hP1) (Sel_D hz2 hD1) hS1
  rw [show cells + rm.cells = cells by omega, show slots + rm.slots = slots by omega]
  exact this
theorem lw_Xl {y : MethodName} {ws : List Cond} {bytes : ByteArray} {maxL n index a : Nat} {ret : Option FieldType} {av : List Value} {w v : va_W} {r : Int64} {C S0 : Nat} {Post : Nat → Nat → va_W → Prop} (S : CallFix p m c cL_law 4 s ar wsL_law RL) (hK : va_K D vwCl (kT cy) s) (hN : kN s) (cw : ∀ rm : Room, rm.frames ≤ 20 → rm.locals ≤ 400 → CallW room_1 s ar RL RX10 index y bytes maxL ret ws rm rm.cells rm.slots n) (hXC : XCl l D cy y ws 10 a av w r C S0 Post) (hP : va_P D vwCl (w ++ v) H) (hD : va_D A (w ++ v)) (hS : va_S A s.heap H locs) (hA : ∀ q, s.heap.size ≤ q → A q) (hn : av.length = n) (hsz : ls.size = 4) (hst : st0 = av.reverse ++ .ref a :: rest) (hW : (rest.map fun v => v.category).sum ≤ 8) (hdg : decode cL_law pc = .ok (.invokevirtual index, 3)) 
    (kk : ∀ (w' : va_W) (C' S' : Nat) (H : Heap) (locs : List Loc), Post C' S' w' → va_P D vwCl (w' ++ v) H → va_D A (w' ++ v) → va_S A s.heap H locs → C' ≤ 500000 → S' ≤ 7000000 → W p l e room_1 s m ar below meth c H locs (22 + C') (214352 + S') Q (F0 m (pc + 3) ls (.long r :: rest))) : W p l e room_1 s m ar below meth c H locs (22 + C) (214352 + S0) Q (F0 m pc ls st0) := by
  obtain ⟨ι, rm, wc, wr, wc1, hsel, hk, h1, h2, ⟨q0, fs, he⟩, hc, hs, hp⟩ := hXC
  have hs' : Sel (w ++ v) (wc ++ (wr ++ v)) := by rw [← List.append_assoc]; exact Sel_app v hsel
  refine kA_l (wr := wr ++ v) (wc1 := wc1) (k_run S hk (cw rm h1 h2) hK hN (Sel_P hs' hP) (Sel_D hs' hD) (isC := List.range wc.length) ⟨kI_C wc (wr ++ v), lw_rng _⟩ (ci := 10) (r0 := (RX10, TX10, 9)) rfl rfl he hn hsz hst hW hdg ⟨by show 22 + C + rm.cells ≤ 600000; omega, by show 214352 + S0 + rm.slots ≤ 7302250; omega⟩) (Sel_P hs' hP) (Sel_D hs' hD) hS hA (fun u H1 locs1 hP1 hD1 hS1 => ?_)
  obtain ⟨w', hw', hq⟩ := hp u
  have hz : Sel ((wr ++ v) ++ wc1 u) (w' ++ v) := Sel_trans (lw_3 wr v (wc1 u)) (Sel_app v hw')
  have := kk w' _ _ H1 locs1 hq (Sel_P hz hP1) (Sel_D hz hD1) hS1 hc hs
  rw [Nat.add_assoc, Nat.add_assoc]
  exact this
theorem lw_Ml {y : MethodName} {ws : List Cond} {bytes : ByteArray} {maxL n index a : Nat} {ret : Option FieldType} {av : List Value} {w v : va_W} {r : Int64} {Post : va_W → Prop} (S : CallFix p m c cL_law 4 s ar wsL_law RL) (hK : va_K D vwCl (kT cy) s) (hN : kN s) (cw : ∀ rm : Room, rm.frames ≤ 20 → rm.locals ≤ 400 → CallW room_1 s ar RL RX11 index y bytes maxL ret ws rm rm.cells rm.slots n) (hXC : XCl l D cy y ws 11 a av w r 500000 7000000 (fun _ _ w' => Post w')) (hP : va_P D vwCl (v ++ w) H) (hD : va_D A (v ++ w)) (hS : va_S A s.heap H locs) (hA : ∀ q, s.heap.size ≤ q → A q) (hn : av.length = n) (hsz : ls.size = 4) (hst : st0 = av.reverse ++ .ref a :: rest) (hW : (rest.map fun v => v.category).sum ≤ 8) (hdg : decode cL_law pc = .ok (.invokevirtual index, 3)) (hcs : cells ≤ 600000 ∧ slots ≤ 7302250) 
    (kk : ∀ (w' : va_W) (H : Heap) (locs : List Loc), Post w' → va_P D vwCl (v ++ w') H → va_D A (v ++ w') → va_S A s.heap H locs → W p l e room_1 s m ar below meth c H locs cells slots Q (F0 m (pc + 3) ls (.long r :: rest))) : W p l e room_1 s m ar below meth c H locs cells slots Q (F0 m pc ls st0) := by
  obtain ⟨ι, rm, wc, wr, wc1, hsel, hk, h1, h2, ⟨q0, fs, he⟩, hc, hs, hp⟩ := hXC
  have hs0 : Sel (w ++ v) (wc ++ (wr ++ v)) := by rw [← List.append_assoc]; exact Sel_app v hsel
  have hs' : Sel (v ++ w) (wc ++ (wr ++ v)) := Sel_trans (Sel_sw v w) hs0
  refine kA_l (wr := wr ++ v) (wc1 := wc1) (k_run S hk (cw rm h1 h2) hK hN (Sel_P hs' hP) (Sel_D hs' hD) (isC := List.range wc.length) ⟨kI_C wc (wr ++ v), lw_rng _⟩ (ci := 11) (r0 := (RX11, TX11, 24)) rfl rfl he hn hsz hst hW hdg ⟨by show cells + rm.cells ≤ 600000; omega, by show slots + rm.slots ≤ 7302250; omega⟩) (Sel_P hs' hP) (Sel_D hs' hD) hS hA (fun u H1 locs1 hP1 hD1 hS1 => ?_)
  obtain ⟨w', hw', hq⟩ := hp u
  have hz : Sel ((wr ++ v) ++ wc1 u) (w' ++ v) := Sel_trans (lw_3 wr v (wc1 u)) (Sel_app v hw')
  have hz2 := Sel_trans hz (Sel_sw w' v)
  have := kk w' H1 locs1 hq (Sel_P hz2 hP1) (Sel_D hz2 hD1) hS1
  rw [show cells + rm.cells = cells by omega, show slots + rm.slots = slots by omega]
  exact this
end LW
