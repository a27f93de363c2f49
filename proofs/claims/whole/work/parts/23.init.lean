/-! making arrays; the constructors that make arrays alone -/
theorem k_newI {p : Program} {l : Launch} {e : Env} {R : Room} {s : State} {m : MethodId} {ar : Array Value} {below : List Frame} {meth : Method} {c : Code} {H : Heap} {locs : List Loc} {cells slots : Nat} {Q : State → Prop} {pc : Nat} {ls : Array Slot} {rest : List Value} {A : Nat → Prop} {D : va_G} {cy : Nat → ClassId} {w : va_W} {cc : ByteArray} {N : Nat} {x : Int32} (hx : p.tables.exec = Jvm.exec) (hb : c.code = cc) (harr : (Cond.arrayClass .int).before ar s = true) (hK : va_K D vwCl (kT cy) s) (hP : va_P D vwCl w H) (hD : va_D A w) (hS : va_S A s.heap H locs) (hA : ∀ q, s.heap.size ≤ q → A q) (h0 : ¬ x < 0) (hN : x.toNatClampNeg = N) (h2 : N ≤ 60000) (hc : cells + 1 ≤ R.cells) (hs : slots + N ≤ R.slots) (hdg : decode cc pc = .ok (.newarray .int, 2))
    (kk : ∀ (q : Nat) (H1 : Heap), va_P D vwCl (w ++ [(q, .inl (cy 0, N, .inl (fun _ => 0)))]) H1 → va_D A (w ++ [(q, .inl (cy 0, N, .inl (fun _ => 0)))]) → va_S A s.heap H1 locs → W p l e R s m ar below meth c H1 locs (cells + 1) (slots + N) Q (F0 m (pc + 2) ls (.ref q :: rest))) : W p l e R s m ar below meth c H locs cells slots Q (F0 m pc ls (.int x :: rest)) := by
  have harr1 : (Cond.arrayClass (newarray.typeOf .int)).before ar s = true := harr
  refine va_newa (a0 := (N, .inl (fun _ => 0))) (N' := N) (atype := .int) hx hb harr1 (ty := .int) rfl hK hP hD hS hA (fun _ => rfl) h0 hN (by show N * 4 ≤ _; omega) hc hs hdg (fun q cA H hK1 hP hD hS => ?_)
  have e1 : s.vm.findClass ("[" ++ (FieldType.int).toString) = some cA := (hK1.2 4 _ rfl).2
  have e2 : s.vm.findClass ("[" ++ (FieldType.int).toString) = some (cy 0) := (hK.2 0 _ rfl).2
  have e3 : cA = cy 0 := Option.some.inj (e1.symm.trans e2)
  subst e3
  exact kk q H hP hD hS
theorem k_newJ {p : Program} {l : Launch} {e : Env} {R : Room} {s : State} {m : MethodId} {ar : Array Value} {below : List Frame} {meth : Method} {c : Code} {H : Heap} {locs : List Loc} {cells slots : Nat} {Q : State → Prop} {pc : Nat} {ls : Array Slot} {rest : List Value} {A : Nat → Prop} {D : va_G} {cy : Nat → ClassId} {w : va_W} {cc : ByteArray} {N : Nat} {x : Int32} (hx : p.tables.exec = Jvm.exec) (hb : c.code = cc) (harr : (Cond.arrayClass .long).before ar s = true) (hK : va_K D vwCl (kT cy) s) (hP : va_P D vwCl w H) (hD : va_D A w) (hS : va_S A s.heap H locs) (hA : ∀ q, s.heap.size ≤ q → A q) (h0 : ¬ x < 0) (hN : x.toNatClampNeg = N) (h2 : N ≤ 60000) (hc : cells + 1 ≤ R.cells) (hs : slots + N ≤ R.slots) (hdg : decode cc pc = .ok (.newarray .long, 2))
    (kk : ∀ (q : Nat) (H1 : Heap), va_P D vwCl (w ++ [(q, .inl (cy 1, N, .inr (.inl (fun _ => 0))))]) H1 → va_D A (w ++ [(q, .inl (cy 1, N, .inr (.inl (fun _ => 0))))]) → va_S A s.heap H1 locs → W p l e R s m ar below meth c H1 locs (cells + 1) (slots + N) Q (F0 m (pc + 2) ls (.ref q :: rest))) : W p l e R s m ar below meth c H locs cells slots Q (F0 m pc ls (.int x :: rest)) := by
  have harr1 : (Cond.arrayClass (newarray.typeOf .long)).before ar s = true := harr
  refine va_newa (a0 := (N, .inr (.inl (fun _ => 0)))) (N' := N) (atype := .long) hx hb harr1 (ty := .long) rfl hK hP hD hS hA (fun _ => rfl) h0 hN (by show N * 8 ≤ _; omega) hc hs hdg (fun q cA H hK1 hP hD hS => ?_)
  have e1 : s.vm.findClass ("[" ++ (FieldType.long).toString) = some cA := (hK1.2 4 _ rfl).2
  have e2 : s.vm.findClass ("[" ++ (FieldType.long).toString) = some (cy 1) := (hK.2 1 _ rfl).2
  have e3 : cA = cy 1 := Option.some.inj (e1.symm.trans e2)
  subst e3
  exact kk q H hP hD hS
theorem k_newZ {p : Program} {l : Launch} {e : Env} {R : Room} {s : State} {m : MethodId} {ar : Array Value} {below : List Frame} {meth : Method} {c : Code} {H : Heap} {locs : List Loc} {cells slots : Nat} {Q : State → Prop} {pc : Nat} {ls : Array Slot} {rest : List Value} {A : Nat → Prop} {D : va_G} {cy : Nat → ClassId} {w : va_W} {cc : ByteArray} {N : Nat} {x : Int32} (hx : p.tables.exec = Jvm.exec) (hb : c.code = cc) (harr : (Cond.arrayClass .boolean).before ar s = true) (hK : va_K D vwCl (kT cy) s) (hP : va_P D vwCl w H) (hD : va_D A w) (hS : va_S A s.heap H locs) (hA : ∀ q, s.heap.size ≤ q → A q) (h0 : ¬ x < 0) (hN : x.toNatClampNeg = N) (h2 : N ≤ 60000) (hc : cells + 1 ≤ R.cells) (hs : slots + N ≤ R.slots) (hdg : decode cc pc = .ok (.newarray .boolean, 2))
    (kk : ∀ (q : Nat) (H1 : Heap), va_P D vwCl (w ++ [(q, .inl (cy 2, N, .inl (fun _ => 0)))]) H1 → va_D A (w ++ [(q, .inl (cy 2, N, .inl (fun _ => 0)))]) → va_S A s.heap H1 locs → W p l e R s m ar below meth c H1 locs (cells + 1) (slots + N) Q (F0 m (pc + 2) ls (.ref q :: rest))) : W p l e R s m ar below meth c H locs cells slots Q (F0 m pc ls (.int x :: rest)) := by
  have harr1 : (Cond.arrayClass (newarray.typeOf .boolean)).before ar s = true := harr
  refine va_newa (a0 := (N, .inl (fun _ => 0))) (N' := N) (atype := .boolean) hx hb harr1 (ty := .boolean) rfl hK hP hD hS hA (fun _ => rfl) h0 hN (by show N * 1 ≤ _; omega) hc hs hdg (fun q cA H hK1 hP hD hS => ?_)
  have e1 : s.vm.findClass ("[" ++ (FieldType.boolean).toString) = some cA := (hK1.2 4 _ rfl).2
  have e2 : s.vm.findClass ("[" ++ (FieldType.boolean).toString) = some (cy 2) := (hK.2 2 _ rfl).2
  have e3 : cA = cy 2 := Option.some.inj (e1.symm.trans e2)
  subst e3
  exact kk q H hP hD hS
def f_X1_init_B41 (F : Nat) (rec : Int32 × (Nat → Int32) → Option ((Nat → Int32))) (x : Int32 × (Nat → Int32)) : Option ((Nat → Int32)) := if (16 : Int32) ≤ x.1 then (some x.2) else (ck (¬ (x.1 < 0 ∨ 16 ≤ x.1.toNatClampNeg)) (rec ((x.1 + (1 : Int32)), (upd x.2 x.1.toNatClampNeg x.1))))
def f_X1_init (F : Nat) : Option ((Nat → Int32)) := (lp (f_X1_init_B41 F) F ((0 : Int32), (fun _ => 0))).bind (fun ex3 => some ex3)
abbrev rmX1_init : Room := { frames := 1, cells := 3, slots := 96, locals := 14 }
set_option maxHeartbeats 1000000 in
set_option maxRecDepth 100000 in
theorem c_X1_init {l : Launch} {D : va_G} {cy : Nat → ClassId} {h0 : Nat} {F : Nat} {res : (Nat → Int32)} (hf : f_X1_init F = some res) : kM l yX1_init wsX1_init rmX1_init D cy [.ref h0] [(h0, .inr (1, [.int 0, .null, .null, .null, .int 0]))] (kQv D cy (fun u : Nat → Nat => gG cy (va_up u 0 h0) (10 : Int32) res (fun _ => 0) (fun _ => 0) (0 : Int32))) := by
  refine kent_v (cc := cX1_init) (maxL := 2) (by decide) rfl (Nat.le_of_ble_eq_true rfl) ?_
  intro p e0 s m ar below meth c A Q ls ⟨hx, hb, hml, hr, hts, hown, hlocks, hnm⟩ hA hK hN hQ hP hD hS hl
  have hl : lv_has ls 2 [(0, .ref h0)] := hl
  have hown : s.vm.findClass RX1 = some m.cls := hown
  have huX1 : ∀ x ∈ u_ws RX1 TX1 5, x ∈ wsX1_init := by decide +kernel
  have fk9 : (Cond.fieldLink RX1 9 "FigurePlay$Figures" "base" "I").before ar s = true := hts _ (by decide +kernel)
  have fk15 : (Cond.fieldLink RX1 15 "FigurePlay$Figures" "worth" "[I").before ar s = true := hts _ (by decide +kernel)
  have fk19 : (Cond.fieldLink RX1 19 "FigurePlay$Figures" "row" "[I").before ar s = true := hts _ (by decide +kernel)
  have fk22 : (Cond.fieldLink RX1 22 "FigurePlay$Figures" "many" "[I").before ar s = true := hts _ (by decide +kernel)
  have fk25 : (Cond.fieldLink RX1 25 "FigurePlay$Figures" "version" "I").before ar s = true := hts _ (by decide +kernel)
  unfold f_X1_init at hf
  refine lv_aload_n hx hb dX1_init_0 rfl (lv_at hl 0 rfl) ?_
  refine W.objInit hx hb hown (hts (.methodLink RX1 3 objectInit) (by decide +kernel)) (hts (.instanceMethod objectInit) (by decide +kernel)) (hts (.code objectInit ⟨#[0xb1]⟩ 1 none) (by decide +kernel)) rfl (by rw [hml]; exact hl.1) rfl dX1_init_1 (Nat.le_of_ble_eq_true rfl) (Nat.le_of_ble_eq_true rfl) ?_
  refine W.eq (g2 := F0 m 4 ls []) rfl ?_
  refine lv_aload_n hx hb dX1_init_4 rfl (lv_at hl 0 rfl) ?_
  refine lv_bipush (v := (10 : Int32)) hx hb dX1_init_5 (by decide) ?_
  refine va_put (D := D) (ci := 1) (v := .int (10 : Int32)) (ty := .int) (C := RX1) (T := TX1) (N := 5) hx hb hts huX1 tyX1 tyX1_ok nmX1 hown hK hP hD hS 0 rfl rfl 0 (by decide) fk9 (fun _ h9 => h9) rfl (tyX1_ok 0 (by decide)) rfl rfl (Nat.le_of_ble_eq_true rfl) dX1_init_7 (fun H locs hP hD hS => ?_)
  have hP : va_P D vwCl [(h0, .inr (1, [.int (10 : Int32), .null, .null, .null, .int 0]))] H := hP
  have hD : va_D A [(h0, .inr (1, [.int (10 : Int32), .null, .null, .null, .int 0]))] := hD
  refine lv_aload_n hx hb dX1_init_10 rfl (lv_at hl 0 rfl) ?_
  refine lv_bipush (v := (16 : Int32)) hx hb dX1_init_11 (by decide) ?_
  refine k_newI (N := 16) hx hb (hts (.arrayClass .int) (by decide +kernel)) hK hP hD hS hA (by decide) (by decide) (by decide) (Nat.le_of_ble_eq_true rfl) (Nat.le_of_ble_eq_true rfl) dX1_init_13 (fun q1 H hP hD hS => ?_)
  have hP : va_P D vwCl [(h0, .inr (1, [.int (10 : Int32), .null, .null, .null, .int 0])), (q1, .inl (cy 0, 16, .inl (fun _ => 0)))] H := hP
  have hD : va_D A [(h0, .inr (1, [.int (10 : Int32), .null, .null, .null, .int 0])), (q1, .inl (cy 0, 16, .inl (fun _ => 0)))] := hD
  refine va_putF (D := D) (ci := 1) (v := .ref q1) (ty := .array .int) (C := RX1) (T := TX1) (N := 5) hx hb hts huX1 tyX1 tyX1_ok nmX1 hown hK hP hD hS 0 rfl rfl 1 (by decide) fk15 (fun _ h9 => h9) rfl hnm rfl (tyX1_ok 1 (by decide)) rfl rfl (Nat.le_of_ble_eq_true rfl) dX1_init_15 (fun H locs hP hD hS => ?_)
  have hP : va_P D vwCl [(h0, .inr (1, [.int (10 : Int32), .ref q1, .null, .null, .int 0])), (q1, .inl (cy 0, 16, .inl (fun _ => 0)))] H := hP
  have hD : va_D A [(h0, .inr (1, [.int (10 : Int32), .ref q1, .null, .null, .int 0])), (q1, .inl (cy 0, 16, .inl (fun _ => 0)))] := hD
  refine lv_aload_n hx hb dX1_init_18 rfl (lv_at hl 0 rfl) ?_
  refine lv_bipush (v := (64 : Int32)) hx hb dX1_init_19 (by decide) ?_
  refine k_newI (N := 64) hx hb (hts (.arrayClass .int) (by decide +kernel)) hK hP hD hS hA (by decide) (by decide) (by decide) (Nat.le_of_ble_eq_true rfl) (Nat.le_of_ble_eq_true rfl) dX1_init_21 (fun q2 H hP hD hS => ?_)
  have hP : va_P D vwCl [(h0, .inr (1, [.int (10 : Int32), .ref q1, .null, .null, .int 0])), (q1, .inl (cy 0, 16, .inl (fun _ => 0))), (q2, .inl (cy 0, 64, .inl (fun _ => 0)))] H := hP
  have hD : va_D A [(h0, .inr (1, [.int (10 : Int32), .ref q1, .null, .null, .int 0])), (q1, .inl (cy 0, 16, .inl (fun _ => 0))), (q2, .inl (cy 0, 64, .inl (fun _ => 0)))] := hD
  refine va_putF (D := D) (ci := 1) (v := .ref q2) (ty := .array .int) (C := RX1) (T := TX1) (N := 5) hx hb hts huX1 tyX1 tyX1_ok nmX1 hown hK hP hD hS 0 rfl rfl 2 (by decide) fk19 (fun _ h9 => h9) rfl hnm rfl (tyX1_ok 2 (by decide)) rfl rfl (Nat.le_of_ble_eq_true rfl) dX1_init_23 (fun H locs hP hD hS => ?_)
  have hP : va_P D vwCl [(h0, .inr (1, [.int (10 : Int32), .ref q1, .ref q2, .null, .int 0])), (q1, .inl (cy 0, 16, .inl (fun _ => 0))), (q2, .inl (cy 0, 64, .inl (fun _ => 0)))] H := hP
  have hD : va_D A [(h0, .inr (1, [.int (10 : Int32), .ref q1, .ref q2, .null, .int 0])), (q1, .inl (cy 0, 16, .inl (fun _ => 0))), (q2, .inl (cy 0, 64, .inl (fun _ => 0)))] := hD
  refine lv_aload_n hx hb dX1_init_26 rfl (lv_at hl 0 rfl) ?_
  refine lv_bipush (v := (16 : Int32)) hx hb dX1_init_27 (by decide) ?_
  refine k_newI (N := 16) hx hb (hts (.arrayClass .int) (by decide +kernel)) hK hP hD hS hA (by decide) (by decide) (by decide) (Nat.le_of_ble_eq_true rfl) (Nat.le_of_ble_eq_true rfl) dX1_init_29 (fun q3 H hP hD hS => ?_)
  have hP : va_P D vwCl [(h0, .inr (1, [.int (10 : Int32), .ref q1, .ref q2, .null, .int 0])), (q1, .inl (cy 0, 16, .inl (fun _ => 0))), (q2, .inl (cy 0, 64, .inl (fun _ => 0))), (q3, .inl (cy 0, 16, .inl (fun _ => 0)))] H := hP
  have hD : va_D A [(h0, .inr (1, [.int (10 : Int32), .ref q1, .ref q2, .null, .int 0])), (q1, .inl (cy 0, 16, .inl (fun _ => 0))), (q2, .inl (cy 0, 64, .inl (fun _ => 0))), (q3, .inl (cy 0, 16, .inl (fun _ => 0)))] := hD
  refine va_putF (D := D) (ci := 1) (v := .ref q3) (ty := .array .int) (C := RX1) (T := TX1) (N := 5) hx hb hts huX1 tyX1 tyX1_ok nmX1 hown hK hP hD hS 0 rfl rfl 3 (by decide) fk22 (fun _ h9 => h9) rfl hnm rfl (tyX1_ok 3 (by decide)) rfl rfl (Nat.le_of_ble_eq_true rfl) dX1_init_31 (fun H locs hP hD hS => ?_)
  have hP : va_P D vwCl [(h0, .inr (1, [.int (10 : Int32), .ref q1, .ref q2, .ref q3, .int 0])), (q1, .inl (cy 0, 16, .inl (fun _ => 0))), (q2, .inl (cy 0, 64, .inl (fun _ => 0))), (q3, .inl (cy 0, 16, .inl (fun _ => 0)))] H := hP
  have hD : va_D A [(h0, .inr (1, [.int (10 : Int32), .ref q1, .ref q2, .ref q3, .int 0])), (q1, .inl (cy 0, 16, .inl (fun _ => 0))), (q2, .inl (cy 0, 64, .inl (fun _ => 0))), (q3, .inl (cy 0, 16, .inl (fun _ => 0)))] := hD
  refine lv_aload_n hx hb dX1_init_34 rfl (lv_at hl 0 rfl) ?_
  refine lv_iconst (v := (0 : Int32)) hx hb dX1_init_35 (by decide) ?_
  refine va_put (D := D) (ci := 1) (v := .int (0 : Int32)) (ty := .int) (C := RX1) (T := TX1) (N := 5) hx hb hts huX1 tyX1 tyX1_ok nmX1 hown hK hP hD hS 0 rfl rfl 4 (by decide) fk25 (fun _ h9 => h9) rfl (tyX1_ok 4 (by decide)) rfl rfl (Nat.le_of_ble_eq_true rfl) dX1_init_36 (fun H locs hP hD hS => ?_)
  have hP : va_P D vwCl [(h0, .inr (1, [.int (10 : Int32), .ref q1, .ref q2, .ref q3, .int (0 : Int32)])), (q1, .inl (cy 0, 16, .inl (fun _ => 0))), (q2, .inl (cy 0, 64, .inl (fun _ => 0))), (q3, .inl (cy 0, 16, .inl (fun _ => 0)))] H := hP
  have hD : va_D A [(h0, .inr (1, [.int (10 : Int32), .ref q1, .ref q2, .ref q3, .int (0 : Int32)])), (q1, .inl (cy 0, 16, .inl (fun _ => 0))), (q2, .inl (cy 0, 64, .inl (fun _ => 0))), (q3, .inl (cy 0, 16, .inl (fun _ => 0)))] := hD
  obtain ⟨u0, hu0⟩ : ∃ z : Nat → Nat, z = (va_up (va_up (va_up (fun _ => 0) 1 q1) 2 q2) 3 q3) := ⟨_, rfl⟩
  have hP : va_P D vwCl (gG cy (va_up u0 0 h0) (10 : Int32) (fun _ => 0) (fun _ => 0) (fun _ => 0) (0 : Int32)) H := by rw [hu0]; exact kP_sub hP [0, 1, 2, 3] rfl
  have hD : va_D A (gG cy (va_up u0 0 h0) (10 : Int32) (fun _ => 0) (fun _ => 0) (fun _ => 0) (0 : Int32)) := by rw [hu0]; exact hD.sub [0, 1, 2, 3] rfl rfl
  refine W.widen (k := 3) (n := 96) (Nat.le_of_ble_eq_true rfl) (Nat.le_of_ble_eq_true rfl) ?_
  have hL41 : ∀ (k : Nat) (x : Int32 × (Nat → Int32)) (ex : (Nat → Int32)) (H : Heap) (locs : List Loc) (ls : Array Slot), lp (f_X1_init_B41 F) k x = some ex → (∀ (H : Heap) (locs : List Loc) (ls : Array Slot), va_P D vwCl (gG cy (va_up u0 0 h0) (10 : Int32) ex (fun _ => 0) (fun _ => 0) (0 : Int32)) H → va_D A (gG cy (va_up u0 0 h0) (10 : Int32) ex (fun _ => 0) (fun _ => 0) (0 : Int32)) → va_S A s.heap H locs → lv_has ls 2 [] → W p l e0 rmX1_init s m ar below meth c H locs 3 96 Q (F0 m 63 ls [])) → va_P D vwCl (gG cy (va_up u0 0 h0) (10 : Int32) x.2 (fun _ => 0) (fun _ => 0) (0 : Int32)) H → va_D A (gG cy (va_up u0 0 h0) (10 : Int32) x.2 (fun _ => 0) (fun _ => 0) (0 : Int32)) → va_S A s.heap H locs → lv_has ls 2 [(0, .ref h0), (1, .int x.1)] → W p l e0 rmX1_init s m ar below meth c H locs 3 96 Q (F0 m 41 ls []) := by
    intro k
    induction k with
    | zero => intro x ex H locs ls hf; exact no_some hf
    | succ k ih =>
      intro x ex H locs ls hf hex hP hD hS hl
      have hf : f_X1_init_B41 F (lp (f_X1_init_B41 F) k) x = some ex := hf
      unfold f_X1_init_B41 at hf
      refine lv_iload_n hx hb dX1_init_41 rfl (lv_at hl 1 rfl) ?_
      refine lv_aload_n hx hb dX1_init_42 rfl (lv_at hl 0 rfl) ?_
      refine va_get (v := .ref ((va_up u0 0 h0) 1)) (D := D) (ci := 1) (C := RX1) (T := TX1) (N := 5) hx hb hts huX1 hown hK hP 0 rfl rfl 1 (by decide) fk15 (fun _ h9 => h9) rfl dX1_init_43 ?_
      refine va_alen (v := (16 : Int32)) hx hb hK hP 1 0 rfl rfl rfl dX1_init_46 ?_
      refine lv_icmp_ge (tgt := 63) hx hb dX1_init_47 (by decide) (fun c1 => ?_) (fun c1 => ?_)
      · have hf := if_t hf c1
        obtain rfl := Option.some.inj hf
        exact hex _ _ _ hP hD hS (lv_sub hl [] rfl)
      · have hf := if_f hf c1
        refine lv_aload_n hx hb dX1_init_50 rfl (lv_at hl 0 rfl) ?_
        refine va_get (v := .ref ((va_up u0 0 h0) 1)) (D := D) (ci := 1) (C := RX1) (T := TX1) (N := 5) hx hb hts huX1 hown hK hP 0 rfl rfl 1 (by decide) fk15 (fun _ h9 => h9) rfl dX1_init_51 ?_
        refine lv_iload_n hx hb dX1_init_54 rfl (lv_at hl 1 rfl) ?_
        refine lv_iload_n hx hb dX1_init_55 rfl (lv_at hl 1 rfl) ?_
        obtain ⟨c2, hf⟩ := ck_some hf
        refine va_iast hx hb hK hP hD hS 1 0 rfl rfl c2 dX1_init_56 (fun H locs hP hD hS => ?_)
        have hP : va_P D vwCl (gG cy (va_up u0 0 h0) (10 : Int32) (upd x.2 x.1.toNatClampNeg x.1) (fun _ => 0) (fun _ => 0) (0 : Int32)) H := hP
        have hD : va_D A (gG cy (va_up u0 0 h0) (10 : Int32) (upd x.2 x.1.toNatClampNeg x.1) (fun _ => 0) (fun _ => 0) (0 : Int32)) := hD
        refine lv_iinc (v := (x.1 + (1 : Int32))) (lv' := [(1, .int (x.1 + (1 : Int32))), (0, .ref h0)]) hx hb dX1_init_57 hl (k := 1) rfl rfl (by decide) rfl (fun ls hl => ?_)
        refine lv_goto (tgt := 41) hx hb dX1_init_60 (by decide) ?_
        exact ih ((x.1 + (1 : Int32)), (upd x.2 x.1.toNatClampNeg x.1)) ex _ _ _ hf hex hP hD hS (lv_sub hl [1, 0] rfl)
  refine lv_iconst (v := (0 : Int32)) hx hb dX1_init_39 (by decide) ?_
  refine lv_istore_n (lv' := [(1, .int (0 : Int32)), (0, .ref h0)]) hx hb dX1_init_40 rfl hl (by decide) rfl (fun ls hl => ?_)
  obtain ⟨ex3, hcl, hf⟩ := ob_some hf
  refine hL41 F ((0 : Int32), (fun _ => 0)) ex3 _ _ _ hcl (fun H locs ls hP hD hS hl => ?_) hP hD hS (lv_sub hl [1, 0] rfl)
  obtain rfl := Option.some.inj hf
  exact hQ u0 63 _ _ _ dX1_init_63 hP hD hS
abbrev rmX6_init : Room := { frames := 1, cells := 1, slots := 301, locals := 14 }
set_option maxHeartbeats 1000000 in
set_option maxRecDepth 100000 in
theorem c_X6_init {l : Launch} {D : va_G} {cy : Nat → ClassId} {h0 : Nat} : kM l yX6_init wsX6_init rmX6_init D cy [.ref h0] [(h0, .inr (6, [.null, .int 0, .int 0, .int 0]))] (kQv D cy (fun u : Nat → Nat => gP cy (va_up u 0 h0) (fun _ => 0) (0 : Int32) (0 : Int32) (0 : Int32))) := by
  refine kent_v (cc := cX6_init) (maxL := 1) (by decide) rfl (Nat.le_of_ble_eq_true rfl) ?_
  intro p e0 s m ar below meth c A Q ls ⟨hx, hb, hml, hr, hts, hown, hlocks, hnm⟩ hA hK hN hQ hP hD hS hl
  have hl : lv_has ls 1 [(0, .ref h0)] := hl
  have hown : s.vm.findClass RX6 = some m.cls := hown
  have huX6 : ∀ x ∈ u_ws RX6 TX6 4, x ∈ wsX6_init := by decide +kernel
  have fk9 : (Cond.fieldLink RX6 9 "FigurePlay$Path" "told" "[J").before ar s = true := hts _ (by decide +kernel)
  have fk15 : (Cond.fieldLink RX6 15 "FigurePlay$Path" "size" "I").before ar s = true := hts _ (by decide +kernel)
  have fk19 : (Cond.fieldLink RX6 19 "FigurePlay$Path" "tail" "I").before ar s = true := hts _ (by decide +kernel)
  have fk22 : (Cond.fieldLink RX6 22 "FigurePlay$Path" "round" "I").before ar s = true := hts _ (by decide +kernel)
  refine lv_aload_n hx hb dX6_init_0 rfl (lv_at hl 0 rfl) ?_
  refine W.objInit hx hb hown (hts (.methodLink RX6 3 objectInit) (by decide +kernel)) (hts (.instanceMethod objectInit) (by decide +kernel)) (hts (.code objectInit ⟨#[0xb1]⟩ 1 none) (by decide +kernel)) rfl (by rw [hml]; exact hl.1) rfl dX6_init_1 (Nat.le_of_ble_eq_true rfl) (Nat.le_of_ble_eq_true rfl) ?_
  refine W.eq (g2 := F0 m 4 ls []) rfl ?_
  refine lv_aload_n hx hb dX6_init_4 rfl (lv_at hl 0 rfl) ?_
  refine lv_sipush (v := (301 : Int32)) hx hb dX6_init_5 (by decide) ?_
  refine k_newJ (N := 301) hx hb (hts (.arrayClass .long) (by decide +kernel)) hK hP hD hS hA (by decide) (by decide) (by decide) (Nat.le_of_ble_eq_true rfl) (Nat.le_of_ble_eq_true rfl) dX6_init_8 (fun q1 H hP hD hS => ?_)
  have hP : va_P D vwCl [(h0, .inr (6, [.null, .int 0, .int 0, .int 0])), (q1, .inl (cy 1, 301, .inr (.inl (fun _ => 0))))] H := hP
  have hD : va_D A [(h0, .inr (6, [.null, .int 0, .int 0, .int 0])), (q1, .inl (cy 1, 301, .inr (.inl (fun _ => 0))))] := hD
  refine va_putF (D := D) (ci := 6) (v := .ref q1) (ty := .array .long) (C := RX6) (T := TX6) (N := 4) hx hb hts huX6 tyX6 tyX6_ok nmX6 hown hK hP hD hS 0 rfl rfl 0 (by decide) fk9 (fun _ h9 => h9) rfl hnm rfl (tyX6_ok 0 (by decide)) rfl rfl (Nat.le_of_ble_eq_true rfl) dX6_init_10 (fun H locs hP hD hS => ?_)
  have hP : va_P D vwCl [(h0, .inr (6, [.ref q1, .int 0, .int 0, .int 0])), (q1, .inl (cy 1, 301, .inr (.inl (fun _ => 0))))] H := hP
  have hD : va_D A [(h0, .inr (6, [.ref q1, .int 0, .int 0, .int 0])), (q1, .inl (cy 1, 301, .inr (.inl (fun _ => 0))))] := hD
  refine lv_aload_n hx hb dX6_init_13 rfl (lv_at hl 0 rfl) ?_
  refine lv_iconst (v := (0 : Int32)) hx hb dX6_init_14 (by decide) ?_
  refine va_put (D := D) (ci := 6) (v := .int (0 : Int32)) (ty := .int) (C := RX6) (T := TX6) (N := 4) hx hb hts huX6 tyX6 tyX6_ok nmX6 hown hK hP hD hS 0 rfl rfl 1 (by decide) fk15 (fun _ h9 => h9) rfl (tyX6_ok 1 (by decide)) rfl rfl (Nat.le_of_ble_eq_true rfl) dX6_init_15 (fun H locs hP hD hS => ?_)
  have hP : va_P D vwCl [(h0, .inr (6, [.ref q1, .int (0 : Int32), .int 0, .int 0])), (q1, .inl (cy 1, 301, .inr (.inl (fun _ => 0))))] H := hP
  have hD : va_D A [(h0, .inr (6, [.ref q1, .int (0 : Int32), .int 0, .int 0])), (q1, .inl (cy 1, 301, .inr (.inl (fun _ => 0))))] := hD
  refine lv_aload_n hx hb dX6_init_18 rfl (lv_at hl 0 rfl) ?_
  refine lv_iconst (v := (0 : Int32)) hx hb dX6_init_19 (by decide) ?_
  refine va_put (D := D) (ci := 6) (v := .int (0 : Int32)) (ty := .int) (C := RX6) (T := TX6) (N := 4) hx hb hts huX6 tyX6 tyX6_ok nmX6 hown hK hP hD hS 0 rfl rfl 2 (by decide) fk19 (fun _ h9 => h9) rfl (tyX6_ok 2 (by decide)) rfl rfl (Nat.le_of_ble_eq_true rfl) dX6_init_20 (fun H locs hP hD hS => ?_)
  have hP : va_P D vwCl [(h0, .inr (6, [.ref q1, .int (0 : Int32), .int (0 : Int32), .int 0])), (q1, .inl (cy 1, 301, .inr (.inl (fun _ => 0))))] H := hP
  have hD : va_D A [(h0, .inr (6, [.ref q1, .int (0 : Int32), .int (0 : Int32), .int 0])), (q1, .inl (cy 1, 301, .inr (.inl (fun _ => 0))))] := hD
  refine lv_aload_n hx hb dX6_init_23 rfl (lv_at hl 0 rfl) ?_
  refine lv_iconst (v := (0 : Int32)) hx hb dX6_init_24 (by decide) ?_
  refine va_put (D := D) (ci := 6) (v := .int (0 : Int32)) (ty := .int) (C := RX6) (T := TX6) (N := 4) hx hb hts huX6 tyX6 tyX6_ok nmX6 hown hK hP hD hS 0 rfl rfl 3 (by decide) fk22 (fun _ h9 => h9) rfl (tyX6_ok 3 (by decide)) rfl rfl (Nat.le_of_ble_eq_true rfl) dX6_init_25 (fun H locs hP hD hS => ?_)
  have hP : va_P D vwCl [(h0, .inr (6, [.ref q1, .int (0 : Int32), .int (0 : Int32), .int (0 : Int32)])), (q1, .inl (cy 1, 301, .inr (.inl (fun _ => 0))))] H := hP
  have hD : va_D A [(h0, .inr (6, [.ref q1, .int (0 : Int32), .int (0 : Int32), .int (0 : Int32)])), (q1, .inl (cy 1, 301, .inr (.inl (fun _ => 0))))] := hD
  obtain ⟨u0, hu0⟩ : ∃ z : Nat → Nat, z = (va_up (fun _ => 0) 1 q1) := ⟨_, rfl⟩
  have hP : va_P D vwCl (gP cy (va_up u0 0 h0) (fun _ => 0) (0 : Int32) (0 : Int32) (0 : Int32)) H := by rw [hu0]; exact kP_sub hP [0, 1] rfl
  have hD : va_D A (gP cy (va_up u0 0 h0) (fun _ => 0) (0 : Int32) (0 : Int32) (0 : Int32)) := by rw [hu0]; exact hD.sub [0, 1] rfl rfl
  refine W.widen (k := 1) (n := 301) (Nat.le_of_ble_eq_true rfl) (Nat.le_of_ble_eq_true rfl) ?_
  exact hQ u0 28 _ _ _ dX6_init_28 hP hD hS
abbrev rmX3_init : Room := { frames := 1, cells := 0, slots := 0, locals := 14 }
set_option maxHeartbeats 1000000 in
set_option maxRecDepth 100000 in
theorem c_X3_init {l : Launch} {D : va_G} {cy : Nat → ClassId} {h0 : Nat} {r1 : Nat} : kM l yX3_init wsX3_init rmX3_init D cy [.ref h0, .ref r1] [(h0, .inr (3, [.null]))] (kQv D cy (fun u : Nat → Nat => gR cy (va_up u 0 h0) r1)) := by
  refine kent_v (cc := cX3_init) (maxL := 2) (by decide) rfl (Nat.le_of_ble_eq_true rfl) ?_
  intro p e0 s m ar below meth c A Q ls ⟨hx, hb, hml, hr, hts, hown, hlocks, hnm⟩ hA hK hN hQ hP hD hS hl
  have hl : lv_has ls 2 [(0, .ref h0), (1, .ref r1)] := hl
  have hown : s.vm.findClass RX3 = some m.cls := hown
  have huX3 : ∀ x ∈ u_ws RX3 TX3 1, x ∈ wsX3_init := by decide +kernel
  have fk9 : (Cond.fieldLink RX3 9 "FigurePlay$Mirrors" "figures" "LFigurePlay$Figures;").before ar s = true := hts _ (by decide +kernel)
  refine lv_aload_n hx hb dX3_init_0 rfl (lv_at hl 0 rfl) ?_
  refine W.objInit hx hb hown (hts (.methodLink RX3 3 objectInit) (by decide +kernel)) (hts (.instanceMethod objectInit) (by decide +kernel)) (hts (.code objectInit ⟨#[0xb1]⟩ 1 none) (by decide +kernel)) rfl (by rw [hml]; exact hl.1) rfl dX3_init_1 (Nat.le_of_ble_eq_true rfl) (Nat.le_of_ble_eq_true rfl) ?_
  refine W.eq (g2 := F0 m 4 ls []) rfl ?_
  refine lv_aload_n hx hb dX3_init_4 rfl (lv_at hl 0 rfl) ?_
  refine lv_aload_n hx hb dX3_init_5 rfl (lv_at hl 1 rfl) ?_
  refine va_putF (D := D) (ci := 3) (v := .ref r1) (ty := .object "FigurePlay$Figures") (C := RX3) (T := TX3) (N := 1) hx hb hts huX3 tyX3 tyX3_ok nmX3 hown hK hP hD hS 0 rfl rfl 0 (by decide) fk9 (fun _ h9 => h9) rfl hnm rfl (tyX3_ok 0 (by decide)) rfl rfl (Nat.le_of_ble_eq_true rfl) dX3_init_6 (fun H locs hP hD hS => ?_)
  have hP : va_P D vwCl [(h0, .inr (3, [.ref r1]))] H := hP
  have hD : va_D A [(h0, .inr (3, [.ref r1]))] := hD
  obtain ⟨u0, hu0⟩ : ∃ z : Nat → Nat, z = (fun _ => 0) := ⟨_, rfl⟩
  have hP : va_P D vwCl (gR cy (va_up u0 0 h0) r1) H := by rw [hu0]; exact kP_sub hP [0] rfl
  have hD : va_D A (gR cy (va_up u0 0 h0) r1) := by rw [hu0]; exact hD.sub [0] rfl rfl
  refine W.widen (k := 0) (n := 0) (Nat.le_of_ble_eq_true rfl) (Nat.le_of_ble_eq_true rfl) ?_
  exact hQ u0 9 _ _ _ dX3_init_9 hP hD hS
abbrev rmX8_init : Room := { frames := 1, cells := 3, slots := 98304, locals := 14 }
set_option maxHeartbeats 1000000 in
set_option maxRecDepth 100000 in
theorem c_X8_init {l : Launch} {D : va_G} {cy : Nat → ClassId} {h0 : Nat} : kM l yX8_init wsX8_init rmX8_init D cy [.ref h0] [(h0, .inr (8, [.null, .null, .null, .int 0]))] (kQv D cy (fun u : Nat → Nat => gS cy (va_up u 0 h0) (fun _ => 0) (fun _ => 0) (fun _ => 0) (0 : Int32))) := by
  refine kent_v (cc := cX8_init) (maxL := 1) (by decide) rfl (Nat.le_of_ble_eq_true rfl) ?_
  intro p e0 s m ar below meth c A Q ls ⟨hx, hb, hml, hr, hts, hown, hlocks, hnm⟩ hA hK hN hQ hP hD hS hl
  have hl : lv_has ls 1 [(0, .ref h0)] := hl
  have hown : s.vm.findClass RX8 = some m.cls := hown
  have fk9 : (Cond.constant RX8 9 (32768)).before ar s = true := hts _ (by decide +kernel)
  have huX8 : ∀ x ∈ u_ws RX8 TX8 4, x ∈ wsX8_init := by decide +kernel
  have fk10 : (Cond.fieldLink RX8 10 "FigurePlay$Slots" "keys" "[J").before ar s = true := hts _ (by decide +kernel)
  have fk14 : (Cond.fieldLink RX8 14 "FigurePlay$Slots" "tails" "[I").before ar s = true := hts _ (by decide +kernel)
  have fk18 : (Cond.fieldLink RX8 18 "FigurePlay$Slots" "homes" "[I").before ar s = true := hts _ (by decide +kernel)
  have fk21 : (Cond.fieldLink RX8 21 "FigurePlay$Slots" "stamp" "I").before ar s = true := hts _ (by decide +kernel)
  refine lv_aload_n hx hb dX8_init_0 rfl (lv_at hl 0 rfl) ?_
  refine W.objInit hx hb hown (hts (.methodLink RX8 1 objectInit) (by decide +kernel)) (hts (.instanceMethod objectInit) (by decide +kernel)) (hts (.code objectInit ⟨#[0xb1]⟩ 1 none) (by decide +kernel)) rfl (by rw [hml]; exact hl.1) rfl dX8_init_1 (Nat.le_of_ble_eq_true rfl) (Nat.le_of_ble_eq_true rfl) ?_
  refine W.eq (g2 := F0 m 4 ls []) rfl ?_
  refine lv_aload_n hx hb dX8_init_4 rfl (lv_at hl 0 rfl) ?_
  refine lv_ldc (v := (32768 : Int32)) hx hb hown fk9 dX8_init_5 ?_
  refine k_newJ (N := 32768) hx hb (hts (.arrayClass .long) (by decide +kernel)) hK hP hD hS hA (by decide) (by decide) (by decide) (Nat.le_of_ble_eq_true rfl) (Nat.le_of_ble_eq_true rfl) dX8_init_7 (fun q1 H hP hD hS => ?_)
  have hP : va_P D vwCl [(h0, .inr (8, [.null, .null, .null, .int 0])), (q1, .inl (cy 1, 32768, .inr (.inl (fun _ => 0))))] H := hP
  have hD : va_D A [(h0, .inr (8, [.null, .null, .null, .int 0])), (q1, .inl (cy 1, 32768, .inr (.inl (fun _ => 0))))] := hD
  refine va_putF (D := D) (ci := 8) (v := .ref q1) (ty := .array .long) (C := RX8) (T := TX8) (N := 4) hx hb hts huX8 tyX8 tyX8_ok nmX8 hown hK hP hD hS 0 rfl rfl 0 (by decide) fk10 (fun _ h9 => h9) rfl hnm rfl (tyX8_ok 0 (by decide)) rfl rfl (Nat.le_of_ble_eq_true rfl) dX8_init_9 (fun H locs hP hD hS => ?_)
  have hP : va_P D vwCl [(h0, .inr (8, [.ref q1, .null, .null, .int 0])), (q1, .inl (cy 1, 32768, .inr (.inl (fun _ => 0))))] H := hP
  have hD : va_D A [(h0, .inr (8, [.ref q1, .null, .null, .int 0])), (q1, .inl (cy 1, 32768, .inr (.inl (fun _ => 0))))] := hD
  refine lv_aload_n hx hb dX8_init_12 rfl (lv_at hl 0 rfl) ?_
  refine lv_ldc (v := (32768 : Int32)) hx hb hown fk9 dX8_init_13 ?_
  refine k_newI (N := 32768) hx hb (hts (.arrayClass .int) (by decide +kernel)) hK hP hD hS hA (by decide) (by decide) (by decide) (Nat.le_of_ble_eq_true rfl) (Nat.le_of_ble_eq_true rfl) dX8_init_15 (fun q2 H hP hD hS => ?_)
  have hP : va_P D vwCl [(h0, .inr (8, [.ref q1, .null, .null, .int 0])), (q1, .inl (cy 1, 32768, .inr (.inl (fun _ => 0)))), (q2, .inl (cy 0, 32768, .inl (fun _ => 0)))] H := hP
  have hD : va_D A [(h0, .inr (8, [.ref q1, .null, .null, .int 0])), (q1, .inl (cy 1, 32768, .inr (.inl (fun _ => 0)))), (q2, .inl (cy 0, 32768, .inl (fun _ => 0)))] := hD
  refine va_putF (D := D) (ci := 8) (v := .ref q2) (ty := .array .int) (C := RX8) (T := TX8) (N := 4) hx hb hts huX8 tyX8 tyX8_ok nmX8 hown hK hP hD hS 0 rfl rfl 1 (by decide) fk14 (fun _ h9 => h9) rfl hnm rfl (tyX8_ok 1 (by decide)) rfl rfl (Nat.le_of_ble_eq_true rfl) dX8_init_17 (fun H locs hP hD hS => ?_)
  have hP : va_P D vwCl [(h0, .inr (8, [.ref q1, .ref q2, .null, .int 0])), (q1, .inl (cy 1, 32768, .inr (.inl (fun _ => 0)))), (q2, .inl (cy 0, 32768, .inl (fun _ => 0)))] H := hP
  have hD : va_D A [(h0, .inr (8, [.ref q1, .ref q2, .null, .int 0])), (q1, .inl (cy 1, 32768, .inr (.inl (fun _ => 0)))), (q2, .inl (cy 0, 32768, .inl (fun _ => 0)))] := hD
  refine lv_aload_n hx hb dX8_init_20 rfl (lv_at hl 0 rfl) ?_
  refine lv_ldc (v := (32768 : Int32)) hx hb hown fk9 dX8_init_21 ?_
  refine k_newI (N := 32768) hx hb (hts (.arrayClass .int) (by decide +kernel)) hK hP hD hS hA (by decide) (by decide) (by decide) (Nat.le_of_ble_eq_true rfl) (Nat.le_of_ble_eq_true rfl) dX8_init_23 (fun q3 H hP hD hS => ?_)
  have hP : va_P D vwCl [(h0, .inr (8, [.ref q1, .ref q2, .null, .int 0])), (q1, .inl (cy 1, 32768, .inr (.inl (fun _ => 0)))), (q2, .inl (cy 0, 32768, .inl (fun _ => 0))), (q3, .inl (cy 0, 32768, .inl (fun _ => 0)))] H := hP
  have hD : va_D A [(h0, .inr (8, [.ref q1, .ref q2, .null, .int 0])), (q1, .inl (cy 1, 32768, .inr (.inl (fun _ => 0)))), (q2, .inl (cy 0, 32768, .inl (fun _ => 0))), (q3, .inl (cy 0, 32768, .inl (fun _ => 0)))] := hD
  refine va_putF (D := D) (ci := 8) (v := .ref q3) (ty := .array .int) (C := RX8) (T := TX8) (N := 4) hx hb hts huX8 tyX8 tyX8_ok nmX8 hown hK hP hD hS 0 rfl rfl 2 (by decide) fk18 (fun _ h9 => h9) rfl hnm rfl (tyX8_ok 2 (by decide)) rfl rfl (Nat.le_of_ble_eq_true rfl) dX8_init_25 (fun H locs hP hD hS => ?_)
  have hP : va_P D vwCl [(h0, .inr (8, [.ref q1, .ref q2, .ref q3, .int 0])), (q1, .inl (cy 1, 32768, .inr (.inl (fun _ => 0)))), (q2, .inl (cy 0, 32768, .inl (fun _ => 0))), (q3, .inl (cy 0, 32768, .inl (fun _ => 0)))] H := hP
  have hD : va_D A [(h0, .inr (8, [.ref q1, .ref q2, .ref q3, .int 0])), (q1, .inl (cy 1, 32768, .inr (.inl (fun _ => 0)))), (q2, .inl (cy 0, 32768, .inl (fun _ => 0))), (q3, .inl (cy 0, 32768, .inl (fun _ => 0)))] := hD
  refine lv_aload_n hx hb dX8_init_28 rfl (lv_at hl 0 rfl) ?_
  refine lv_iconst (v := (0 : Int32)) hx hb dX8_init_29 (by decide) ?_
  refine va_put (D := D) (ci := 8) (v := .int (0 : Int32)) (ty := .int) (C := RX8) (T := TX8) (N := 4) hx hb hts huX8 tyX8 tyX8_ok nmX8 hown hK hP hD hS 0 rfl rfl 3 (by decide) fk21 (fun _ h9 => h9) rfl (tyX8_ok 3 (by decide)) rfl rfl (Nat.le_of_ble_eq_true rfl) dX8_init_30 (fun H locs hP hD hS => ?_)
  have hP : va_P D vwCl [(h0, .inr (8, [.ref q1, .ref q2, .ref q3, .int (0 : Int32)])), (q1, .inl (cy 1, 32768, .inr (.inl (fun _ => 0)))), (q2, .inl (cy 0, 32768, .inl (fun _ => 0))), (q3, .inl (cy 0, 32768, .inl (fun _ => 0)))] H := hP
  have hD : va_D A [(h0, .inr (8, [.ref q1, .ref q2, .ref q3, .int (0 : Int32)])), (q1, .inl (cy 1, 32768, .inr (.inl (fun _ => 0)))), (q2, .inl (cy 0, 32768, .inl (fun _ => 0))), (q3, .inl (cy 0, 32768, .inl (fun _ => 0)))] := hD
  obtain ⟨u0, hu0⟩ : ∃ z : Nat → Nat, z = (va_up (va_up (va_up (fun _ => 0) 1 q1) 2 q2) 3 q3) := ⟨_, rfl⟩
  have hP : va_P D vwCl (gS cy (va_up u0 0 h0) (fun _ => 0) (fun _ => 0) (fun _ => 0) (0 : Int32)) H := by rw [hu0]; exact kP_sub hP [0, 1, 2, 3] rfl
  have hD : va_D A (gS cy (va_up u0 0 h0) (fun _ => 0) (fun _ => 0) (fun _ => 0) (0 : Int32)) := by rw [hu0]; exact hD.sub [0, 1, 2, 3] rfl rfl
  refine W.widen (k := 3) (n := 98304) (Nat.le_of_ble_eq_true rfl) (Nat.le_of_ble_eq_true rfl) ?_
  exact hQ u0 33 _ _ _ dX8_init_33 hP hD hS
abbrev rmX5_init : Room := { frames := 1, cells := 2, slots := 10513, locals := 14 }
set_option maxHeartbeats 1000000 in
set_option maxRecDepth 100000 in
theorem c_X5_init {l : Launch} {D : va_G} {cy : Nat → ClassId} {h0 : Nat} {r1 : Nat} : kM l yX5_init wsX5_init rmX5_init D cy [.ref h0, .ref r1] [(h0, .inr (5, [.null, .int 0, .null, .int 0, .null]))] (kQv D cy (fun u : Nat → Nat => gB cy (va_up u 0 h0) r1 (0 : Int32) (fun _ => 0) (0 : Int32) (fun _ => 0))) := by
  refine kent_v (cc := cX5_init) (maxL := 2) (by decide) rfl (Nat.le_of_ble_eq_true rfl) ?_
  intro p e0 s m ar below meth c A Q ls ⟨hx, hb, hml, hr, hts, hown, hlocks, hnm⟩ hA hK hN hQ hP hD hS hl
  have hl : lv_has ls 2 [(0, .ref h0), (1, .ref r1)] := hl
  have hown : s.vm.findClass RX5 = some m.cls := hown
  have huX5 : ∀ x ∈ u_ws RX5 TX5 5, x ∈ wsX5_init := by decide +kernel
  have fk9 : (Cond.fieldLink RX5 9 "FigurePlay$Parts" "base" "I").before ar s = true := hts _ (by decide +kernel)
  have fk15 : (Cond.fieldLink RX5 15 "FigurePlay$Parts" "alone" "[I").before ar s = true := hts _ (by decide +kernel)
  have fk19 : (Cond.fieldLink RX5 19 "FigurePlay$Parts" "size" "I").before ar s = true := hts _ (by decide +kernel)
  have fk22 : (Cond.fieldLink RX5 22 "FigurePlay$Parts" "byTwo" "[Z").before ar s = true := hts _ (by decide +kernel)
  have fk26 : (Cond.fieldLink RX5 26 "FigurePlay$Parts" "mirrors" "LFigurePlay$Mirrors;").before ar s = true := hts _ (by decide +kernel)
  refine lv_aload_n hx hb dX5_init_0 rfl (lv_at hl 0 rfl) ?_
  refine W.objInit hx hb hown (hts (.methodLink RX5 3 objectInit) (by decide +kernel)) (hts (.instanceMethod objectInit) (by decide +kernel)) (hts (.code objectInit ⟨#[0xb1]⟩ 1 none) (by decide +kernel)) rfl (by rw [hml]; exact hl.1) rfl dX5_init_1 (Nat.le_of_ble_eq_true rfl) (Nat.le_of_ble_eq_true rfl) ?_
  refine W.eq (g2 := F0 m 4 ls []) rfl ?_
  refine lv_aload_n hx hb dX5_init_4 rfl (lv_at hl 0 rfl) ?_
  refine lv_iconst (v := (0 : Int32)) hx hb dX5_init_5 (by decide) ?_
  refine va_put (D := D) (ci := 5) (v := .int (0 : Int32)) (ty := .int) (C := RX5) (T := TX5) (N := 5) hx hb hts huX5 tyX5 tyX5_ok nmX5 hown hK hP hD hS 0 rfl rfl 1 (by decide) fk9 (fun _ h9 => h9) rfl (tyX5_ok 1 (by decide)) rfl rfl (Nat.le_of_ble_eq_true rfl) dX5_init_6 (fun H locs hP hD hS => ?_)
  have hP : va_P D vwCl [(h0, .inr (5, [.null, .int (0 : Int32), .null, .int 0, .null]))] H := hP
  have hD : va_D A [(h0, .inr (5, [.null, .int (0 : Int32), .null, .int 0, .null]))] := hD
  refine lv_aload_n hx hb dX5_init_9 rfl (lv_at hl 0 rfl) ?_
  refine lv_sipush (v := (512 : Int32)) hx hb dX5_init_10 (by decide) ?_
  refine k_newI (N := 512) hx hb (hts (.arrayClass .int) (by decide +kernel)) hK hP hD hS hA (by decide) (by decide) (by decide) (Nat.le_of_ble_eq_true rfl) (Nat.le_of_ble_eq_true rfl) dX5_init_13 (fun q1 H hP hD hS => ?_)
  have hP : va_P D vwCl [(h0, .inr (5, [.null, .int (0 : Int32), .null, .int 0, .null])), (q1, .inl (cy 0, 512, .inl (fun _ => 0)))] H := hP
  have hD : va_D A [(h0, .inr (5, [.null, .int (0 : Int32), .null, .int 0, .null])), (q1, .inl (cy 0, 512, .inl (fun _ => 0)))] := hD
  refine va_putF (D := D) (ci := 5) (v := .ref q1) (ty := .array .int) (C := RX5) (T := TX5) (N := 5) hx hb hts huX5 tyX5 tyX5_ok nmX5 hown hK hP hD hS 0 rfl rfl 2 (by decide) fk15 (fun _ h9 => h9) rfl hnm rfl (tyX5_ok 2 (by decide)) rfl rfl (Nat.le_of_ble_eq_true rfl) dX5_init_15 (fun H locs hP hD hS => ?_)
  have hP : va_P D vwCl [(h0, .inr (5, [.null, .int (0 : Int32), .ref q1, .int 0, .null])), (q1, .inl (cy 0, 512, .inl (fun _ => 0)))] H := hP
  have hD : va_D A [(h0, .inr (5, [.null, .int (0 : Int32), .ref q1, .int 0, .null])), (q1, .inl (cy 0, 512, .inl (fun _ => 0)))] := hD
  refine lv_aload_n hx hb dX5_init_18 rfl (lv_at hl 0 rfl) ?_
  refine lv_iconst (v := (0 : Int32)) hx hb dX5_init_19 (by decide) ?_
  refine va_put (D := D) (ci := 5) (v := .int (0 : Int32)) (ty := .int) (C := RX5) (T := TX5) (N := 5) hx hb hts huX5 tyX5 tyX5_ok nmX5 hown hK hP hD hS 0 rfl rfl 3 (by decide) fk19 (fun _ h9 => h9) rfl (tyX5_ok 3 (by decide)) rfl rfl (Nat.le_of_ble_eq_true rfl) dX5_init_20 (fun H locs hP hD hS => ?_)
  have hP : va_P D vwCl [(h0, .inr (5, [.null, .int (0 : Int32), .ref q1, .int (0 : Int32), .null])), (q1, .inl (cy 0, 512, .inl (fun _ => 0)))] H := hP
  have hD : va_D A [(h0, .inr (5, [.null, .int (0 : Int32), .ref q1, .int (0 : Int32), .null])), (q1, .inl (cy 0, 512, .inl (fun _ => 0)))] := hD
  refine lv_aload_n hx hb dX5_init_23 rfl (lv_at hl 0 rfl) ?_
  refine lv_sipush (v := (10001 : Int32)) hx hb dX5_init_24 (by decide) ?_
  refine k_newZ (N := 10001) hx hb (hts (.arrayClass .boolean) (by decide +kernel)) hK hP hD hS hA (by decide) (by decide) (by decide) (Nat.le_of_ble_eq_true rfl) (Nat.le_of_ble_eq_true rfl) dX5_init_27 (fun q2 H hP hD hS => ?_)
  have hP : va_P D vwCl [(h0, .inr (5, [.null, .int (0 : Int32), .ref q1, .int (0 : Int32), .null])), (q1, .inl (cy 0, 512, .inl (fun _ => 0))), (q2, .inl (cy 2, 10001, .inl (fun _ => 0)))] H := hP
  have hD : va_D A [(h0, .inr (5, [.null, .int (0 : Int32), .ref q1, .int (0 : Int32), .null])), (q1, .inl (cy 0, 512, .inl (fun _ => 0))), (q2, .inl (cy 2, 10001, .inl (fun _ => 0)))] := hD
  refine va_putF (D := D) (ci := 5) (v := .ref q2) (ty := .array .boolean) (C := RX5) (T := TX5) (N := 5) hx hb hts huX5 tyX5 tyX5_ok nmX5 hown hK hP hD hS 0 rfl rfl 4 (by decide) fk22 (fun _ h9 => h9) rfl hnm rfl (tyX5_ok 4 (by decide)) rfl rfl (Nat.le_of_ble_eq_true rfl) dX5_init_29 (fun H locs hP hD hS => ?_)
  have hP : va_P D vwCl [(h0, .inr (5, [.null, .int (0 : Int32), .ref q1, .int (0 : Int32), .ref q2])), (q1, .inl (cy 0, 512, .inl (fun _ => 0))), (q2, .inl (cy 2, 10001, .inl (fun _ => 0)))] H := hP
  have hD : va_D A [(h0, .inr (5, [.null, .int (0 : Int32), .ref q1, .int (0 : Int32), .ref q2])), (q1, .inl (cy 0, 512, .inl (fun _ => 0))), (q2, .inl (cy 2, 10001, .inl (fun _ => 0)))] := hD
  refine lv_aload_n hx hb dX5_init_32 rfl (lv_at hl 0 rfl) ?_
  refine lv_aload_n hx hb dX5_init_33 rfl (lv_at hl 1 rfl) ?_
  refine va_putF (D := D) (ci := 5) (v := .ref r1) (ty := .object "FigurePlay$Mirrors") (C := RX5) (T := TX5) (N := 5) hx hb hts huX5 tyX5 tyX5_ok nmX5 hown hK hP hD hS 0 rfl rfl 0 (by decide) fk26 (fun _ h9 => h9) rfl hnm rfl (tyX5_ok 0 (by decide)) rfl rfl (Nat.le_of_ble_eq_true rfl) dX5_init_34 (fun H locs hP hD hS => ?_)
  have hP : va_P D vwCl [(h0, .inr (5, [.ref r1, .int (0 : Int32), .ref q1, .int (0 : Int32), .ref q2])), (q1, .inl (cy 0, 512, .inl (fun _ => 0))), (q2, .inl (cy 2, 10001, .inl (fun _ => 0)))] H := hP
  have hD : va_D A [(h0, .inr (5, [.ref r1, .int (0 : Int32), .ref q1, .int (0 : Int32), .ref q2])), (q1, .inl (cy 0, 512, .inl (fun _ => 0))), (q2, .inl (cy 2, 10001, .inl (fun _ => 0)))] := hD
  obtain ⟨u0, hu0⟩ : ∃ z : Nat → Nat, z = (va_up (va_up (fun _ => 0) 1 q1) 2 q2) := ⟨_, rfl⟩
  have hP : va_P D vwCl (gB cy (va_up u0 0 h0) r1 (0 : Int32) (fun _ => 0) (0 : Int32) (fun _ => 0)) H := by rw [hu0]; exact kP_sub hP [0, 1, 2] rfl
  have hD : va_D A (gB cy (va_up u0 0 h0) r1 (0 : Int32) (fun _ => 0) (0 : Int32) (fun _ => 0)) := by rw [hu0]; exact hD.sub [0, 1, 2] rfl rfl
  refine W.widen (k := 2) (n := 10513) (Nat.le_of_ble_eq_true rfl) (Nat.le_of_ble_eq_true rfl) ?_
  exact hQ u0 37 _ _ _ dX5_init_37 hP hD hS
abbrev rmX7_init : Room := { frames := 1, cells := 3, slots := 102416, locals := 14 }
set_option maxHeartbeats 1000000 in
set_option maxRecDepth 100000 in
theorem c_X7_init {l : Launch} {D : va_G} {cy : Nat → ClassId} {h0 : Nat} : kM l yX7_init wsX7_init rmX7_init D cy [.ref h0] [(h0, .inr (7, [.null, .null, .null, .int 0, .int 0, .int 0, .int 0, .int 0, .int 0, .int 0, .int 0, .int 0]))] (kQv D cy (fun u : Nat → Nat => gE cy (va_up u 0 h0) (fun _ => 0) (fun _ => 0) (fun _ => 0) (0 : Int32) (-1 : Int32) (0 : Int32) (0 : Int32) (0 : Int32) (0 : Int32) (0 : Int32) (0 : Int32) (0 : Int32))) := by
  refine kent_v (cc := cX7_init) (maxL := 1) (by decide) rfl (Nat.le_of_ble_eq_true rfl) ?_
  intro p e0 s m ar below meth c A Q ls ⟨hx, hb, hml, hr, hts, hown, hlocks, hnm⟩ hA hK hN hQ hP hD hS hl
  have hl : lv_has ls 1 [(0, .ref h0)] := hl
  have hown : s.vm.findClass RX7 = some m.cls := hown
  have fk11 : (Cond.constant RX7 11 (51200)).before ar s = true := hts _ (by decide +kernel)
  have huX7 : ∀ x ∈ u_ws RX7 TX7 12, x ∈ wsX7_init := by decide +kernel
  have fk12 : (Cond.fieldLink RX7 12 "FigurePlay$Search" "queue" "[I").before ar s = true := hts _ (by decide +kernel)
  have fk16 : (Cond.fieldLink RX7 16 "FigurePlay$Search" "from" "[I").before ar s = true := hts _ (by decide +kernel)
  have fk19 : (Cond.fieldLink RX7 19 "FigurePlay$Search" "allowed" "[I").before ar s = true := hts _ (by decide +kernel)
  have fk22 : (Cond.fieldLink RX7 22 "FigurePlay$Search" "allowedSize" "I").before ar s = true := hts _ (by decide +kernel)
  have fk26 : (Cond.fieldLink RX7 26 "FigurePlay$Search" "kind" "I").before ar s = true := hts _ (by decide +kernel)
  have fk29 : (Cond.fieldLink RX7 29 "FigurePlay$Search" "base" "I").before ar s = true := hts _ (by decide +kernel)
  have fk32 : (Cond.fieldLink RX7 32 "FigurePlay$Search" "n" "I").before ar s = true := hts _ (by decide +kernel)
  have fk35 : (Cond.fieldLink RX7 35 "FigurePlay$Search" "want" "I").before ar s = true := hts _ (by decide +kernel)
  have fk38 : (Cond.fieldLink RX7 38 "FigurePlay$Search" "rules" "I").before ar s = true := hts _ (by decide +kernel)
  have fk41 : (Cond.fieldLink RX7 41 "FigurePlay$Search" "queued" "I").before ar s = true := hts _ (by decide +kernel)
  have fk44 : (Cond.fieldLink RX7 44 "FigurePlay$Search" "goal" "I").before ar s = true := hts _ (by decide +kernel)
  have fk47 : (Cond.fieldLink RX7 47 "FigurePlay$Search" "length" "I").before ar s = true := hts _ (by decide +kernel)
  refine lv_aload_n hx hb dX7_init_0 rfl (lv_at hl 0 rfl) ?_
  refine W.objInit hx hb hown (hts (.methodLink RX7 5 objectInit) (by decide +kernel)) (hts (.instanceMethod objectInit) (by decide +kernel)) (hts (.code objectInit ⟨#[0xb1]⟩ 1 none) (by decide +kernel)) rfl (by rw [hml]; exact hl.1) rfl dX7_init_1 (Nat.le_of_ble_eq_true rfl) (Nat.le_of_ble_eq_true rfl) ?_
  refine W.eq (g2 := F0 m 4 ls []) rfl ?_
  refine lv_aload_n hx hb dX7_init_4 rfl (lv_at hl 0 rfl) ?_
  refine lv_ldc (v := (51200 : Int32)) hx hb hown fk11 dX7_init_5 ?_
  refine k_newI (N := 51200) hx hb (hts (.arrayClass .int) (by decide +kernel)) hK hP hD hS hA (by decide) (by decide) (by decide) (Nat.le_of_ble_eq_true rfl) (Nat.le_of_ble_eq_true rfl) dX7_init_7 (fun q1 H hP hD hS => ?_)
  have hP : va_P D vwCl [(h0, .inr (7, [.null, .null, .null, .int 0, .int 0, .int 0, .int 0, .int 0, .int 0, .int 0, .int 0, .int 0])), (q1, .inl (cy 0, 51200, .inl (fun _ => 0)))] H := hP
  have hD : va_D A [(h0, .inr (7, [.null, .null, .null, .int 0, .int 0, .int 0, .int 0, .int 0, .int 0, .int 0, .int 0, .int 0])), (q1, .inl (cy 0, 51200, .inl (fun _ => 0)))] := hD
  refine va_putF (D := D) (ci := 7) (v := .ref q1) (ty := .array .int) (C := RX7) (T := TX7) (N := 12) hx hb hts huX7 tyX7 tyX7_ok nmX7 hown hK hP hD hS 0 rfl rfl 0 (by decide) fk12 (fun _ h9 => h9) rfl hnm rfl (tyX7_ok 0 (by decide)) rfl rfl (Nat.le_of_ble_eq_true rfl) dX7_init_9 (fun H locs hP hD hS => ?_)
  have hP : va_P D vwCl [(h0, .inr (7, [.ref q1, .null, .null, .int 0, .int 0, .int 0, .int 0, .int 0, .int 0, .int 0, .int 0, .int 0])), (q1, .inl (cy 0, 51200, .inl (fun _ => 0)))] H := hP
  have hD : va_D A [(h0, .inr (7, [.ref q1, .null, .null, .int 0, .int 0, .int 0, .int 0, .int 0, .int 0, .int 0, .int 0, .int 0])), (q1, .inl (cy 0, 51200, .inl (fun _ => 0)))] := hD
  refine lv_aload_n hx hb dX7_init_12 rfl (lv_at hl 0 rfl) ?_
  refine lv_ldc (v := (51200 : Int32)) hx hb hown fk11 dX7_init_13 ?_
  refine k_newI (N := 51200) hx hb (hts (.arrayClass .int) (by decide +kernel)) hK hP hD hS hA (by decide) (by decide) (by decide) (Nat.le_of_ble_eq_true rfl) (Nat.le_of_ble_eq_true rfl) dX7_init_15 (fun q2 H hP hD hS => ?_)
  have hP : va_P D vwCl [(h0, .inr (7, [.ref q1, .null, .null, .int 0, .int 0, .int 0, .int 0, .int 0, .int 0, .int 0, .int 0, .int 0])), (q1, .inl (cy 0, 51200, .inl (fun _ => 0))), (q2, .inl (cy 0, 51200, .inl (fun _ => 0)))] H := hP
  have hD : va_D A [(h0, .inr (7, [.ref q1, .null, .null, .int 0, .int 0, .int 0, .int 0, .int 0, .int 0, .int 0, .int 0, .int 0])), (q1, .inl (cy 0, 51200, .inl (fun _ => 0))), (q2, .inl (cy 0, 51200, .inl (fun _ => 0)))] := hD
  refine va_putF (D := D) (ci := 7) (v := .ref q2) (ty := .array .int) (C := RX7) (T := TX7) (N := 12) hx hb hts huX7 tyX7 tyX7_ok nmX7 hown hK hP hD hS 0 rfl rfl 1 (by decide) fk16 (fun _ h9 => h9) rfl hnm rfl (tyX7_ok 1 (by decide)) rfl rfl (Nat.le_of_ble_eq_true rfl) dX7_init_17 (fun H locs hP hD hS => ?_)
  have hP : va_P D vwCl [(h0, .inr (7, [.ref q1, .ref q2, .null, .int 0, .int 0, .int 0, .int 0, .int 0, .int 0, .int 0, .int 0, .int 0])), (q1, .inl (cy 0, 51200, .inl (fun _ => 0))), (q2, .inl (cy 0, 51200, .inl (fun _ => 0)))] H := hP
  have hD : va_D A [(h0, .inr (7, [.ref q1, .ref q2, .null, .int 0, .int 0, .int 0, .int 0, .int 0, .int 0, .int 0, .int 0, .int 0])), (q1, .inl (cy 0, 51200, .inl (fun _ => 0))), (q2, .inl (cy 0, 51200, .inl (fun _ => 0)))] := hD
  refine lv_aload_n hx hb dX7_init_20 rfl (lv_at hl 0 rfl) ?_
  refine lv_bipush (v := (16 : Int32)) hx hb dX7_init_21 (by decide) ?_
  refine k_newI (N := 16) hx hb (hts (.arrayClass .int) (by decide +kernel)) hK hP hD hS hA (by decide) (by decide) (by decide) (Nat.le_of_ble_eq_true rfl) (Nat.le_of_ble_eq_true rfl) dX7_init_23 (fun q3 H hP hD hS => ?_)
  have hP : va_P D vwCl [(h0, .inr (7, [.ref q1, .ref q2, .null, .int 0, .int 0, .int 0, .int 0, .int 0, .int 0, .int 0, .int 0, .int 0])), (q1, .inl (cy 0, 51200, .inl (fun _ => 0))), (q2, .inl (cy 0, 51200, .inl (fun _ => 0))), (q3, .inl (cy 0, 16, .inl (fun _ => 0)))] H := hP
  have hD : va_D A [(h0, .inr (7, [.ref q1, .ref q2, .null, .int 0, .int 0, .int 0, .int 0, .int 0, .int 0, .int 0, .int 0, .int 0])), (q1, .inl (cy 0, 51200, .inl (fun _ => 0))), (q2, .inl (cy 0, 51200, .inl (fun _ => 0))), (q3, .inl (cy 0, 16, .inl (fun _ => 0)))] := hD
  refine va_putF (D := D) (ci := 7) (v := .ref q3) (ty := .array .int) (C := RX7) (T := TX7) (N := 12) hx hb hts huX7 tyX7 tyX7_ok nmX7 hown hK hP hD hS 0 rfl rfl 2 (by decide) fk19 (fun _ h9 => h9) rfl hnm rfl (tyX7_ok 2 (by decide)) rfl rfl (Nat.le_of_ble_eq_true rfl) dX7_init_25 (fun H locs hP hD hS => ?_)
  have hP : va_P D vwCl [(h0, .inr (7, [.ref q1, .ref q2, .ref q3, .int 0, .int 0, .int 0, .int 0, .int 0, .int 0, .int 0, .int 0, .int 0])), (q1, .inl (cy 0, 51200, .inl (fun _ => 0))), (q2, .inl (cy 0, 51200, .inl (fun _ => 0))), (q3, .inl (cy 0, 16, .inl (fun _ => 0)))] H := hP
  have hD : va_D A [(h0, .inr (7, [.ref q1, .ref q2, .ref q3, .int 0, .int 0, .int 0, .int 0, .int 0, .int 0, .int 0, .int 0, .int 0])), (q1, .inl (cy 0, 51200, .inl (fun _ => 0))), (q2, .inl (cy 0, 51200, .inl (fun _ => 0))), (q3, .inl (cy 0, 16, .inl (fun _ => 0)))] := hD
  refine lv_aload_n hx hb dX7_init_28 rfl (lv_at hl 0 rfl) ?_
  refine lv_iconst (v := (0 : Int32)) hx hb dX7_init_29 (by decide) ?_
  refine va_put (D := D) (ci := 7) (v := .int (0 : Int32)) (ty := .int) (C := RX7) (T := TX7) (N := 12) hx hb hts huX7 tyX7 tyX7_ok nmX7 hown hK hP hD hS 0 rfl rfl 3 (by decide) fk22 (fun _ h9 => h9) rfl (tyX7_ok 3 (by decide)) rfl rfl (Nat.le_of_ble_eq_true rfl) dX7_init_30 (fun H locs hP hD hS => ?_)
  have hP : va_P D vwCl [(h0, .inr (7, [.ref q1, .ref q2, .ref q3, .int (0 : Int32), .int 0, .int 0, .int 0, .int 0, .int 0, .int 0, .int 0, .int 0])), (q1, .inl (cy 0, 51200, .inl (fun _ => 0))), (q2, .inl (cy 0, 51200, .inl (fun _ => 0))), (q3, .inl (cy 0, 16, .inl (fun _ => 0)))] H := hP
  have hD : va_D A [(h0, .inr (7, [.ref q1, .ref q2, .ref q3, .int (0 : Int32), .int 0, .int 0, .int 0, .int 0, .int 0, .int 0, .int 0, .int 0])), (q1, .inl (cy 0, 51200, .inl (fun _ => 0))), (q2, .inl (cy 0, 51200, .inl (fun _ => 0))), (q3, .inl (cy 0, 16, .inl (fun _ => 0)))] := hD
  refine lv_aload_n hx hb dX7_init_33 rfl (lv_at hl 0 rfl) ?_
  refine lv_iconst (v := (-1 : Int32)) hx hb dX7_init_34 (by decide) ?_
  refine va_put (D := D) (ci := 7) (v := .int (-1 : Int32)) (ty := .int) (C := RX7) (T := TX7) (N := 12) hx hb hts huX7 tyX7 tyX7_ok nmX7 hown hK hP hD hS 0 rfl rfl 4 (by decide) fk26 (fun _ h9 => h9) rfl (tyX7_ok 4 (by decide)) rfl rfl (Nat.le_of_ble_eq_true rfl) dX7_init_35 (fun H locs hP hD hS => ?_)
  have hP : va_P D vwCl [(h0, .inr (7, [.ref q1, .ref q2, .ref q3, .int (0 : Int32), .int (-1 : Int32), .int 0, .int 0, .int 0, .int 0, .int 0, .int 0, .int 0])), (q1, .inl (cy 0, 51200, .inl (fun _ => 0))), (q2, .inl (cy 0, 51200, .inl (fun _ => 0))), (q3, .inl (cy 0, 16, .inl (fun _ => 0)))] H := hP
  have hD : va_D A [(h0, .inr (7, [.ref q1, .ref q2, .ref q3, .int (0 : Int32), .int (-1 : Int32), .int 0, .int 0, .int 0, .int 0, .int 0, .int 0, .int 0])), (q1, .inl (cy 0, 51200, .inl (fun _ => 0))), (q2, .inl (cy 0, 51200, .inl (fun _ => 0))), (q3, .inl (cy 0, 16, .inl (fun _ => 0)))] := hD
  refine lv_aload_n hx hb dX7_init_38 rfl (lv_at hl 0 rfl) ?_
  refine lv_iconst (v := (0 : Int32)) hx hb dX7_init_39 (by decide) ?_
  refine va_put (D := D) (ci := 7) (v := .int (0 : Int32)) (ty := .int) (C := RX7) (T := TX7) (N := 12) hx hb hts huX7 tyX7 tyX7_ok nmX7 hown hK hP hD hS 0 rfl rfl 5 (by decide) fk29 (fun _ h9 => h9) rfl (tyX7_ok 5 (by decide)) rfl rfl (Nat.le_of_ble_eq_true rfl) dX7_init_40 (fun H locs hP hD hS => ?_)
  have hP : va_P D vwCl [(h0, .inr (7, [.ref q1, .ref q2, .ref q3, .int (0 : Int32), .int (-1 : Int32), .int (0 : Int32), .int 0, .int 0, .int 0, .int 0, .int 0, .int 0])), (q1, .inl (cy 0, 51200, .inl (fun _ => 0))), (q2, .inl (cy 0, 51200, .inl (fun _ => 0))), (q3, .inl (cy 0, 16, .inl (fun _ => 0)))] H := hP
  have hD : va_D A [(h0, .inr (7, [.ref q1, .ref q2, .ref q3, .int (0 : Int32), .int (-1 : Int32), .int (0 : Int32), .int 0, .int 0, .int 0, .int 0, .int 0, .int 0])), (q1, .inl (cy 0, 51200, .inl (fun _ => 0))), (q2, .inl (cy 0, 51200, .inl (fun _ => 0))), (q3, .inl (cy 0, 16, .inl (fun _ => 0)))] := hD
  refine lv_aload_n hx hb dX7_init_43 rfl (lv_at hl 0 rfl) ?_
  refine lv_iconst (v := (0 : Int32)) hx hb dX7_init_44 (by decide) ?_
  refine va_put (D := D) (ci := 7) (v := .int (0 : Int32)) (ty := .int) (C := RX7) (T := TX7) (N := 12) hx hb hts huX7 tyX7 tyX7_ok nmX7 hown hK hP hD hS 0 rfl rfl 6 (by decide) fk32 (fun _ h9 => h9) rfl (tyX7_ok 6 (by decide)) rfl rfl (Nat.le_of_ble_eq_true rfl) dX7_init_45 (fun H locs hP hD hS => ?_)
  have hP : va_P D vwCl [(h0, .inr (7, [.ref q1, .ref q2, .ref q3, .int (0 : Int32), .int (-1 : Int32), .int (0 : Int32), .int (0 : Int32), .int 0, .int 0, .int 0, .int 0, .int 0])), (q1, .inl (cy 0, 51200, .inl (fun _ => 0))), (q2, .inl (cy 0, 51200, .inl (fun _ => 0))), (q3, .inl (cy 0, 16, .inl (fun _ => 0)))] H := hP
  have hD : va_D A [(h0, .inr (7, [.ref q1, .ref q2, .ref q3, .int (0 : Int32), .int (-1 : Int32), .int (0 : Int32), .int (0 : Int32), .int 0, .int 0, .int 0, .int 0, .int 0])), (q1, .inl (cy 0, 51200, .inl (fun _ => 0))), (q2, .inl (cy 0, 51200, .inl (fun _ => 0))), (q3, .inl (cy 0, 16, .inl (fun _ => 0)))] := hD
  refine lv_aload_n hx hb dX7_init_48 rfl (lv_at hl 0 rfl) ?_
  refine lv_iconst (v := (0 : Int32)) hx hb dX7_init_49 (by decide) ?_
  refine va_put (D := D) (ci := 7) (v := .int (0 : Int32)) (ty := .int) (C := RX7) (T := TX7) (N := 12) hx hb hts huX7 tyX7 tyX7_ok nmX7 hown hK hP hD hS 0 rfl rfl 7 (by decide) fk35 (fun _ h9 => h9) rfl (tyX7_ok 7 (by decide)) rfl rfl (Nat.le_of_ble_eq_true rfl) dX7_init_50 (fun H locs hP hD hS => ?_)
  have hP : va_P D vwCl [(h0, .inr (7, [.ref q1, .ref q2, .ref q3, .int (0 : Int32), .int (-1 : Int32), .int (0 : Int32), .int (0 : Int32), .int (0 : Int32), .int 0, .int 0, .int 0, .int 0])), (q1, .inl (cy 0, 51200, .inl (fun _ => 0))), (q2, .inl (cy 0, 51200, .inl (fun _ => 0))), (q3, .inl (cy 0, 16, .inl (fun _ => 0)))] H := hP
  have hD : va_D A [(h0, .inr (7, [.ref q1, .ref q2, .ref q3, .int (0 : Int32), .int (-1 : Int32), .int (0 : Int32), .int (0 : Int32), .int (0 : Int32), .int 0, .int 0, .int 0, .int 0])), (q1, .inl (cy 0, 51200, .inl (fun _ => 0))), (q2, .inl (cy 0, 51200, .inl (fun _ => 0))), (q3, .inl (cy 0, 16, .inl (fun _ => 0)))] := hD
  refine lv_aload_n hx hb dX7_init_53 rfl (lv_at hl 0 rfl) ?_
  refine lv_iconst (v := (0 : Int32)) hx hb dX7_init_54 (by decide) ?_
  refine va_put (D := D) (ci := 7) (v := .int (0 : Int32)) (ty := .int) (C := RX7) (T := TX7) (N := 12) hx hb hts huX7 tyX7 tyX7_ok nmX7 hown hK hP hD hS 0 rfl rfl 8 (by decide) fk38 (fun _ h9 => h9) rfl (tyX7_ok 8 (by decide)) rfl rfl (Nat.le_of_ble_eq_true rfl) dX7_init_55 (fun H locs hP hD hS => ?_)
  have hP : va_P D vwCl [(h0, .inr (7, [.ref q1, .ref q2, .ref q3, .int (0 : Int32), .int (-1 : Int32), .int (0 : Int32), .int (0 : Int32), .int (0 : Int32), .int (0 : Int32), .int 0, .int 0, .int 0])), (q1, .inl (cy 0, 51200, .inl (fun _ => 0))), (q2, .inl (cy 0, 51200, .inl (fun _ => 0))), (q3, .inl (cy 0, 16, .inl (fun _ => 0)))] H := hP
  have hD : va_D A [(h0, .inr (7, [.ref q1, .ref q2, .ref q3, .int (0 : Int32), .int (-1 : Int32), .int (0 : Int32), .int (0 : Int32), .int (0 : Int32), .int (0 : Int32), .int 0, .int 0, .int 0])), (q1, .inl (cy 0, 51200, .inl (fun _ => 0))), (q2, .inl (cy 0, 51200, .inl (fun _ => 0))), (q3, .inl (cy 0, 16, .inl (fun _ => 0)))] := hD
  refine lv_aload_n hx hb dX7_init_58 rfl (lv_at hl 0 rfl) ?_
  refine lv_iconst (v := (0 : Int32)) hx hb dX7_init_59 (by decide) ?_
  refine va_put (D := D) (ci := 7) (v := .int (0 : Int32)) (ty := .int) (C := RX7) (T := TX7) (N := 12) hx hb hts huX7 tyX7 tyX7_ok nmX7 hown hK hP hD hS 0 rfl rfl 9 (by decide) fk41 (fun _ h9 => h9) rfl (tyX7_ok 9 (by decide)) rfl rfl (Nat.le_of_ble_eq_true rfl) dX7_init_60 (fun H locs hP hD hS => ?_)
  have hP : va_P D vwCl [(h0, .inr (7, [.ref q1, .ref q2, .ref q3, .int (0 : Int32), .int (-1 : Int32), .int (0 : Int32), .int (0 : Int32), .int (0 : Int32), .int (0 : Int32), .int (0 : Int32), .int 0, .int 0])), (q1, .inl (cy 0, 51200, .inl (fun _ => 0))), (q2, .inl (cy 0, 51200, .inl (fun _ => 0))), (q3, .inl (cy 0, 16, .inl (fun _ => 0)))] H := hP
  have hD : va_D A [(h0, .inr (7, [.ref q1, .ref q2, .ref q3, .int (0 : Int32), .int (-1 : Int32), .int (0 : Int32), .int (0 : Int32), .int (0 : Int32), .int (0 : Int32), .int (0 : Int32), .int 0, .int 0])), (q1, .inl (cy 0, 51200, .inl (fun _ => 0))), (q2, .inl (cy 0, 51200, .inl (fun _ => 0))), (q3, .inl (cy 0, 16, .inl (fun _ => 0)))] := hD
  refine lv_aload_n hx hb dX7_init_63 rfl (lv_at hl 0 rfl) ?_
  refine lv_iconst (v := (0 : Int32)) hx hb dX7_init_64 (by decide) ?_
  refine va_put (D := D) (ci := 7) (v := .int (0 : Int32)) (ty := .int) (C := RX7) (T := TX7) (N := 12) hx hb hts huX7 tyX7 tyX7_ok nmX7 hown hK hP hD hS 0 rfl rfl 10 (by decide) fk44 (fun _ h9 => h9) rfl (tyX7_ok 10 (by decide)) rfl rfl (Nat.le_of_ble_eq_true rfl) dX7_init_65 (fun H locs hP hD hS => ?_)
  have hP : va_P D vwCl [(h0, .inr (7, [.ref q1, .ref q2, .ref q3, .int (0 : Int32), .int (-1 : Int32), .int (0 : Int32), .int (0 : Int32), .int (0 : Int32), .int (0 : Int32), .int (0 : Int32), .int (0 : Int32), .int 0])), (q1, .inl (cy 0, 51200, .inl (fun _ => 0))), (q2, .inl (cy 0, 51200, .inl (fun _ => 0))), (q3, .inl (cy 0, 16, .inl (fun _ => 0)))] H := hP
  have hD : va_D A [(h0, .inr (7, [.ref q1, .ref q2, .ref q3, .int (0 : Int32), .int (-1 : Int32), .int (0 : Int32), .int (0 : Int32), .int (0 : Int32), .int (0 : Int32), .int (0 : Int32), .int (0 : Int32), .int 0])), (q1, .inl (cy 0, 51200, .inl (fun _ => 0))), (q2, .inl (cy 0, 51200, .inl (fun _ => 0))), (q3, .inl (cy 0, 16, .inl (fun _ => 0)))] := hD
  refine lv_aload_n hx hb dX7_init_68 rfl (lv_at hl 0 rfl) ?_
  refine lv_iconst (v := (0 : Int32)) hx hb dX7_init_69 (by decide) ?_
  refine va_put (D := D) (ci := 7) (v := .int (0 : Int32)) (ty := .int) (C := RX7) (T := TX7) (N := 12) hx hb hts huX7 tyX7 tyX7_ok nmX7 hown hK hP hD hS 0 rfl rfl 11 (by decide) fk47 (fun _ h9 => h9) rfl (tyX7_ok 11 (by decide)) rfl rfl (Nat.le_of_ble_eq_true rfl) dX7_init_70 (fun H locs hP hD hS => ?_)
  have hP : va_P D vwCl [(h0, .inr (7, [.ref q1, .ref q2, .ref q3, .int (0 : Int32), .int (-1 : Int32), .int (0 : Int32), .int (0 : Int32), .int (0 : Int32), .int (0 : Int32), .int (0 : Int32), .int (0 : Int32), .int (0 : Int32)])), (q1, .inl (cy 0, 51200, .inl (fun _ => 0))), (q2, .inl (cy 0, 51200, .inl (fun _ => 0))), (q3, .inl (cy 0, 16, .inl (fun _ => 0)))] H := hP
  have hD : va_D A [(h0, .inr (7, [.ref q1, .ref q2, .ref q3, .int (0 : Int32), .int (-1 : Int32), .int (0 : Int32), .int (0 : Int32), .int (0 : Int32), .int (0 : Int32), .int (0 : Int32), .int (0 : Int32), .int (0 : Int32)])), (q1, .inl (cy 0, 51200, .inl (fun _ => 0))), (q2, .inl (cy 0, 51200, .inl (fun _ => 0))), (q3, .inl (cy 0, 16, .inl (fun _ => 0)))] := hD
  obtain ⟨u0, hu0⟩ : ∃ z : Nat → Nat, z = (va_up (va_up (va_up (fun _ => 0) 1 q1) 2 q2) 3 q3) := ⟨_, rfl⟩
  have hP : va_P D vwCl (gE cy (va_up u0 0 h0) (fun _ => 0) (fun _ => 0) (fun _ => 0) (0 : Int32) (-1 : Int32) (0 : Int32) (0 : Int32) (0 : Int32) (0 : Int32) (0 : Int32) (0 : Int32) (0 : Int32)) H := by rw [hu0]; exact kP_sub hP [0, 1, 2, 3] rfl
  have hD : va_D A (gE cy (va_up u0 0 h0) (fun _ => 0) (fun _ => 0) (fun _ => 0) (0 : Int32) (-1 : Int32) (0 : Int32) (0 : Int32) (0 : Int32) (0 : Int32) (0 : Int32) (0 : Int32) (0 : Int32)) := by rw [hu0]; exact hD.sub [0, 1, 2, 3] rfl rfl
  refine W.widen (k := 3) (n := 102416) (Nat.le_of_ble_eq_true rfl) (Nat.le_of_ble_eq_true rfl) ?_
  exact hQ u0 73 _ _ _ dX7_init_73 hP hD hS
abbrev rmX4_init : Room := { frames := 1, cells := 4, slots := 80, locals := 14 }
set_option maxHeartbeats 1000000 in
set_option maxRecDepth 100000 in
theorem c_X4_init {l : Launch} {D : va_G} {cy : Nat → ClassId} {h0 : Nat} : kM l yX4_init wsX4_init rmX4_init D cy [.ref h0] [(h0, .inr (4, [.null, .null, .null, .null, .int 0, .int 0, .int 0, .int 0, .int 0, .int 0]))] (kQv D cy (fun u : (Nat → Nat) × (Nat → Nat) => gN cy (va_up u.1 0 h0) u.2 (fun _ => 0) (fun _ => 0) (fun _ => 0) 32 (fun _ => 0) (0 : Int32) (0 : Int32) (0 : Int32) (0 : Int32) (0 : Int32) (0 : Int32))) := by
  refine kent_v (cc := cX4_init) (maxL := 1) (by decide) rfl (Nat.le_of_ble_eq_true rfl) ?_
  intro p e0 s m ar below meth c A Q ls ⟨hx, hb, hml, hr, hts, hown, hlocks, hnm⟩ hA hK hN hQ hP hD hS hl
  have hl : lv_has ls 1 [(0, .ref h0)] := hl
  have hown : s.vm.findClass RX4 = some m.cls := hown
  have huX4 : ∀ x ∈ u_ws RX4 TX4 10, x ∈ wsX4_init := by decide +kernel
  have fk9 : (Cond.fieldLink RX4 9 "FigurePlay$Narrows" "powers" "[I").before ar s = true := hts _ (by decide +kernel)
  have fk15 : (Cond.fieldLink RX4 15 "FigurePlay$Narrows" "taken" "[I").before ar s = true := hts _ (by decide +kernel)
  have fk18 : (Cond.fieldLink RX4 18 "FigurePlay$Narrows" "left" "[I").before ar s = true := hts _ (by decide +kernel)
  have fk21 : (Cond.fieldLink RX4 21 "FigurePlay$Narrows" "found" "[I").before ar s = true := hts _ (by decide +kernel)
  have fk24 : (Cond.fieldLink RX4 24 "FigurePlay$Narrows" "size" "I").before ar s = true := hts _ (by decide +kernel)
  have fk28 : (Cond.fieldLink RX4 28 "FigurePlay$Narrows" "base" "I").before ar s = true := hts _ (by decide +kernel)
  have fk31 : (Cond.fieldLink RX4 31 "FigurePlay$Narrows" "width" "I").before ar s = true := hts _ (by decide +kernel)
  have fk34 : (Cond.fieldLink RX4 34 "FigurePlay$Narrows" "exponent" "I").before ar s = true := hts _ (by decide +kernel)
  have fk37 : (Cond.fieldLink RX4 37 "FigurePlay$Narrows" "least" "I").before ar s = true := hts _ (by decide +kernel)
  have fk40 : (Cond.fieldLink RX4 40 "FigurePlay$Narrows" "most" "I").before ar s = true := hts _ (by decide +kernel)
  refine lv_aload_n hx hb dX4_init_0 rfl (lv_at hl 0 rfl) ?_
  refine W.objInit hx hb hown (hts (.methodLink RX4 3 objectInit) (by decide +kernel)) (hts (.instanceMethod objectInit) (by decide +kernel)) (hts (.code objectInit ⟨#[0xb1]⟩ 1 none) (by decide +kernel)) rfl (by rw [hml]; exact hl.1) rfl dX4_init_1 (Nat.le_of_ble_eq_true rfl) (Nat.le_of_ble_eq_true rfl) ?_
  refine W.eq (g2 := F0 m 4 ls []) rfl ?_
  refine lv_aload_n hx hb dX4_init_4 rfl (lv_at hl 0 rfl) ?_
  refine lv_bipush (v := (16 : Int32)) hx hb dX4_init_5 (by decide) ?_
  refine k_newI (N := 16) hx hb (hts (.arrayClass .int) (by decide +kernel)) hK hP hD hS hA (by decide) (by decide) (by decide) (Nat.le_of_ble_eq_true rfl) (Nat.le_of_ble_eq_true rfl) dX4_init_7 (fun q1 H hP hD hS => ?_)
  have hP : va_P D vwCl [(h0, .inr (4, [.null, .null, .null, .null, .int 0, .int 0, .int 0, .int 0, .int 0, .int 0])), (q1, .inl (cy 0, 16, .inl (fun _ => 0)))] H := hP
  have hD : va_D A [(h0, .inr (4, [.null, .null, .null, .null, .int 0, .int 0, .int 0, .int 0, .int 0, .int 0])), (q1, .inl (cy 0, 16, .inl (fun _ => 0)))] := hD
  refine va_putF (D := D) (ci := 4) (v := .ref q1) (ty := .array .int) (C := RX4) (T := TX4) (N := 10) hx hb hts huX4 tyX4 tyX4_ok nmX4 hown hK hP hD hS 0 rfl rfl 0 (by decide) fk9 (fun _ h9 => h9) rfl hnm rfl (tyX4_ok 0 (by decide)) rfl rfl (Nat.le_of_ble_eq_true rfl) dX4_init_9 (fun H locs hP hD hS => ?_)
  have hP : va_P D vwCl [(h0, .inr (4, [.ref q1, .null, .null, .null, .int 0, .int 0, .int 0, .int 0, .int 0, .int 0])), (q1, .inl (cy 0, 16, .inl (fun _ => 0)))] H := hP
  have hD : va_D A [(h0, .inr (4, [.ref q1, .null, .null, .null, .int 0, .int 0, .int 0, .int 0, .int 0, .int 0])), (q1, .inl (cy 0, 16, .inl (fun _ => 0)))] := hD
  refine lv_aload_n hx hb dX4_init_12 rfl (lv_at hl 0 rfl) ?_
  refine lv_bipush (v := (16 : Int32)) hx hb dX4_init_13 (by decide) ?_
  refine k_newI (N := 16) hx hb (hts (.arrayClass .int) (by decide +kernel)) hK hP hD hS hA (by decide) (by decide) (by decide) (Nat.le_of_ble_eq_true rfl) (Nat.le_of_ble_eq_true rfl) dX4_init_15 (fun q2 H hP hD hS => ?_)
  have hP : va_P D vwCl [(h0, .inr (4, [.ref q1, .null, .null, .null, .int 0, .int 0, .int 0, .int 0, .int 0, .int 0])), (q1, .inl (cy 0, 16, .inl (fun _ => 0))), (q2, .inl (cy 0, 16, .inl (fun _ => 0)))] H := hP
  have hD : va_D A [(h0, .inr (4, [.ref q1, .null, .null, .null, .int 0, .int 0, .int 0, .int 0, .int 0, .int 0])), (q1, .inl (cy 0, 16, .inl (fun _ => 0))), (q2, .inl (cy 0, 16, .inl (fun _ => 0)))] := hD
  refine va_putF (D := D) (ci := 4) (v := .ref q2) (ty := .array .int) (C := RX4) (T := TX4) (N := 10) hx hb hts huX4 tyX4 tyX4_ok nmX4 hown hK hP hD hS 0 rfl rfl 1 (by decide) fk15 (fun _ h9 => h9) rfl hnm rfl (tyX4_ok 1 (by decide)) rfl rfl (Nat.le_of_ble_eq_true rfl) dX4_init_17 (fun H locs hP hD hS => ?_)
  have hP : va_P D vwCl [(h0, .inr (4, [.ref q1, .ref q2, .null, .null, .int 0, .int 0, .int 0, .int 0, .int 0, .int 0])), (q1, .inl (cy 0, 16, .inl (fun _ => 0))), (q2, .inl (cy 0, 16, .inl (fun _ => 0)))] H := hP
  have hD : va_D A [(h0, .inr (4, [.ref q1, .ref q2, .null, .null, .int 0, .int 0, .int 0, .int 0, .int 0, .int 0])), (q1, .inl (cy 0, 16, .inl (fun _ => 0))), (q2, .inl (cy 0, 16, .inl (fun _ => 0)))] := hD
  refine lv_aload_n hx hb dX4_init_20 rfl (lv_at hl 0 rfl) ?_
  refine lv_bipush (v := (16 : Int32)) hx hb dX4_init_21 (by decide) ?_
  refine k_newI (N := 16) hx hb (hts (.arrayClass .int) (by decide +kernel)) hK hP hD hS hA (by decide) (by decide) (by decide) (Nat.le_of_ble_eq_true rfl) (Nat.le_of_ble_eq_true rfl) dX4_init_23 (fun q3 H hP hD hS => ?_)
  have hP : va_P D vwCl [(h0, .inr (4, [.ref q1, .ref q2, .null, .null, .int 0, .int 0, .int 0, .int 0, .int 0, .int 0])), (q1, .inl (cy 0, 16, .inl (fun _ => 0))), (q2, .inl (cy 0, 16, .inl (fun _ => 0))), (q3, .inl (cy 0, 16, .inl (fun _ => 0)))] H := hP
  have hD : va_D A [(h0, .inr (4, [.ref q1, .ref q2, .null, .null, .int 0, .int 0, .int 0, .int 0, .int 0, .int 0])), (q1, .inl (cy 0, 16, .inl (fun _ => 0))), (q2, .inl (cy 0, 16, .inl (fun _ => 0))), (q3, .inl (cy 0, 16, .inl (fun _ => 0)))] := hD
  refine va_putF (D := D) (ci := 4) (v := .ref q3) (ty := .array .int) (C := RX4) (T := TX4) (N := 10) hx hb hts huX4 tyX4 tyX4_ok nmX4 hown hK hP hD hS 0 rfl rfl 2 (by decide) fk18 (fun _ h9 => h9) rfl hnm rfl (tyX4_ok 2 (by decide)) rfl rfl (Nat.le_of_ble_eq_true rfl) dX4_init_25 (fun H locs hP hD hS => ?_)
  have hP : va_P D vwCl [(h0, .inr (4, [.ref q1, .ref q2, .ref q3, .null, .int 0, .int 0, .int 0, .int 0, .int 0, .int 0])), (q1, .inl (cy 0, 16, .inl (fun _ => 0))), (q2, .inl (cy 0, 16, .inl (fun _ => 0))), (q3, .inl (cy 0, 16, .inl (fun _ => 0)))] H := hP
  have hD : va_D A [(h0, .inr (4, [.ref q1, .ref q2, .ref q3, .null, .int 0, .int 0, .int 0, .int 0, .int 0, .int 0])), (q1, .inl (cy 0, 16, .inl (fun _ => 0))), (q2, .inl (cy 0, 16, .inl (fun _ => 0))), (q3, .inl (cy 0, 16, .inl (fun _ => 0)))] := hD
  refine lv_aload_n hx hb dX4_init_28 rfl (lv_at hl 0 rfl) ?_
  refine lv_bipush (v := (32 : Int32)) hx hb dX4_init_29 (by decide) ?_
  refine k_newI (N := 32) hx hb (hts (.arrayClass .int) (by decide +kernel)) hK hP hD hS hA (by decide) (by decide) (by decide) (Nat.le_of_ble_eq_true rfl) (Nat.le_of_ble_eq_true rfl) dX4_init_31 (fun q4 H hP hD hS => ?_)
  have hP : va_P D vwCl [(h0, .inr (4, [.ref q1, .ref q2, .ref q3, .null, .int 0, .int 0, .int 0, .int 0, .int 0, .int 0])), (q1, .inl (cy 0, 16, .inl (fun _ => 0))), (q2, .inl (cy 0, 16, .inl (fun _ => 0))), (q3, .inl (cy 0, 16, .inl (fun _ => 0))), (q4, .inl (cy 0, 32, .inl (fun _ => 0)))] H := hP
  have hD : va_D A [(h0, .inr (4, [.ref q1, .ref q2, .ref q3, .null, .int 0, .int 0, .int 0, .int 0, .int 0, .int 0])), (q1, .inl (cy 0, 16, .inl (fun _ => 0))), (q2, .inl (cy 0, 16, .inl (fun _ => 0))), (q3, .inl (cy 0, 16, .inl (fun _ => 0))), (q4, .inl (cy 0, 32, .inl (fun _ => 0)))] := hD
  refine va_put (D := D) (ci := 4) (v := .ref q4) (ty := .array .int) (C := RX4) (T := TX4) (N := 10) hx hb hts huX4 tyX4 tyX4_ok nmX4 hown hK hP hD hS 0 rfl rfl 3 (by decide) fk21 (fun _ h9 => h9) rfl (tyX4_ok 3 (by decide)) rfl rfl (Nat.le_of_ble_eq_true rfl) dX4_init_33 (fun H locs hP hD hS => ?_)
  have hP : va_P D vwCl [(h0, .inr (4, [.ref q1, .ref q2, .ref q3, .ref q4, .int 0, .int 0, .int 0, .int 0, .int 0, .int 0])), (q1, .inl (cy 0, 16, .inl (fun _ => 0))), (q2, .inl (cy 0, 16, .inl (fun _ => 0))), (q3, .inl (cy 0, 16, .inl (fun _ => 0))), (q4, .inl (cy 0, 32, .inl (fun _ => 0)))] H := hP
  have hD : va_D A [(h0, .inr (4, [.ref q1, .ref q2, .ref q3, .ref q4, .int 0, .int 0, .int 0, .int 0, .int 0, .int 0])), (q1, .inl (cy 0, 16, .inl (fun _ => 0))), (q2, .inl (cy 0, 16, .inl (fun _ => 0))), (q3, .inl (cy 0, 16, .inl (fun _ => 0))), (q4, .inl (cy 0, 32, .inl (fun _ => 0)))] := hD
  refine lv_aload_n hx hb dX4_init_36 rfl (lv_at hl 0 rfl) ?_
  refine lv_iconst (v := (0 : Int32)) hx hb dX4_init_37 (by decide) ?_
  refine va_put (D := D) (ci := 4) (v := .int (0 : Int32)) (ty := .int) (C := RX4) (T := TX4) (N := 10) hx hb hts huX4 tyX4 tyX4_ok nmX4 hown hK hP hD hS 0 rfl rfl 4 (by decide) fk24 (fun _ h9 => h9) rfl (tyX4_ok 4 (by decide)) rfl rfl (Nat.le_of_ble_eq_true rfl) dX4_init_38 (fun H locs hP hD hS => ?_)
  have hP : va_P D vwCl [(h0, .inr (4, [.ref q1, .ref q2, .ref q3, .ref q4, .int (0 : Int32), .int 0, .int 0, .int 0, .int 0, .int 0])), (q1, .inl (cy 0, 16, .inl (fun _ => 0))), (q2, .inl (cy 0, 16, .inl (fun _ => 0))), (q3, .inl (cy 0, 16, .inl (fun _ => 0))), (q4, .inl (cy 0, 32, .inl (fun _ => 0)))] H := hP
  have hD : va_D A [(h0, .inr (4, [.ref q1, .ref q2, .ref q3, .ref q4, .int (0 : Int32), .int 0, .int 0, .int 0, .int 0, .int 0])), (q1, .inl (cy 0, 16, .inl (fun _ => 0))), (q2, .inl (cy 0, 16, .inl (fun _ => 0))), (q3, .inl (cy 0, 16, .inl (fun _ => 0))), (q4, .inl (cy 0, 32, .inl (fun _ => 0)))] := hD
  refine lv_aload_n hx hb dX4_init_41 rfl (lv_at hl 0 rfl) ?_
  refine lv_iconst (v := (0 : Int32)) hx hb dX4_init_42 (by decide) ?_
  refine va_put (D := D) (ci := 4) (v := .int (0 : Int32)) (ty := .int) (C := RX4) (T := TX4) (N := 10) hx hb hts huX4 tyX4 tyX4_ok nmX4 hown hK hP hD hS 0 rfl rfl 5 (by decide) fk28 (fun _ h9 => h9) rfl (tyX4_ok 5 (by decide)) rfl rfl (Nat.le_of_ble_eq_true rfl) dX4_init_43 (fun H locs hP hD hS => ?_)
  have hP : va_P D vwCl [(h0, .inr (4, [.ref q1, .ref q2, .ref q3, .ref q4, .int (0 : Int32), .int (0 : Int32), .int 0, .int 0, .int 0, .int 0])), (q1, .inl (cy 0, 16, .inl (fun _ => 0))), (q2, .inl (cy 0, 16, .inl (fun _ => 0))), (q3, .inl (cy 0, 16, .inl (fun _ => 0))), (q4, .inl (cy 0, 32, .inl (fun _ => 0)))] H := hP
  have hD : va_D A [(h0, .inr (4, [.ref q1, .ref q2, .ref q3, .ref q4, .int (0 : Int32), .int (0 : Int32), .int 0, .int 0, .int 0, .int 0])), (q1, .inl (cy 0, 16, .inl (fun _ => 0))), (q2, .inl (cy 0, 16, .inl (fun _ => 0))), (q3, .inl (cy 0, 16, .inl (fun _ => 0))), (q4, .inl (cy 0, 32, .inl (fun _ => 0)))] := hD
  refine lv_aload_n hx hb dX4_init_46 rfl (lv_at hl 0 rfl) ?_
  refine lv_iconst (v := (0 : Int32)) hx hb dX4_init_47 (by decide) ?_
  refine va_put (D := D) (ci := 4) (v := .int (0 : Int32)) (ty := .int) (C := RX4) (T := TX4) (N := 10) hx hb hts huX4 tyX4 tyX4_ok nmX4 hown hK hP hD hS 0 rfl rfl 6 (by decide) fk31 (fun _ h9 => h9) rfl (tyX4_ok 6 (by decide)) rfl rfl (Nat.le_of_ble_eq_true rfl) dX4_init_48 (fun H locs hP hD hS => ?_)
  have hP : va_P D vwCl [(h0, .inr (4, [.ref q1, .ref q2, .ref q3, .ref q4, .int (0 : Int32), .int (0 : Int32), .int (0 : Int32), .int 0, .int 0, .int 0])), (q1, .inl (cy 0, 16, .inl (fun _ => 0))), (q2, .inl (cy 0, 16, .inl (fun _ => 0))), (q3, .inl (cy 0, 16, .inl (fun _ => 0))), (q4, .inl (cy 0, 32, .inl (fun _ => 0)))] H := hP
  have hD : va_D A [(h0, .inr (4, [.ref q1, .ref q2, .ref q3, .ref q4, .int (0 : Int32), .int (0 : Int32), .int (0 : Int32), .int 0, .int 0, .int 0])), (q1, .inl (cy 0, 16, .inl (fun _ => 0))), (q2, .inl (cy 0, 16, .inl (fun _ => 0))), (q3, .inl (cy 0, 16, .inl (fun _ => 0))), (q4, .inl (cy 0, 32, .inl (fun _ => 0)))] := hD
  refine lv_aload_n hx hb dX4_init_51 rfl (lv_at hl 0 rfl) ?_
  refine lv_iconst (v := (0 : Int32)) hx hb dX4_init_52 (by decide) ?_
  refine va_put (D := D) (ci := 4) (v := .int (0 : Int32)) (ty := .int) (C := RX4) (T := TX4) (N := 10) hx hb hts huX4 tyX4 tyX4_ok nmX4 hown hK hP hD hS 0 rfl rfl 7 (by decide) fk34 (fun _ h9 => h9) rfl (tyX4_ok 7 (by decide)) rfl rfl (Nat.le_of_ble_eq_true rfl) dX4_init_53 (fun H locs hP hD hS => ?_)
  have hP : va_P D vwCl [(h0, .inr (4, [.ref q1, .ref q2, .ref q3, .ref q4, .int (0 : Int32), .int (0 : Int32), .int (0 : Int32), .int (0 : Int32), .int 0, .int 0])), (q1, .inl (cy 0, 16, .inl (fun _ => 0))), (q2, .inl (cy 0, 16, .inl (fun _ => 0))), (q3, .inl (cy 0, 16, .inl (fun _ => 0))), (q4, .inl (cy 0, 32, .inl (fun _ => 0)))] H := hP
  have hD : va_D A [(h0, .inr (4, [.ref q1, .ref q2, .ref q3, .ref q4, .int (0 : Int32), .int (0 : Int32), .int (0 : Int32), .int (0 : Int32), .int 0, .int 0])), (q1, .inl (cy 0, 16, .inl (fun _ => 0))), (q2, .inl (cy 0, 16, .inl (fun _ => 0))), (q3, .inl (cy 0, 16, .inl (fun _ => 0))), (q4, .inl (cy 0, 32, .inl (fun _ => 0)))] := hD
  refine lv_aload_n hx hb dX4_init_56 rfl (lv_at hl 0 rfl) ?_
  refine lv_iconst (v := (0 : Int32)) hx hb dX4_init_57 (by decide) ?_
  refine va_put (D := D) (ci := 4) (v := .int (0 : Int32)) (ty := .int) (C := RX4) (T := TX4) (N := 10) hx hb hts huX4 tyX4 tyX4_ok nmX4 hown hK hP hD hS 0 rfl rfl 8 (by decide) fk37 (fun _ h9 => h9) rfl (tyX4_ok 8 (by decide)) rfl rfl (Nat.le_of_ble_eq_true rfl) dX4_init_58 (fun H locs hP hD hS => ?_)
  have hP : va_P D vwCl [(h0, .inr (4, [.ref q1, .ref q2, .ref q3, .ref q4, .int (0 : Int32), .int (0 : Int32), .int (0 : Int32), .int (0 : Int32), .int (0 : Int32), .int 0])), (q1, .inl (cy 0, 16, .inl (fun _ => 0))), (q2, .inl (cy 0, 16, .inl (fun _ => 0))), (q3, .inl (cy 0, 16, .inl (fun _ => 0))), (q4, .inl (cy 0, 32, .inl (fun _ => 0)))] H := hP
  have hD : va_D A [(h0, .inr (4, [.ref q1, .ref q2, .ref q3, .ref q4, .int (0 : Int32), .int (0 : Int32), .int (0 : Int32), .int (0 : Int32), .int (0 : Int32), .int 0])), (q1, .inl (cy 0, 16, .inl (fun _ => 0))), (q2, .inl (cy 0, 16, .inl (fun _ => 0))), (q3, .inl (cy 0, 16, .inl (fun _ => 0))), (q4, .inl (cy 0, 32, .inl (fun _ => 0)))] := hD
  refine lv_aload_n hx hb dX4_init_61 rfl (lv_at hl 0 rfl) ?_
  refine lv_iconst (v := (0 : Int32)) hx hb dX4_init_62 (by decide) ?_
  refine va_put (D := D) (ci := 4) (v := .int (0 : Int32)) (ty := .int) (C := RX4) (T := TX4) (N := 10) hx hb hts huX4 tyX4 tyX4_ok nmX4 hown hK hP hD hS 0 rfl rfl 9 (by decide) fk40 (fun _ h9 => h9) rfl (tyX4_ok 9 (by decide)) rfl rfl (Nat.le_of_ble_eq_true rfl) dX4_init_63 (fun H locs hP hD hS => ?_)
  have hP : va_P D vwCl [(h0, .inr (4, [.ref q1, .ref q2, .ref q3, .ref q4, .int (0 : Int32), .int (0 : Int32), .int (0 : Int32), .int (0 : Int32), .int (0 : Int32), .int (0 : Int32)])), (q1, .inl (cy 0, 16, .inl (fun _ => 0))), (q2, .inl (cy 0, 16, .inl (fun _ => 0))), (q3, .inl (cy 0, 16, .inl (fun _ => 0))), (q4, .inl (cy 0, 32, .inl (fun _ => 0)))] H := hP
  have hD : va_D A [(h0, .inr (4, [.ref q1, .ref q2, .ref q3, .ref q4, .int (0 : Int32), .int (0 : Int32), .int (0 : Int32), .int (0 : Int32), .int (0 : Int32), .int (0 : Int32)])), (q1, .inl (cy 0, 16, .inl (fun _ => 0))), (q2, .inl (cy 0, 16, .inl (fun _ => 0))), (q3, .inl (cy 0, 16, .inl (fun _ => 0))), (q4, .inl (cy 0, 32, .inl (fun _ => 0)))] := hD
  obtain ⟨u0, hu0⟩ : ∃ z : Nat → Nat, z = (va_up (va_up (va_up (fun _ => 0) 1 q1) 2 q2) 3 q3) := ⟨_, rfl⟩
  obtain ⟨u1, hu1⟩ : ∃ z : Nat → Nat, z = (va_up (fun _ => 0) 0 q4) := ⟨_, rfl⟩
  have hP : va_P D vwCl (gN cy (va_up u0 0 h0) u1 (fun _ => 0) (fun _ => 0) (fun _ => 0) 32 (fun _ => 0) (0 : Int32) (0 : Int32) (0 : Int32) (0 : Int32) (0 : Int32) (0 : Int32)) H := by rw [hu0, hu1]; exact kP_sub hP [0, 1, 2, 3, 4] rfl
  have hD : va_D A (gN cy (va_up u0 0 h0) u1 (fun _ => 0) (fun _ => 0) (fun _ => 0) 32 (fun _ => 0) (0 : Int32) (0 : Int32) (0 : Int32) (0 : Int32) (0 : Int32) (0 : Int32)) := by rw [hu0, hu1]; exact hD.sub [0, 1, 2, 3, 4] rfl rfl
  refine W.widen (k := 4) (n := 80) (Nat.le_of_ble_eq_true rfl) (Nat.le_of_ble_eq_true rfl) ?_
  exact hQ (u0, u1) 66 _ _ _ dX4_init_66 hP hD hS
abbrev rmX2_init : Room := { frames := 1, cells := 2, slots := 40002, locals := 14 }
set_option maxHeartbeats 1000000 in
set_option maxRecDepth 100000 in
theorem c_X2_init {l : Launch} {D : va_G} {cy : Nat → ClassId} {h0 : Nat} {r1 : Nat} : kM l yX2_init wsX2_init rmX2_init D cy [.ref h0, .ref r1] [(h0, .inr (2, [.null, .int 0, .null, .null]))] (kQv D cy (fun u : Nat → Nat => gL cy (va_up u 0 h0) r1 (-1 : Int32) (fun _ => 0) (fun _ => 0))) := by
  refine kent_v (cc := cX2_init) (maxL := 2) (by decide) rfl (Nat.le_of_ble_eq_true rfl) ?_
  intro p e0 s m ar below meth c A Q ls ⟨hx, hb, hml, hr, hts, hown, hlocks, hnm⟩ hA hK hN hQ hP hD hS hl
  have hl : lv_has ls 2 [(0, .ref h0), (1, .ref r1)] := hl
  have hown : s.vm.findClass RX2 = some m.cls := hown
  have huX2 : ∀ x ∈ u_ws RX2 TX2 4, x ∈ wsX2_init := by decide +kernel
  have fk9 : (Cond.fieldLink RX2 9 "FigurePlay$Lifts" "version" "I").before ar s = true := hts _ (by decide +kernel)
  have fk15 : (Cond.fieldLink RX2 15 "FigurePlay$Lifts" "sums" "[I").before ar s = true := hts _ (by decide +kernel)
  have fk19 : (Cond.fieldLink RX2 19 "FigurePlay$Lifts" "reached" "[Z").before ar s = true := hts _ (by decide +kernel)
  have fk23 : (Cond.fieldLink RX2 23 "FigurePlay$Lifts" "figures" "LFigurePlay$Figures;").before ar s = true := hts _ (by decide +kernel)
  refine lv_aload_n hx hb dX2_init_0 rfl (lv_at hl 0 rfl) ?_
  refine W.objInit hx hb hown (hts (.methodLink RX2 3 objectInit) (by decide +kernel)) (hts (.instanceMethod objectInit) (by decide +kernel)) (hts (.code objectInit ⟨#[0xb1]⟩ 1 none) (by decide +kernel)) rfl (by rw [hml]; exact hl.1) rfl dX2_init_1 (Nat.le_of_ble_eq_true rfl) (Nat.le_of_ble_eq_true rfl) ?_
  refine W.eq (g2 := F0 m 4 ls []) rfl ?_
  refine lv_aload_n hx hb dX2_init_4 rfl (lv_at hl 0 rfl) ?_
  refine lv_iconst (v := (-1 : Int32)) hx hb dX2_init_5 (by decide) ?_
  refine va_put (D := D) (ci := 2) (v := .int (-1 : Int32)) (ty := .int) (C := RX2) (T := TX2) (N := 4) hx hb hts huX2 tyX2 tyX2_ok nmX2 hown hK hP hD hS 0 rfl rfl 1 (by decide) fk9 (fun _ h9 => h9) rfl (tyX2_ok 1 (by decide)) rfl rfl (Nat.le_of_ble_eq_true rfl) dX2_init_6 (fun H locs hP hD hS => ?_)
  have hP : va_P D vwCl [(h0, .inr (2, [.null, .int (-1 : Int32), .null, .null]))] H := hP
  have hD : va_D A [(h0, .inr (2, [.null, .int (-1 : Int32), .null, .null]))] := hD
  refine lv_aload_n hx hb dX2_init_9 rfl (lv_at hl 0 rfl) ?_
  refine lv_sipush (v := (20001 : Int32)) hx hb dX2_init_10 (by decide) ?_
  refine k_newI (N := 20001) hx hb (hts (.arrayClass .int) (by decide +kernel)) hK hP hD hS hA (by decide) (by decide) (by decide) (Nat.le_of_ble_eq_true rfl) (Nat.le_of_ble_eq_true rfl) dX2_init_13 (fun q1 H hP hD hS => ?_)
  have hP : va_P D vwCl [(h0, .inr (2, [.null, .int (-1 : Int32), .null, .null])), (q1, .inl (cy 0, 20001, .inl (fun _ => 0)))] H := hP
  have hD : va_D A [(h0, .inr (2, [.null, .int (-1 : Int32), .null, .null])), (q1, .inl (cy 0, 20001, .inl (fun _ => 0)))] := hD
  refine va_putF (D := D) (ci := 2) (v := .ref q1) (ty := .array .int) (C := RX2) (T := TX2) (N := 4) hx hb hts huX2 tyX2 tyX2_ok nmX2 hown hK hP hD hS 0 rfl rfl 2 (by decide) fk15 (fun _ h9 => h9) rfl hnm rfl (tyX2_ok 2 (by decide)) rfl rfl (Nat.le_of_ble_eq_true rfl) dX2_init_15 (fun H locs hP hD hS => ?_)
  have hP : va_P D vwCl [(h0, .inr (2, [.null, .int (-1 : Int32), .ref q1, .null])), (q1, .inl (cy 0, 20001, .inl (fun _ => 0)))] H := hP
  have hD : va_D A [(h0, .inr (2, [.null, .int (-1 : Int32), .ref q1, .null])), (q1, .inl (cy 0, 20001, .inl (fun _ => 0)))] := hD
  refine lv_aload_n hx hb dX2_init_18 rfl (lv_at hl 0 rfl) ?_
  refine lv_sipush (v := (20001 : Int32)) hx hb dX2_init_19 (by decide) ?_
  refine k_newZ (N := 20001) hx hb (hts (.arrayClass .boolean) (by decide +kernel)) hK hP hD hS hA (by decide) (by decide) (by decide) (Nat.le_of_ble_eq_true rfl) (Nat.le_of_ble_eq_true rfl) dX2_init_22 (fun q2 H hP hD hS => ?_)
  have hP : va_P D vwCl [(h0, .inr (2, [.null, .int (-1 : Int32), .ref q1, .null])), (q1, .inl (cy 0, 20001, .inl (fun _ => 0))), (q2, .inl (cy 2, 20001, .inl (fun _ => 0)))] H := hP
  have hD : va_D A [(h0, .inr (2, [.null, .int (-1 : Int32), .ref q1, .null])), (q1, .inl (cy 0, 20001, .inl (fun _ => 0))), (q2, .inl (cy 2, 20001, .inl (fun _ => 0)))] := hD
  refine va_putF (D := D) (ci := 2) (v := .ref q2) (ty := .array .boolean) (C := RX2) (T := TX2) (N := 4) hx hb hts huX2 tyX2 tyX2_ok nmX2 hown hK hP hD hS 0 rfl rfl 3 (by decide) fk19 (fun _ h9 => h9) rfl hnm rfl (tyX2_ok 3 (by decide)) rfl rfl (Nat.le_of_ble_eq_true rfl) dX2_init_24 (fun H locs hP hD hS => ?_)
  have hP : va_P D vwCl [(h0, .inr (2, [.null, .int (-1 : Int32), .ref q1, .ref q2])), (q1, .inl (cy 0, 20001, .inl (fun _ => 0))), (q2, .inl (cy 2, 20001, .inl (fun _ => 0)))] H := hP
  have hD : va_D A [(h0, .inr (2, [.null, .int (-1 : Int32), .ref q1, .ref q2])), (q1, .inl (cy 0, 20001, .inl (fun _ => 0))), (q2, .inl (cy 2, 20001, .inl (fun _ => 0)))] := hD
  refine lv_aload_n hx hb dX2_init_27 rfl (lv_at hl 0 rfl) ?_
  refine lv_aload_n hx hb dX2_init_28 rfl (lv_at hl 1 rfl) ?_
  refine va_putF (D := D) (ci := 2) (v := .ref r1) (ty := .object "FigurePlay$Figures") (C := RX2) (T := TX2) (N := 4) hx hb hts huX2 tyX2 tyX2_ok nmX2 hown hK hP hD hS 0 rfl rfl 0 (by decide) fk23 (fun _ h9 => h9) rfl hnm rfl (tyX2_ok 0 (by decide)) rfl rfl (Nat.le_of_ble_eq_true rfl) dX2_init_29 (fun H locs hP hD hS => ?_)
  have hP : va_P D vwCl [(h0, .inr (2, [.ref r1, .int (-1 : Int32), .ref q1, .ref q2])), (q1, .inl (cy 0, 20001, .inl (fun _ => 0))), (q2, .inl (cy 2, 20001, .inl (fun _ => 0)))] H := hP
  have hD : va_D A [(h0, .inr (2, [.ref r1, .int (-1 : Int32), .ref q1, .ref q2])), (q1, .inl (cy 0, 20001, .inl (fun _ => 0))), (q2, .inl (cy 2, 20001, .inl (fun _ => 0)))] := hD
  obtain ⟨u0, hu0⟩ : ∃ z : Nat → Nat, z = (va_up (va_up (fun _ => 0) 1 q1) 2 q2) := ⟨_, rfl⟩
  have hP : va_P D vwCl (gL cy (va_up u0 0 h0) r1 (-1 : Int32) (fun _ => 0) (fun _ => 0)) H := by rw [hu0]; exact kP_sub hP [0, 1, 2] rfl
  have hD : va_D A (gL cy (va_up u0 0 h0) r1 (-1 : Int32) (fun _ => 0) (fun _ => 0)) := by rw [hu0]; exact hD.sub [0, 1, 2] rfl rfl
  refine W.widen (k := 2) (n := 40002) (Nat.le_of_ble_eq_true rfl) (Nat.le_of_ble_eq_true rfl) ?_
  exact hQ u0 32 _ _ _ dX2_init_32 hP hD hS
abbrev rmX0_init : Room := { frames := 1, cells := 5, slots := 3065, locals := 14 }
set_option maxHeartbeats 1000000 in
set_option maxRecDepth 100000 in
theorem c_X0_init {l : Launch} {D : va_G} {cy : Nat → ClassId} {h0 : Nat} {r1 : Nat} {a2 : Int32} {r3 : Nat} : kM l yX0_init wsX0_init rmX0_init D cy [.ref h0, .ref r1, .int a2, .ref r3] [(h0, .inr (0, [.null, .int 0, .null, .int 0, .null, .int 0, .null, .null, .null, .null]))] (kQv D cy (fun u : (Nat → Nat) × (Nat → Nat) => gC cy (va_up u.1 0 h0) u.2 r1 r3 a2 (-1 : Int32) (fun _ => 0) (0 : Int32) 16 (fun _ => 0) 16 (fun _ => 0) 16 (fun _ => 0) 16 (fun _ => 0))) := by
  refine kent_v (cc := cX0_init) (maxL := 4) (by decide) rfl (Nat.le_of_ble_eq_true rfl) ?_
  intro p e0 s m ar below meth c A Q ls ⟨hx, hb, hml, hr, hts, hown, hlocks, hnm⟩ hA hK hN hQ hP hD hS hl
  have hl : lv_has ls 4 [(0, .ref h0), (1, .ref r1), (2, .int a2), (3, .ref r3)] := hl
  have hown : s.vm.findClass RX0 = some m.cls := hown
  have huX0 : ∀ x ∈ u_ws RX0 TX0 10, x ∈ wsX0_init := by decide +kernel
  have fk9 : (Cond.fieldLink RX0 9 "FigurePlay$Circles" "stamp" "I").before ar s = true := hts _ (by decide +kernel)
  have fk15 : (Cond.fieldLink RX0 15 "FigurePlay$Circles" "homes" "[I").before ar s = true := hts _ (by decide +kernel)
  have fk19 : (Cond.fieldLink RX0 19 "FigurePlay$Circles" "size" "I").before ar s = true := hts _ (by decide +kernel)
  have fk22 : (Cond.fieldLink RX0 22 "FigurePlay$Circles" "leasts" "[J").before ar s = true := hts _ (by decide +kernel)
  have fk26 : (Cond.fieldLink RX0 26 "FigurePlay$Circles" "lengths" "[I").before ar s = true := hts _ (by decide +kernel)
  have fk29 : (Cond.fieldLink RX0 29 "FigurePlay$Circles" "firstBy" "[I").before ar s = true := hts _ (by decide +kernel)
  have fk32 : (Cond.fieldLink RX0 32 "FigurePlay$Circles" "order" "[I").before ar s = true := hts _ (by decide +kernel)
  have fk35 : (Cond.fieldLink RX0 35 "FigurePlay$Circles" "figures" "LFigurePlay$Figures;").before ar s = true := hts _ (by decide +kernel)
  have fk39 : (Cond.fieldLink RX0 39 "FigurePlay$Circles" "step" "I").before ar s = true := hts _ (by decide +kernel)
  have fk42 : (Cond.fieldLink RX0 42 "FigurePlay$Circles" "slots" "LFigurePlay$Slots;").before ar s = true := hts _ (by decide +kernel)
  refine lv_aload_n hx hb dX0_init_0 rfl (lv_at hl 0 rfl) ?_
  refine W.objInit hx hb hown (hts (.methodLink RX0 3 objectInit) (by decide +kernel)) (hts (.instanceMethod objectInit) (by decide +kernel)) (hts (.code objectInit ⟨#[0xb1]⟩ 1 none) (by decide +kernel)) rfl (by rw [hml]; exact hl.1) rfl dX0_init_1 (Nat.le_of_ble_eq_true rfl) (Nat.le_of_ble_eq_true rfl) ?_
  refine W.eq (g2 := F0 m 4 ls []) rfl ?_
  refine lv_aload_n hx hb dX0_init_4 rfl (lv_at hl 0 rfl) ?_
  refine lv_iconst (v := (-1 : Int32)) hx hb dX0_init_5 (by decide) ?_
  refine va_put (D := D) (ci := 0) (v := .int (-1 : Int32)) (ty := .int) (C := RX0) (T := TX0) (N := 10) hx hb hts huX0 tyX0 tyX0_ok nmX0 hown hK hP hD hS 0 rfl rfl 3 (by decide) fk9 (fun _ h9 => h9) rfl (tyX0_ok 3 (by decide)) rfl rfl (Nat.le_of_ble_eq_true rfl) dX0_init_6 (fun H locs hP hD hS => ?_)
  have hP : va_P D vwCl [(h0, .inr (0, [.null, .int 0, .null, .int (-1 : Int32), .null, .int 0, .null, .null, .null, .null]))] H := hP
  have hD : va_D A [(h0, .inr (0, [.null, .int 0, .null, .int (-1 : Int32), .null, .int 0, .null, .null, .null, .null]))] := hD
  refine lv_aload_n hx hb dX0_init_9 rfl (lv_at hl 0 rfl) ?_
  refine lv_sipush (v := (3001 : Int32)) hx hb dX0_init_10 (by decide) ?_
  refine k_newI (N := 3001) hx hb (hts (.arrayClass .int) (by decide +kernel)) hK hP hD hS hA (by decide) (by decide) (by decide) (Nat.le_of_ble_eq_true rfl) (Nat.le_of_ble_eq_true rfl) dX0_init_13 (fun q1 H hP hD hS => ?_)
  have hP : va_P D vwCl [(h0, .inr (0, [.null, .int 0, .null, .int (-1 : Int32), .null, .int 0, .null, .null, .null, .null])), (q1, .inl (cy 0, 3001, .inl (fun _ => 0)))] H := hP
  have hD : va_D A [(h0, .inr (0, [.null, .int 0, .null, .int (-1 : Int32), .null, .int 0, .null, .null, .null, .null])), (q1, .inl (cy 0, 3001, .inl (fun _ => 0)))] := hD
  refine va_putF (D := D) (ci := 0) (v := .ref q1) (ty := .array .int) (C := RX0) (T := TX0) (N := 10) hx hb hts huX0 tyX0 tyX0_ok nmX0 hown hK hP hD hS 0 rfl rfl 4 (by decide) fk15 (fun _ h9 => h9) rfl hnm rfl (tyX0_ok 4 (by decide)) rfl rfl (Nat.le_of_ble_eq_true rfl) dX0_init_15 (fun H locs hP hD hS => ?_)
  have hP : va_P D vwCl [(h0, .inr (0, [.null, .int 0, .null, .int (-1 : Int32), .ref q1, .int 0, .null, .null, .null, .null])), (q1, .inl (cy 0, 3001, .inl (fun _ => 0)))] H := hP
  have hD : va_D A [(h0, .inr (0, [.null, .int 0, .null, .int (-1 : Int32), .ref q1, .int 0, .null, .null, .null, .null])), (q1, .inl (cy 0, 3001, .inl (fun _ => 0)))] := hD
  refine lv_aload_n hx hb dX0_init_18 rfl (lv_at hl 0 rfl) ?_
  refine lv_iconst (v := (0 : Int32)) hx hb dX0_init_19 (by decide) ?_
  refine va_put (D := D) (ci := 0) (v := .int (0 : Int32)) (ty := .int) (C := RX0) (T := TX0) (N := 10) hx hb hts huX0 tyX0 tyX0_ok nmX0 hown hK hP hD hS 0 rfl rfl 5 (by decide) fk19 (fun _ h9 => h9) rfl (tyX0_ok 5 (by decide)) rfl rfl (Nat.le_of_ble_eq_true rfl) dX0_init_20 (fun H locs hP hD hS => ?_)
  have hP : va_P D vwCl [(h0, .inr (0, [.null, .int 0, .null, .int (-1 : Int32), .ref q1, .int (0 : Int32), .null, .null, .null, .null])), (q1, .inl (cy 0, 3001, .inl (fun _ => 0)))] H := hP
  have hD : va_D A [(h0, .inr (0, [.null, .int 0, .null, .int (-1 : Int32), .ref q1, .int (0 : Int32), .null, .null, .null, .null])), (q1, .inl (cy 0, 3001, .inl (fun _ => 0)))] := hD
  refine lv_aload_n hx hb dX0_init_23 rfl (lv_at hl 0 rfl) ?_
  refine lv_bipush (v := (16 : Int32)) hx hb dX0_init_24 (by decide) ?_
  refine k_newJ (N := 16) hx hb (hts (.arrayClass .long) (by decide +kernel)) hK hP hD hS hA (by decide) (by decide) (by decide) (Nat.le_of_ble_eq_true rfl) (Nat.le_of_ble_eq_true rfl) dX0_init_26 (fun q2 H hP hD hS => ?_)
  have hP : va_P D vwCl [(h0, .inr (0, [.null, .int 0, .null, .int (-1 : Int32), .ref q1, .int (0 : Int32), .null, .null, .null, .null])), (q1, .inl (cy 0, 3001, .inl (fun _ => 0))), (q2, .inl (cy 1, 16, .inr (.inl (fun _ => 0))))] H := hP
  have hD : va_D A [(h0, .inr (0, [.null, .int 0, .null, .int (-1 : Int32), .ref q1, .int (0 : Int32), .null, .null, .null, .null])), (q1, .inl (cy 0, 3001, .inl (fun _ => 0))), (q2, .inl (cy 1, 16, .inr (.inl (fun _ => 0))))] := hD
  refine va_put (D := D) (ci := 0) (v := .ref q2) (ty := .array .long) (C := RX0) (T := TX0) (N := 10) hx hb hts huX0 tyX0 tyX0_ok nmX0 hown hK hP hD hS 0 rfl rfl 6 (by decide) fk22 (fun _ h9 => h9) rfl (tyX0_ok 6 (by decide)) rfl rfl (Nat.le_of_ble_eq_true rfl) dX0_init_28 (fun H locs hP hD hS => ?_)
  have hP : va_P D vwCl [(h0, .inr (0, [.null, .int 0, .null, .int (-1 : Int32), .ref q1, .int (0 : Int32), .ref q2, .null, .null, .null])), (q1, .inl (cy 0, 3001, .inl (fun _ => 0))), (q2, .inl (cy 1, 16, .inr (.inl (fun _ => 0))))] H := hP
  have hD : va_D A [(h0, .inr (0, [.null, .int 0, .null, .int (-1 : Int32), .ref q1, .int (0 : Int32), .ref q2, .null, .null, .null])), (q1, .inl (cy 0, 3001, .inl (fun _ => 0))), (q2, .inl (cy 1, 16, .inr (.inl (fun _ => 0))))] := hD
  refine lv_aload_n hx hb dX0_init_31 rfl (lv_at hl 0 rfl) ?_
  refine lv_bipush (v := (16 : Int32)) hx hb dX0_init_32 (by decide) ?_
  refine k_newI (N := 16) hx hb (hts (.arrayClass .int) (by decide +kernel)) hK hP hD hS hA (by decide) (by decide) (by decide) (Nat.le_of_ble_eq_true rfl) (Nat.le_of_ble_eq_true rfl) dX0_init_34 (fun q3 H hP hD hS => ?_)
  have hP : va_P D vwCl [(h0, .inr (0, [.null, .int 0, .null, .int (-1 : Int32), .ref q1, .int (0 : Int32), .ref q2, .null, .null, .null])), (q1, .inl (cy 0, 3001, .inl (fun _ => 0))), (q2, .inl (cy 1, 16, .inr (.inl (fun _ => 0)))), (q3, .inl (cy 0, 16, .inl (fun _ => 0)))] H := hP
  have hD : va_D A [(h0, .inr (0, [.null, .int 0, .null, .int (-1 : Int32), .ref q1, .int (0 : Int32), .ref q2, .null, .null, .null])), (q1, .inl (cy 0, 3001, .inl (fun _ => 0))), (q2, .inl (cy 1, 16, .inr (.inl (fun _ => 0)))), (q3, .inl (cy 0, 16, .inl (fun _ => 0)))] := hD
  refine va_put (D := D) (ci := 0) (v := .ref q3) (ty := .array .int) (C := RX0) (T := TX0) (N := 10) hx hb hts huX0 tyX0 tyX0_ok nmX0 hown hK hP hD hS 0 rfl rfl 7 (by decide) fk26 (fun _ h9 => h9) rfl (tyX0_ok 7 (by decide)) rfl rfl (Nat.le_of_ble_eq_true rfl) dX0_init_36 (fun H locs hP hD hS => ?_)
  have hP : va_P D vwCl [(h0, .inr (0, [.null, .int 0, .null, .int (-1 : Int32), .ref q1, .int (0 : Int32), .ref q2, .ref q3, .null, .null])), (q1, .inl (cy 0, 3001, .inl (fun _ => 0))), (q2, .inl (cy 1, 16, .inr (.inl (fun _ => 0)))), (q3, .inl (cy 0, 16, .inl (fun _ => 0)))] H := hP
  have hD : va_D A [(h0, .inr (0, [.null, .int 0, .null, .int (-1 : Int32), .ref q1, .int (0 : Int32), .ref q2, .ref q3, .null, .null])), (q1, .inl (cy 0, 3001, .inl (fun _ => 0))), (q2, .inl (cy 1, 16, .inr (.inl (fun _ => 0)))), (q3, .inl (cy 0, 16, .inl (fun _ => 0)))] := hD
  refine lv_aload_n hx hb dX0_init_39 rfl (lv_at hl 0 rfl) ?_
  refine lv_bipush (v := (16 : Int32)) hx hb dX0_init_40 (by decide) ?_
  refine k_newI (N := 16) hx hb (hts (.arrayClass .int) (by decide +kernel)) hK hP hD hS hA (by decide) (by decide) (by decide) (Nat.le_of_ble_eq_true rfl) (Nat.le_of_ble_eq_true rfl) dX0_init_42 (fun q4 H hP hD hS => ?_)
  have hP : va_P D vwCl [(h0, .inr (0, [.null, .int 0, .null, .int (-1 : Int32), .ref q1, .int (0 : Int32), .ref q2, .ref q3, .null, .null])), (q1, .inl (cy 0, 3001, .inl (fun _ => 0))), (q2, .inl (cy 1, 16, .inr (.inl (fun _ => 0)))), (q3, .inl (cy 0, 16, .inl (fun _ => 0))), (q4, .inl (cy 0, 16, .inl (fun _ => 0)))] H := hP
  have hD : va_D A [(h0, .inr (0, [.null, .int 0, .null, .int (-1 : Int32), .ref q1, .int (0 : Int32), .ref q2, .ref q3, .null, .null])), (q1, .inl (cy 0, 3001, .inl (fun _ => 0))), (q2, .inl (cy 1, 16, .inr (.inl (fun _ => 0)))), (q3, .inl (cy 0, 16, .inl (fun _ => 0))), (q4, .inl (cy 0, 16, .inl (fun _ => 0)))] := hD
  refine va_put (D := D) (ci := 0) (v := .ref q4) (ty := .array .int) (C := RX0) (T := TX0) (N := 10) hx hb hts huX0 tyX0 tyX0_ok nmX0 hown hK hP hD hS 0 rfl rfl 8 (by decide) fk29 (fun _ h9 => h9) rfl (tyX0_ok 8 (by decide)) rfl rfl (Nat.le_of_ble_eq_true rfl) dX0_init_44 (fun H locs hP hD hS => ?_)
  have hP : va_P D vwCl [(h0, .inr (0, [.null, .int 0, .null, .int (-1 : Int32), .ref q1, .int (0 : Int32), .ref q2, .ref q3, .ref q4, .null])), (q1, .inl (cy 0, 3001, .inl (fun _ => 0))), (q2, .inl (cy 1, 16, .inr (.inl (fun _ => 0)))), (q3, .inl (cy 0, 16, .inl (fun _ => 0))), (q4, .inl (cy 0, 16, .inl (fun _ => 0)))] H := hP
  have hD : va_D A [(h0, .inr (0, [.null, .int 0, .null, .int (-1 : Int32), .ref q1, .int (0 : Int32), .ref q2, .ref q3, .ref q4, .null])), (q1, .inl (cy 0, 3001, .inl (fun _ => 0))), (q2, .inl (cy 1, 16, .inr (.inl (fun _ => 0)))), (q3, .inl (cy 0, 16, .inl (fun _ => 0))), (q4, .inl (cy 0, 16, .inl (fun _ => 0)))] := hD
  refine lv_aload_n hx hb dX0_init_47 rfl (lv_at hl 0 rfl) ?_
  refine lv_bipush (v := (16 : Int32)) hx hb dX0_init_48 (by decide) ?_
  refine k_newI (N := 16) hx hb (hts (.arrayClass .int) (by decide +kernel)) hK hP hD hS hA (by decide) (by decide) (by decide) (Nat.le_of_ble_eq_true rfl) (Nat.le_of_ble_eq_true rfl) dX0_init_50 (fun q5 H hP hD hS => ?_)
  have hP : va_P D vwCl [(h0, .inr (0, [.null, .int 0, .null, .int (-1 : Int32), .ref q1, .int (0 : Int32), .ref q2, .ref q3, .ref q4, .null])), (q1, .inl (cy 0, 3001, .inl (fun _ => 0))), (q2, .inl (cy 1, 16, .inr (.inl (fun _ => 0)))), (q3, .inl (cy 0, 16, .inl (fun _ => 0))), (q4, .inl (cy 0, 16, .inl (fun _ => 0))), (q5, .inl (cy 0, 16, .inl (fun _ => 0)))] H := hP
  have hD : va_D A [(h0, .inr (0, [.null, .int 0, .null, .int (-1 : Int32), .ref q1, .int (0 : Int32), .ref q2, .ref q3, .ref q4, .null])), (q1, .inl (cy 0, 3001, .inl (fun _ => 0))), (q2, .inl (cy 1, 16, .inr (.inl (fun _ => 0)))), (q3, .inl (cy 0, 16, .inl (fun _ => 0))), (q4, .inl (cy 0, 16, .inl (fun _ => 0))), (q5, .inl (cy 0, 16, .inl (fun _ => 0)))] := hD
  refine va_put (D := D) (ci := 0) (v := .ref q5) (ty := .array .int) (C := RX0) (T := TX0) (N := 10) hx hb hts huX0 tyX0 tyX0_ok nmX0 hown hK hP hD hS 0 rfl rfl 9 (by decide) fk32 (fun _ h9 => h9) rfl (tyX0_ok 9 (by decide)) rfl rfl (Nat.le_of_ble_eq_true rfl) dX0_init_52 (fun H locs hP hD hS => ?_)
  have hP : va_P D vwCl [(h0, .inr (0, [.null, .int 0, .null, .int (-1 : Int32), .ref q1, .int (0 : Int32), .ref q2, .ref q3, .ref q4, .ref q5])), (q1, .inl (cy 0, 3001, .inl (fun _ => 0))), (q2, .inl (cy 1, 16, .inr (.inl (fun _ => 0)))), (q3, .inl (cy 0, 16, .inl (fun _ => 0))), (q4, .inl (cy 0, 16, .inl (fun _ => 0))), (q5, .inl (cy 0, 16, .inl (fun _ => 0)))] H := hP
  have hD : va_D A [(h0, .inr (0, [.null, .int 0, .null, .int (-1 : Int32), .ref q1, .int (0 : Int32), .ref q2, .ref q3, .ref q4, .ref q5])), (q1, .inl (cy 0, 3001, .inl (fun _ => 0))), (q2, .inl (cy 1, 16, .inr (.inl (fun _ => 0)))), (q3, .inl (cy 0, 16, .inl (fun _ => 0))), (q4, .inl (cy 0, 16, .inl (fun _ => 0))), (q5, .inl (cy 0, 16, .inl (fun _ => 0)))] := hD
  refine lv_aload_n hx hb dX0_init_55 rfl (lv_at hl 0 rfl) ?_
  refine lv_aload_n hx hb dX0_init_56 rfl (lv_at hl 1 rfl) ?_
  refine va_putF (D := D) (ci := 0) (v := .ref r1) (ty := .object "FigurePlay$Figures") (C := RX0) (T := TX0) (N := 10) hx hb hts huX0 tyX0 tyX0_ok nmX0 hown hK hP hD hS 0 rfl rfl 0 (by decide) fk35 (fun _ h9 => h9) rfl hnm rfl (tyX0_ok 0 (by decide)) rfl rfl (Nat.le_of_ble_eq_true rfl) dX0_init_57 (fun H locs hP hD hS => ?_)
  have hP : va_P D vwCl [(h0, .inr (0, [.ref r1, .int 0, .null, .int (-1 : Int32), .ref q1, .int (0 : Int32), .ref q2, .ref q3, .ref q4, .ref q5])), (q1, .inl (cy 0, 3001, .inl (fun _ => 0))), (q2, .inl (cy 1, 16, .inr (.inl (fun _ => 0)))), (q3, .inl (cy 0, 16, .inl (fun _ => 0))), (q4, .inl (cy 0, 16, .inl (fun _ => 0))), (q5, .inl (cy 0, 16, .inl (fun _ => 0)))] H := hP
  have hD : va_D A [(h0, .inr (0, [.ref r1, .int 0, .null, .int (-1 : Int32), .ref q1, .int (0 : Int32), .ref q2, .ref q3, .ref q4, .ref q5])), (q1, .inl (cy 0, 3001, .inl (fun _ => 0))), (q2, .inl (cy 1, 16, .inr (.inl (fun _ => 0)))), (q3, .inl (cy 0, 16, .inl (fun _ => 0))), (q4, .inl (cy 0, 16, .inl (fun _ => 0))), (q5, .inl (cy 0, 16, .inl (fun _ => 0)))] := hD
  refine lv_aload_n hx hb dX0_init_60 rfl (lv_at hl 0 rfl) ?_
  refine lv_iload_n hx hb dX0_init_61 rfl (lv_at hl 2 rfl) ?_
  refine va_putF (D := D) (ci := 0) (v := .int a2) (ty := .int) (C := RX0) (T := TX0) (N := 10) hx hb hts huX0 tyX0 tyX0_ok nmX0 hown hK hP hD hS 0 rfl rfl 1 (by decide) fk39 (fun _ h9 => h9) rfl hnm rfl (tyX0_ok 1 (by decide)) rfl rfl (Nat.le_of_ble_eq_true rfl) dX0_init_62 (fun H locs hP hD hS => ?_)
  have hP : va_P D vwCl [(h0, .inr (0, [.ref r1, .int a2, .null, .int (-1 : Int32), .ref q1, .int (0 : Int32), .ref q2, .ref q3, .ref q4, .ref q5])), (q1, .inl (cy 0, 3001, .inl (fun _ => 0))), (q2, .inl (cy 1, 16, .inr (.inl (fun _ => 0)))), (q3, .inl (cy 0, 16, .inl (fun _ => 0))), (q4, .inl (cy 0, 16, .inl (fun _ => 0))), (q5, .inl (cy 0, 16, .inl (fun _ => 0)))] H := hP
  have hD : va_D A [(h0, .inr (0, [.ref r1, .int a2, .null, .int (-1 : Int32), .ref q1, .int (0 : Int32), .ref q2, .ref q3, .ref q4, .ref q5])), (q1, .inl (cy 0, 3001, .inl (fun _ => 0))), (q2, .inl (cy 1, 16, .inr (.inl (fun _ => 0)))), (q3, .inl (cy 0, 16, .inl (fun _ => 0))), (q4, .inl (cy 0, 16, .inl (fun _ => 0))), (q5, .inl (cy 0, 16, .inl (fun _ => 0)))] := hD
  refine lv_aload_n hx hb dX0_init_65 rfl (lv_at hl 0 rfl) ?_
  refine lv_aload_n hx hb dX0_init_66 rfl (lv_at hl 3 rfl) ?_
  refine va_putF (D := D) (ci := 0) (v := .ref r3) (ty := .object "FigurePlay$Slots") (C := RX0) (T := TX0) (N := 10) hx hb hts huX0 tyX0 tyX0_ok nmX0 hown hK hP hD hS 0 rfl rfl 2 (by decide) fk42 (fun _ h9 => h9) rfl hnm rfl (tyX0_ok 2 (by decide)) rfl rfl (Nat.le_of_ble_eq_true rfl) dX0_init_67 (fun H locs hP hD hS => ?_)
  have hP : va_P D vwCl [(h0, .inr (0, [.ref r1, .int a2, .ref r3, .int (-1 : Int32), .ref q1, .int (0 : Int32), .ref q2, .ref q3, .ref q4, .ref q5])), (q1, .inl (cy 0, 3001, .inl (fun _ => 0))), (q2, .inl (cy 1, 16, .inr (.inl (fun _ => 0)))), (q3, .inl (cy 0, 16, .inl (fun _ => 0))), (q4, .inl (cy 0, 16, .inl (fun _ => 0))), (q5, .inl (cy 0, 16, .inl (fun _ => 0)))] H := hP
  have hD : va_D A [(h0, .inr (0, [.ref r1, .int a2, .ref r3, .int (-1 : Int32), .ref q1, .int (0 : Int32), .ref q2, .ref q3, .ref q4, .ref q5])), (q1, .inl (cy 0, 3001, .inl (fun _ => 0))), (q2, .inl (cy 1, 16, .inr (.inl (fun _ => 0)))), (q3, .inl (cy 0, 16, .inl (fun _ => 0))), (q4, .inl (cy 0, 16, .inl (fun _ => 0))), (q5, .inl (cy 0, 16, .inl (fun _ => 0)))] := hD
  obtain ⟨u0, hu0⟩ : ∃ z : Nat → Nat, z = (va_up (fun _ => 0) 1 q1) := ⟨_, rfl⟩
  obtain ⟨u1, hu1⟩ : ∃ z : Nat → Nat, z = (va_up (va_up (va_up (va_up (fun _ => 0) 0 q2) 1 q3) 2 q4) 3 q5) := ⟨_, rfl⟩
  have hP : va_P D vwCl (gC cy (va_up u0 0 h0) u1 r1 r3 a2 (-1 : Int32) (fun _ => 0) (0 : Int32) 16 (fun _ => 0) 16 (fun _ => 0) 16 (fun _ => 0) 16 (fun _ => 0)) H := by rw [hu0, hu1]; exact kP_sub hP [0, 1, 2, 3, 4, 5] rfl
  have hD : va_D A (gC cy (va_up u0 0 h0) u1 r1 r3 a2 (-1 : Int32) (fun _ => 0) (0 : Int32) 16 (fun _ => 0) 16 (fun _ => 0) 16 (fun _ => 0) 16 (fun _ => 0)) := by rw [hu0, hu1]; exact hD.sub [0, 1, 2, 3, 4, 5] rfl rfl
  refine W.widen (k := 5) (n := 3065) (Nat.le_of_ble_eq_true rfl) (Nat.le_of_ble_eq_true rfl) ?_
  exact hQ (u0, u1) 70 _ _ _ dX0_init_70 hP hD hS
abbrev rmX9_init_Y : Room := { frames := 1, cells := 1, slots := 3001, locals := 14 }
set_option maxHeartbeats 1000000 in
set_option maxRecDepth 100000 in
theorem c_X9_init_Y {l : Launch} {D : va_G} {cy : Nat → ClassId} {h0 : Nat} {r1 : Nat} {r2 : Nat} {a3 : Int32} {r4 : Nat} : kM l yX9_init wsX9_init rmX9_init_Y D cy [.ref h0, .ref r1, .ref r2, .int a3, .ref r4] [(h0, .inr (9, [.null, .null, .int 0, .null, .null, .int 0, .int 0]))] (kQv D cy (fun u : Nat → Nat => gY cy (va_up u 0 h0) r1 r2 r4 a3 (fun _ => 0) (0 : Int32) (-1 : Int32))) := by
  refine kent_v (cc := cX9_init) (maxL := 5) (by decide) rfl (Nat.le_of_ble_eq_true rfl) ?_
  intro p e0 s m ar below meth c A Q ls ⟨hx, hb, hml, hr, hts, hown, hlocks, hnm⟩ hA hK hN hQ hP hD hS hl
  have hl : lv_has ls 5 [(0, .ref h0), (1, .ref r1), (2, .ref r2), (3, .int a3), (4, .ref r4)] := hl
  have hown : s.vm.findClass RX9 = some m.cls := hown
  have huX9 : ∀ x ∈ u_ws RX9 TX9 7, x ∈ wsX9_init := by decide +kernel
  have fk9 : (Cond.fieldLink RX9 9 "FigurePlay$Ways" "tails" "[I").before ar s = true := hts _ (by decide +kernel)
  have fk15 : (Cond.fieldLink RX9 15 "FigurePlay$Ways" "known" "I").before ar s = true := hts _ (by decide +kernel)
  have fk19 : (Cond.fieldLink RX9 19 "FigurePlay$Ways" "version" "I").before ar s = true := hts _ (by decide +kernel)
  have fk22 : (Cond.fieldLink RX9 22 "FigurePlay$Ways" "figures" "LFigurePlay$Figures;").before ar s = true := hts _ (by decide +kernel)
  have fk26 : (Cond.fieldLink RX9 26 "FigurePlay$Ways" "path" "LFigurePlay$Path;").before ar s = true := hts _ (by decide +kernel)
  have fk30 : (Cond.fieldLink RX9 30 "FigurePlay$Ways" "step" "I").before ar s = true := hts _ (by decide +kernel)
  have fk33 : (Cond.fieldLink RX9 33 "FigurePlay$Ways" "circles" "LFigurePlay$Circles;").before ar s = true := hts _ (by decide +kernel)
  refine lv_aload_n hx hb dX9_init_0 rfl (lv_at hl 0 rfl) ?_
  refine W.objInit hx hb hown (hts (.methodLink RX9 3 objectInit) (by decide +kernel)) (hts (.instanceMethod objectInit) (by decide +kernel)) (hts (.code objectInit ⟨#[0xb1]⟩ 1 none) (by decide +kernel)) rfl (by rw [hml]; exact hl.1) rfl dX9_init_1 (Nat.le_of_ble_eq_true rfl) (Nat.le_of_ble_eq_true rfl) ?_
  refine W.eq (g2 := F0 m 4 ls []) rfl ?_
  refine lv_aload_n hx hb dX9_init_4 rfl (lv_at hl 0 rfl) ?_
  refine lv_sipush (v := (3001 : Int32)) hx hb dX9_init_5 (by decide) ?_
  refine k_newI (N := 3001) hx hb (hts (.arrayClass .int) (by decide +kernel)) hK hP hD hS hA (by decide) (by decide) (by decide) (Nat.le_of_ble_eq_true rfl) (Nat.le_of_ble_eq_true rfl) dX9_init_8 (fun q1 H hP hD hS => ?_)
  have hP : va_P D vwCl [(h0, .inr (9, [.null, .null, .int 0, .null, .null, .int 0, .int 0])), (q1, .inl (cy 0, 3001, .inl (fun _ => 0)))] H := hP
  have hD : va_D A [(h0, .inr (9, [.null, .null, .int 0, .null, .null, .int 0, .int 0])), (q1, .inl (cy 0, 3001, .inl (fun _ => 0)))] := hD
  refine va_putF (D := D) (ci := 9) (v := .ref q1) (ty := .array .int) (C := RX9) (T := TX9) (N := 7) hx hb hts huX9 tyX9 tyX9_ok nmX9 hown hK hP hD hS 0 rfl rfl 4 (by decide) fk9 (fun _ h9 => h9) rfl hnm rfl (tyX9_ok 4 (by decide)) rfl rfl (Nat.le_of_ble_eq_true rfl) dX9_init_10 (fun H locs hP hD hS => ?_)
  have hP : va_P D vwCl [(h0, .inr (9, [.null, .null, .int 0, .null, .ref q1, .int 0, .int 0])), (q1, .inl (cy 0, 3001, .inl (fun _ => 0)))] H := hP
  have hD : va_D A [(h0, .inr (9, [.null, .null, .int 0, .null, .ref q1, .int 0, .int 0])), (q1, .inl (cy 0, 3001, .inl (fun _ => 0)))] := hD
  refine lv_aload_n hx hb dX9_init_13 rfl (lv_at hl 0 rfl) ?_
  refine lv_iconst (v := (0 : Int32)) hx hb dX9_init_14 (by decide) ?_
  refine va_put (D := D) (ci := 9) (v := .int (0 : Int32)) (ty := .int) (C := RX9) (T := TX9) (N := 7) hx hb hts huX9 tyX9 tyX9_ok nmX9 hown hK hP hD hS 0 rfl rfl 5 (by decide) fk15 (fun _ h9 => h9) rfl (tyX9_ok 5 (by decide)) rfl rfl (Nat.le_of_ble_eq_true rfl) dX9_init_15 (fun H locs hP hD hS => ?_)
  have hP : va_P D vwCl [(h0, .inr (9, [.null, .null, .int 0, .null, .ref q1, .int (0 : Int32), .int 0])), (q1, .inl (cy 0, 3001, .inl (fun _ => 0)))] H := hP
  have hD : va_D A [(h0, .inr (9, [.null, .null, .int 0, .null, .ref q1, .int (0 : Int32), .int 0])), (q1, .inl (cy 0, 3001, .inl (fun _ => 0)))] := hD
  refine lv_aload_n hx hb dX9_init_18 rfl (lv_at hl 0 rfl) ?_
  refine lv_iconst (v := (-1 : Int32)) hx hb dX9_init_19 (by decide) ?_
  refine va_put (D := D) (ci := 9) (v := .int (-1 : Int32)) (ty := .int) (C := RX9) (T := TX9) (N := 7) hx hb hts huX9 tyX9 tyX9_ok nmX9 hown hK hP hD hS 0 rfl rfl 6 (by decide) fk19 (fun _ h9 => h9) rfl (tyX9_ok 6 (by decide)) rfl rfl (Nat.le_of_ble_eq_true rfl) dX9_init_20 (fun H locs hP hD hS => ?_)
  have hP : va_P D vwCl [(h0, .inr (9, [.null, .null, .int 0, .null, .ref q1, .int (0 : Int32), .int (-1 : Int32)])), (q1, .inl (cy 0, 3001, .inl (fun _ => 0)))] H := hP
  have hD : va_D A [(h0, .inr (9, [.null, .null, .int 0, .null, .ref q1, .int (0 : Int32), .int (-1 : Int32)])), (q1, .inl (cy 0, 3001, .inl (fun _ => 0)))] := hD
  refine lv_aload_n hx hb dX9_init_23 rfl (lv_at hl 0 rfl) ?_
  refine lv_aload_n hx hb dX9_init_24 rfl (lv_at hl 1 rfl) ?_
  refine va_putF (D := D) (ci := 9) (v := .ref r1) (ty := .object "FigurePlay$Figures") (C := RX9) (T := TX9) (N := 7) hx hb hts huX9 tyX9 tyX9_ok nmX9 hown hK hP hD hS 0 rfl rfl 0 (by decide) fk22 (fun _ h9 => h9) rfl hnm rfl (tyX9_ok 0 (by decide)) rfl rfl (Nat.le_of_ble_eq_true rfl) dX9_init_25 (fun H locs hP hD hS => ?_)
  have hP : va_P D vwCl [(h0, .inr (9, [.ref r1, .null, .int 0, .null, .ref q1, .int (0 : Int32), .int (-1 : Int32)])), (q1, .inl (cy 0, 3001, .inl (fun _ => 0)))] H := hP
  have hD : va_D A [(h0, .inr (9, [.ref r1, .null, .int 0, .null, .ref q1, .int (0 : Int32), .int (-1 : Int32)])), (q1, .inl (cy 0, 3001, .inl (fun _ => 0)))] := hD
  refine lv_aload_n hx hb dX9_init_28 rfl (lv_at hl 0 rfl) ?_
  refine lv_aload_n hx hb dX9_init_29 rfl (lv_at hl 2 rfl) ?_
  refine va_putF (D := D) (ci := 9) (v := .ref r2) (ty := .object "FigurePlay$Path") (C := RX9) (T := TX9) (N := 7) hx hb hts huX9 tyX9 tyX9_ok nmX9 hown hK hP hD hS 0 rfl rfl 1 (by decide) fk26 (fun _ h9 => h9) rfl hnm rfl (tyX9_ok 1 (by decide)) rfl rfl (Nat.le_of_ble_eq_true rfl) dX9_init_30 (fun H locs hP hD hS => ?_)
  have hP : va_P D vwCl [(h0, .inr (9, [.ref r1, .ref r2, .int 0, .null, .ref q1, .int (0 : Int32), .int (-1 : Int32)])), (q1, .inl (cy 0, 3001, .inl (fun _ => 0)))] H := hP
  have hD : va_D A [(h0, .inr (9, [.ref r1, .ref r2, .int 0, .null, .ref q1, .int (0 : Int32), .int (-1 : Int32)])), (q1, .inl (cy 0, 3001, .inl (fun _ => 0)))] := hD
  refine lv_aload_n hx hb dX9_init_33 rfl (lv_at hl 0 rfl) ?_
  refine lv_iload_n hx hb dX9_init_34 rfl (lv_at hl 3 rfl) ?_
  refine va_putF (D := D) (ci := 9) (v := .int a3) (ty := .int) (C := RX9) (T := TX9) (N := 7) hx hb hts huX9 tyX9 tyX9_ok nmX9 hown hK hP hD hS 0 rfl rfl 2 (by decide) fk30 (fun _ h9 => h9) rfl hnm rfl (tyX9_ok 2 (by decide)) rfl rfl (Nat.le_of_ble_eq_true rfl) dX9_init_35 (fun H locs hP hD hS => ?_)
  have hP : va_P D vwCl [(h0, .inr (9, [.ref r1, .ref r2, .int a3, .null, .ref q1, .int (0 : Int32), .int (-1 : Int32)])), (q1, .inl (cy 0, 3001, .inl (fun _ => 0)))] H := hP
  have hD : va_D A [(h0, .inr (9, [.ref r1, .ref r2, .int a3, .null, .ref q1, .int (0 : Int32), .int (-1 : Int32)])), (q1, .inl (cy 0, 3001, .inl (fun _ => 0)))] := hD
  refine lv_aload_n hx hb dX9_init_38 rfl (lv_at hl 0 rfl) ?_
  refine lv_aload hx hb dX9_init_39 (lv_at hl 4 rfl) ?_
  refine va_putF (D := D) (ci := 9) (v := .ref r4) (ty := .object "FigurePlay$Circles") (C := RX9) (T := TX9) (N := 7) hx hb hts huX9 tyX9 tyX9_ok nmX9 hown hK hP hD hS 0 rfl rfl 3 (by decide) fk33 (fun _ h9 => h9) rfl hnm rfl (tyX9_ok 3 (by decide)) rfl rfl (Nat.le_of_ble_eq_true rfl) dX9_init_41 (fun H locs hP hD hS => ?_)
  have hP : va_P D vwCl [(h0, .inr (9, [.ref r1, .ref r2, .int a3, .ref r4, .ref q1, .int (0 : Int32), .int (-1 : Int32)])), (q1, .inl (cy 0, 3001, .inl (fun _ => 0)))] H := hP
  have hD : va_D A [(h0, .inr (9, [.ref r1, .ref r2, .int a3, .ref r4, .ref q1, .int (0 : Int32), .int (-1 : Int32)])), (q1, .inl (cy 0, 3001, .inl (fun _ => 0)))] := hD
  obtain ⟨u0, hu0⟩ : ∃ z : Nat → Nat, z = (va_up (fun _ => 0) 1 q1) := ⟨_, rfl⟩
  have hP : va_P D vwCl (gY cy (va_up u0 0 h0) r1 r2 r4 a3 (fun _ => 0) (0 : Int32) (-1 : Int32)) H := by rw [hu0]; exact kP_sub hP [0, 1] rfl
  have hD : va_D A (gY cy (va_up u0 0 h0) r1 r2 r4 a3 (fun _ => 0) (0 : Int32) (-1 : Int32)) := by rw [hu0]; exact hD.sub [0, 1] rfl rfl
  refine W.widen (k := 1) (n := 3001) (Nat.le_of_ble_eq_true rfl) (Nat.le_of_ble_eq_true rfl) ?_
  exact hQ u0 44 _ _ _ dX9_init_44 hP hD hS
abbrev rmX9_init_Z : Room := { frames := 1, cells := 1, slots := 3001, locals := 14 }
set_option maxHeartbeats 1000000 in
set_option maxRecDepth 100000 in
theorem c_X9_init_Z {l : Launch} {D : va_G} {cy : Nat → ClassId} {h0 : Nat} {r1 : Nat} {r2 : Nat} {a3 : Int32} : kM l yX9_init wsX9_init rmX9_init_Z D cy [.ref h0, .ref r1, .ref r2, .int a3, .null] [(h0, .inr (9, [.null, .null, .int 0, .null, .null, .int 0, .int 0]))] (kQv D cy (fun u : Nat → Nat => gZ cy (va_up u 0 h0) r1 r2 a3 (fun _ => 0) (0 : Int32) (-1 : Int32))) := by
  refine kent_v (cc := cX9_init) (maxL := 5) (by decide) rfl (Nat.le_of_ble_eq_true rfl) ?_
  intro p e0 s m ar below meth c A Q ls ⟨hx, hb, hml, hr, hts, hown, hlocks, hnm⟩ hA hK hN hQ hP hD hS hl
  have hl : lv_has ls 5 [(0, .ref h0), (1, .ref r1), (2, .ref r2), (3, .int a3), (4, .null)] := hl
  have hown : s.vm.findClass RX9 = some m.cls := hown
  have huX9 : ∀ x ∈ u_ws RX9 TX9 7, x ∈ wsX9_init := by decide +kernel
  have fk9 : (Cond.fieldLink RX9 9 "FigurePlay$Ways" "tails" "[I").before ar s = true := hts _ (by decide +kernel)
  have fk15 : (Cond.fieldLink RX9 15 "FigurePlay$Ways" "known" "I").before ar s = true := hts _ (by decide +kernel)
  have fk19 : (Cond.fieldLink RX9 19 "FigurePlay$Ways" "version" "I").before ar s = true := hts _ (by decide +kernel)
  have fk22 : (Cond.fieldLink RX9 22 "FigurePlay$Ways" "figures" "LFigurePlay$Figures;").before ar s = true := hts _ (by decide +kernel)
  have fk26 : (Cond.fieldLink RX9 26 "FigurePlay$Ways" "path" "LFigurePlay$Path;").before ar s = true := hts _ (by decide +kernel)
  have fk30 : (Cond.fieldLink RX9 30 "FigurePlay$Ways" "step" "I").before ar s = true := hts _ (by decide +kernel)
  have fk33 : (Cond.fieldLink RX9 33 "FigurePlay$Ways" "circles" "LFigurePlay$Circles;").before ar s = true := hts _ (by decide +kernel)
  refine lv_aload_n hx hb dX9_init_0 rfl (lv_at hl 0 rfl) ?_
  refine W.objInit hx hb hown (hts (.methodLink RX9 3 objectInit) (by decide +kernel)) (hts (.instanceMethod objectInit) (by decide +kernel)) (hts (.code objectInit ⟨#[0xb1]⟩ 1 none) (by decide +kernel)) rfl (by rw [hml]; exact hl.1) rfl dX9_init_1 (Nat.le_of_ble_eq_true rfl) (Nat.le_of_ble_eq_true rfl) ?_
  refine W.eq (g2 := F0 m 4 ls []) rfl ?_
  refine lv_aload_n hx hb dX9_init_4 rfl (lv_at hl 0 rfl) ?_
  refine lv_sipush (v := (3001 : Int32)) hx hb dX9_init_5 (by decide) ?_
  refine k_newI (N := 3001) hx hb (hts (.arrayClass .int) (by decide +kernel)) hK hP hD hS hA (by decide) (by decide) (by decide) (Nat.le_of_ble_eq_true rfl) (Nat.le_of_ble_eq_true rfl) dX9_init_8 (fun q1 H hP hD hS => ?_)
  have hP : va_P D vwCl [(h0, .inr (9, [.null, .null, .int 0, .null, .null, .int 0, .int 0])), (q1, .inl (cy 0, 3001, .inl (fun _ => 0)))] H := hP
  have hD : va_D A [(h0, .inr (9, [.null, .null, .int 0, .null, .null, .int 0, .int 0])), (q1, .inl (cy 0, 3001, .inl (fun _ => 0)))] := hD
  refine va_putF (D := D) (ci := 9) (v := .ref q1) (ty := .array .int) (C := RX9) (T := TX9) (N := 7) hx hb hts huX9 tyX9 tyX9_ok nmX9 hown hK hP hD hS 0 rfl rfl 4 (by decide) fk9 (fun _ h9 => h9) rfl hnm rfl (tyX9_ok 4 (by decide)) rfl rfl (Nat.le_of_ble_eq_true rfl) dX9_init_10 (fun H locs hP hD hS => ?_)
  have hP : va_P D vwCl [(h0, .inr (9, [.null, .null, .int 0, .null, .ref q1, .int 0, .int 0])), (q1, .inl (cy 0, 3001, .inl (fun _ => 0)))] H := hP
  have hD : va_D A [(h0, .inr (9, [.null, .null, .int 0, .null, .ref q1, .int 0, .int 0])), (q1, .inl (cy 0, 3001, .inl (fun _ => 0)))] := hD
  refine lv_aload_n hx hb dX9_init_13 rfl (lv_at hl 0 rfl) ?_
  refine lv_iconst (v := (0 : Int32)) hx hb dX9_init_14 (by decide) ?_
  refine va_put (D := D) (ci := 9) (v := .int (0 : Int32)) (ty := .int) (C := RX9) (T := TX9) (N := 7) hx hb hts huX9 tyX9 tyX9_ok nmX9 hown hK hP hD hS 0 rfl rfl 5 (by decide) fk15 (fun _ h9 => h9) rfl (tyX9_ok 5 (by decide)) rfl rfl (Nat.le_of_ble_eq_true rfl) dX9_init_15 (fun H locs hP hD hS => ?_)
  have hP : va_P D vwCl [(h0, .inr (9, [.null, .null, .int 0, .null, .ref q1, .int (0 : Int32), .int 0])), (q1, .inl (cy 0, 3001, .inl (fun _ => 0)))] H := hP
  have hD : va_D A [(h0, .inr (9, [.null, .null, .int 0, .null, .ref q1, .int (0 : Int32), .int 0])), (q1, .inl (cy 0, 3001, .inl (fun _ => 0)))] := hD
  refine lv_aload_n hx hb dX9_init_18 rfl (lv_at hl 0 rfl) ?_
  refine lv_iconst (v := (-1 : Int32)) hx hb dX9_init_19 (by decide) ?_
  refine va_put (D := D) (ci := 9) (v := .int (-1 : Int32)) (ty := .int) (C := RX9) (T := TX9) (N := 7) hx hb hts huX9 tyX9 tyX9_ok nmX9 hown hK hP hD hS 0 rfl rfl 6 (by decide) fk19 (fun _ h9 => h9) rfl (tyX9_ok 6 (by decide)) rfl rfl (Nat.le_of_ble_eq_true rfl) dX9_init_20 (fun H locs hP hD hS => ?_)
  have hP : va_P D vwCl [(h0, .inr (9, [.null, .null, .int 0, .null, .ref q1, .int (0 : Int32), .int (-1 : Int32)])), (q1, .inl (cy 0, 3001, .inl (fun _ => 0)))] H := hP
  have hD : va_D A [(h0, .inr (9, [.null, .null, .int 0, .null, .ref q1, .int (0 : Int32), .int (-1 : Int32)])), (q1, .inl (cy 0, 3001, .inl (fun _ => 0)))] := hD
  refine lv_aload_n hx hb dX9_init_23 rfl (lv_at hl 0 rfl) ?_
  refine lv_aload_n hx hb dX9_init_24 rfl (lv_at hl 1 rfl) ?_
  refine va_putF (D := D) (ci := 9) (v := .ref r1) (ty := .object "FigurePlay$Figures") (C := RX9) (T := TX9) (N := 7) hx hb hts huX9 tyX9 tyX9_ok nmX9 hown hK hP hD hS 0 rfl rfl 0 (by decide) fk22 (fun _ h9 => h9) rfl hnm rfl (tyX9_ok 0 (by decide)) rfl rfl (Nat.le_of_ble_eq_true rfl) dX9_init_25 (fun H locs hP hD hS => ?_)
  have hP : va_P D vwCl [(h0, .inr (9, [.ref r1, .null, .int 0, .null, .ref q1, .int (0 : Int32), .int (-1 : Int32)])), (q1, .inl (cy 0, 3001, .inl (fun _ => 0)))] H := hP
  have hD : va_D A [(h0, .inr (9, [.ref r1, .null, .int 0, .null, .ref q1, .int (0 : Int32), .int (-1 : Int32)])), (q1, .inl (cy 0, 3001, .inl (fun _ => 0)))] := hD
  refine lv_aload_n hx hb dX9_init_28 rfl (lv_at hl 0 rfl) ?_
  refine lv_aload_n hx hb dX9_init_29 rfl (lv_at hl 2 rfl) ?_
  refine va_putF (D := D) (ci := 9) (v := .ref r2) (ty := .object "FigurePlay$Path") (C := RX9) (T := TX9) (N := 7) hx hb hts huX9 tyX9 tyX9_ok nmX9 hown hK hP hD hS 0 rfl rfl 1 (by decide) fk26 (fun _ h9 => h9) rfl hnm rfl (tyX9_ok 1 (by decide)) rfl rfl (Nat.le_of_ble_eq_true rfl) dX9_init_30 (fun H locs hP hD hS => ?_)
  have hP : va_P D vwCl [(h0, .inr (9, [.ref r1, .ref r2, .int 0, .null, .ref q1, .int (0 : Int32), .int (-1 : Int32)])), (q1, .inl (cy 0, 3001, .inl (fun _ => 0)))] H := hP
  have hD : va_D A [(h0, .inr (9, [.ref r1, .ref r2, .int 0, .null, .ref q1, .int (0 : Int32), .int (-1 : Int32)])), (q1, .inl (cy 0, 3001, .inl (fun _ => 0)))] := hD
  refine lv_aload_n hx hb dX9_init_33 rfl (lv_at hl 0 rfl) ?_
  refine lv_iload_n hx hb dX9_init_34 rfl (lv_at hl 3 rfl) ?_
  refine va_putF (D := D) (ci := 9) (v := .int a3) (ty := .int) (C := RX9) (T := TX9) (N := 7) hx hb hts huX9 tyX9 tyX9_ok nmX9 hown hK hP hD hS 0 rfl rfl 2 (by decide) fk30 (fun _ h9 => h9) rfl hnm rfl (tyX9_ok 2 (by decide)) rfl rfl (Nat.le_of_ble_eq_true rfl) dX9_init_35 (fun H locs hP hD hS => ?_)
  have hP : va_P D vwCl [(h0, .inr (9, [.ref r1, .ref r2, .int a3, .null, .ref q1, .int (0 : Int32), .int (-1 : Int32)])), (q1, .inl (cy 0, 3001, .inl (fun _ => 0)))] H := hP
  have hD : va_D A [(h0, .inr (9, [.ref r1, .ref r2, .int a3, .null, .ref q1, .int (0 : Int32), .int (-1 : Int32)])), (q1, .inl (cy 0, 3001, .inl (fun _ => 0)))] := hD
  refine lv_aload_n hx hb dX9_init_38 rfl (lv_at hl 0 rfl) ?_
  refine lv_aloadN hx hb dX9_init_39 (lv_at hl 4 rfl) ?_
  refine va_putF (D := D) (ci := 9) (v := .null) (ty := .object "FigurePlay$Circles") (C := RX9) (T := TX9) (N := 7) hx hb hts huX9 tyX9 tyX9_ok nmX9 hown hK hP hD hS 0 rfl rfl 3 (by decide) fk33 (fun _ h9 => h9) rfl hnm rfl (tyX9_ok 3 (by decide)) rfl rfl (Nat.le_of_ble_eq_true rfl) dX9_init_41 (fun H locs hP hD hS => ?_)
  have hP : va_P D vwCl [(h0, .inr (9, [.ref r1, .ref r2, .int a3, .null, .ref q1, .int (0 : Int32), .int (-1 : Int32)])), (q1, .inl (cy 0, 3001, .inl (fun _ => 0)))] H := hP
  have hD : va_D A [(h0, .inr (9, [.ref r1, .ref r2, .int a3, .null, .ref q1, .int (0 : Int32), .int (-1 : Int32)])), (q1, .inl (cy 0, 3001, .inl (fun _ => 0)))] := hD
  obtain ⟨u0, hu0⟩ : ∃ z : Nat → Nat, z = (va_up (fun _ => 0) 1 q1) := ⟨_, rfl⟩
  have hP : va_P D vwCl (gZ cy (va_up u0 0 h0) r1 r2 a3 (fun _ => 0) (0 : Int32) (-1 : Int32)) H := by rw [hu0]; exact kP_sub hP [0, 1] rfl
  have hD : va_D A (gZ cy (va_up u0 0 h0) r1 r2 a3 (fun _ => 0) (0 : Int32) (-1 : Int32)) := by rw [hu0]; exact hD.sub [0, 1] rfl rfl
  refine W.widen (k := 1) (n := 3001) (Nat.le_of_ble_eq_true rfl) (Nat.le_of_ble_eq_true rfl) ?_
  exact hQ u0 44 _ _ _ dX9_init_44 hP hD hS
def f_X11_init_B113 (F : Nat) (rec : Int32 × (Nat → Int32) → Option ((Nat → Int32))) (x : Int32 × (Nat → Int32)) : Option ((Nat → Int32)) := if (16 : Int32) ≤ x.1 then (some x.2) else (ck (¬ (x.1 < 0 ∨ 16 ≤ x.1.toNatClampNeg)) (rec ((x.1 + (1 : Int32)), (upd x.2 x.1.toNatClampNeg x.1))))
def f_X11_init (F : Nat) : Option ((Nat → Int32)) := (lp (f_X11_init_B113 F) F ((0 : Int32), (fun _ => 0))).bind (fun ex3 => some ex3)
abbrev rmX11_init : Room := { frames := 1, cells := 12, slots := 213906, locals := 14 }
set_option maxHeartbeats 1000000 in
set_option maxRecDepth 100000 in
theorem c_X11_init {l : Launch} {D : va_G} {cy : Nat → ClassId} {h0 : Nat} {F : Nat} {res : (Nat → Int32)} (hf : f_X11_init F = some res) : kM l yX11_init wsX11_init rmX11_init D cy [.ref h0] [(h0, .inr (11, [.int 0, .null, .int 0, .null, .int 0, .int 0, .int 0, .null, .int 0, .null, .null, .null, .null, .null, .int 0, .int 0, .int 0, .int 0, .null, .int 0, .null, .int 0, .null, .null]))] (kQv D cy (fun u : Nat → Nat => gM cy (va_up u 0 h0) (10 : Int32) res 0 (fun _ => 0) 0 0 0 (fun _ => 0) 0 (fun _ => 0) (fun _ => 0) (fun _ => 0) (fun _ => 0) (fun _ => 0) 0 0 0 0 (fun _ => 0) 0 (fun _ => 0) 0 (fun _ => 0) (fun _ => 0))) := by
  refine kent_v (cc := cX11_init) (maxL := 2) (by decide) rfl (Nat.le_of_ble_eq_true rfl) ?_
  intro p e0 s m ar below meth c A Q ls ⟨hx, hb, hml, hr, hts, hown, hlocks, hnm⟩ hA hK hN hQ hP hD hS hl
  have hl : lv_has ls 2 [(0, .ref h0)] := hl
  have hown : s.vm.findClass RX11 = some m.cls := hown
  have huX11 : ∀ x ∈ u_ws RX11 TX11 24, x ∈ wsX11_init := by decide +kernel
  have fk7 : (Cond.fieldLink RX11 7 "FigurePlayModel" "base" "I").before ar s = true := hts _ (by decide +kernel)
  have fk13 : (Cond.fieldLink RX11 13 "FigurePlayModel" "f" "[I").before ar s = true := hts _ (by decide +kernel)
  have fk17 : (Cond.fieldLink RX11 17 "FigurePlayModel" "figures" "[I").before ar s = true := hts _ (by decide +kernel)
  have fk20 : (Cond.fieldLink RX11 20 "FigurePlayModel" "leasts" "[J").before ar s = true := hts _ (by decide +kernel)
  have fk24 : (Cond.fieldLink RX11 24 "FigurePlayModel" "like" "[I").before ar s = true := hts _ (by decide +kernel)
  have fk27 : (Cond.fieldLink RX11 27 "FigurePlayModel" "isTwo" "[Z").before ar s = true := hts _ (by decide +kernel)
  have fk31 : (Cond.constant RX11 31 (51200)).before ar s = true := hts _ (by decide +kernel)
  have fk32 : (Cond.fieldLink RX11 32 "FigurePlayModel" "came" "[I").before ar s = true := hts _ (by decide +kernel)
  have fk35 : (Cond.fieldLink RX11 35 "FigurePlayModel" "by" "[I").before ar s = true := hts _ (by decide +kernel)
  have fk38 : (Cond.fieldLink RX11 38 "FigurePlayModel" "queue" "[I").before ar s = true := hts _ (by decide +kernel)
  have fk41 : (Cond.fieldLink RX11 41 "FigurePlayModel" "bitOf" "[I").before ar s = true := hts _ (by decide +kernel)
  have fk44 : (Cond.fieldLink RX11 44 "FigurePlayModel" "row" "[I").before ar s = true := hts _ (by decide +kernel)
  have fk47 : (Cond.fieldLink RX11 47 "FigurePlayModel" "narrow" "[J").before ar s = true := hts _ (by decide +kernel)
  have fk50 : (Cond.fieldLink RX11 50 "FigurePlayModel" "isMade" "[Z").before ar s = true := hts _ (by decide +kernel)
  unfold f_X11_init at hf
  refine lv_aload_n hx hb dX11_init_0 rfl (lv_at hl 0 rfl) ?_
  refine W.objInit hx hb hown (hts (.methodLink RX11 1 objectInit) (by decide +kernel)) (hts (.instanceMethod objectInit) (by decide +kernel)) (hts (.code objectInit ⟨#[0xb1]⟩ 1 none) (by decide +kernel)) rfl (by rw [hml]; exact hl.1) rfl dX11_init_1 (Nat.le_of_ble_eq_true rfl) (Nat.le_of_ble_eq_true rfl) ?_
  refine W.eq (g2 := F0 m 4 ls []) rfl ?_
  refine lv_aload_n hx hb dX11_init_4 rfl (lv_at hl 0 rfl) ?_
  refine lv_bipush (v := (10 : Int32)) hx hb dX11_init_5 (by decide) ?_
  refine va_put (D := D) (ci := 11) (v := .int (10 : Int32)) (ty := .int) (C := RX11) (T := TX11) (N := 24) hx hb hts huX11 tyX11 tyX11_ok nmX11 hown hK hP hD hS 0 rfl rfl 0 (by decide) fk7 (fun _ h9 => h9) rfl (tyX11_ok 0 (by decide)) rfl rfl (Nat.le_of_ble_eq_true rfl) dX11_init_7 (fun H locs hP hD hS => ?_)
  have hP : va_P D vwCl [(h0, .inr (11, [.int (10 : Int32), .null, .int 0, .null, .int 0, .int 0, .int 0, .null, .int 0, .null, .null, .null, .null, .null, .int 0, .int 0, .int 0, .int 0, .null, .int 0, .null, .int 0, .null, .null]))] H := hP
  have hD : va_D A [(h0, .inr (11, [.int (10 : Int32), .null, .int 0, .null, .int 0, .int 0, .int 0, .null, .int 0, .null, .null, .null, .null, .null, .int 0, .int 0, .int 0, .int 0, .null, .int 0, .null, .int 0, .null, .null]))] := hD
  refine lv_aload_n hx hb dX11_init_10 rfl (lv_at hl 0 rfl) ?_
  refine lv_bipush (v := (16 : Int32)) hx hb dX11_init_11 (by decide) ?_
  refine k_newI (N := 16) hx hb (hts (.arrayClass .int) (by decide +kernel)) hK hP hD hS hA (by decide) (by decide) (by decide) (Nat.le_of_ble_eq_true rfl) (Nat.le_of_ble_eq_true rfl) dX11_init_13 (fun q1 H hP hD hS => ?_)
  have hP : va_P D vwCl [(h0, .inr (11, [.int (10 : Int32), .null, .int 0, .null, .int 0, .int 0, .int 0, .null, .int 0, .null, .null, .null, .null, .null, .int 0, .int 0, .int 0, .int 0, .null, .int 0, .null, .int 0, .null, .null])), (q1, .inl (cy 0, 16, .inl (fun _ => 0)))] H := hP
  have hD : va_D A [(h0, .inr (11, [.int (10 : Int32), .null, .int 0, .null, .int 0, .int 0, .int 0, .null, .int 0, .null, .null, .null, .null, .null, .int 0, .int 0, .int 0, .int 0, .null, .int 0, .null, .int 0, .null, .null])), (q1, .inl (cy 0, 16, .inl (fun _ => 0)))] := hD
  refine va_putF (D := D) (ci := 11) (v := .ref q1) (ty := .array .int) (C := RX11) (T := TX11) (N := 24) hx hb hts huX11 tyX11 tyX11_ok nmX11 hown hK hP hD hS 0 rfl rfl 1 (by decide) fk13 (fun _ h9 => h9) rfl hnm rfl (tyX11_ok 1 (by decide)) rfl rfl (Nat.le_of_ble_eq_true rfl) dX11_init_15 (fun H locs hP hD hS => ?_)
  have hP : va_P D vwCl [(h0, .inr (11, [.int (10 : Int32), .ref q1, .int 0, .null, .int 0, .int 0, .int 0, .null, .int 0, .null, .null, .null, .null, .null, .int 0, .int 0, .int 0, .int 0, .null, .int 0, .null, .int 0, .null, .null])), (q1, .inl (cy 0, 16, .inl (fun _ => 0)))] H := hP
  have hD : va_D A [(h0, .inr (11, [.int (10 : Int32), .ref q1, .int 0, .null, .int 0, .int 0, .int 0, .null, .int 0, .null, .null, .null, .null, .null, .int 0, .int 0, .int 0, .int 0, .null, .int 0, .null, .int 0, .null, .null])), (q1, .inl (cy 0, 16, .inl (fun _ => 0)))] := hD
  refine lv_aload_n hx hb dX11_init_18 rfl (lv_at hl 0 rfl) ?_
  refine lv_bipush (v := (64 : Int32)) hx hb dX11_init_19 (by decide) ?_
  refine k_newI (N := 64) hx hb (hts (.arrayClass .int) (by decide +kernel)) hK hP hD hS hA (by decide) (by decide) (by decide) (Nat.le_of_ble_eq_true rfl) (Nat.le_of_ble_eq_true rfl) dX11_init_21 (fun q2 H hP hD hS => ?_)
  have hP : va_P D vwCl [(h0, .inr (11, [.int (10 : Int32), .ref q1, .int 0, .null, .int 0, .int 0, .int 0, .null, .int 0, .null, .null, .null, .null, .null, .int 0, .int 0, .int 0, .int 0, .null, .int 0, .null, .int 0, .null, .null])), (q1, .inl (cy 0, 16, .inl (fun _ => 0))), (q2, .inl (cy 0, 64, .inl (fun _ => 0)))] H := hP
  have hD : va_D A [(h0, .inr (11, [.int (10 : Int32), .ref q1, .int 0, .null, .int 0, .int 0, .int 0, .null, .int 0, .null, .null, .null, .null, .null, .int 0, .int 0, .int 0, .int 0, .null, .int 0, .null, .int 0, .null, .null])), (q1, .inl (cy 0, 16, .inl (fun _ => 0))), (q2, .inl (cy 0, 64, .inl (fun _ => 0)))] := hD
  refine va_putF (D := D) (ci := 11) (v := .ref q2) (ty := .array .int) (C := RX11) (T := TX11) (N := 24) hx hb hts huX11 tyX11 tyX11_ok nmX11 hown hK hP hD hS 0 rfl rfl 3 (by decide) fk17 (fun _ h9 => h9) rfl hnm rfl (tyX11_ok 3 (by decide)) rfl rfl (Nat.le_of_ble_eq_true rfl) dX11_init_23 (fun H locs hP hD hS => ?_)
  have hP : va_P D vwCl [(h0, .inr (11, [.int (10 : Int32), .ref q1, .int 0, .ref q2, .int 0, .int 0, .int 0, .null, .int 0, .null, .null, .null, .null, .null, .int 0, .int 0, .int 0, .int 0, .null, .int 0, .null, .int 0, .null, .null])), (q1, .inl (cy 0, 16, .inl (fun _ => 0))), (q2, .inl (cy 0, 64, .inl (fun _ => 0)))] H := hP
  have hD : va_D A [(h0, .inr (11, [.int (10 : Int32), .ref q1, .int 0, .ref q2, .int 0, .int 0, .int 0, .null, .int 0, .null, .null, .null, .null, .null, .int 0, .int 0, .int 0, .int 0, .null, .int 0, .null, .int 0, .null, .null])), (q1, .inl (cy 0, 16, .inl (fun _ => 0))), (q2, .inl (cy 0, 64, .inl (fun _ => 0)))] := hD
  refine lv_aload_n hx hb dX11_init_26 rfl (lv_at hl 0 rfl) ?_
  refine lv_sipush (v := (20001 : Int32)) hx hb dX11_init_27 (by decide) ?_
  refine k_newJ (N := 20001) hx hb (hts (.arrayClass .long) (by decide +kernel)) hK hP hD hS hA (by decide) (by decide) (by decide) (Nat.le_of_ble_eq_true rfl) (Nat.le_of_ble_eq_true rfl) dX11_init_30 (fun q3 H hP hD hS => ?_)
  have hP : va_P D vwCl [(h0, .inr (11, [.int (10 : Int32), .ref q1, .int 0, .ref q2, .int 0, .int 0, .int 0, .null, .int 0, .null, .null, .null, .null, .null, .int 0, .int 0, .int 0, .int 0, .null, .int 0, .null, .int 0, .null, .null])), (q1, .inl (cy 0, 16, .inl (fun _ => 0))), (q2, .inl (cy 0, 64, .inl (fun _ => 0))), (q3, .inl (cy 1, 20001, .inr (.inl (fun _ => 0))))] H := hP
  have hD : va_D A [(h0, .inr (11, [.int (10 : Int32), .ref q1, .int 0, .ref q2, .int 0, .int 0, .int 0, .null, .int 0, .null, .null, .null, .null, .null, .int 0, .int 0, .int 0, .int 0, .null, .int 0, .null, .int 0, .null, .null])), (q1, .inl (cy 0, 16, .inl (fun _ => 0))), (q2, .inl (cy 0, 64, .inl (fun _ => 0))), (q3, .inl (cy 1, 20001, .inr (.inl (fun _ => 0))))] := hD
  refine va_putF (D := D) (ci := 11) (v := .ref q3) (ty := .array .long) (C := RX11) (T := TX11) (N := 24) hx hb hts huX11 tyX11 tyX11_ok nmX11 hown hK hP hD hS 0 rfl rfl 7 (by decide) fk20 (fun _ h9 => h9) rfl hnm rfl (tyX11_ok 7 (by decide)) rfl rfl (Nat.le_of_ble_eq_true rfl) dX11_init_32 (fun H locs hP hD hS => ?_)
  have hP : va_P D vwCl [(h0, .inr (11, [.int (10 : Int32), .ref q1, .int 0, .ref q2, .int 0, .int 0, .int 0, .ref q3, .int 0, .null, .null, .null, .null, .null, .int 0, .int 0, .int 0, .int 0, .null, .int 0, .null, .int 0, .null, .null])), (q1, .inl (cy 0, 16, .inl (fun _ => 0))), (q2, .inl (cy 0, 64, .inl (fun _ => 0))), (q3, .inl (cy 1, 20001, .inr (.inl (fun _ => 0))))] H := hP
  have hD : va_D A [(h0, .inr (11, [.int (10 : Int32), .ref q1, .int 0, .ref q2, .int 0, .int 0, .int 0, .ref q3, .int 0, .null, .null, .null, .null, .null, .int 0, .int 0, .int 0, .int 0, .null, .int 0, .null, .int 0, .null, .null])), (q1, .inl (cy 0, 16, .inl (fun _ => 0))), (q2, .inl (cy 0, 64, .inl (fun _ => 0))), (q3, .inl (cy 1, 20001, .inr (.inl (fun _ => 0))))] := hD
  refine lv_aload_n hx hb dX11_init_35 rfl (lv_at hl 0 rfl) ?_
  refine lv_sipush (v := (10001 : Int32)) hx hb dX11_init_36 (by decide) ?_
  refine k_newI (N := 10001) hx hb (hts (.arrayClass .int) (by decide +kernel)) hK hP hD hS hA (by decide) (by decide) (by decide) (Nat.le_of_ble_eq_true rfl) (Nat.le_of_ble_eq_true rfl) dX11_init_39 (fun q4 H hP hD hS => ?_)
  have hP : va_P D vwCl [(h0, .inr (11, [.int (10 : Int32), .ref q1, .int 0, .ref q2, .int 0, .int 0, .int 0, .ref q3, .int 0, .null, .null, .null, .null, .null, .int 0, .int 0, .int 0, .int 0, .null, .int 0, .null, .int 0, .null, .null])), (q1, .inl (cy 0, 16, .inl (fun _ => 0))), (q2, .inl (cy 0, 64, .inl (fun _ => 0))), (q3, .inl (cy 1, 20001, .inr (.inl (fun _ => 0)))), (q4, .inl (cy 0, 10001, .inl (fun _ => 0)))] H := hP
  have hD : va_D A [(h0, .inr (11, [.int (10 : Int32), .ref q1, .int 0, .ref q2, .int 0, .int 0, .int 0, .ref q3, .int 0, .null, .null, .null, .null, .null, .int 0, .int 0, .int 0, .int 0, .null, .int 0, .null, .int 0, .null, .null])), (q1, .inl (cy 0, 16, .inl (fun _ => 0))), (q2, .inl (cy 0, 64, .inl (fun _ => 0))), (q3, .inl (cy 1, 20001, .inr (.inl (fun _ => 0)))), (q4, .inl (cy 0, 10001, .inl (fun _ => 0)))] := hD
  refine va_putF (D := D) (ci := 11) (v := .ref q4) (ty := .array .int) (C := RX11) (T := TX11) (N := 24) hx hb hts huX11 tyX11 tyX11_ok nmX11 hown hK hP hD hS 0 rfl rfl 9 (by decide) fk24 (fun _ h9 => h9) rfl hnm rfl (tyX11_ok 9 (by decide)) rfl rfl (Nat.le_of_ble_eq_true rfl) dX11_init_41 (fun H locs hP hD hS => ?_)
  have hP : va_P D vwCl [(h0, .inr (11, [.int (10 : Int32), .ref q1, .int 0, .ref q2, .int 0, .int 0, .int 0, .ref q3, .int 0, .ref q4, .null, .null, .null, .null, .int 0, .int 0, .int 0, .int 0, .null, .int 0, .null, .int 0, .null, .null])), (q1, .inl (cy 0, 16, .inl (fun _ => 0))), (q2, .inl (cy 0, 64, .inl (fun _ => 0))), (q3, .inl (cy 1, 20001, .inr (.inl (fun _ => 0)))), (q4, .inl (cy 0, 10001, .inl (fun _ => 0)))] H := hP
  have hD : va_D A [(h0, .inr (11, [.int (10 : Int32), .ref q1, .int 0, .ref q2, .int 0, .int 0, .int 0, .ref q3, .int 0, .ref q4, .null, .null, .null, .null, .int 0, .int 0, .int 0, .int 0, .null, .int 0, .null, .int 0, .null, .null])), (q1, .inl (cy 0, 16, .inl (fun _ => 0))), (q2, .inl (cy 0, 64, .inl (fun _ => 0))), (q3, .inl (cy 1, 20001, .inr (.inl (fun _ => 0)))), (q4, .inl (cy 0, 10001, .inl (fun _ => 0)))] := hD
  refine lv_aload_n hx hb dX11_init_44 rfl (lv_at hl 0 rfl) ?_
  refine lv_sipush (v := (10001 : Int32)) hx hb dX11_init_45 (by decide) ?_
  refine k_newZ (N := 10001) hx hb (hts (.arrayClass .boolean) (by decide +kernel)) hK hP hD hS hA (by decide) (by decide) (by decide) (Nat.le_of_ble_eq_true rfl) (Nat.le_of_ble_eq_true rfl) dX11_init_48 (fun q5 H hP hD hS => ?_)
  have hP : va_P D vwCl [(h0, .inr (11, [.int (10 : Int32), .ref q1, .int 0, .ref q2, .int 0, .int 0, .int 0, .ref q3, .int 0, .ref q4, .null, .null, .null, .null, .int 0, .int 0, .int 0, .int 0, .null, .int 0, .null, .int 0, .null, .null])), (q1, .inl (cy 0, 16, .inl (fun _ => 0))), (q2, .inl (cy 0, 64, .inl (fun _ => 0))), (q3, .inl (cy 1, 20001, .inr (.inl (fun _ => 0)))), (q4, .inl (cy 0, 10001, .inl (fun _ => 0))), (q5, .inl (cy 2, 10001, .inl (fun _ => 0)))] H := hP
  have hD : va_D A [(h0, .inr (11, [.int (10 : Int32), .ref q1, .int 0, .ref q2, .int 0, .int 0, .int 0, .ref q3, .int 0, .ref q4, .null, .null, .null, .null, .int 0, .int 0, .int 0, .int 0, .null, .int 0, .null, .int 0, .null, .null])), (q1, .inl (cy 0, 16, .inl (fun _ => 0))), (q2, .inl (cy 0, 64, .inl (fun _ => 0))), (q3, .inl (cy 1, 20001, .inr (.inl (fun _ => 0)))), (q4, .inl (cy 0, 10001, .inl (fun _ => 0))), (q5, .inl (cy 2, 10001, .inl (fun _ => 0)))] := hD
  refine va_putF (D := D) (ci := 11) (v := .ref q5) (ty := .array .boolean) (C := RX11) (T := TX11) (N := 24) hx hb hts huX11 tyX11 tyX11_ok nmX11 hown hK hP hD hS 0 rfl rfl 10 (by decide) fk27 (fun _ h9 => h9) rfl hnm rfl (tyX11_ok 10 (by decide)) rfl rfl (Nat.le_of_ble_eq_true rfl) dX11_init_50 (fun H locs hP hD hS => ?_)
  have hP : va_P D vwCl [(h0, .inr (11, [.int (10 : Int32), .ref q1, .int 0, .ref q2, .int 0, .int 0, .int 0, .ref q3, .int 0, .ref q4, .ref q5, .null, .null, .null, .int 0, .int 0, .int 0, .int 0, .null, .int 0, .null, .int 0, .null, .null])), (q1, .inl (cy 0, 16, .inl (fun _ => 0))), (q2, .inl (cy 0, 64, .inl (fun _ => 0))), (q3, .inl (cy 1, 20001, .inr (.inl (fun _ => 0)))), (q4, .inl (cy 0, 10001, .inl (fun _ => 0))), (q5, .inl (cy 2, 10001, .inl (fun _ => 0)))] H := hP
  have hD : va_D A [(h0, .inr (11, [.int (10 : Int32), .ref q1, .int 0, .ref q2, .int 0, .int 0, .int 0, .ref q3, .int 0, .ref q4, .ref q5, .null, .null, .null, .int 0, .int 0, .int 0, .int 0, .null, .int 0, .null, .int 0, .null, .null])), (q1, .inl (cy 0, 16, .inl (fun _ => 0))), (q2, .inl (cy 0, 64, .inl (fun _ => 0))), (q3, .inl (cy 1, 20001, .inr (.inl (fun _ => 0)))), (q4, .inl (cy 0, 10001, .inl (fun _ => 0))), (q5, .inl (cy 2, 10001, .inl (fun _ => 0)))] := hD
  refine lv_aload_n hx hb dX11_init_53 rfl (lv_at hl 0 rfl) ?_
  refine lv_ldc (v := (51200 : Int32)) hx hb hown fk31 dX11_init_54 ?_
  refine k_newI (N := 51200) hx hb (hts (.arrayClass .int) (by decide +kernel)) hK hP hD hS hA (by decide) (by decide) (by decide) (Nat.le_of_ble_eq_true rfl) (Nat.le_of_ble_eq_true rfl) dX11_init_56 (fun q6 H hP hD hS => ?_)
  have hP : va_P D vwCl [(h0, .inr (11, [.int (10 : Int32), .ref q1, .int 0, .ref q2, .int 0, .int 0, .int 0, .ref q3, .int 0, .ref q4, .ref q5, .null, .null, .null, .int 0, .int 0, .int 0, .int 0, .null, .int 0, .null, .int 0, .null, .null])), (q1, .inl (cy 0, 16, .inl (fun _ => 0))), (q2, .inl (cy 0, 64, .inl (fun _ => 0))), (q3, .inl (cy 1, 20001, .inr (.inl (fun _ => 0)))), (q4, .inl (cy 0, 10001, .inl (fun _ => 0))), (q5, .inl (cy 2, 10001, .inl (fun _ => 0))), (q6, .inl (cy 0, 51200, .inl (fun _ => 0)))] H := hP
  have hD : va_D A [(h0, .inr (11, [.int (10 : Int32), .ref q1, .int 0, .ref q2, .int 0, .int 0, .int 0, .ref q3, .int 0, .ref q4, .ref q5, .null, .null, .null, .int 0, .int 0, .int 0, .int 0, .null, .int 0, .null, .int 0, .null, .null])), (q1, .inl (cy 0, 16, .inl (fun _ => 0))), (q2, .inl (cy 0, 64, .inl (fun _ => 0))), (q3, .inl (cy 1, 20001, .inr (.inl (fun _ => 0)))), (q4, .inl (cy 0, 10001, .inl (fun _ => 0))), (q5, .inl (cy 2, 10001, .inl (fun _ => 0))), (q6, .inl (cy 0, 51200, .inl (fun _ => 0)))] := hD
  refine va_putF (D := D) (ci := 11) (v := .ref q6) (ty := .array .int) (C := RX11) (T := TX11) (N := 24) hx hb hts huX11 tyX11 tyX11_ok nmX11 hown hK hP hD hS 0 rfl rfl 11 (by decide) fk32 (fun _ h9 => h9) rfl hnm rfl (tyX11_ok 11 (by decide)) rfl rfl (Nat.le_of_ble_eq_true rfl) dX11_init_58 (fun H locs hP hD hS => ?_)
  have hP : va_P D vwCl [(h0, .inr (11, [.int (10 : Int32), .ref q1, .int 0, .ref q2, .int 0, .int 0, .int 0, .ref q3, .int 0, .ref q4, .ref q5, .ref q6, .null, .null, .int 0, .int 0, .int 0, .int 0, .null, .int 0, .null, .int 0, .null, .null])), (q1, .inl (cy 0, 16, .inl (fun _ => 0))), (q2, .inl (cy 0, 64, .inl (fun _ => 0))), (q3, .inl (cy 1, 20001, .inr (.inl (fun _ => 0)))), (q4, .inl (cy 0, 10001, .inl (fun _ => 0))), (q5, .inl (cy 2, 10001, .inl (fun _ => 0))), (q6, .inl (cy 0, 51200, .inl (fun _ => 0)))] H := hP
  have hD : va_D A [(h0, .inr (11, [.int (10 : Int32), .ref q1, .int 0, .ref q2, .int 0, .int 0, .int 0, .ref q3, .int 0, .ref q4, .ref q5, .ref q6, .null, .null, .int 0, .int 0, .int 0, .int 0, .null, .int 0, .null, .int 0, .null, .null])), (q1, .inl (cy 0, 16, .inl (fun _ => 0))), (q2, .inl (cy 0, 64, .inl (fun _ => 0))), (q3, .inl (cy 1, 20001, .inr (.inl (fun _ => 0)))), (q4, .inl (cy 0, 10001, .inl (fun _ => 0))), (q5, .inl (cy 2, 10001, .inl (fun _ => 0))), (q6, .inl (cy 0, 51200, .inl (fun _ => 0)))] := hD
  refine lv_aload_n hx hb dX11_init_61 rfl (lv_at hl 0 rfl) ?_
  refine lv_ldc (v := (51200 : Int32)) hx hb hown fk31 dX11_init_62 ?_
  refine k_newI (N := 51200) hx hb (hts (.arrayClass .int) (by decide +kernel)) hK hP hD hS hA (by decide) (by decide) (by decide) (Nat.le_of_ble_eq_true rfl) (Nat.le_of_ble_eq_true rfl) dX11_init_64 (fun q7 H hP hD hS => ?_)
  have hP : va_P D vwCl [(h0, .inr (11, [.int (10 : Int32), .ref q1, .int 0, .ref q2, .int 0, .int 0, .int 0, .ref q3, .int 0, .ref q4, .ref q5, .ref q6, .null, .null, .int 0, .int 0, .int 0, .int 0, .null, .int 0, .null, .int 0, .null, .null])), (q1, .inl (cy 0, 16, .inl (fun _ => 0))), (q2, .inl (cy 0, 64, .inl (fun _ => 0))), (q3, .inl (cy 1, 20001, .inr (.inl (fun _ => 0)))), (q4, .inl (cy 0, 10001, .inl (fun _ => 0))), (q5, .inl (cy 2, 10001, .inl (fun _ => 0))), (q6, .inl (cy 0, 51200, .inl (fun _ => 0))), (q7, .inl (cy 0, 51200, .inl (fun _ => 0)))] H := hP
  have hD : va_D A [(h0, .inr (11, [.int (10 : Int32), .ref q1, .int 0, .ref q2, .int 0, .int 0, .int 0, .ref q3, .int 0, .ref q4, .ref q5, .ref q6, .null, .null, .int 0, .int 0, .int 0, .int 0, .null, .int 0, .null, .int 0, .null, .null])), (q1, .inl (cy 0, 16, .inl (fun _ => 0))), (q2, .inl (cy 0, 64, .inl (fun _ => 0))), (q3, .inl (cy 1, 20001, .inr (.inl (fun _ => 0)))), (q4, .inl (cy 0, 10001, .inl (fun _ => 0))), (q5, .inl (cy 2, 10001, .inl (fun _ => 0))), (q6, .inl (cy 0, 51200, .inl (fun _ => 0))), (q7, .inl (cy 0, 51200, .inl (fun _ => 0)))] := hD
  refine va_putF (D := D) (ci := 11) (v := .ref q7) (ty := .array .int) (C := RX11) (T := TX11) (N := 24) hx hb hts huX11 tyX11 tyX11_ok nmX11 hown hK hP hD hS 0 rfl rfl 12 (by decide) fk35 (fun _ h9 => h9) rfl hnm rfl (tyX11_ok 12 (by decide)) rfl rfl (Nat.le_of_ble_eq_true rfl) dX11_init_66 (fun H locs hP hD hS => ?_)
  have hP : va_P D vwCl [(h0, .inr (11, [.int (10 : Int32), .ref q1, .int 0, .ref q2, .int 0, .int 0, .int 0, .ref q3, .int 0, .ref q4, .ref q5, .ref q6, .ref q7, .null, .int 0, .int 0, .int 0, .int 0, .null, .int 0, .null, .int 0, .null, .null])), (q1, .inl (cy 0, 16, .inl (fun _ => 0))), (q2, .inl (cy 0, 64, .inl (fun _ => 0))), (q3, .inl (cy 1, 20001, .inr (.inl (fun _ => 0)))), (q4, .inl (cy 0, 10001, .inl (fun _ => 0))), (q5, .inl (cy 2, 10001, .inl (fun _ => 0))), (q6, .inl (cy 0, 51200, .inl (fun _ => 0))), (q7, .inl (cy 0, 51200, .inl (fun _ => 0)))] H := hP
  have hD : va_D A [(h0, .inr (11, [.int (10 : Int32), .ref q1, .int 0, .ref q2, .int 0, .int 0, .int 0, .ref q3, .int 0, .ref q4, .ref q5, .ref q6, .ref q7, .null, .int 0, .int 0, .int 0, .int 0, .null, .int 0, .null, .int 0, .null, .null])), (q1, .inl (cy 0, 16, .inl (fun _ => 0))), (q2, .inl (cy 0, 64, .inl (fun _ => 0))), (q3, .inl (cy 1, 20001, .inr (.inl (fun _ => 0)))), (q4, .inl (cy 0, 10001, .inl (fun _ => 0))), (q5, .inl (cy 2, 10001, .inl (fun _ => 0))), (q6, .inl (cy 0, 51200, .inl (fun _ => 0))), (q7, .inl (cy 0, 51200, .inl (fun _ => 0)))] := hD
  refine lv_aload_n hx hb dX11_init_69 rfl (lv_at hl 0 rfl) ?_
  refine lv_ldc (v := (51200 : Int32)) hx hb hown fk31 dX11_init_70 ?_
  refine k_newI (N := 51200) hx hb (hts (.arrayClass .int) (by decide +kernel)) hK hP hD hS hA (by decide) (by decide) (by decide) (Nat.le_of_ble_eq_true rfl) (Nat.le_of_ble_eq_true rfl) dX11_init_72 (fun q8 H hP hD hS => ?_)
  have hP : va_P D vwCl [(h0, .inr (11, [.int (10 : Int32), .ref q1, .int 0, .ref q2, .int 0, .int 0, .int 0, .ref q3, .int 0, .ref q4, .ref q5, .ref q6, .ref q7, .null, .int 0, .int 0, .int 0, .int 0, .null, .int 0, .null, .int 0, .null, .null])), (q1, .inl (cy 0, 16, .inl (fun _ => 0))), (q2, .inl (cy 0, 64, .inl (fun _ => 0))), (q3, .inl (cy 1, 20001, .inr (.inl (fun _ => 0)))), (q4, .inl (cy 0, 10001, .inl (fun _ => 0))), (q5, .inl (cy 2, 10001, .inl (fun _ => 0))), (q6, .inl (cy 0, 51200, .inl (fun _ => 0))), (q7, .inl (cy 0, 51200, .inl (fun _ => 0))), (q8, .inl (cy 0, 51200, .inl (fun _ => 0)))] H := hP
  have hD : va_D A [(h0, .inr (11, [.int (10 : Int32), .ref q1, .int 0, .ref q2, .int 0, .int 0, .int 0, .ref q3, .int 0, .ref q4, .ref q5, .ref q6, .ref q7, .null, .int 0, .int 0, .int 0, .int 0, .null, .int 0, .null, .int 0, .null, .null])), (q1, .inl (cy 0, 16, .inl (fun _ => 0))), (q2, .inl (cy 0, 64, .inl (fun _ => 0))), (q3, .inl (cy 1, 20001, .inr (.inl (fun _ => 0)))), (q4, .inl (cy 0, 10001, .inl (fun _ => 0))), (q5, .inl (cy 2, 10001, .inl (fun _ => 0))), (q6, .inl (cy 0, 51200, .inl (fun _ => 0))), (q7, .inl (cy 0, 51200, .inl (fun _ => 0))), (q8, .inl (cy 0, 51200, .inl (fun _ => 0)))] := hD
  refine va_putF (D := D) (ci := 11) (v := .ref q8) (ty := .array .int) (C := RX11) (T := TX11) (N := 24) hx hb hts huX11 tyX11 tyX11_ok nmX11 hown hK hP hD hS 0 rfl rfl 13 (by decide) fk38 (fun _ h9 => h9) rfl hnm rfl (tyX11_ok 13 (by decide)) rfl rfl (Nat.le_of_ble_eq_true rfl) dX11_init_74 (fun H locs hP hD hS => ?_)
  have hP : va_P D vwCl [(h0, .inr (11, [.int (10 : Int32), .ref q1, .int 0, .ref q2, .int 0, .int 0, .int 0, .ref q3, .int 0, .ref q4, .ref q5, .ref q6, .ref q7, .ref q8, .int 0, .int 0, .int 0, .int 0, .null, .int 0, .null, .int 0, .null, .null])), (q1, .inl (cy 0, 16, .inl (fun _ => 0))), (q2, .inl (cy 0, 64, .inl (fun _ => 0))), (q3, .inl (cy 1, 20001, .inr (.inl (fun _ => 0)))), (q4, .inl (cy 0, 10001, .inl (fun _ => 0))), (q5, .inl (cy 2, 10001, .inl (fun _ => 0))), (q6, .inl (cy 0, 51200, .inl (fun _ => 0))), (q7, .inl (cy 0, 51200, .inl (fun _ => 0))), (q8, .inl (cy 0, 51200, .inl (fun _ => 0)))] H := hP
  have hD : va_D A [(h0, .inr (11, [.int (10 : Int32), .ref q1, .int 0, .ref q2, .int 0, .int 0, .int 0, .ref q3, .int 0, .ref q4, .ref q5, .ref q6, .ref q7, .ref q8, .int 0, .int 0, .int 0, .int 0, .null, .int 0, .null, .int 0, .null, .null])), (q1, .inl (cy 0, 16, .inl (fun _ => 0))), (q2, .inl (cy 0, 64, .inl (fun _ => 0))), (q3, .inl (cy 1, 20001, .inr (.inl (fun _ => 0)))), (q4, .inl (cy 0, 10001, .inl (fun _ => 0))), (q5, .inl (cy 2, 10001, .inl (fun _ => 0))), (q6, .inl (cy 0, 51200, .inl (fun _ => 0))), (q7, .inl (cy 0, 51200, .inl (fun _ => 0))), (q8, .inl (cy 0, 51200, .inl (fun _ => 0)))] := hD
  refine lv_aload_n hx hb dX11_init_77 rfl (lv_at hl 0 rfl) ?_
  refine lv_bipush (v := (16 : Int32)) hx hb dX11_init_78 (by decide) ?_
  refine k_newI (N := 16) hx hb (hts (.arrayClass .int) (by decide +kernel)) hK hP hD hS hA (by decide) (by decide) (by decide) (Nat.le_of_ble_eq_true rfl) (Nat.le_of_ble_eq_true rfl) dX11_init_80 (fun q9 H hP hD hS => ?_)
  have hP : va_P D vwCl [(h0, .inr (11, [.int (10 : Int32), .ref q1, .int 0, .ref q2, .int 0, .int 0, .int 0, .ref q3, .int 0, .ref q4, .ref q5, .ref q6, .ref q7, .ref q8, .int 0, .int 0, .int 0, .int 0, .null, .int 0, .null, .int 0, .null, .null])), (q1, .inl (cy 0, 16, .inl (fun _ => 0))), (q2, .inl (cy 0, 64, .inl (fun _ => 0))), (q3, .inl (cy 1, 20001, .inr (.inl (fun _ => 0)))), (q4, .inl (cy 0, 10001, .inl (fun _ => 0))), (q5, .inl (cy 2, 10001, .inl (fun _ => 0))), (q6, .inl (cy 0, 51200, .inl (fun _ => 0))), (q7, .inl (cy 0, 51200, .inl (fun _ => 0))), (q8, .inl (cy 0, 51200, .inl (fun _ => 0))), (q9, .inl (cy 0, 16, .inl (fun _ => 0)))] H := hP
  have hD : va_D A [(h0, .inr (11, [.int (10 : Int32), .ref q1, .int 0, .ref q2, .int 0, .int 0, .int 0, .ref q3, .int 0, .ref q4, .ref q5, .ref q6, .ref q7, .ref q8, .int 0, .int 0, .int 0, .int 0, .null, .int 0, .null, .int 0, .null, .null])), (q1, .inl (cy 0, 16, .inl (fun _ => 0))), (q2, .inl (cy 0, 64, .inl (fun _ => 0))), (q3, .inl (cy 1, 20001, .inr (.inl (fun _ => 0)))), (q4, .inl (cy 0, 10001, .inl (fun _ => 0))), (q5, .inl (cy 2, 10001, .inl (fun _ => 0))), (q6, .inl (cy 0, 51200, .inl (fun _ => 0))), (q7, .inl (cy 0, 51200, .inl (fun _ => 0))), (q8, .inl (cy 0, 51200, .inl (fun _ => 0))), (q9, .inl (cy 0, 16, .inl (fun _ => 0)))] := hD
  refine va_putF (D := D) (ci := 11) (v := .ref q9) (ty := .array .int) (C := RX11) (T := TX11) (N := 24) hx hb hts huX11 tyX11 tyX11_ok nmX11 hown hK hP hD hS 0 rfl rfl 18 (by decide) fk41 (fun _ h9 => h9) rfl hnm rfl (tyX11_ok 18 (by decide)) rfl rfl (Nat.le_of_ble_eq_true rfl) dX11_init_82 (fun H locs hP hD hS => ?_)
  have hP : va_P D vwCl [(h0, .inr (11, [.int (10 : Int32), .ref q1, .int 0, .ref q2, .int 0, .int 0, .int 0, .ref q3, .int 0, .ref q4, .ref q5, .ref q6, .ref q7, .ref q8, .int 0, .int 0, .int 0, .int 0, .ref q9, .int 0, .null, .int 0, .null, .null])), (q1, .inl (cy 0, 16, .inl (fun _ => 0))), (q2, .inl (cy 0, 64, .inl (fun _ => 0))), (q3, .inl (cy 1, 20001, .inr (.inl (fun _ => 0)))), (q4, .inl (cy 0, 10001, .inl (fun _ => 0))), (q5, .inl (cy 2, 10001, .inl (fun _ => 0))), (q6, .inl (cy 0, 51200, .inl (fun _ => 0))), (q7, .inl (cy 0, 51200, .inl (fun _ => 0))), (q8, .inl (cy 0, 51200, .inl (fun _ => 0))), (q9, .inl (cy 0, 16, .inl (fun _ => 0)))] H := hP
  have hD : va_D A [(h0, .inr (11, [.int (10 : Int32), .ref q1, .int 0, .ref q2, .int 0, .int 0, .int 0, .ref q3, .int 0, .ref q4, .ref q5, .ref q6, .ref q7, .ref q8, .int 0, .int 0, .int 0, .int 0, .ref q9, .int 0, .null, .int 0, .null, .null])), (q1, .inl (cy 0, 16, .inl (fun _ => 0))), (q2, .inl (cy 0, 64, .inl (fun _ => 0))), (q3, .inl (cy 1, 20001, .inr (.inl (fun _ => 0)))), (q4, .inl (cy 0, 10001, .inl (fun _ => 0))), (q5, .inl (cy 2, 10001, .inl (fun _ => 0))), (q6, .inl (cy 0, 51200, .inl (fun _ => 0))), (q7, .inl (cy 0, 51200, .inl (fun _ => 0))), (q8, .inl (cy 0, 51200, .inl (fun _ => 0))), (q9, .inl (cy 0, 16, .inl (fun _ => 0)))] := hD
  refine lv_aload_n hx hb dX11_init_85 rfl (lv_at hl 0 rfl) ?_
  refine lv_bipush (v := (6 : Int32)) hx hb dX11_init_86 (by decide) ?_
  refine k_newI (N := 6) hx hb (hts (.arrayClass .int) (by decide +kernel)) hK hP hD hS hA (by decide) (by decide) (by decide) (Nat.le_of_ble_eq_true rfl) (Nat.le_of_ble_eq_true rfl) dX11_init_88 (fun q10 H hP hD hS => ?_)
  have hP : va_P D vwCl [(h0, .inr (11, [.int (10 : Int32), .ref q1, .int 0, .ref q2, .int 0, .int 0, .int 0, .ref q3, .int 0, .ref q4, .ref q5, .ref q6, .ref q7, .ref q8, .int 0, .int 0, .int 0, .int 0, .ref q9, .int 0, .null, .int 0, .null, .null])), (q1, .inl (cy 0, 16, .inl (fun _ => 0))), (q2, .inl (cy 0, 64, .inl (fun _ => 0))), (q3, .inl (cy 1, 20001, .inr (.inl (fun _ => 0)))), (q4, .inl (cy 0, 10001, .inl (fun _ => 0))), (q5, .inl (cy 2, 10001, .inl (fun _ => 0))), (q6, .inl (cy 0, 51200, .inl (fun _ => 0))), (q7, .inl (cy 0, 51200, .inl (fun _ => 0))), (q8, .inl (cy 0, 51200, .inl (fun _ => 0))), (q9, .inl (cy 0, 16, .inl (fun _ => 0))), (q10, .inl (cy 0, 6, .inl (fun _ => 0)))] H := hP
  have hD : va_D A [(h0, .inr (11, [.int (10 : Int32), .ref q1, .int 0, .ref q2, .int 0, .int 0, .int 0, .ref q3, .int 0, .ref q4, .ref q5, .ref q6, .ref q7, .ref q8, .int 0, .int 0, .int 0, .int 0, .ref q9, .int 0, .null, .int 0, .null, .null])), (q1, .inl (cy 0, 16, .inl (fun _ => 0))), (q2, .inl (cy 0, 64, .inl (fun _ => 0))), (q3, .inl (cy 1, 20001, .inr (.inl (fun _ => 0)))), (q4, .inl (cy 0, 10001, .inl (fun _ => 0))), (q5, .inl (cy 2, 10001, .inl (fun _ => 0))), (q6, .inl (cy 0, 51200, .inl (fun _ => 0))), (q7, .inl (cy 0, 51200, .inl (fun _ => 0))), (q8, .inl (cy 0, 51200, .inl (fun _ => 0))), (q9, .inl (cy 0, 16, .inl (fun _ => 0))), (q10, .inl (cy 0, 6, .inl (fun _ => 0)))] := hD
  refine va_putF (D := D) (ci := 11) (v := .ref q10) (ty := .array .int) (C := RX11) (T := TX11) (N := 24) hx hb hts huX11 tyX11 tyX11_ok nmX11 hown hK hP hD hS 0 rfl rfl 20 (by decide) fk44 (fun _ h9 => h9) rfl hnm rfl (tyX11_ok 20 (by decide)) rfl rfl (Nat.le_of_ble_eq_true rfl) dX11_init_90 (fun H locs hP hD hS => ?_)
  have hP : va_P D vwCl [(h0, .inr (11, [.int (10 : Int32), .ref q1, .int 0, .ref q2, .int 0, .int 0, .int 0, .ref q3, .int 0, .ref q4, .ref q5, .ref q6, .ref q7, .ref q8, .int 0, .int 0, .int 0, .int 0, .ref q9, .int 0, .ref q10, .int 0, .null, .null])), (q1, .inl (cy 0, 16, .inl (fun _ => 0))), (q2, .inl (cy 0, 64, .inl (fun _ => 0))), (q3, .inl (cy 1, 20001, .inr (.inl (fun _ => 0)))), (q4, .inl (cy 0, 10001, .inl (fun _ => 0))), (q5, .inl (cy 2, 10001, .inl (fun _ => 0))), (q6, .inl (cy 0, 51200, .inl (fun _ => 0))), (q7, .inl (cy 0, 51200, .inl (fun _ => 0))), (q8, .inl (cy 0, 51200, .inl (fun _ => 0))), (q9, .inl (cy 0, 16, .inl (fun _ => 0))), (q10, .inl (cy 0, 6, .inl (fun _ => 0)))] H := hP
  have hD : va_D A [(h0, .inr (11, [.int (10 : Int32), .ref q1, .int 0, .ref q2, .int 0, .int 0, .int 0, .ref q3, .int 0, .ref q4, .ref q5, .ref q6, .ref q7, .ref q8, .int 0, .int 0, .int 0, .int 0, .ref q9, .int 0, .ref q10, .int 0, .null, .null])), (q1, .inl (cy 0, 16, .inl (fun _ => 0))), (q2, .inl (cy 0, 64, .inl (fun _ => 0))), (q3, .inl (cy 1, 20001, .inr (.inl (fun _ => 0)))), (q4, .inl (cy 0, 10001, .inl (fun _ => 0))), (q5, .inl (cy 2, 10001, .inl (fun _ => 0))), (q6, .inl (cy 0, 51200, .inl (fun _ => 0))), (q7, .inl (cy 0, 51200, .inl (fun _ => 0))), (q8, .inl (cy 0, 51200, .inl (fun _ => 0))), (q9, .inl (cy 0, 16, .inl (fun _ => 0))), (q10, .inl (cy 0, 6, .inl (fun _ => 0)))] := hD
  refine lv_aload_n hx hb dX11_init_93 rfl (lv_at hl 0 rfl) ?_
  refine lv_sipush (v := (200 : Int32)) hx hb dX11_init_94 (by decide) ?_
  refine k_newJ (N := 200) hx hb (hts (.arrayClass .long) (by decide +kernel)) hK hP hD hS hA (by decide) (by decide) (by decide) (Nat.le_of_ble_eq_true rfl) (Nat.le_of_ble_eq_true rfl) dX11_init_97 (fun q11 H hP hD hS => ?_)
  have hP : va_P D vwCl [(h0, .inr (11, [.int (10 : Int32), .ref q1, .int 0, .ref q2, .int 0, .int 0, .int 0, .ref q3, .int 0, .ref q4, .ref q5, .ref q6, .ref q7, .ref q8, .int 0, .int 0, .int 0, .int 0, .ref q9, .int 0, .ref q10, .int 0, .null, .null])), (q1, .inl (cy 0, 16, .inl (fun _ => 0))), (q2, .inl (cy 0, 64, .inl (fun _ => 0))), (q3, .inl (cy 1, 20001, .inr (.inl (fun _ => 0)))), (q4, .inl (cy 0, 10001, .inl (fun _ => 0))), (q5, .inl (cy 2, 10001, .inl (fun _ => 0))), (q6, .inl (cy 0, 51200, .inl (fun _ => 0))), (q7, .inl (cy 0, 51200, .inl (fun _ => 0))), (q8, .inl (cy 0, 51200, .inl (fun _ => 0))), (q9, .inl (cy 0, 16, .inl (fun _ => 0))), (q10, .inl (cy 0, 6, .inl (fun _ => 0))), (q11, .inl (cy 1, 200, .inr (.inl (fun _ => 0))))] H := hP
  have hD : va_D A [(h0, .inr (11, [.int (10 : Int32), .ref q1, .int 0, .ref q2, .int 0, .int 0, .int 0, .ref q3, .int 0, .ref q4, .ref q5, .ref q6, .ref q7, .ref q8, .int 0, .int 0, .int 0, .int 0, .ref q9, .int 0, .ref q10, .int 0, .null, .null])), (q1, .inl (cy 0, 16, .inl (fun _ => 0))), (q2, .inl (cy 0, 64, .inl (fun _ => 0))), (q3, .inl (cy 1, 20001, .inr (.inl (fun _ => 0)))), (q4, .inl (cy 0, 10001, .inl (fun _ => 0))), (q5, .inl (cy 2, 10001, .inl (fun _ => 0))), (q6, .inl (cy 0, 51200, .inl (fun _ => 0))), (q7, .inl (cy 0, 51200, .inl (fun _ => 0))), (q8, .inl (cy 0, 51200, .inl (fun _ => 0))), (q9, .inl (cy 0, 16, .inl (fun _ => 0))), (q10, .inl (cy 0, 6, .inl (fun _ => 0))), (q11, .inl (cy 1, 200, .inr (.inl (fun _ => 0))))] := hD
  refine va_putF (D := D) (ci := 11) (v := .ref q11) (ty := .array .long) (C := RX11) (T := TX11) (N := 24) hx hb hts huX11 tyX11 tyX11_ok nmX11 hown hK hP hD hS 0 rfl rfl 22 (by decide) fk47 (fun _ h9 => h9) rfl hnm rfl (tyX11_ok 22 (by decide)) rfl rfl (Nat.le_of_ble_eq_true rfl) dX11_init_99 (fun H locs hP hD hS => ?_)
  have hP : va_P D vwCl [(h0, .inr (11, [.int (10 : Int32), .ref q1, .int 0, .ref q2, .int 0, .int 0, .int 0, .ref q3, .int 0, .ref q4, .ref q5, .ref q6, .ref q7, .ref q8, .int 0, .int 0, .int 0, .int 0, .ref q9, .int 0, .ref q10, .int 0, .ref q11, .null])), (q1, .inl (cy 0, 16, .inl (fun _ => 0))), (q2, .inl (cy 0, 64, .inl (fun _ => 0))), (q3, .inl (cy 1, 20001, .inr (.inl (fun _ => 0)))), (q4, .inl (cy 0, 10001, .inl (fun _ => 0))), (q5, .inl (cy 2, 10001, .inl (fun _ => 0))), (q6, .inl (cy 0, 51200, .inl (fun _ => 0))), (q7, .inl (cy 0, 51200, .inl (fun _ => 0))), (q8, .inl (cy 0, 51200, .inl (fun _ => 0))), (q9, .inl (cy 0, 16, .inl (fun _ => 0))), (q10, .inl (cy 0, 6, .inl (fun _ => 0))), (q11, .inl (cy 1, 200, .inr (.inl (fun _ => 0))))] H := hP
  have hD : va_D A [(h0, .inr (11, [.int (10 : Int32), .ref q1, .int 0, .ref q2, .int 0, .int 0, .int 0, .ref q3, .int 0, .ref q4, .ref q5, .ref q6, .ref q7, .ref q8, .int 0, .int 0, .int 0, .int 0, .ref q9, .int 0, .ref q10, .int 0, .ref q11, .null])), (q1, .inl (cy 0, 16, .inl (fun _ => 0))), (q2, .inl (cy 0, 64, .inl (fun _ => 0))), (q3, .inl (cy 1, 20001, .inr (.inl (fun _ => 0)))), (q4, .inl (cy 0, 10001, .inl (fun _ => 0))), (q5, .inl (cy 2, 10001, .inl (fun _ => 0))), (q6, .inl (cy 0, 51200, .inl (fun _ => 0))), (q7, .inl (cy 0, 51200, .inl (fun _ => 0))), (q8, .inl (cy 0, 51200, .inl (fun _ => 0))), (q9, .inl (cy 0, 16, .inl (fun _ => 0))), (q10, .inl (cy 0, 6, .inl (fun _ => 0))), (q11, .inl (cy 1, 200, .inr (.inl (fun _ => 0))))] := hD
  refine lv_aload_n hx hb dX11_init_102 rfl (lv_at hl 0 rfl) ?_
  refine lv_sipush (v := (20001 : Int32)) hx hb dX11_init_103 (by decide) ?_
  refine k_newZ (N := 20001) hx hb (hts (.arrayClass .boolean) (by decide +kernel)) hK hP hD hS hA (by decide) (by decide) (by decide) (Nat.le_of_ble_eq_true rfl) (Nat.le_of_ble_eq_true rfl) dX11_init_106 (fun q12 H hP hD hS => ?_)
  have hP : va_P D vwCl [(h0, .inr (11, [.int (10 : Int32), .ref q1, .int 0, .ref q2, .int 0, .int 0, .int 0, .ref q3, .int 0, .ref q4, .ref q5, .ref q6, .ref q7, .ref q8, .int 0, .int 0, .int 0, .int 0, .ref q9, .int 0, .ref q10, .int 0, .ref q11, .null])), (q1, .inl (cy 0, 16, .inl (fun _ => 0))), (q2, .inl (cy 0, 64, .inl (fun _ => 0))), (q3, .inl (cy 1, 20001, .inr (.inl (fun _ => 0)))), (q4, .inl (cy 0, 10001, .inl (fun _ => 0))), (q5, .inl (cy 2, 10001, .inl (fun _ => 0))), (q6, .inl (cy 0, 51200, .inl (fun _ => 0))), (q7, .inl (cy 0, 51200, .inl (fun _ => 0))), (q8, .inl (cy 0, 51200, .inl (fun _ => 0))), (q9, .inl (cy 0, 16, .inl (fun _ => 0))), (q10, .inl (cy 0, 6, .inl (fun _ => 0))), (q11, .inl (cy 1, 200, .inr (.inl (fun _ => 0)))), (q12, .inl (cy 2, 20001, .inl (fun _ => 0)))] H := hP
  have hD : va_D A [(h0, .inr (11, [.int (10 : Int32), .ref q1, .int 0, .ref q2, .int 0, .int 0, .int 0, .ref q3, .int 0, .ref q4, .ref q5, .ref q6, .ref q7, .ref q8, .int 0, .int 0, .int 0, .int 0, .ref q9, .int 0, .ref q10, .int 0, .ref q11, .null])), (q1, .inl (cy 0, 16, .inl (fun _ => 0))), (q2, .inl (cy 0, 64, .inl (fun _ => 0))), (q3, .inl (cy 1, 20001, .inr (.inl (fun _ => 0)))), (q4, .inl (cy 0, 10001, .inl (fun _ => 0))), (q5, .inl (cy 2, 10001, .inl (fun _ => 0))), (q6, .inl (cy 0, 51200, .inl (fun _ => 0))), (q7, .inl (cy 0, 51200, .inl (fun _ => 0))), (q8, .inl (cy 0, 51200, .inl (fun _ => 0))), (q9, .inl (cy 0, 16, .inl (fun _ => 0))), (q10, .inl (cy 0, 6, .inl (fun _ => 0))), (q11, .inl (cy 1, 200, .inr (.inl (fun _ => 0)))), (q12, .inl (cy 2, 20001, .inl (fun _ => 0)))] := hD
  refine va_putF (D := D) (ci := 11) (v := .ref q12) (ty := .array .boolean) (C := RX11) (T := TX11) (N := 24) hx hb hts huX11 tyX11 tyX11_ok nmX11 hown hK hP hD hS 0 rfl rfl 23 (by decide) fk50 (fun _ h9 => h9) rfl hnm rfl (tyX11_ok 23 (by decide)) rfl rfl (Nat.le_of_ble_eq_true rfl) dX11_init_108 (fun H locs hP hD hS => ?_)
  have hP : va_P D vwCl [(h0, .inr (11, [.int (10 : Int32), .ref q1, .int 0, .ref q2, .int 0, .int 0, .int 0, .ref q3, .int 0, .ref q4, .ref q5, .ref q6, .ref q7, .ref q8, .int 0, .int 0, .int 0, .int 0, .ref q9, .int 0, .ref q10, .int 0, .ref q11, .ref q12])), (q1, .inl (cy 0, 16, .inl (fun _ => 0))), (q2, .inl (cy 0, 64, .inl (fun _ => 0))), (q3, .inl (cy 1, 20001, .inr (.inl (fun _ => 0)))), (q4, .inl (cy 0, 10001, .inl (fun _ => 0))), (q5, .inl (cy 2, 10001, .inl (fun _ => 0))), (q6, .inl (cy 0, 51200, .inl (fun _ => 0))), (q7, .inl (cy 0, 51200, .inl (fun _ => 0))), (q8, .inl (cy 0, 51200, .inl (fun _ => 0))), (q9, .inl (cy 0, 16, .inl (fun _ => 0))), (q10, .inl (cy 0, 6, .inl (fun _ => 0))), (q11, .inl (cy 1, 200, .inr (.inl (fun _ => 0)))), (q12, .inl (cy 2, 20001, .inl (fun _ => 0)))] H := hP
  have hD : va_D A [(h0, .inr (11, [.int (10 : Int32), .ref q1, .int 0, .ref q2, .int 0, .int 0, .int 0, .ref q3, .int 0, .ref q4, .ref q5, .ref q6, .ref q7, .ref q8, .int 0, .int 0, .int 0, .int 0, .ref q9, .int 0, .ref q10, .int 0, .ref q11, .ref q12])), (q1, .inl (cy 0, 16, .inl (fun _ => 0))), (q2, .inl (cy 0, 64, .inl (fun _ => 0))), (q3, .inl (cy 1, 20001, .inr (.inl (fun _ => 0)))), (q4, .inl (cy 0, 10001, .inl (fun _ => 0))), (q5, .inl (cy 2, 10001, .inl (fun _ => 0))), (q6, .inl (cy 0, 51200, .inl (fun _ => 0))), (q7, .inl (cy 0, 51200, .inl (fun _ => 0))), (q8, .inl (cy 0, 51200, .inl (fun _ => 0))), (q9, .inl (cy 0, 16, .inl (fun _ => 0))), (q10, .inl (cy 0, 6, .inl (fun _ => 0))), (q11, .inl (cy 1, 200, .inr (.inl (fun _ => 0)))), (q12, .inl (cy 2, 20001, .inl (fun _ => 0)))] := hD
  obtain ⟨u0, hu0⟩ : ∃ z : Nat → Nat, z = (va_up (va_up (va_up (va_up (va_up (va_up (va_up (va_up (va_up (va_up (va_up (va_up (fun _ => 0) 1 q1) 2 q2) 3 q3) 4 q4) 5 q5) 6 q6) 7 q7) 8 q8) 9 q9) 10 q10) 11 q11) 12 q12) := ⟨_, rfl⟩
  have hP : va_P D vwCl (gM cy (va_up u0 0 h0) (10 : Int32) (fun _ => 0) 0 (fun _ => 0) 0 0 0 (fun _ => 0) 0 (fun _ => 0) (fun _ => 0) (fun _ => 0) (fun _ => 0) (fun _ => 0) 0 0 0 0 (fun _ => 0) 0 (fun _ => 0) 0 (fun _ => 0) (fun _ => 0)) H := by rw [hu0]; exact kP_sub hP [0, 1, 2, 3, 4, 5, 6, 7, 8, 9, 10, 11, 12] rfl
  have hD : va_D A (gM cy (va_up u0 0 h0) (10 : Int32) (fun _ => 0) 0 (fun _ => 0) 0 0 0 (fun _ => 0) 0 (fun _ => 0) (fun _ => 0) (fun _ => 0) (fun _ => 0) (fun _ => 0) 0 0 0 0 (fun _ => 0) 0 (fun _ => 0) 0 (fun _ => 0) (fun _ => 0)) := by rw [hu0]; exact hD.sub [0, 1, 2, 3, 4, 5, 6, 7, 8, 9, 10, 11, 12] rfl rfl
  refine W.widen (k := 12) (n := 213906) (Nat.le_of_ble_eq_true rfl) (Nat.le_of_ble_eq_true rfl) ?_
  have hL113 : ∀ (k : Nat) (x : Int32 × (Nat → Int32)) (ex : (Nat → Int32)) (H : Heap) (locs : List Loc) (ls : Array Slot), lp (f_X11_init_B113 F) k x = some ex → (∀ (H : Heap) (locs : List Loc) (ls : Array Slot), va_P D vwCl (gM cy (va_up u0 0 h0) (10 : Int32) ex 0 (fun _ => 0) 0 0 0 (fun _ => 0) 0 (fun _ => 0) (fun _ => 0) (fun _ => 0) (fun _ => 0) (fun _ => 0) 0 0 0 0 (fun _ => 0) 0 (fun _ => 0) 0 (fun _ => 0) (fun _ => 0)) H → va_D A (gM cy (va_up u0 0 h0) (10 : Int32) ex 0 (fun _ => 0) 0 0 0 (fun _ => 0) 0 (fun _ => 0) (fun _ => 0) (fun _ => 0) (fun _ => 0) (fun _ => 0) 0 0 0 0 (fun _ => 0) 0 (fun _ => 0) 0 (fun _ => 0) (fun _ => 0)) → va_S A s.heap H locs → lv_has ls 2 [] → W p l e0 rmX11_init s m ar below meth c H locs 12 213906 Q (F0 m 132 ls [])) → va_P D vwCl (gM cy (va_up u0 0 h0) (10 : Int32) x.2 0 (fun _ => 0) 0 0 0 (fun _ => 0) 0 (fun _ => 0) (fun _ => 0) (fun _ => 0) (fun _ => 0) (fun _ => 0) 0 0 0 0 (fun _ => 0) 0 (fun _ => 0) 0 (fun _ => 0) (fun _ => 0)) H → va_D A (gM cy (va_up u0 0 h0) (10 : Int32) x.2 0 (fun _ => 0) 0 0 0 (fun _ => 0) 0 (fun _ => 0) (fun _ => 0) (fun _ => 0) (fun _ => 0) (fun _ => 0) 0 0 0 0 (fun _ => 0) 0 (fun _ => 0) 0 (fun _ => 0) (fun _ => 0)) → va_S A s.heap H locs → lv_has ls 2 [(0, .ref h0), (1, .int x.1)] → W p l e0 rmX11_init s m ar below meth c H locs 12 213906 Q (F0 m 113 ls []) := by
    intro k
    induction k with
    | zero => intro x ex H locs ls hf; exact no_some hf
    | succ k ih =>
      intro x ex H locs ls hf hex hP hD hS hl
      have hf : f_X11_init_B113 F (lp (f_X11_init_B113 F) k) x = some ex := hf
      unfold f_X11_init_B113 at hf
      refine lv_iload_n hx hb dX11_init_113 rfl (lv_at hl 1 rfl) ?_
      refine lv_bipush (v := (16 : Int32)) hx hb dX11_init_114 (by decide) ?_
      refine lv_icmp_ge (tgt := 132) hx hb dX11_init_116 (by decide) (fun c1 => ?_) (fun c1 => ?_)
      · have hf := if_t hf c1
        obtain rfl := Option.some.inj hf
        exact hex _ _ _ hP hD hS (lv_sub hl [] rfl)
      · have hf := if_f hf c1
        refine lv_aload_n hx hb dX11_init_119 rfl (lv_at hl 0 rfl) ?_
        refine va_get (v := .ref ((va_up u0 0 h0) 1)) (D := D) (ci := 11) (C := RX11) (T := TX11) (N := 24) hx hb hts huX11 hown hK hP 0 rfl rfl 1 (by decide) fk13 (fun _ h9 => h9) rfl dX11_init_120 ?_
        refine lv_iload_n hx hb dX11_init_123 rfl (lv_at hl 1 rfl) ?_
        refine lv_iload_n hx hb dX11_init_124 rfl (lv_at hl 1 rfl) ?_
        obtain ⟨c2, hf⟩ := ck_some hf
        refine va_iast hx hb hK hP hD hS 1 0 rfl rfl c2 dX11_init_125 (fun H locs hP hD hS => ?_)
        have hP : va_P D vwCl (gM cy (va_up u0 0 h0) (10 : Int32) (upd x.2 x.1.toNatClampNeg x.1) 0 (fun _ => 0) 0 0 0 (fun _ => 0) 0 (fun _ => 0) (fun _ => 0) (fun _ => 0) (fun _ => 0) (fun _ => 0) 0 0 0 0 (fun _ => 0) 0 (fun _ => 0) 0 (fun _ => 0) (fun _ => 0)) H := hP
        have hD : va_D A (gM cy (va_up u0 0 h0) (10 : Int32) (upd x.2 x.1.toNatClampNeg x.1) 0 (fun _ => 0) 0 0 0 (fun _ => 0) 0 (fun _ => 0) (fun _ => 0) (fun _ => 0) (fun _ => 0) (fun _ => 0) 0 0 0 0 (fun _ => 0) 0 (fun _ => 0) 0 (fun _ => 0) (fun _ => 0)) := hD
        refine lv_iinc (v := (x.1 + (1 : Int32))) (lv' := [(1, .int (x.1 + (1 : Int32))), (0, .ref h0)]) hx hb dX11_init_126 hl (k := 1) rfl rfl (by decide) rfl (fun ls hl => ?_)
        refine lv_goto (tgt := 113) hx hb dX11_init_129 (by decide) ?_
        exact ih ((x.1 + (1 : Int32)), (upd x.2 x.1.toNatClampNeg x.1)) ex _ _ _ hf hex hP hD hS (lv_sub hl [1, 0] rfl)
  refine lv_iconst (v := (0 : Int32)) hx hb dX11_init_111 (by decide) ?_
  refine lv_istore_n (lv' := [(1, .int (0 : Int32)), (0, .ref h0)]) hx hb dX11_init_112 rfl hl (by decide) rfl (fun ls hl => ?_)
  obtain ⟨ex3, hcl, hf⟩ := ob_some hf
  refine hL113 F ((0 : Int32), (fun _ => 0)) ex3 _ _ _ hcl (fun H locs ls hP hD hS hl => ?_) hP hD hS (lv_sub hl [1, 0] rfl)
  obtain rfl := Option.some.inj hf
  exact hQ u0 132 _ _ _ dX11_init_132 hP hD hS
