/-! the class: functions and contracts -/
def f_X0_forget (F : Nat) (c_stamp : Int32) (c_size : Int32) : Option (Int32 × Int32) := some ((-1 : Int32), (0 : Int32))
abbrev rmX0_forget : Room := { frames := 0, cells := 0, slots := 0, locals := 0 }
set_option maxHeartbeats 1000000 in
set_option maxRecDepth 100000 in
theorem c_X0_forget {l : Launch} {D : va_G} {cy : Nat → ClassId} {qC : Nat → Nat} {qG : Nat → Nat} {qS : Nat → Nat} {uC : Nat → Nat} {c_step : Int32} {c_stamp : Int32} {c_homes : Nat → Int32} {c_size : Int32} {c_n_leasts : Nat} {c_leasts : Nat → Int64} {c_n_lengths : Nat} {c_lengths : Nat → Int32} {c_n_firstBy : Nat} {c_firstBy : Nat → Int32} {c_n_order : Nat} {c_order : Nat → Int32} {F : Nat} {res : Int32 × Int32} (hf : f_X0_forget F c_stamp c_size = some res) : kM l yX0_forget wsX0_forget rmX0_forget D cy [.ref (qC 0)] (gC cy qC uC (qG 0) (qS 0) c_step c_stamp c_homes c_size c_n_leasts c_leasts c_n_lengths c_lengths c_n_firstBy c_firstBy c_n_order c_order) (kQv D cy (fun _ : Unit => gC cy qC uC (qG 0) (qS 0) c_step res.1 c_homes res.2 c_n_leasts c_leasts c_n_lengths c_lengths c_n_firstBy c_firstBy c_n_order c_order)) := by
  refine kent_v (cc := cX0_forget) (maxL := 1) (by decide) rfl (Nat.le_of_ble_eq_true rfl) ?_
  intro p e0 s m ar below meth c A Q ls ⟨hx, hb, hml, hr, hts, hown, hlocks, hnm⟩ hA hK hN hQ hP hD hS hl
  have hl : lv_has ls 1 [(0, .ref (qC 0))] := hl
  have hown : s.vm.findClass RX0 = some m.cls := hown
  have huX0 : ∀ x ∈ u_ws RX0 TX0 10, x ∈ wsX0_forget := by decide +kernel
  have fk19 : (Cond.fieldLink RX0 19 "FigurePlay$Circles" "size" "I").before ar s = true := hts _ (by decide +kernel)
  have fk9 : (Cond.fieldLink RX0 9 "FigurePlay$Circles" "stamp" "I").before ar s = true := hts _ (by decide +kernel)
  unfold f_X0_forget at hf
  refine lv_aload_n hx hb dX0_forget_0 rfl (lv_at hl 0 rfl) ?_
  refine lv_iconst (v := (0 : Int32)) hx hb dX0_forget_1 (by decide) ?_
  refine va_put (D := D) (ci := 0) (v := .int (0 : Int32)) (ty := .int) (C := RX0) (T := TX0) (N := 10) hx hb hts huX0 tyX0 tyX0_ok nmX0 hown hK hP hD hS 0 rfl rfl 5 (by decide) fk19 (fun _ h9 => h9) rfl (tyX0_ok 5 (by decide)) rfl rfl (Nat.le_of_ble_eq_true rfl) dX0_forget_2 (fun H locs hP hD hS => ?_)
  have hP : va_P D vwCl (gC cy qC uC (qG 0) (qS 0) c_step c_stamp c_homes (0 : Int32) c_n_leasts c_leasts c_n_lengths c_lengths c_n_firstBy c_firstBy c_n_order c_order) H := hP
  have hD : va_D A (gC cy qC uC (qG 0) (qS 0) c_step c_stamp c_homes (0 : Int32) c_n_leasts c_leasts c_n_lengths c_lengths c_n_firstBy c_firstBy c_n_order c_order) := hD
  refine lv_aload_n hx hb dX0_forget_5 rfl (lv_at hl 0 rfl) ?_
  refine lv_iconst (v := (-1 : Int32)) hx hb dX0_forget_6 (by decide) ?_
  refine va_put (D := D) (ci := 0) (v := .int (-1 : Int32)) (ty := .int) (C := RX0) (T := TX0) (N := 10) hx hb hts huX0 tyX0 tyX0_ok nmX0 hown hK hP hD hS 0 rfl rfl 3 (by decide) fk9 (fun _ h9 => h9) rfl (tyX0_ok 3 (by decide)) rfl rfl (Nat.le_of_ble_eq_true rfl) dX0_forget_7 (fun H locs hP hD hS => ?_)
  have hP : va_P D vwCl (gC cy qC uC (qG 0) (qS 0) c_step (-1 : Int32) c_homes (0 : Int32) c_n_leasts c_leasts c_n_lengths c_lengths c_n_firstBy c_firstBy c_n_order c_order) H := hP
  have hD : va_D A (gC cy qC uC (qG 0) (qS 0) c_step (-1 : Int32) c_homes (0 : Int32) c_n_leasts c_leasts c_n_lengths c_lengths c_n_firstBy c_firstBy c_n_order c_order) := hD
  obtain rfl := Option.some.inj hf
  exact hQ () 10 _ _ _ dX0_forget_10 hP hD hS
def f_X0_leastAt_J50 (F : Nat) (rec : (Int32 × Int32) → Option ((Int64) ⊕ (Int32))) (x3 : Int32) (x4 : Int32) : Option ((Int64) ⊕ (Int32)) := rec (x3, (x4 + (1 : Int32)))
def f_X0_leastAt_B5 (F : Nat) (a1 : Int32) (a2 : Int32) (c_size : Int32) (c_n_leasts : Nat) (c_leasts : Nat → Int64) (c_n_firstBy : Nat) (c_firstBy : Nat → Int32) (c_n_order : Nat) (c_order : Nat → Int32) (rec : Int32 × Int32 → Option ((Int64) ⊕ (Int32))) (x : Int32 × Int32) : Option ((Int64) ⊕ (Int32)) := if c_size ≤ x.2 then (some (.inr x.1)) else (ck (¬ (x.2 < 0 ∨ c_n_order ≤ x.2.toNatClampNeg)) (ck (¬ ((c_order x.2.toNatClampNeg) < 0 ∨ c_n_firstBy ≤ (c_order x.2.toNatClampNeg).toNatClampNeg)) (if a1 < (c_firstBy (c_order x.2.toNatClampNeg).toNatClampNeg) then (f_X0_leastAt_J50 F rec x.1 x.2) else (if x.1 = a2 then (ck (¬ ((c_order x.2.toNatClampNeg) < 0 ∨ c_n_leasts ≤ (c_order x.2.toNatClampNeg).toNatClampNeg)) (some (.inl (c_leasts (c_order x.2.toNatClampNeg).toNatClampNeg)))) else (f_X0_leastAt_J50 F rec (x.1 + (1 : Int32)) x.2)))))
def f_X0_leastAt (F : Nat) (a1 : Int32) (a2 : Int32) (c_size : Int32) (c_n_leasts : Nat) (c_leasts : Nat → Int64) (c_n_firstBy : Nat) (c_firstBy : Nat → Int32) (c_n_order : Nat) (c_order : Nat → Int32) : Option (Int64) := (lp (f_X0_leastAt_B5 F a1 a2 c_size c_n_leasts c_leasts c_n_firstBy c_firstBy c_n_order c_order) F ((0 : Int32), (0 : Int32))).bind (fun ex7 => Sum.elim (fun r => some r) (fun er8 => (f_X10_countOrNone F a2 er8).bind (fun r9 => some r9.toInt64)) ex7)
abbrev rmX0_leastAt : Room := { frames := 1, cells := 0, slots := 0, locals := 21 }
set_option maxHeartbeats 1000000 in
set_option maxRecDepth 100000 in
theorem c_X0_leastAt {l : Launch} {D : va_G} {cy : Nat → ClassId} {qC : Nat → Nat} {qG : Nat → Nat} {qS : Nat → Nat} {uC : Nat → Nat} {c_step : Int32} {c_stamp : Int32} {c_homes : Nat → Int32} {c_size : Int32} {c_n_leasts : Nat} {c_leasts : Nat → Int64} {c_n_lengths : Nat} {c_lengths : Nat → Int32} {c_n_firstBy : Nat} {c_firstBy : Nat → Int32} {c_n_order : Nat} {c_order : Nat → Int32} {a1 : Int32} {a2 : Int32} {F : Nat} {res : Int64} (hf : f_X0_leastAt F a1 a2 c_size c_n_leasts c_leasts c_n_firstBy c_firstBy c_n_order c_order = some res) : kM l yX0_leastAt wsX0_leastAt rmX0_leastAt D cy [.ref (qC 0), .int a1, .int a2] (gC cy qC uC (qG 0) (qS 0) c_step c_stamp c_homes c_size c_n_leasts c_leasts c_n_lengths c_lengths c_n_firstBy c_firstBy c_n_order c_order) (kQl D cy (fun _ : Unit => gC cy qC uC (qG 0) (qS 0) c_step c_stamp c_homes c_size c_n_leasts c_leasts c_n_lengths c_lengths c_n_firstBy c_firstBy c_n_order c_order) res) := by
  refine kent_l (cc := cX0_leastAt) (maxL := 6) (by decide) rfl (Nat.le_of_ble_eq_true rfl) ?_
  intro p e0 s m ar below meth c A Q ls ⟨hx, hb, hml, hr, hts, hown, hlocks, hnm⟩ hA hK hN hQ hP hD hS hl
  have hl : lv_has ls 6 [(0, .ref (qC 0)), (1, .int a1), (2, .int a2)] := hl
  have hown : s.vm.findClass RX0 = some m.cls := hown
  have huX0 : ∀ x ∈ u_ws RX0 TX0 10, x ∈ wsX0_leastAt := by decide +kernel
  have fk19 : (Cond.fieldLink RX0 19 "FigurePlay$Circles" "size" "I").before ar s = true := hts _ (by decide +kernel)
  have fk32 : (Cond.fieldLink RX0 32 "FigurePlay$Circles" "order" "[I").before ar s = true := hts _ (by decide +kernel)
  have fk29 : (Cond.fieldLink RX0 29 "FigurePlay$Circles" "firstBy" "[I").before ar s = true := hts _ (by decide +kernel)
  have fk22 : (Cond.fieldLink RX0 22 "FigurePlay$Circles" "leasts" "[J").before ar s = true := hts _ (by decide +kernel)
  unfold f_X0_leastAt at hf
  have hL5 : ∀ (k : Nat) (x : Int32 × Int32) (ex : (Int64) ⊕ (Int32)) (H : Heap) (locs : List Loc) (ls : Array Slot), lp (f_X0_leastAt_B5 F a1 a2 c_size c_n_leasts c_leasts c_n_firstBy c_firstBy c_n_order c_order) k x = some ex → (∀ r, ex = .inl r → r = res) → (∀ er, ex = .inr er → ∀ (H : Heap) (locs : List Loc) (ls : Array Slot), va_P D vwCl (gC cy qC uC (qG 0) (qS 0) c_step c_stamp c_homes c_size c_n_leasts c_leasts c_n_lengths c_lengths c_n_firstBy c_firstBy c_n_order c_order) H → va_D A (gC cy qC uC (qG 0) (qS 0) c_step c_stamp c_homes c_size c_n_leasts c_leasts c_n_lengths c_lengths c_n_firstBy c_firstBy c_n_order c_order) → va_S A s.heap H locs → lv_has ls 6 [(2, .int a2), (3, .int er)] → W p l e0 rmX0_leastAt s m ar below meth c H locs 0 0 Q (F0 m 56 ls [])) → va_P D vwCl (gC cy qC uC (qG 0) (qS 0) c_step c_stamp c_homes c_size c_n_leasts c_leasts c_n_lengths c_lengths c_n_firstBy c_firstBy c_n_order c_order) H → va_D A (gC cy qC uC (qG 0) (qS 0) c_step c_stamp c_homes c_size c_n_leasts c_leasts c_n_lengths c_lengths c_n_firstBy c_firstBy c_n_order c_order) → va_S A s.heap H locs → lv_has ls 6 [(0, .ref (qC 0)), (1, .int a1), (2, .int a2), (3, .int x.1), (4, .int x.2)] → W p l e0 rmX0_leastAt s m ar below meth c H locs 0 0 Q (F0 m 5 ls []) := by
    intro k
    induction k with
    | zero => intro x ex H locs ls hf; exact no_some hf
    | succ k ih =>
      intro x ex H locs ls hf hret hex hP hD hS hl
      have hf : f_X0_leastAt_B5 F a1 a2 c_size c_n_leasts c_leasts c_n_firstBy c_firstBy c_n_order c_order (lp (f_X0_leastAt_B5 F a1 a2 c_size c_n_leasts c_leasts c_n_firstBy c_firstBy c_n_order c_order) k) x = some ex := hf
      unfold f_X0_leastAt_B5 at hf
      have hJ50 : ∀ (x3 : Int32) (x4 : Int32) (H : Heap) (locs : List Loc) (ls : Array Slot), f_X0_leastAt_J50 F (lp (f_X0_leastAt_B5 F a1 a2 c_size c_n_leasts c_leasts c_n_firstBy c_firstBy c_n_order c_order) k) x3 x4 = some ex → va_P D vwCl (gC cy qC uC (qG 0) (qS 0) c_step c_stamp c_homes c_size c_n_leasts c_leasts c_n_lengths c_lengths c_n_firstBy c_firstBy c_n_order c_order) H → va_D A (gC cy qC uC (qG 0) (qS 0) c_step c_stamp c_homes c_size c_n_leasts c_leasts c_n_lengths c_lengths c_n_firstBy c_firstBy c_n_order c_order) → va_S A s.heap H locs → lv_has ls 6 [(0, .ref (qC 0)), (1, .int a1), (2, .int a2), (3, .int x3), (4, .int x4)] → W p l e0 rmX0_leastAt s m ar below meth c H locs 0 0 Q (F0 m 50 ls []) := by
        intro x3 x4 H locs ls hf hP hD hS hl
        unfold f_X0_leastAt_J50 at hf
        refine lv_iinc (v := (x4 + (1 : Int32))) (lv' := [(4, .int (x4 + (1 : Int32))), (0, .ref (qC 0)), (1, .int a1), (2, .int a2), (3, .int x3)]) hx hb dX0_leastAt_50 hl (k := 4) rfl rfl (by decide) rfl (fun ls hl => ?_)
        refine lv_goto (tgt := 5) hx hb dX0_leastAt_53 (by decide) ?_
        exact ih (x3, (x4 + (1 : Int32))) ex _ _ _ hf hret hex hP hD hS (lv_sub hl [1, 2, 3, 4, 0] rfl)
      refine lv_iload hx hb dX0_leastAt_5 (lv_at hl 4 rfl) ?_
      refine lv_aload_n hx hb dX0_leastAt_7 rfl (lv_at hl 0 rfl) ?_
      refine va_get (D := D) (ci := 0) (C := RX0) (T := TX0) (N := 10) hx hb hts huX0 hown hK hP 0 rfl rfl 5 (by decide) fk19 (fun _ h9 => h9) rfl dX0_leastAt_8 ?_
      refine lv_icmp_ge (tgt := 56) hx hb dX0_leastAt_11 (by decide) (fun c1 => ?_) (fun c1 => ?_)
      · have hf := if_t hf c1
        obtain rfl := Option.some.inj hf
        exact hex _ rfl _ _ _ hP hD hS (lv_sub hl [2, 3] rfl)
      · have hf := if_f hf c1
        refine lv_aload_n hx hb dX0_leastAt_14 rfl (lv_at hl 0 rfl) ?_
        refine va_get (v := .ref (uC 3)) (D := D) (ci := 0) (C := RX0) (T := TX0) (N := 10) hx hb hts huX0 hown hK hP 0 rfl rfl 9 (by decide) fk32 (fun _ h9 => h9) rfl dX0_leastAt_15 ?_
        refine lv_iload hx hb dX0_leastAt_18 (lv_at hl 4 rfl) ?_
        obtain ⟨c2, hf⟩ := ck_some hf
        refine va_iald hx hb hK hP 5 0 rfl rfl c2 dX0_leastAt_20 ?_
        refine lv_istore (lv' := [(5, .int (c_order x.2.toNatClampNeg)), (0, .ref (qC 0)), (1, .int a1), (2, .int a2), (3, .int x.1), (4, .int x.2)]) hx hb dX0_leastAt_21 hl (by decide) rfl (fun ls hl => ?_)
        refine lv_aload_n hx hb dX0_leastAt_23 rfl (lv_at hl 1 rfl) ?_
        refine va_get (v := .ref (uC 2)) (D := D) (ci := 0) (C := RX0) (T := TX0) (N := 10) hx hb hts huX0 hown hK hP 0 rfl rfl 8 (by decide) fk29 (fun _ h9 => h9) rfl dX0_leastAt_24 ?_
        refine lv_iload hx hb dX0_leastAt_27 (lv_at hl 0 rfl) ?_
        obtain ⟨c3, hf⟩ := ck_some hf
        refine va_iald hx hb hK hP 4 0 rfl rfl c3 dX0_leastAt_29 ?_
        refine lv_iload_n hx hb dX0_leastAt_30 rfl (lv_at hl 2 rfl) ?_
        refine lv_icmp_gt (tgt := 50) hx hb dX0_leastAt_31 (by decide) (fun c4 => ?_) (fun c4 => ?_)
        · have hf := if_t hf c4
          exact hJ50 x.1 x.2 _ _ _ hf hP hD hS (lv_sub hl [1, 2, 3, 4, 5] rfl)
        · have hf := if_f hf c4
          refine lv_iload_n hx hb dX0_leastAt_34 rfl (lv_at hl 4 rfl) ?_
          refine lv_iload_n hx hb dX0_leastAt_35 rfl (lv_at hl 3 rfl) ?_
          refine lv_icmp_ne (tgt := 47) hx hb dX0_leastAt_36 (by decide) (fun c5 => ?_) (fun c5 => ?_)
          · have hf := if_f hf c5
            refine lv_iinc (v := (x.1 + (1 : Int32))) (lv' := [(3, .int (x.1 + (1 : Int32))), (5, .int (c_order x.2.toNatClampNeg)), (0, .ref (qC 0)), (1, .int a1), (2, .int a2), (4, .int x.2)]) hx hb dX0_leastAt_47 hl (k := 4) rfl rfl (by decide) rfl (fun ls hl => ?_)
            exact hJ50 (x.1 + (1 : Int32)) x.2 _ _ _ hf hP hD hS (lv_sub hl [2, 3, 4, 0, 5] rfl)
          · have hf := if_t hf c5
            refine lv_aload_n hx hb dX0_leastAt_39 rfl (lv_at hl 1 rfl) ?_
            refine va_get (v := .ref (uC 0)) (D := D) (ci := 0) (C := RX0) (T := TX0) (N := 10) hx hb hts huX0 hown hK hP 0 rfl rfl 6 (by decide) fk22 (fun _ h9 => h9) rfl dX0_leastAt_40 ?_
            refine lv_iload hx hb dX0_leastAt_43 (lv_at hl 0 rfl) ?_
            obtain ⟨c6, hf⟩ := ck_some hf
            refine va_lald hx hb hK hP 2 1 rfl rfl c6 dX0_leastAt_45 ?_
            obtain rfl := Option.some.inj hf
            obtain rfl := hret _ rfl
            exact hQ () 46 _ _ _ dX0_leastAt_46 hP hD hS
  refine lv_iconst (v := (0 : Int32)) hx hb dX0_leastAt_0 (by decide) ?_
  refine lv_istore_n (lv' := [(3, .int (0 : Int32)), (0, .ref (qC 0)), (1, .int a1), (2, .int a2)]) hx hb dX0_leastAt_1 rfl hl (by decide) rfl (fun ls hl => ?_)
  refine lv_iconst (v := (0 : Int32)) hx hb dX0_leastAt_2 (by decide) ?_
  refine lv_istore (lv' := [(4, .int (0 : Int32)), (3, .int (0 : Int32)), (0, .ref (qC 0)), (1, .int a1), (2, .int a2)]) hx hb dX0_leastAt_3 hl (by decide) rfl (fun ls hl => ?_)
  obtain ⟨ex7, hcl, hf⟩ := ob_some hf
  refine hL5 F ((0 : Int32), (0 : Int32)) ex7 _ _ _ hcl (fun r hr0 => ?_) (fun er8 hr0 H locs ls hP hD hS hl => ?_) hP hD hS (lv_sub hl [2, 3, 4, 1, 0] rfl)
  · subst hr0; exact Option.some.inj (sm_inl hf)
  · subst hr0
    have hf := sm_inr hf
    refine lv_iload_n hx hb dX0_leastAt_56 rfl (lv_at hl 0 rfl) ?_
    refine lv_iload_n hx hb dX0_leastAt_57 rfl (lv_at hl 1 rfl) ?_
    obtain ⟨r9, hc10, hf⟩ := ob_some hf
    refine kc_i (k_runSN ⟨hx, hb, hml, hown, hts⟩ (c_X10_countOrNone hc10) ⟨va_cnB 2 hts ggX0_leastAt_X10_countOrNone rfl rfl rfl hN.2.2.1 (hts (.initialized RX10) (by decide +kernel)) (by decide +kernel) ⟨Nat.le_of_ble_eq_true rfl, Nat.le_of_ble_eq_true rfl⟩, hts (.static yX10_countOrNone) (by decide +kernel), trivial⟩ hK hN hP hD kA_0 rfl hl.1 rfl (Nat.le_of_ble_eq_true rfl) dX0_leastAt_58 ⟨Nat.le_of_ble_eq_true rfl, Nat.le_of_ble_eq_true rfl⟩) hP hD hS hA kI_0 (fun _ H locs hP hD hS => ?_)
    refine lv_i2l hx hb dX0_leastAt_61 rfl ?_
    obtain rfl := Option.some.inj hf
    exact hQ () 62 _ _ _ dX0_leastAt_62 hP hD hS
def f_X0_rankOf_B2 (F : Nat) (a1 : Int64) (c_size : Int32) (c_n_leasts : Nat) (c_leasts : Nat → Int64) (c_n_order : Nat) (c_order : Nat → Int32) (rec : Int32 → Option (Int32)) (x : Int32) : Option (Int32) := if c_size ≤ x then (some x) else (ck (¬ (x < 0 ∨ c_n_order ≤ x.toNatClampNeg)) (ck (¬ ((c_order x.toNatClampNeg) < 0 ∨ c_n_leasts ≤ (c_order x.toNatClampNeg).toNatClampNeg)) (if a1 ≤ (c_leasts (c_order x.toNatClampNeg).toNatClampNeg) then (some x) else (rec (x + (1 : Int32))))))
def f_X0_rankOf (F : Nat) (a1 : Int64) (c_size : Int32) (c_n_leasts : Nat) (c_leasts : Nat → Int64) (c_n_order : Nat) (c_order : Nat → Int32) : Option (Int32) := (lp (f_X0_rankOf_B2 F a1 c_size c_n_leasts c_leasts c_n_order c_order) F (0 : Int32)).bind (fun ex5 => some ex5)
abbrev rmX0_rankOf : Room := { frames := 0, cells := 0, slots := 0, locals := 0 }
set_option maxHeartbeats 1000000 in
set_option maxRecDepth 100000 in
theorem c_X0_rankOf {l : Launch} {D : va_G} {cy : Nat → ClassId} {qC : Nat → Nat} {qG : Nat → Nat} {qS : Nat → Nat} {uC : Nat → Nat} {c_step : Int32} {c_stamp : Int32} {c_homes : Nat → Int32} {c_size : Int32} {c_n_leasts : Nat} {c_leasts : Nat → Int64} {c_n_lengths : Nat} {c_lengths : Nat → Int32} {c_n_firstBy : Nat} {c_firstBy : Nat → Int32} {c_n_order : Nat} {c_order : Nat → Int32} {a1 : Int64} {F : Nat} {res : Int32} (hf : f_X0_rankOf F a1 c_size c_n_leasts c_leasts c_n_order c_order = some res) : kM l yX0_rankOf wsX0_rankOf rmX0_rankOf D cy [.ref (qC 0), .long a1] (gC cy qC uC (qG 0) (qS 0) c_step c_stamp c_homes c_size c_n_leasts c_leasts c_n_lengths c_lengths c_n_firstBy c_firstBy c_n_order c_order) (kQi D cy (fun _ : Unit => gC cy qC uC (qG 0) (qS 0) c_step c_stamp c_homes c_size c_n_leasts c_leasts c_n_lengths c_lengths c_n_firstBy c_firstBy c_n_order c_order) res) := by
  refine kent_i (cc := cX0_rankOf) (maxL := 4) (by decide) rfl (Nat.le_of_ble_eq_true rfl) ?_
  intro p e0 s m ar below meth c A Q ls ⟨hx, hb, hml, hr, hts, hown, hlocks, hnm⟩ hA hK hN hQ hP hD hS hl
  have hl : lv_has ls 4 [(0, .ref (qC 0)), (1, .long a1)] := hl
  have hown : s.vm.findClass RX0 = some m.cls := hown
  have huX0 : ∀ x ∈ u_ws RX0 TX0 10, x ∈ wsX0_rankOf := by decide +kernel
  have fk19 : (Cond.fieldLink RX0 19 "FigurePlay$Circles" "size" "I").before ar s = true := hts _ (by decide +kernel)
  have fk22 : (Cond.fieldLink RX0 22 "FigurePlay$Circles" "leasts" "[J").before ar s = true := hts _ (by decide +kernel)
  have fk32 : (Cond.fieldLink RX0 32 "FigurePlay$Circles" "order" "[I").before ar s = true := hts _ (by decide +kernel)
  unfold f_X0_rankOf at hf
  have hL2 : ∀ (k : Nat) (x : Int32) (ex : Int32) (H : Heap) (locs : List Loc) (ls : Array Slot), lp (f_X0_rankOf_B2 F a1 c_size c_n_leasts c_leasts c_n_order c_order) k x = some ex → (∀ (H : Heap) (locs : List Loc) (ls : Array Slot), va_P D vwCl (gC cy qC uC (qG 0) (qS 0) c_step c_stamp c_homes c_size c_n_leasts c_leasts c_n_lengths c_lengths c_n_firstBy c_firstBy c_n_order c_order) H → va_D A (gC cy qC uC (qG 0) (qS 0) c_step c_stamp c_homes c_size c_n_leasts c_leasts c_n_lengths c_lengths c_n_firstBy c_firstBy c_n_order c_order) → va_S A s.heap H locs → lv_has ls 4 [(3, .int ex)] → W p l e0 rmX0_rankOf s m ar below meth c H locs 0 0 Q (F0 m 32 ls [])) → va_P D vwCl (gC cy qC uC (qG 0) (qS 0) c_step c_stamp c_homes c_size c_n_leasts c_leasts c_n_lengths c_lengths c_n_firstBy c_firstBy c_n_order c_order) H → va_D A (gC cy qC uC (qG 0) (qS 0) c_step c_stamp c_homes c_size c_n_leasts c_leasts c_n_lengths c_lengths c_n_firstBy c_firstBy c_n_order c_order) → va_S A s.heap H locs → lv_has ls 4 [(0, .ref (qC 0)), (1, .long a1), (3, .int x)] → W p l e0 rmX0_rankOf s m ar below meth c H locs 0 0 Q (F0 m 2 ls []) := by
    intro k
    induction k with
    | zero => intro x ex H locs ls hf; exact no_some hf
    | succ k ih =>
      intro x ex H locs ls hf hex hP hD hS hl
      have hf : f_X0_rankOf_B2 F a1 c_size c_n_leasts c_leasts c_n_order c_order (lp (f_X0_rankOf_B2 F a1 c_size c_n_leasts c_leasts c_n_order c_order) k) x = some ex := hf
      unfold f_X0_rankOf_B2 at hf
      refine lv_iload_n hx hb dX0_rankOf_2 rfl (lv_at hl 2 rfl) ?_
      refine lv_aload_n hx hb dX0_rankOf_3 rfl (lv_at hl 0 rfl) ?_
      refine va_get (D := D) (ci := 0) (C := RX0) (T := TX0) (N := 10) hx hb hts huX0 hown hK hP 0 rfl rfl 5 (by decide) fk19 (fun _ h9 => h9) rfl dX0_rankOf_4 ?_
      refine lv_icmp_ge (tgt := 32) hx hb dX0_rankOf_7 (by decide) (fun c1 => ?_) (fun c1 => ?_)
      · have hf := if_t hf c1
        obtain rfl := Option.some.inj hf
        exact hex _ _ _ hP hD hS (lv_sub hl [2] rfl)
      · have hf := if_f hf c1
        refine lv_aload_n hx hb dX0_rankOf_10 rfl (lv_at hl 0 rfl) ?_
        refine va_get (v := .ref (uC 0)) (D := D) (ci := 0) (C := RX0) (T := TX0) (N := 10) hx hb hts huX0 hown hK hP 0 rfl rfl 6 (by decide) fk22 (fun _ h9 => h9) rfl dX0_rankOf_11 ?_
        refine lv_aload_n hx hb dX0_rankOf_14 rfl (lv_at hl 0 rfl) ?_
        refine va_get (v := .ref (uC 3)) (D := D) (ci := 0) (C := RX0) (T := TX0) (N := 10) hx hb hts huX0 hown hK hP 0 rfl rfl 9 (by decide) fk32 (fun _ h9 => h9) rfl dX0_rankOf_15 ?_
        refine lv_iload_n hx hb dX0_rankOf_18 rfl (lv_at hl 2 rfl) ?_
        obtain ⟨c2, hf⟩ := ck_some hf
        refine va_iald hx hb hK hP 5 0 rfl rfl c2 dX0_rankOf_19 ?_
        obtain ⟨c3, hf⟩ := ck_some hf
        refine va_lald hx hb hK hP 2 1 rfl rfl c3 dX0_rankOf_20 ?_
        refine lv_lload_n hx hb dX0_rankOf_21 rfl (lv_at hl 1 rfl) ?_
        refine kl_ge (tgt := 32) hx hb dX0_rankOf_22 dX0_rankOf_23 (by decide) (fun c4 => ?_) (fun c4 => ?_)
        · have hf := if_t hf c4
          obtain rfl := Option.some.inj hf
          exact hex _ _ _ hP hD hS (lv_sub hl [2] rfl)
        · have hf := if_f hf c4
          refine lv_iinc (v := (x + (1 : Int32))) (lv' := [(3, .int (x + (1 : Int32))), (0, .ref (qC 0)), (1, .long a1)]) hx hb dX0_rankOf_26 hl (k := 2) rfl rfl (by decide) rfl (fun ls hl => ?_)
          refine lv_goto (tgt := 2) hx hb dX0_rankOf_29 (by decide) ?_
          exact ih (x + (1 : Int32)) ex _ _ _ hf hex hP hD hS (lv_sub hl [1, 2, 0] rfl)
  refine lv_iconst (v := (0 : Int32)) hx hb dX0_rankOf_0 (by decide) ?_
  refine lv_istore_n (lv' := [(3, .int (0 : Int32)), (0, .ref (qC 0)), (1, .long a1)]) hx hb dX0_rankOf_1 rfl hl (by decide) rfl (fun ls hl => ?_)
  obtain ⟨ex5, hcl, hf⟩ := ob_some hf
  refine hL2 F (0 : Int32) ex5 _ _ _ hcl (fun H locs ls hP hD hS hl => ?_) hP hD hS (lv_sub hl [1, 2, 0] rfl)
  refine lv_iload_n hx hb dX0_rankOf_32 rfl (lv_at hl 0 rfl) ?_
  obtain rfl := Option.some.inj hf
  exact hQ () 33 _ _ _ dX0_rankOf_33 hP hD hS
def f_X0_settle_B6 (F : Nat) (a3 : Int32) (a4 : Int32) (a5 : Int32) (a6 : Int32) (c_step : Int32) (s_stamp : Int32) (g_base : Int32) (g_worth : Nat → Int32) (rec : Int64 × Int32 × (Nat → Int32) × (Nat → Int32) × (Nat → Int64) × (Nat → Int32) × (Nat → Int32) → Option ((Nat → Int32) × (Nat → Int32) × (Nat → Int64) × (Nat → Int32) × (Nat → Int32))) (x : Int64 × Int32 × (Nat → Int32) × (Nat → Int32) × (Nat → Int64) × (Nat → Int32) × (Nat → Int32)) : Option ((Nat → Int32) × (Nat → Int32) × (Nat → Int64) × (Nat → Int32) × (Nat → Int32)) := if a3 ≤ x.2.1 then (some (x.2.2.1, x.2.2.2.1, x.2.2.2.2.1, x.2.2.2.2.2.1, x.2.2.2.2.2.2)) else ((f_X8_put F x.1 ((if (a4 - x.2.1) < (0 : Int32) then (0 : Int32) else (a4 - x.2.1)) + a5) a6 x.2.2.2.2.1 x.2.2.2.2.2.1 x.2.2.2.2.2.2 s_stamp).bind (fun r2 => (f_X1_make F c_step x.1 g_base g_worth x.2.2.1 x.2.2.2.1).bind (fun r5 => rec (r5.1, (x.2.1 + (1 : Int32)), r5.2.1, r5.2.2, r2.2.1, r2.2.2.1, r2.2.2.2))))
def f_X0_settle (F : Nat) (a1 : Int64) (a3 : Int32) (a4 : Int32) (a5 : Int32) (a6 : Int32) (g_base : Int32) (g_worth : Nat → Int32) (g_row : Nat → Int32) (g_many : Nat → Int32) (s_keys : Nat → Int64) (s_tails : Nat → Int32) (s_homes : Nat → Int32) (s_stamp : Int32) (c_step : Int32) : Option ((Nat → Int32) × (Nat → Int32) × (Nat → Int64) × (Nat → Int32) × (Nat → Int32)) := (lp (f_X0_settle_B6 F a3 a4 a5 a6 c_step s_stamp g_base g_worth) F (a1, (0 : Int32), g_row, g_many, s_keys, s_tails, s_homes)).bind (fun ex8 => some (ex8.1, ex8.2.1, ex8.2.2.1, ex8.2.2.2.1, ex8.2.2.2.2))
abbrev rmX0_settle : Room := { frames := 2, cells := 0, slots := 0, locals := 52 }
set_option maxHeartbeats 1000000 in
set_option maxRecDepth 100000 in
theorem c_X0_settle {l : Launch} {D : va_G} {cy : Nat → ClassId} {qC : Nat → Nat} {qG : Nat → Nat} {qS : Nat → Nat} {uC : Nat → Nat} {c_step : Int32} {c_stamp : Int32} {c_homes : Nat → Int32} {c_size : Int32} {c_n_leasts : Nat} {c_leasts : Nat → Int64} {c_n_lengths : Nat} {c_lengths : Nat → Int32} {c_n_firstBy : Nat} {c_firstBy : Nat → Int32} {c_n_order : Nat} {c_order : Nat → Int32} {s_keys : Nat → Int64} {s_tails : Nat → Int32} {s_homes : Nat → Int32} {s_stamp : Int32} {g_base : Int32} {g_worth : Nat → Int32} {g_row : Nat → Int32} {g_many : Nat → Int32} {g_version : Int32} {a1 : Int64} {a3 : Int32} {a4 : Int32} {a5 : Int32} {a6 : Int32} {F : Nat} {res : (Nat → Int32) × (Nat → Int32) × (Nat → Int64) × (Nat → Int32) × (Nat → Int32)} (hf : f_X0_settle F a1 a3 a4 a5 a6 g_base g_worth g_row g_many s_keys s_tails s_homes s_stamp c_step = some res) : kM l yX0_settle wsX0_settle rmX0_settle D cy [.ref (qC 0), .long a1, .int a3, .int a4, .int a5, .int a6] (gC cy qC uC (qG 0) (qS 0) c_step c_stamp c_homes c_size c_n_leasts c_leasts c_n_lengths c_lengths c_n_firstBy c_firstBy c_n_order c_order ++ (gS cy qS s_keys s_tails s_homes s_stamp ++ (gG cy qG g_base g_worth g_row g_many g_version))) (kQv D cy (fun _ : Unit => gC cy qC uC (qG 0) (qS 0) c_step c_stamp c_homes c_size c_n_leasts c_leasts c_n_lengths c_lengths c_n_firstBy c_firstBy c_n_order c_order ++ (gS cy qS res.2.2.1 res.2.2.2.1 res.2.2.2.2 s_stamp ++ (gG cy qG g_base g_worth res.1 res.2.1 g_version)))) := by
  refine kent_v (cc := cX0_settle) (maxL := 10) (by decide) rfl (Nat.le_of_ble_eq_true rfl) ?_
  intro p e0 s m ar below meth c A Q ls ⟨hx, hb, hml, hr, hts, hown, hlocks, hnm⟩ hA hK hN hQ hP hD hS hl
  have hl : lv_has ls 10 [(0, .ref (qC 0)), (1, .long a1), (3, .int a3), (4, .int a4), (5, .int a5), (6, .int a6)] := hl
  have hown : s.vm.findClass RX0 = some m.cls := hown
  have huX0 : ∀ x ∈ u_ws RX0 TX0 10, x ∈ wsX0_settle := by decide +kernel
  have fk42 : (Cond.fieldLink RX0 42 "FigurePlay$Circles" "slots" "LFigurePlay$Slots;").before ar s = true := hts _ (by decide +kernel)
  have fk35 : (Cond.fieldLink RX0 35 "FigurePlay$Circles" "figures" "LFigurePlay$Figures;").before ar s = true := hts _ (by decide +kernel)
  have fk39 : (Cond.fieldLink RX0 39 "FigurePlay$Circles" "step" "I").before ar s = true := hts _ (by decide +kernel)
  unfold f_X0_settle at hf
  have hL6 : ∀ (k : Nat) (x : Int64 × Int32 × (Nat → Int32) × (Nat → Int32) × (Nat → Int64) × (Nat → Int32) × (Nat → Int32)) (ex : (Nat → Int32) × (Nat → Int32) × (Nat → Int64) × (Nat → Int32) × (Nat → Int32)) (H : Heap) (locs : List Loc) (ls : Array Slot), lp (f_X0_settle_B6 F a3 a4 a5 a6 c_step s_stamp g_base g_worth) k x = some ex → (∀ (H : Heap) (locs : List Loc) (ls : Array Slot), va_P D vwCl (gC cy qC uC (qG 0) (qS 0) c_step c_stamp c_homes c_size c_n_leasts c_leasts c_n_lengths c_lengths c_n_firstBy c_firstBy c_n_order c_order ++ (gS cy qS ex.2.2.1 ex.2.2.2.1 ex.2.2.2.2 s_stamp ++ (gG cy qG g_base g_worth ex.1 ex.2.1 g_version))) H → va_D A (gC cy qC uC (qG 0) (qS 0) c_step c_stamp c_homes c_size c_n_leasts c_leasts c_n_lengths c_lengths c_n_firstBy c_firstBy c_n_order c_order ++ (gS cy qS ex.2.2.1 ex.2.2.2.1 ex.2.2.2.2 s_stamp ++ (gG cy qG g_base g_worth ex.1 ex.2.1 g_version))) → va_S A s.heap H locs → lv_has ls 10 [] → W p l e0 rmX0_settle s m ar below meth c H locs 0 0 Q (F0 m 57 ls [])) → va_P D vwCl (gC cy qC uC (qG 0) (qS 0) c_step c_stamp c_homes c_size c_n_leasts c_leasts c_n_lengths c_lengths c_n_firstBy c_firstBy c_n_order c_order ++ (gS cy qS x.2.2.2.2.1 x.2.2.2.2.2.1 x.2.2.2.2.2.2 s_stamp ++ (gG cy qG g_base g_worth x.2.2.1 x.2.2.2.1 g_version))) H → va_D A (gC cy qC uC (qG 0) (qS 0) c_step c_stamp c_homes c_size c_n_leasts c_leasts c_n_lengths c_lengths c_n_firstBy c_firstBy c_n_order c_order ++ (gS cy qS x.2.2.2.2.1 x.2.2.2.2.2.1 x.2.2.2.2.2.2 s_stamp ++ (gG cy qG g_base g_worth x.2.2.1 x.2.2.2.1 g_version))) → va_S A s.heap H locs → lv_has ls 10 [(0, .ref (qC 0)), (3, .int a3), (4, .int a4), (5, .int a5), (6, .int a6), (7, .long x.1), (9, .int x.2.1)] → W p l e0 rmX0_settle s m ar below meth c H locs 0 0 Q (F0 m 6 ls []) := by
    intro k
    induction k with
    | zero => intro x ex H locs ls hf; exact no_some hf
    | succ k ih =>
      intro x ex H locs ls hf hex hP hD hS hl
      have hf : f_X0_settle_B6 F a3 a4 a5 a6 c_step s_stamp g_base g_worth (lp (f_X0_settle_B6 F a3 a4 a5 a6 c_step s_stamp g_base g_worth) k) x = some ex := hf
      unfold f_X0_settle_B6 at hf
      refine lv_iload hx hb dX0_settle_6 (lv_at hl 6 rfl) ?_
      refine lv_iload_n hx hb dX0_settle_8 rfl (lv_at hl 1 rfl) ?_
      refine lv_icmp_ge (tgt := 57) hx hb dX0_settle_9 (by decide) (fun c1 => ?_) (fun c1 => ?_)
      · have hf := if_t hf c1
        obtain rfl := Option.some.inj hf
        exact hex _ _ _ hP hD hS (lv_sub hl [] rfl)
      · have hf := if_f hf c1
        refine lv_aload_n hx hb dX0_settle_12 rfl (lv_at hl 0 rfl) ?_
        refine va_get (v := .ref (qS 0)) (D := D) (ci := 0) (C := RX0) (T := TX0) (N := 10) hx hb hts huX0 hown hK hP 0 rfl rfl 2 (by decide) fk42 (fun _ h9 => h9) rfl dX0_settle_13 ?_
        refine lv_lload hx hb dX0_settle_16 (lv_at hl 5 rfl) ?_
        refine lv_iload hx hb dX0_settle_18 (lv_at hl 2 rfl) ?_
        refine lv_iload hx hb dX0_settle_20 (lv_at hl 6 rfl) ?_
        refine lv_isub hx hb dX0_settle_22 ?_
        refine lv_iconst (v := (0 : Int32)) hx hb dX0_settle_23 (by decide) ?_
        refine va_mmax hx hb (hml.trans hl.1.symm) hown (hts (.methodLink RX0 96 Lib.Math.max.name) (by decide +kernel)) (hts (.static Lib.Math.max.name) (by decide +kernel)) (hts (.initialized "java/lang/Math") (by decide +kernel)) (hts (.code Lib.Math.max.name Lib.Math.max.code 2 (some .int)) (by decide +kernel)) (Nat.le_of_ble_eq_true rfl) (Nat.le_of_ble_eq_true rfl) (Nat.le_of_ble_eq_true rfl) (Nat.le_of_ble_eq_true rfl) dX0_settle_24 ?_
        refine lv_iload hx hb dX0_settle_27 (lv_at hl 3 rfl) ?_
        refine lv_iadd hx hb dX0_settle_29 ?_
        refine lv_iload hx hb dX0_settle_30 (lv_at hl 4 rfl) ?_
        obtain ⟨r2, hc3, hf⟩ := ob_some hf
        have hI4 : kIn (gC cy qC uC (qG 0) (qS 0) c_step c_stamp c_homes c_size c_n_leasts c_leasts c_n_lengths c_lengths c_n_firstBy c_firstBy c_n_order c_order ++ (gS cy qS x.2.2.2.2.1 x.2.2.2.2.2.1 x.2.2.2.2.2.2 s_stamp ++ (gG cy qG g_base g_worth x.2.2.1 x.2.2.2.1 g_version))) (gS cy qS x.2.2.2.2.1 x.2.2.2.2.2.1 x.2.2.2.2.2.2 s_stamp) (kpick (gC cy qC uC (qG 0) (qS 0) c_step c_stamp c_homes c_size c_n_leasts c_leasts c_n_lengths c_lengths c_n_firstBy c_firstBy c_n_order c_order ++ (gS cy qS x.2.2.2.2.1 x.2.2.2.2.2.1 x.2.2.2.2.2.2 s_stamp ++ (gG cy qG g_base g_worth x.2.2.1 x.2.2.2.1 g_version))) [0, 1, 2, 3, 4, 5, 10, 11, 12, 13]) (fun _ : Unit => gS cy qS r2.2.1 r2.2.2.1 r2.2.2.2 s_stamp) (fun _ : Unit => gC cy qC uC (qG 0) (qS 0) c_step c_stamp c_homes c_size c_n_leasts c_leasts c_n_lengths c_lengths c_n_firstBy c_firstBy c_n_order c_order ++ (gS cy qS r2.2.1 r2.2.2.1 r2.2.2.2 s_stamp ++ (gG cy qG g_base g_worth x.2.2.1 x.2.2.2.1 g_version))) [6, 7, 8, 9] [0, 1, 2, 3, 4, 5, 10, 11, 12, 13] [0, 1, 2, 3, 4, 5, 10, 11, 12, 13, 6, 7, 8, 9] := ⟨rfl, rfl, rfl, rfl, by decide, rfl, fun _ => rfl⟩
        refine kc_i (k_run ⟨hx, hb, hml, hown, hts⟩ (c_X8_put hc3) (cwV 3 hts gX0_settle_X8_put rfl rfl rfl (by decide +kernel) ⟨Nat.le_of_ble_eq_true rfl, Nat.le_of_ble_eq_true rfl⟩) hK hN hP hD ⟨hI4.1, hI4.2.2.1⟩ (ci := 8) (q0 := 0) rfl rfl rfl rfl hl.1 rfl (Nat.le_of_ble_eq_true rfl) dX0_settle_32 ⟨Nat.le_of_ble_eq_true rfl, Nat.le_of_ble_eq_true rfl⟩) hP hD hS hA hI4 (fun _ H locs hP hD hS => ?_)
        refine lv_pop hx hb dX0_settle_35 rfl ?_
        refine lv_aload_n hx hb dX0_settle_36 rfl (lv_at hl 0 rfl) ?_
        refine va_get (v := .ref (qG 0)) (D := D) (ci := 0) (C := RX0) (T := TX0) (N := 10) hx hb hts huX0 hown hK hP 0 rfl rfl 0 (by decide) fk35 (fun _ h9 => h9) rfl dX0_settle_37 ?_
        refine lv_aload_n hx hb dX0_settle_40 rfl (lv_at hl 0 rfl) ?_
        refine va_get (D := D) (ci := 0) (C := RX0) (T := TX0) (N := 10) hx hb hts huX0 hown hK hP 0 rfl rfl 1 (by decide) fk39 (fun _ h9 => h9) rfl dX0_settle_41 ?_
        refine lv_lload hx hb dX0_settle_44 (lv_at hl 5 rfl) ?_
        obtain ⟨r5, hc6, hf⟩ := ob_some hf
        have hI7 : kIn (gC cy qC uC (qG 0) (qS 0) c_step c_stamp c_homes c_size c_n_leasts c_leasts c_n_lengths c_lengths c_n_firstBy c_firstBy c_n_order c_order ++ (gS cy qS r2.2.1 r2.2.2.1 r2.2.2.2 s_stamp ++ (gG cy qG g_base g_worth x.2.2.1 x.2.2.2.1 g_version))) (gG cy qG g_base g_worth x.2.2.1 x.2.2.2.1 g_version) (kpick (gC cy qC uC (qG 0) (qS 0) c_step c_stamp c_homes c_size c_n_leasts c_leasts c_n_lengths c_lengths c_n_firstBy c_firstBy c_n_order c_order ++ (gS cy qS r2.2.1 r2.2.2.1 r2.2.2.2 s_stamp ++ (gG cy qG g_base g_worth x.2.2.1 x.2.2.2.1 g_version))) [0, 1, 2, 3, 4, 5, 6, 7, 8, 9]) (fun _ : Unit => gG cy qG g_base g_worth r5.2.1 r5.2.2 g_version) (fun _ : Unit => gC cy qC uC (qG 0) (qS 0) c_step c_stamp c_homes c_size c_n_leasts c_leasts c_n_lengths c_lengths c_n_firstBy c_firstBy c_n_order c_order ++ (gS cy qS r2.2.1 r2.2.2.1 r2.2.2.2 s_stamp ++ (gG cy qG g_base g_worth r5.2.1 r5.2.2 g_version))) [10, 11, 12, 13] [0, 1, 2, 3, 4, 5, 6, 7, 8, 9] [0, 1, 2, 3, 4, 5, 6, 7, 8, 9, 10, 11, 12, 13] := ⟨rfl, rfl, rfl, rfl, by decide, rfl, fun _ => rfl⟩
        refine kc_l (k_run ⟨hx, hb, hml, hown, hts⟩ (c_X1_make hc6) (cwV 2 hts gX0_settle_X1_make rfl rfl rfl (by decide +kernel) ⟨Nat.le_of_ble_eq_true rfl, Nat.le_of_ble_eq_true rfl⟩) hK hN hP hD ⟨hI7.1, hI7.2.2.1⟩ (ci := 1) (q0 := 0) rfl rfl rfl rfl hl.1 rfl (Nat.le_of_ble_eq_true rfl) dX0_settle_46 ⟨Nat.le_of_ble_eq_true rfl, Nat.le_of_ble_eq_true rfl⟩) hP hD hS hA hI7 (fun _ H locs hP hD hS => ?_)
        refine lv_lstore (lv' := [(7, .long r5.1), (0, .ref (qC 0)), (3, .int a3), (4, .int a4), (5, .int a5), (6, .int a6), (9, .int x.2.1)]) hx hb dX0_settle_49 hl (by decide) rfl (fun ls hl => ?_)
        refine lv_iinc (v := (x.2.1 + (1 : Int32))) (lv' := [(9, .int (x.2.1 + (1 : Int32))), (7, .long r5.1), (0, .ref (qC 0)), (3, .int a3), (4, .int a4), (5, .int a5), (6, .int a6)]) hx hb dX0_settle_51 hl (k := 6) rfl rfl (by decide) rfl (fun ls hl => ?_)
        refine lv_goto (tgt := 6) hx hb dX0_settle_54 (by decide) ?_
        exact ih (r5.1, (x.2.1 + (1 : Int32)), r5.2.1, r5.2.2, r2.2.1, r2.2.2.1, r2.2.2.2) ex _ _ _ hf hex hP hD hS (lv_sub hl [2, 3, 4, 5, 6, 1, 0] rfl)
  refine lv_lload_n hx hb dX0_settle_0 rfl (lv_at hl 1 rfl) ?_
  refine lv_lstore (lv' := [(7, .long a1), (0, .ref (qC 0)), (1, .long a1), (3, .int a3), (4, .int a4), (5, .int a5), (6, .int a6)]) hx hb dX0_settle_1 hl (by decide) rfl (fun ls hl => ?_)
  refine lv_iconst (v := (0 : Int32)) hx hb dX0_settle_3 (by decide) ?_
  refine lv_istore (lv' := [(9, .int (0 : Int32)), (7, .long a1), (0, .ref (qC 0)), (1, .long a1), (3, .int a3), (4, .int a4), (5, .int a5), (6, .int a6)]) hx hb dX0_settle_4 hl (by decide) rfl (fun ls hl => ?_)
  obtain ⟨ex8, hcl, hf⟩ := ob_some hf
  refine hL6 F (a1, (0 : Int32), g_row, g_many, s_keys, s_tails, s_homes) ex8 _ _ _ hcl (fun H locs ls hP hD hS hl => ?_) hP hD hS (lv_sub hl [2, 4, 5, 6, 7, 1, 0] rfl)
  obtain rfl := Option.some.inj hf
  exact hQ () 57 _ _ _ dX0_settle_57 hP hD hS
def f_X0_insert_B86 (F : Nat) (a1 : Int32) (c_size : Int32) (c_n_leasts : Nat) (c_leasts : Nat → Int64) (c_n_lengths : Nat) (c_lengths : Nat → Int32) (c_n_firstBy : Nat) (c_firstBy : Nat → Int32) (c_n_order : Nat) (rec : Int32 × (Nat → Int32) → Option ((Nat → Int32))) (x : Int32 × (Nat → Int32)) : Option ((Nat → Int32)) := if x.1 ≤ a1 then (some x.2) else (ck (¬ ((x.1 - (1 : Int32)) < 0 ∨ c_n_order ≤ (x.1 - (1 : Int32)).toNatClampNeg)) (ck (¬ (x.1 < 0 ∨ c_n_order ≤ x.1.toNatClampNeg)) (rec ((x.1 + (-1 : Int32)), (upd x.2 x.1.toNatClampNeg (x.2 (x.1 - (1 : Int32)).toNatClampNeg))))))
def f_X0_insert_J80 (F : Nat) (a1 : Int32) (a2 : Int64) (a4 : Int32) (pm : Nat) (c_size : Int32) (c_n_leasts : Nat) (c_leasts : Nat → Int64) (c_n_lengths : Nat) (c_lengths : Nat → Int32) (c_n_firstBy : Nat) (c_firstBy : Nat → Int32) (c_n_order : Nat) (c_order : Nat → Int32) : Option (Int32 × Nat × (Nat → Int64) × Nat × (Nat → Int32) × Nat × (Nat → Int32) × Nat × (Nat → Int32)) := (lp (f_X0_insert_B86 F a1 c_size c_n_leasts c_leasts c_n_lengths c_lengths c_n_firstBy c_firstBy c_n_order) F (c_size, c_order)).bind (fun ex4 => ck (¬ (a1 < 0 ∨ c_n_order ≤ a1.toNatClampNeg)) (ck (¬ (c_size < 0 ∨ c_n_leasts ≤ c_size.toNatClampNeg)) (ck (¬ (c_size < 0 ∨ c_n_lengths ≤ c_size.toNatClampNeg)) (ck (¬ (c_size < 0 ∨ c_n_firstBy ≤ c_size.toNatClampNeg)) (ck ((c_n_leasts + c_n_lengths + c_n_firstBy + c_n_order) = pm) (some ((c_size + (1 : Int32)), c_n_leasts, (vp_updL c_leasts c_size.toNatClampNeg a2), c_n_lengths, (upd c_lengths c_size.toNatClampNeg a4), c_n_firstBy, (upd c_firstBy c_size.toNatClampNeg (20001 : Int32)), c_n_order, (upd ex4 a1.toNatClampNeg c_size))))))))
def f_X0_insert (F : Nat) (pm : Nat) (a1 : Int32) (a2 : Int64) (a4 : Int32) (c_size : Int32) (c_n_leasts : Nat) (c_leasts : Nat → Int64) (c_n_lengths : Nat) (c_lengths : Nat → Int32) (c_n_firstBy : Nat) (c_firstBy : Nat → Int32) (c_n_order : Nat) (c_order : Nat → Int32) : Option (Int32 × Nat × (Nat → Int64) × Nat × (Nat → Int32) × Nat × (Nat → Int32) × Nat × (Nat → Int32)) := ck ((c_n_leasts + c_n_lengths + c_n_firstBy + c_n_order) ≤ pm) (if c_size = (Int32.ofNat c_n_order) then (ck (¬ ((2 : Int32) * c_size) < 0 ∧ 2 * c_n_leasts ≤ ((2 : Int32) * c_size).toNatClampNeg ∧ 1 ≤ c_n_leasts ∧ (c_n_leasts + c_n_lengths + c_n_firstBy + c_n_order) - c_n_leasts + ((2 : Int32) * c_size).toNatClampNeg ≤ pm ∧ ((2 : Int32) * c_size).toNatClampNeg ≤ 100000) (ck (¬ ((2 : Int32) * c_size) < 0 ∧ 2 * c_n_lengths ≤ ((2 : Int32) * c_size).toNatClampNeg ∧ 1 ≤ c_n_lengths ∧ (((2 : Int32) * c_size).toNatClampNeg + c_n_lengths + c_n_firstBy + c_n_order) - c_n_lengths + ((2 : Int32) * c_size).toNatClampNeg ≤ pm ∧ ((2 : Int32) * c_size).toNatClampNeg ≤ 100000) (ck (¬ ((2 : Int32) * c_size) < 0 ∧ 2 * c_n_firstBy ≤ ((2 : Int32) * c_size).toNatClampNeg ∧ 1 ≤ c_n_firstBy ∧ (((2 : Int32) * c_size).toNatClampNeg + ((2 : Int32) * c_size).toNatClampNeg + c_n_firstBy + c_n_order) - c_n_firstBy + ((2 : Int32) * c_size).toNatClampNeg ≤ pm ∧ ((2 : Int32) * c_size).toNatClampNeg ≤ 100000) (ck (¬ ((2 : Int32) * c_size) < 0 ∧ 2 * c_n_order ≤ ((2 : Int32) * c_size).toNatClampNeg ∧ 1 ≤ c_n_order ∧ (((2 : Int32) * c_size).toNatClampNeg + ((2 : Int32) * c_size).toNatClampNeg + ((2 : Int32) * c_size).toNatClampNeg + c_n_order) - c_n_order + ((2 : Int32) * c_size).toNatClampNeg ≤ pm ∧ ((2 : Int32) * c_size).toNatClampNeg ≤ 100000) (f_X0_insert_J80 F a1 a2 a4 pm c_size ((2 : Int32) * c_size).toNatClampNeg (va_cpy c_leasts (fun _ => 0) 0 0 c_n_leasts) ((2 : Int32) * c_size).toNatClampNeg (va_cpy c_lengths (fun _ => 0) 0 0 c_n_lengths) ((2 : Int32) * c_size).toNatClampNeg (va_cpy c_firstBy (fun _ => 0) 0 0 c_n_firstBy) ((2 : Int32) * c_size).toNatClampNeg (va_cpy c_order (fun _ => 0) 0 0 c_n_order)))))) else (f_X0_insert_J80 F a1 a2 a4 pm c_size c_n_leasts c_leasts c_n_lengths c_lengths c_n_firstBy c_firstBy c_n_order c_order))
abbrev rmX0_insert (k : Nat) : Room := { frames := 2, cells := k, slots := 2 * k, locals := 100 }
set_option maxHeartbeats 1000000 in
set_option maxRecDepth 100000 in
theorem c_X0_insert {l : Launch} {D : va_G} {cy : Nat → ClassId} {qC : Nat → Nat} {qG : Nat → Nat} {qS : Nat → Nat} {uC : Nat → Nat} {c_step : Int32} {c_stamp : Int32} {c_homes : Nat → Int32} {c_size : Int32} {c_n_leasts : Nat} {c_leasts : Nat → Int64} {c_n_lengths : Nat} {c_lengths : Nat → Int32} {c_n_firstBy : Nat} {c_firstBy : Nat → Int32} {c_n_order : Nat} {c_order : Nat → Int32} {a1 : Int32} {a2 : Int64} {a4 : Int32} {F : Nat} {pm pot0 : Nat} {res : Int32 × Nat × (Nat → Int64) × Nat × (Nat → Int32) × Nat × (Nat → Int32) × Nat × (Nat → Int32)} (hf : f_X0_insert F pm a1 a2 a4 c_size c_n_leasts c_leasts c_n_lengths c_lengths c_n_firstBy c_firstBy c_n_order c_order = some res) (hp0 : pot0 = (c_n_leasts + c_n_lengths + c_n_firstBy + c_n_order)) : kM l yX0_insert wsX0_insert (rmX0_insert (pm - pot0)) D cy [.ref (qC 0), .int a1, .long a2, .int a4] (gC cy qC uC (qG 0) (qS 0) c_step c_stamp c_homes c_size c_n_leasts c_leasts c_n_lengths c_lengths c_n_firstBy c_firstBy c_n_order c_order) (kQv D cy (fun uC : Nat → Nat => gC cy qC uC (qG 0) (qS 0) c_step c_stamp c_homes res.1 res.2.1 res.2.2.1 res.2.2.2.1 res.2.2.2.2.1 res.2.2.2.2.2.1 res.2.2.2.2.2.2.1 res.2.2.2.2.2.2.2.1 res.2.2.2.2.2.2.2.2)) := by
  refine kent_v (cc := cX0_insert) (maxL := 6) (by decide) rfl (Nat.le_of_ble_eq_true rfl) ?_
  intro p e0 s m ar below meth c A Q ls ⟨hx, hb, hml, hr, hts, hown, hlocks, hnm⟩ hA hK hN hQ hP hD hS hl
  have hl : lv_has ls 6 [(0, .ref (qC 0)), (1, .int a1), (2, .long a2), (4, .int a4)] := hl
  have hown : s.vm.findClass RX0 = some m.cls := hown
  have huX0 : ∀ x ∈ u_ws RX0 TX0 10, x ∈ wsX0_insert := by decide +kernel
  have fk32 : (Cond.fieldLink RX0 32 "FigurePlay$Circles" "order" "[I").before ar s = true := hts _ (by decide +kernel)
  have fk19 : (Cond.fieldLink RX0 19 "FigurePlay$Circles" "size" "I").before ar s = true := hts _ (by decide +kernel)
  have fk22 : (Cond.fieldLink RX0 22 "FigurePlay$Circles" "leasts" "[J").before ar s = true := hts _ (by decide +kernel)
  have fk26 : (Cond.fieldLink RX0 26 "FigurePlay$Circles" "lengths" "[I").before ar s = true := hts _ (by decide +kernel)
  have fk29 : (Cond.fieldLink RX0 29 "FigurePlay$Circles" "firstBy" "[I").before ar s = true := hts _ (by decide +kernel)
  unfold f_X0_insert at hf
  obtain ⟨cp0, hf⟩ := ck_some hf
  have hpt : pot0 ≤ (c_n_leasts + c_n_lengths + c_n_firstBy + c_n_order) ∧ (c_n_leasts + c_n_lengths + c_n_firstBy + c_n_order) ≤ pm := by omega
  refine W.widen (k := (c_n_leasts + c_n_lengths + c_n_firstBy + c_n_order) - pot0) (n := 2 * ((c_n_leasts + c_n_lengths + c_n_firstBy + c_n_order) - pot0)) (Nat.zero_le _) (Nat.zero_le _) ?_
  have hL86 : ∀ (c_size : Int32) (c_n_leasts : Nat) (c_leasts : Nat → Int64) (c_n_lengths : Nat) (c_lengths : Nat → Int32) (c_n_firstBy : Nat) (c_firstBy : Nat → Int32) (c_n_order : Nat) (k : Nat) (x : Int32 × (Nat → Int32)) (ex : (Nat → Int32)) (uC : Nat → Nat) (H : Heap) (locs : List Loc) (ls : Array Slot), lp (f_X0_insert_B86 F a1 c_size c_n_leasts c_leasts c_n_lengths c_lengths c_n_firstBy c_firstBy c_n_order) k x = some ex → (∀ (uC : Nat → Nat) (H : Heap) (locs : List Loc) (ls : Array Slot), (pot0 ≤ (c_n_leasts + c_n_lengths + c_n_firstBy + c_n_order) ∧ (c_n_leasts + c_n_lengths + c_n_firstBy + c_n_order) ≤ pm) → va_P D vwCl (gC cy qC uC (qG 0) (qS 0) c_step c_stamp c_homes c_size c_n_leasts c_leasts c_n_lengths c_lengths c_n_firstBy c_firstBy c_n_order ex) H → va_D A (gC cy qC uC (qG 0) (qS 0) c_step c_stamp c_homes c_size c_n_leasts c_leasts c_n_lengths c_lengths c_n_firstBy c_firstBy c_n_order ex) → va_S A s.heap H locs → lv_has ls 6 [(0, .ref (qC 0)), (1, .int a1), (2, .long a2), (4, .int a4)] → W p l e0 (rmX0_insert (pm - pot0)) s m ar below meth c H locs ((c_n_leasts + c_n_lengths + c_n_firstBy + c_n_order) - pot0) (2 * ((c_n_leasts + c_n_lengths + c_n_firstBy + c_n_order) - pot0)) Q (F0 m 114 ls [])) → (pot0 ≤ (c_n_leasts + c_n_lengths + c_n_firstBy + c_n_order) ∧ (c_n_leasts + c_n_lengths + c_n_firstBy + c_n_order) ≤ pm) → va_P D vwCl (gC cy qC uC (qG 0) (qS 0) c_step c_stamp c_homes c_size c_n_leasts c_leasts c_n_lengths c_lengths c_n_firstBy c_firstBy c_n_order x.2) H → va_D A (gC cy qC uC (qG 0) (qS 0) c_step c_stamp c_homes c_size c_n_leasts c_leasts c_n_lengths c_lengths c_n_firstBy c_firstBy c_n_order x.2) → va_S A s.heap H locs → lv_has ls 6 [(0, .ref (qC 0)), (1, .int a1), (2, .long a2), (4, .int a4), (5, .int x.1)] → W p l e0 (rmX0_insert (pm - pot0)) s m ar below meth c H locs ((c_n_leasts + c_n_lengths + c_n_firstBy + c_n_order) - pot0) (2 * ((c_n_leasts + c_n_lengths + c_n_firstBy + c_n_order) - pot0)) Q (F0 m 86 ls []) := by
    intro c_size c_n_leasts c_leasts c_n_lengths c_lengths c_n_firstBy c_firstBy c_n_order k
    induction k with
    | zero => intro x ex uC H locs ls hf; exact no_some hf
    | succ k ih =>
      intro x ex uC H locs ls hf hex hpt hP hD hS hl
      have hf : f_X0_insert_B86 F a1 c_size c_n_leasts c_leasts c_n_lengths c_lengths c_n_firstBy c_firstBy c_n_order (lp (f_X0_insert_B86 F a1 c_size c_n_leasts c_leasts c_n_lengths c_lengths c_n_firstBy c_firstBy c_n_order) k) x = some ex := hf
      unfold f_X0_insert_B86 at hf
      refine lv_iload hx hb dX0_insert_86 (lv_at hl 4 rfl) ?_
      refine lv_iload_n hx hb dX0_insert_88 rfl (lv_at hl 1 rfl) ?_
      refine lv_icmp_le (tgt := 114) hx hb dX0_insert_89 (by decide) (fun c1 => ?_) (fun c1 => ?_)
      · have hf := if_t hf c1
        obtain rfl := Option.some.inj hf
        exact hex _ _ _ _ hpt hP hD hS (lv_sub hl [0, 1, 2, 3] rfl)
      · have hf := if_f hf c1
        refine lv_aload_n hx hb dX0_insert_92 rfl (lv_at hl 0 rfl) ?_
        refine va_get (v := .ref (uC 3)) (D := D) (ci := 0) (C := RX0) (T := TX0) (N := 10) hx hb hts huX0 hown hK hP 0 rfl rfl 9 (by decide) fk32 (fun _ h9 => h9) rfl dX0_insert_93 ?_
        refine lv_iload hx hb dX0_insert_96 (lv_at hl 4 rfl) ?_
        refine lv_aload_n hx hb dX0_insert_98 rfl (lv_at hl 0 rfl) ?_
        refine va_get (v := .ref (uC 3)) (D := D) (ci := 0) (C := RX0) (T := TX0) (N := 10) hx hb hts huX0 hown hK hP 0 rfl rfl 9 (by decide) fk32 (fun _ h9 => h9) rfl dX0_insert_99 ?_
        refine lv_iload hx hb dX0_insert_102 (lv_at hl 4 rfl) ?_
        refine lv_iconst (v := (1 : Int32)) hx hb dX0_insert_104 (by decide) ?_
        refine lv_isub hx hb dX0_insert_105 ?_
        obtain ⟨c2, hf⟩ := ck_some hf
        refine va_iald hx hb hK hP 5 0 rfl rfl c2 dX0_insert_106 ?_
        obtain ⟨c3, hf⟩ := ck_some hf
        refine va_iast hx hb hK hP hD hS 5 0 rfl rfl c3 dX0_insert_107 (fun H locs hP hD hS => ?_)
        have hP : va_P D vwCl (gC cy qC uC (qG 0) (qS 0) c_step c_stamp c_homes c_size c_n_leasts c_leasts c_n_lengths c_lengths c_n_firstBy c_firstBy c_n_order (upd x.2 x.1.toNatClampNeg (x.2 (x.1 - (1 : Int32)).toNatClampNeg))) H := hP
        have hD : va_D A (gC cy qC uC (qG 0) (qS 0) c_step c_stamp c_homes c_size c_n_leasts c_leasts c_n_lengths c_lengths c_n_firstBy c_firstBy c_n_order (upd x.2 x.1.toNatClampNeg (x.2 (x.1 - (1 : Int32)).toNatClampNeg))) := hD
        refine lv_iinc (v := (x.1 + (-1 : Int32))) (lv' := [(5, .int (x.1 + (-1 : Int32))), (0, .ref (qC 0)), (1, .int a1), (2, .long a2), (4, .int a4)]) hx hb dX0_insert_108 hl (k := 4) rfl rfl (by decide) rfl (fun ls hl => ?_)
        refine lv_goto (tgt := 86) hx hb dX0_insert_111 (by decide) ?_
        exact ih ((x.1 + (-1 : Int32)), (upd x.2 x.1.toNatClampNeg (x.2 (x.1 - (1 : Int32)).toNatClampNeg))) ex _ _ _ _ hf hex hpt hP hD hS (lv_sub hl [1, 2, 3, 4, 0] rfl)
  have hJ80 : ∀ (c_size : Int32) (c_n_leasts : Nat) (c_leasts : Nat → Int64) (c_n_lengths : Nat) (c_lengths : Nat → Int32) (c_n_firstBy : Nat) (c_firstBy : Nat → Int32) (c_n_order : Nat) (c_order : Nat → Int32) (uC : Nat → Nat) (H : Heap) (locs : List Loc) (ls : Array Slot), f_X0_insert_J80 F a1 a2 a4 pm c_size c_n_leasts c_leasts c_n_lengths c_lengths c_n_firstBy c_firstBy c_n_order c_order = some res → (pot0 ≤ (c_n_leasts + c_n_lengths + c_n_firstBy + c_n_order) ∧ (c_n_leasts + c_n_lengths + c_n_firstBy + c_n_order) ≤ pm) → va_P D vwCl (gC cy qC uC (qG 0) (qS 0) c_step c_stamp c_homes c_size c_n_leasts c_leasts c_n_lengths c_lengths c_n_firstBy c_firstBy c_n_order c_order) H → va_D A (gC cy qC uC (qG 0) (qS 0) c_step c_stamp c_homes c_size c_n_leasts c_leasts c_n_lengths c_lengths c_n_firstBy c_firstBy c_n_order c_order) → va_S A s.heap H locs → lv_has ls 6 [(0, .ref (qC 0)), (1, .int a1), (2, .long a2), (4, .int a4)] → W p l e0 (rmX0_insert (pm - pot0)) s m ar below meth c H locs ((c_n_leasts + c_n_lengths + c_n_firstBy + c_n_order) - pot0) (2 * ((c_n_leasts + c_n_lengths + c_n_firstBy + c_n_order) - pot0)) Q (F0 m 80 ls []) := by
    intro c_size c_n_leasts c_leasts c_n_lengths c_lengths c_n_firstBy c_firstBy c_n_order c_order uC H locs ls hf hpt hP hD hS hl
    unfold f_X0_insert_J80 at hf
    refine lv_aload_n hx hb dX0_insert_80 rfl (lv_at hl 0 rfl) ?_
    refine va_get (D := D) (ci := 0) (C := RX0) (T := TX0) (N := 10) hx hb hts huX0 hown hK hP 0 rfl rfl 5 (by decide) fk19 (fun _ h9 => h9) rfl dX0_insert_81 ?_
    refine lv_istore (lv' := [(5, .int c_size), (0, .ref (qC 0)), (1, .int a1), (2, .long a2), (4, .int a4)]) hx hb dX0_insert_84 hl (by decide) rfl (fun ls hl => ?_)
    obtain ⟨ex4, hcl, hf⟩ := ob_some hf
    refine hL86 c_size c_n_leasts c_leasts c_n_lengths c_lengths c_n_firstBy c_firstBy c_n_order F (c_size, c_order) ex4 _ _ _ _ hcl (fun uC H locs ls hpt hP hD hS hl => ?_) hpt hP hD hS (lv_sub hl [1, 2, 3, 4, 0] rfl)
    refine lv_aload_n hx hb dX0_insert_114 rfl (lv_at hl 0 rfl) ?_
    refine va_get (v := .ref (uC 3)) (D := D) (ci := 0) (C := RX0) (T := TX0) (N := 10) hx hb hts huX0 hown hK hP 0 rfl rfl 9 (by decide) fk32 (fun _ h9 => h9) rfl dX0_insert_115 ?_
    refine lv_iload_n hx hb dX0_insert_118 rfl (lv_at hl 1 rfl) ?_
    refine lv_aload_n hx hb dX0_insert_119 rfl (lv_at hl 0 rfl) ?_
    refine va_get (D := D) (ci := 0) (C := RX0) (T := TX0) (N := 10) hx hb hts huX0 hown hK hP 0 rfl rfl 5 (by decide) fk19 (fun _ h9 => h9) rfl dX0_insert_120 ?_
    obtain ⟨c5, hf⟩ := ck_some hf
    refine va_iast hx hb hK hP hD hS 5 0 rfl rfl c5 dX0_insert_123 (fun H locs hP hD hS => ?_)
    have hP : va_P D vwCl (gC cy qC uC (qG 0) (qS 0) c_step c_stamp c_homes c_size c_n_leasts c_leasts c_n_lengths c_lengths c_n_firstBy c_firstBy c_n_order (upd ex4 a1.toNatClampNeg c_size)) H := hP
    have hD : va_D A (gC cy qC uC (qG 0) (qS 0) c_step c_stamp c_homes c_size c_n_leasts c_leasts c_n_lengths c_lengths c_n_firstBy c_firstBy c_n_order (upd ex4 a1.toNatClampNeg c_size)) := hD
    refine lv_aload_n hx hb dX0_insert_124 rfl (lv_at hl 0 rfl) ?_
    refine va_get (v := .ref (uC 0)) (D := D) (ci := 0) (C := RX0) (T := TX0) (N := 10) hx hb hts huX0 hown hK hP 0 rfl rfl 6 (by decide) fk22 (fun _ h9 => h9) rfl dX0_insert_125 ?_
    refine lv_aload_n hx hb dX0_insert_128 rfl (lv_at hl 0 rfl) ?_
    refine va_get (D := D) (ci := 0) (C := RX0) (T := TX0) (N := 10) hx hb hts huX0 hown hK hP 0 rfl rfl 5 (by decide) fk19 (fun _ h9 => h9) rfl dX0_insert_129 ?_
    refine lv_lload_n hx hb dX0_insert_132 rfl (lv_at hl 2 rfl) ?_
    obtain ⟨c6, hf⟩ := ck_some hf
    refine va_last hx hb hK hP hD hS 2 1 rfl rfl c6 dX0_insert_133 (fun H locs hP hD hS => ?_)
    have hP : va_P D vwCl (gC cy qC uC (qG 0) (qS 0) c_step c_stamp c_homes c_size c_n_leasts (vp_updL c_leasts c_size.toNatClampNeg a2) c_n_lengths c_lengths c_n_firstBy c_firstBy c_n_order (upd ex4 a1.toNatClampNeg c_size)) H := hP
    have hD : va_D A (gC cy qC uC (qG 0) (qS 0) c_step c_stamp c_homes c_size c_n_leasts (vp_updL c_leasts c_size.toNatClampNeg a2) c_n_lengths c_lengths c_n_firstBy c_firstBy c_n_order (upd ex4 a1.toNatClampNeg c_size)) := hD
    refine lv_aload_n hx hb dX0_insert_134 rfl (lv_at hl 0 rfl) ?_
    refine va_get (v := .ref (uC 1)) (D := D) (ci := 0) (C := RX0) (T := TX0) (N := 10) hx hb hts huX0 hown hK hP 0 rfl rfl 7 (by decide) fk26 (fun _ h9 => h9) rfl dX0_insert_135 ?_
    refine lv_aload_n hx hb dX0_insert_138 rfl (lv_at hl 0 rfl) ?_
    refine va_get (D := D) (ci := 0) (C := RX0) (T := TX0) (N := 10) hx hb hts huX0 hown hK hP 0 rfl rfl 5 (by decide) fk19 (fun _ h9 => h9) rfl dX0_insert_139 ?_
    refine lv_iload hx hb dX0_insert_142 (lv_at hl 3 rfl) ?_
    obtain ⟨c7, hf⟩ := ck_some hf
    refine va_iast hx hb hK hP hD hS 3 0 rfl rfl c7 dX0_insert_144 (fun H locs hP hD hS => ?_)
    have hP : va_P D vwCl (gC cy qC uC (qG 0) (qS 0) c_step c_stamp c_homes c_size c_n_leasts (vp_updL c_leasts c_size.toNatClampNeg a2) c_n_lengths (upd c_lengths c_size.toNatClampNeg a4) c_n_firstBy c_firstBy c_n_order (upd ex4 a1.toNatClampNeg c_size)) H := hP
    have hD : va_D A (gC cy qC uC (qG 0) (qS 0) c_step c_stamp c_homes c_size c_n_leasts (vp_updL c_leasts c_size.toNatClampNeg a2) c_n_lengths (upd c_lengths c_size.toNatClampNeg a4) c_n_firstBy c_firstBy c_n_order (upd ex4 a1.toNatClampNeg c_size)) := hD
    refine lv_aload_n hx hb dX0_insert_145 rfl (lv_at hl 0 rfl) ?_
    refine va_get (v := .ref (uC 2)) (D := D) (ci := 0) (C := RX0) (T := TX0) (N := 10) hx hb hts huX0 hown hK hP 0 rfl rfl 8 (by decide) fk29 (fun _ h9 => h9) rfl dX0_insert_146 ?_
    refine lv_aload_n hx hb dX0_insert_149 rfl (lv_at hl 0 rfl) ?_
    refine va_get (D := D) (ci := 0) (C := RX0) (T := TX0) (N := 10) hx hb hts huX0 hown hK hP 0 rfl rfl 5 (by decide) fk19 (fun _ h9 => h9) rfl dX0_insert_150 ?_
    refine lv_sipush (v := (20001 : Int32)) hx hb dX0_insert_153 (by decide) ?_
    obtain ⟨c8, hf⟩ := ck_some hf
    refine va_iast hx hb hK hP hD hS 4 0 rfl rfl c8 dX0_insert_156 (fun H locs hP hD hS => ?_)
    have hP : va_P D vwCl (gC cy qC uC (qG 0) (qS 0) c_step c_stamp c_homes c_size c_n_leasts (vp_updL c_leasts c_size.toNatClampNeg a2) c_n_lengths (upd c_lengths c_size.toNatClampNeg a4) c_n_firstBy (upd c_firstBy c_size.toNatClampNeg (20001 : Int32)) c_n_order (upd ex4 a1.toNatClampNeg c_size)) H := hP
    have hD : va_D A (gC cy qC uC (qG 0) (qS 0) c_step c_stamp c_homes c_size c_n_leasts (vp_updL c_leasts c_size.toNatClampNeg a2) c_n_lengths (upd c_lengths c_size.toNatClampNeg a4) c_n_firstBy (upd c_firstBy c_size.toNatClampNeg (20001 : Int32)) c_n_order (upd ex4 a1.toNatClampNeg c_size)) := hD
    refine lv_aload_n hx hb dX0_insert_157 rfl (lv_at hl 0 rfl) ?_
    refine lv_dup hx hb dX0_insert_158 rfl ?_
    refine va_get (D := D) (ci := 0) (C := RX0) (T := TX0) (N := 10) hx hb hts huX0 hown hK hP 0 rfl rfl 5 (by decide) fk19 (fun _ h9 => h9) rfl dX0_insert_159 ?_
    refine lv_iconst (v := (1 : Int32)) hx hb dX0_insert_162 (by decide) ?_
    refine lv_iadd hx hb dX0_insert_163 ?_
    refine va_put (D := D) (ci := 0) (v := .int (c_size + (1 : Int32))) (ty := .int) (C := RX0) (T := TX0) (N := 10) hx hb hts huX0 tyX0 tyX0_ok nmX0 hown hK hP hD hS 0 rfl rfl 5 (by decide) fk19 (fun _ h9 => h9) rfl (tyX0_ok 5 (by decide)) rfl rfl (Nat.le_of_ble_eq_true rfl) dX0_insert_164 (fun H locs hP hD hS => ?_)
    have hP : va_P D vwCl (gC cy qC uC (qG 0) (qS 0) c_step c_stamp c_homes (c_size + (1 : Int32)) c_n_leasts (vp_updL c_leasts c_size.toNatClampNeg a2) c_n_lengths (upd c_lengths c_size.toNatClampNeg a4) c_n_firstBy (upd c_firstBy c_size.toNatClampNeg (20001 : Int32)) c_n_order (upd ex4 a1.toNatClampNeg c_size)) H := hP
    have hD : va_D A (gC cy qC uC (qG 0) (qS 0) c_step c_stamp c_homes (c_size + (1 : Int32)) c_n_leasts (vp_updL c_leasts c_size.toNatClampNeg a2) c_n_lengths (upd c_lengths c_size.toNatClampNeg a4) c_n_firstBy (upd c_firstBy c_size.toNatClampNeg (20001 : Int32)) c_n_order (upd ex4 a1.toNatClampNeg c_size)) := hD
    obtain ⟨cp, hf⟩ := ck_some hf
    refine W.widen (k := pm - pot0) (n := 2 * (pm - pot0)) (by omega) (by omega) ?_
    obtain rfl := Option.some.inj hf
    exact hQ uC 167 _ _ _ dX0_insert_167 hP hD hS
  refine lv_aload_n hx hb dX0_insert_0 rfl (lv_at hl 0 rfl) ?_
  refine va_get (D := D) (ci := 0) (C := RX0) (T := TX0) (N := 10) hx hb hts huX0 hown hK hP 0 rfl rfl 5 (by decide) fk19 (fun _ h9 => h9) rfl dX0_insert_1 ?_
  refine lv_aload_n hx hb dX0_insert_4 rfl (lv_at hl 0 rfl) ?_
  refine va_get (v := .ref (uC 3)) (D := D) (ci := 0) (C := RX0) (T := TX0) (N := 10) hx hb hts huX0 hown hK hP 0 rfl rfl 9 (by decide) fk32 (fun _ h9 => h9) rfl dX0_insert_5 ?_
  refine va_alen (v := (Int32.ofNat c_n_order)) hx hb hK hP 5 0 rfl rfl rfl dX0_insert_8 ?_
  refine lv_icmp_ne (tgt := 80) hx hb dX0_insert_9 (by decide) (fun c9 => ?_) (fun c9 => ?_)
  · have hf := if_f hf c9
    exact hJ80 c_size c_n_leasts c_leasts c_n_lengths c_lengths c_n_firstBy c_firstBy c_n_order c_order _ _ _ _ hf hpt hP hD hS (lv_sub hl [0, 1, 2, 3] rfl)
  · have hf := if_t hf c9
    refine lv_aload_n hx hb dX0_insert_12 rfl (lv_at hl 0 rfl) ?_
    refine lv_aload_n hx hb dX0_insert_13 rfl (lv_at hl 0 rfl) ?_
    refine va_get (v := .ref (uC 0)) (D := D) (ci := 0) (C := RX0) (T := TX0) (N := 10) hx hb hts huX0 hown hK hP 0 rfl rfl 6 (by decide) fk22 (fun _ h9 => h9) rfl dX0_insert_14 ?_
    refine lv_iconst (v := (2 : Int32)) hx hb dX0_insert_17 (by decide) ?_
    refine lv_aload_n hx hb dX0_insert_18 rfl (lv_at hl 0 rfl) ?_
    refine va_get (D := D) (ci := 0) (C := RX0) (T := TX0) (N := 10) hx hb hts huX0 hown hK hP 0 rfl rfl 5 (by decide) fk19 (fun _ h9 => h9) rfl dX0_insert_19 ?_
    refine lv_imul hx hb dX0_insert_22 ?_
    obtain ⟨⟨cg10a, cg10b, cg10c, cg10d, cg10e⟩, hf⟩ := ck_some hf
    have hI12 : kIn (gC cy qC uC (qG 0) (qS 0) c_step c_stamp c_homes c_size c_n_leasts c_leasts c_n_lengths c_lengths c_n_firstBy c_firstBy c_n_order c_order) [((uC 0), .inl (cy 1, c_n_leasts, .inr (.inl c_leasts)))] (kpick (gC cy qC uC (qG 0) (qS 0) c_step c_stamp c_homes c_size c_n_leasts c_leasts c_n_lengths c_lengths c_n_firstBy c_firstBy c_n_order c_order) [0, 1, 3, 4, 5]) (fun qn11 : Nat => [((uC 0), .inl (cy 1, c_n_leasts, .inr (.inl c_leasts))), (qn11, .inl (cy 1, ((2 : Int32) * c_size).toNatClampNeg, .inr (.inl (va_cpy c_leasts (fun _ => 0) 0 0 c_n_leasts))))]) (fun qn11 : Nat => (gC cy qC uC (qG 0) (qS 0) c_step c_stamp c_homes c_size c_n_leasts c_leasts c_n_lengths c_lengths c_n_firstBy c_firstBy c_n_order c_order) ++ [(qn11, .inl (cy 1, ((2 : Int32) * c_size).toNatClampNeg, .inr (.inl (va_cpy c_leasts (fun _ => 0) 0 0 c_n_leasts))))]) [2] [0, 1, 3, 4, 5] [0, 1, 5, 2, 3, 4, 6] := ⟨rfl, rfl, rfl, rfl, by decide, rfl, fun _ => rfl⟩
    refine kc_r (k_runS ⟨hx, hb, hml, hown, hts⟩ (c_copyL (n0 := c_n_leasts) cg10a rfl (by omega) cg10e) (va_cwS 2 hts gX0_insert_J7_copyOf_c38d5 rfl rfl rfl (by decide +kernel) ⟨Nat.le_of_ble_eq_true rfl, Nat.le_of_ble_eq_true rfl⟩) hK hN hP hD ⟨hI12.1, hI12.2.2.1⟩ rfl hl.1 rfl (Nat.le_of_ble_eq_true rfl) dX0_insert_23 ⟨by show (c_n_leasts + c_n_lengths + c_n_firstBy + c_n_order) - pot0 + 1 ≤ pm - pot0; omega, by show 2 * ((c_n_leasts + c_n_lengths + c_n_firstBy + c_n_order) - pot0) + ((2 : Int32) * c_size).toNatClampNeg ≤ 2 * (pm - pot0); omega⟩) hP hD hS hA hI12 (fun qn11 H locs hP hD hS => ?_)
    refine va_put (D := D) (ci := 0) (v := .ref qn11) (ty := .array .long) (C := RX0) (T := TX0) (N := 10) hx hb hts huX0 tyX0 tyX0_ok nmX0 hown hK hP hD hS 0 rfl rfl 6 (by decide) fk22 (fun _ h9 => h9) rfl (tyX0_ok 6 (by decide)) rfl rfl (Nat.le_of_ble_eq_true rfl) dX0_insert_26 (fun H locs hP hD hS => ?_)
    have hP : va_P D vwCl (gC cy qC (va_up uC 0 qn11) (qG 0) (qS 0) c_step c_stamp c_homes c_size ((2 : Int32) * c_size).toNatClampNeg (va_cpy c_leasts (fun _ => 0) 0 0 c_n_leasts) c_n_lengths c_lengths c_n_firstBy c_firstBy c_n_order c_order) H := kP_sub hP [0, 1, 6, 3, 4, 5] rfl
    have hD : va_D A (gC cy qC (va_up uC 0 qn11) (qG 0) (qS 0) c_step c_stamp c_homes c_size ((2 : Int32) * c_size).toNatClampNeg (va_cpy c_leasts (fun _ => 0) 0 0 c_n_leasts) c_n_lengths c_lengths c_n_firstBy c_firstBy c_n_order c_order) := hD.sub [0, 1, 6, 3, 4, 5] rfl rfl
    have hpt : pot0 ≤ (((2 : Int32) * c_size).toNatClampNeg + c_n_lengths + c_n_firstBy + c_n_order) ∧ (((2 : Int32) * c_size).toNatClampNeg + c_n_lengths + c_n_firstBy + c_n_order) ≤ pm := by omega
    refine W.widen (k := (((2 : Int32) * c_size).toNatClampNeg + c_n_lengths + c_n_firstBy + c_n_order) - pot0) (n := 2 * ((((2 : Int32) * c_size).toNatClampNeg + c_n_lengths + c_n_firstBy + c_n_order) - pot0)) (by show (c_n_leasts + c_n_lengths + c_n_firstBy + c_n_order) - pot0 + 1 ≤ (((2 : Int32) * c_size).toNatClampNeg + c_n_lengths + c_n_firstBy + c_n_order) - pot0; omega) (by show 2 * ((c_n_leasts + c_n_lengths + c_n_firstBy + c_n_order) - pot0) + ((2 : Int32) * c_size).toNatClampNeg ≤ 2 * ((((2 : Int32) * c_size).toNatClampNeg + c_n_lengths + c_n_firstBy + c_n_order) - pot0); omega) ?_
    refine lv_aload_n hx hb dX0_insert_29 rfl (lv_at hl 0 rfl) ?_
    refine lv_aload_n hx hb dX0_insert_30 rfl (lv_at hl 0 rfl) ?_
    refine va_get (v := .ref ((va_up uC 0 qn11) 1)) (D := D) (ci := 0) (C := RX0) (T := TX0) (N := 10) hx hb hts huX0 hown hK hP 0 rfl rfl 7 (by decide) fk26 (fun _ h9 => h9) rfl dX0_insert_31 ?_
    refine lv_iconst (v := (2 : Int32)) hx hb dX0_insert_34 (by decide) ?_
    refine lv_aload_n hx hb dX0_insert_35 rfl (lv_at hl 0 rfl) ?_
    refine va_get (D := D) (ci := 0) (C := RX0) (T := TX0) (N := 10) hx hb hts huX0 hown hK hP 0 rfl rfl 5 (by decide) fk19 (fun _ h9 => h9) rfl dX0_insert_36 ?_
    refine lv_imul hx hb dX0_insert_39 ?_
    obtain ⟨⟨cg13a, cg13b, cg13c, cg13d, cg13e⟩, hf⟩ := ck_some hf
    have hI15 : kIn (gC cy qC (va_up uC 0 qn11) (qG 0) (qS 0) c_step c_stamp c_homes c_size ((2 : Int32) * c_size).toNatClampNeg (va_cpy c_leasts (fun _ => 0) 0 0 c_n_leasts) c_n_lengths c_lengths c_n_firstBy c_firstBy c_n_order c_order) [(((va_up uC 0 qn11) 1), .inl (cy 0, c_n_lengths, .inl c_lengths))] (kpick (gC cy qC (va_up uC 0 qn11) (qG 0) (qS 0) c_step c_stamp c_homes c_size ((2 : Int32) * c_size).toNatClampNeg (va_cpy c_leasts (fun _ => 0) 0 0 c_n_leasts) c_n_lengths c_lengths c_n_firstBy c_firstBy c_n_order c_order) [0, 1, 2, 4, 5]) (fun qn14 : Nat => [(((va_up uC 0 qn11) 1), .inl (cy 0, c_n_lengths, .inl c_lengths)), (qn14, .inl (cy 0, ((2 : Int32) * c_size).toNatClampNeg, .inl (va_cpy c_lengths (fun _ => 0) 0 0 c_n_lengths)))]) (fun qn14 : Nat => (gC cy qC (va_up uC 0 qn11) (qG 0) (qS 0) c_step c_stamp c_homes c_size ((2 : Int32) * c_size).toNatClampNeg (va_cpy c_leasts (fun _ => 0) 0 0 c_n_leasts) c_n_lengths c_lengths c_n_firstBy c_firstBy c_n_order c_order) ++ [(qn14, .inl (cy 0, ((2 : Int32) * c_size).toNatClampNeg, .inl (va_cpy c_lengths (fun _ => 0) 0 0 c_n_lengths)))]) [3] [0, 1, 2, 4, 5] [0, 1, 2, 5, 3, 4, 6] := ⟨rfl, rfl, rfl, rfl, by decide, rfl, fun _ => rfl⟩
    refine kc_r (k_runS ⟨hx, hb, hml, hown, hts⟩ (c_copyI (n0 := c_n_lengths) cg13a rfl (by omega) cg13e) (va_cwS 2 hts gX0_insert_J7_copyOf_59c91 rfl rfl rfl (by decide +kernel) ⟨Nat.le_of_ble_eq_true rfl, Nat.le_of_ble_eq_true rfl⟩) hK hN hP hD ⟨hI15.1, hI15.2.2.1⟩ rfl hl.1 rfl (Nat.le_of_ble_eq_true rfl) dX0_insert_40 ⟨by show (((2 : Int32) * c_size).toNatClampNeg + c_n_lengths + c_n_firstBy + c_n_order) - pot0 + 1 ≤ pm - pot0; omega, by show 2 * ((((2 : Int32) * c_size).toNatClampNeg + c_n_lengths + c_n_firstBy + c_n_order) - pot0) + ((2 : Int32) * c_size).toNatClampNeg ≤ 2 * (pm - pot0); omega⟩) hP hD hS hA hI15 (fun qn14 H locs hP hD hS => ?_)
    refine va_put (D := D) (ci := 0) (v := .ref qn14) (ty := .array .int) (C := RX0) (T := TX0) (N := 10) hx hb hts huX0 tyX0 tyX0_ok nmX0 hown hK hP hD hS 0 rfl rfl 7 (by decide) fk26 (fun _ h9 => h9) rfl (tyX0_ok 7 (by decide)) rfl rfl (Nat.le_of_ble_eq_true rfl) dX0_insert_43 (fun H locs hP hD hS => ?_)
    have hP : va_P D vwCl (gC cy qC (va_up (va_up uC 0 qn11) 1 qn14) (qG 0) (qS 0) c_step c_stamp c_homes c_size ((2 : Int32) * c_size).toNatClampNeg (va_cpy c_leasts (fun _ => 0) 0 0 c_n_leasts) ((2 : Int32) * c_size).toNatClampNeg (va_cpy c_lengths (fun _ => 0) 0 0 c_n_lengths) c_n_firstBy c_firstBy c_n_order c_order) H := kP_sub hP [0, 1, 2, 6, 4, 5] rfl
    have hD : va_D A (gC cy qC (va_up (va_up uC 0 qn11) 1 qn14) (qG 0) (qS 0) c_step c_stamp c_homes c_size ((2 : Int32) * c_size).toNatClampNeg (va_cpy c_leasts (fun _ => 0) 0 0 c_n_leasts) ((2 : Int32) * c_size).toNatClampNeg (va_cpy c_lengths (fun _ => 0) 0 0 c_n_lengths) c_n_firstBy c_firstBy c_n_order c_order) := hD.sub [0, 1, 2, 6, 4, 5] rfl rfl
    have hpt : pot0 ≤ (((2 : Int32) * c_size).toNatClampNeg + ((2 : Int32) * c_size).toNatClampNeg + c_n_firstBy + c_n_order) ∧ (((2 : Int32) * c_size).toNatClampNeg + ((2 : Int32) * c_size).toNatClampNeg + c_n_firstBy + c_n_order) ≤ pm := by omega
    refine W.widen (k := (((2 : Int32) * c_size).toNatClampNeg + ((2 : Int32) * c_size).toNatClampNeg + c_n_firstBy + c_n_order) - pot0) (n := 2 * ((((2 : Int32) * c_size).toNatClampNeg + ((2 : Int32) * c_size).toNatClampNeg + c_n_firstBy + c_n_order) - pot0)) (by show (((2 : Int32) * c_size).toNatClampNeg + c_n_lengths + c_n_firstBy + c_n_order) - pot0 + 1 ≤ (((2 : Int32) * c_size).toNatClampNeg + ((2 : Int32) * c_size).toNatClampNeg + c_n_firstBy + c_n_order) - pot0; omega) (by show 2 * ((((2 : Int32) * c_size).toNatClampNeg + c_n_lengths + c_n_firstBy + c_n_order) - pot0) + ((2 : Int32) * c_size).toNatClampNeg ≤ 2 * ((((2 : Int32) * c_size).toNatClampNeg + ((2 : Int32) * c_size).toNatClampNeg + c_n_firstBy + c_n_order) - pot0); omega) ?_
    refine lv_aload_n hx hb dX0_insert_46 rfl (lv_at hl 0 rfl) ?_
    refine lv_aload_n hx hb dX0_insert_47 rfl (lv_at hl 0 rfl) ?_
    refine va_get (v := .ref ((va_up (va_up uC 0 qn11) 1 qn14) 2)) (D := D) (ci := 0) (C := RX0) (T := TX0) (N := 10) hx hb hts huX0 hown hK hP 0 rfl rfl 8 (by decide) fk29 (fun _ h9 => h9) rfl dX0_insert_48 ?_
    refine lv_iconst (v := (2 : Int32)) hx hb dX0_insert_51 (by decide) ?_
    refine lv_aload_n hx hb dX0_insert_52 rfl (lv_at hl 0 rfl) ?_
    refine va_get (D := D) (ci := 0) (C := RX0) (T := TX0) (N := 10) hx hb hts huX0 hown hK hP 0 rfl rfl 5 (by decide) fk19 (fun _ h9 => h9) rfl dX0_insert_53 ?_
    refine lv_imul hx hb dX0_insert_56 ?_
    obtain ⟨⟨cg16a, cg16b, cg16c, cg16d, cg16e⟩, hf⟩ := ck_some hf
    have hI18 : kIn (gC cy qC (va_up (va_up uC 0 qn11) 1 qn14) (qG 0) (qS 0) c_step c_stamp c_homes c_size ((2 : Int32) * c_size).toNatClampNeg (va_cpy c_leasts (fun _ => 0) 0 0 c_n_leasts) ((2 : Int32) * c_size).toNatClampNeg (va_cpy c_lengths (fun _ => 0) 0 0 c_n_lengths) c_n_firstBy c_firstBy c_n_order c_order) [(((va_up (va_up uC 0 qn11) 1 qn14) 2), .inl (cy 0, c_n_firstBy, .inl c_firstBy))] (kpick (gC cy qC (va_up (va_up uC 0 qn11) 1 qn14) (qG 0) (qS 0) c_step c_stamp c_homes c_size ((2 : Int32) * c_size).toNatClampNeg (va_cpy c_leasts (fun _ => 0) 0 0 c_n_leasts) ((2 : Int32) * c_size).toNatClampNeg (va_cpy c_lengths (fun _ => 0) 0 0 c_n_lengths) c_n_firstBy c_firstBy c_n_order c_order) [0, 1, 2, 3, 5]) (fun qn17 : Nat => [(((va_up (va_up uC 0 qn11) 1 qn14) 2), .inl (cy 0, c_n_firstBy, .inl c_firstBy)), (qn17, .inl (cy 0, ((2 : Int32) * c_size).toNatClampNeg, .inl (va_cpy c_firstBy (fun _ => 0) 0 0 c_n_firstBy)))]) (fun qn17 : Nat => (gC cy qC (va_up (va_up uC 0 qn11) 1 qn14) (qG 0) (qS 0) c_step c_stamp c_homes c_size ((2 : Int32) * c_size).toNatClampNeg (va_cpy c_leasts (fun _ => 0) 0 0 c_n_leasts) ((2 : Int32) * c_size).toNatClampNeg (va_cpy c_lengths (fun _ => 0) 0 0 c_n_lengths) c_n_firstBy c_firstBy c_n_order c_order) ++ [(qn17, .inl (cy 0, ((2 : Int32) * c_size).toNatClampNeg, .inl (va_cpy c_firstBy (fun _ => 0) 0 0 c_n_firstBy)))]) [4] [0, 1, 2, 3, 5] [0, 1, 2, 3, 5, 4, 6] := ⟨rfl, rfl, rfl, rfl, by decide, rfl, fun _ => rfl⟩
    refine kc_r (k_runS ⟨hx, hb, hml, hown, hts⟩ (c_copyI (n0 := c_n_firstBy) cg16a rfl (by omega) cg16e) (va_cwS 2 hts gX0_insert_J7_copyOf_59c91 rfl rfl rfl (by decide +kernel) ⟨Nat.le_of_ble_eq_true rfl, Nat.le_of_ble_eq_true rfl⟩) hK hN hP hD ⟨hI18.1, hI18.2.2.1⟩ rfl hl.1 rfl (Nat.le_of_ble_eq_true rfl) dX0_insert_57 ⟨by show (((2 : Int32) * c_size).toNatClampNeg + ((2 : Int32) * c_size).toNatClampNeg + c_n_firstBy + c_n_order) - pot0 + 1 ≤ pm - pot0; omega, by show 2 * ((((2 : Int32) * c_size).toNatClampNeg + ((2 : Int32) * c_size).toNatClampNeg + c_n_firstBy + c_n_order) - pot0) + ((2 : Int32) * c_size).toNatClampNeg ≤ 2 * (pm - pot0); omega⟩) hP hD hS hA hI18 (fun qn17 H locs hP hD hS => ?_)
    refine va_put (D := D) (ci := 0) (v := .ref qn17) (ty := .array .int) (C := RX0) (T := TX0) (N := 10) hx hb hts huX0 tyX0 tyX0_ok nmX0 hown hK hP hD hS 0 rfl rfl 8 (by decide) fk29 (fun _ h9 => h9) rfl (tyX0_ok 8 (by decide)) rfl rfl (Nat.le_of_ble_eq_true rfl) dX0_insert_60 (fun H locs hP hD hS => ?_)
    have hP : va_P D vwCl (gC cy qC (va_up (va_up (va_up uC 0 qn11) 1 qn14) 2 qn17) (qG 0) (qS 0) c_step c_stamp c_homes c_size ((2 : Int32) * c_size).toNatClampNeg (va_cpy c_leasts (fun _ => 0) 0 0 c_n_leasts) ((2 : Int32) * c_size).toNatClampNeg (va_cpy c_lengths (fun _ => 0) 0 0 c_n_lengths) ((2 : Int32) * c_size).toNatClampNeg (va_cpy c_firstBy (fun _ => 0) 0 0 c_n_firstBy) c_n_order c_order) H := kP_sub hP [0, 1, 2, 3, 6, 5] rfl
    have hD : va_D A (gC cy qC (va_up (va_up (va_up uC 0 qn11) 1 qn14) 2 qn17) (qG 0) (qS 0) c_step c_stamp c_homes c_size ((2 : Int32) * c_size).toNatClampNeg (va_cpy c_leasts (fun _ => 0) 0 0 c_n_leasts) ((2 : Int32) * c_size).toNatClampNeg (va_cpy c_lengths (fun _ => 0) 0 0 c_n_lengths) ((2 : Int32) * c_size).toNatClampNeg (va_cpy c_firstBy (fun _ => 0) 0 0 c_n_firstBy) c_n_order c_order) := hD.sub [0, 1, 2, 3, 6, 5] rfl rfl
    have hpt : pot0 ≤ (((2 : Int32) * c_size).toNatClampNeg + ((2 : Int32) * c_size).toNatClampNeg + ((2 : Int32) * c_size).toNatClampNeg + c_n_order) ∧ (((2 : Int32) * c_size).toNatClampNeg + ((2 : Int32) * c_size).toNatClampNeg + ((2 : Int32) * c_size).toNatClampNeg + c_n_order) ≤ pm := by omega
    refine W.widen (k := (((2 : Int32) * c_size).toNatClampNeg + ((2 : Int32) * c_size).toNatClampNeg + ((2 : Int32) * c_size).toNatClampNeg + c_n_order) - pot0) (n := 2 * ((((2 : Int32) * c_size).toNatClampNeg + ((2 : Int32) * c_size).toNatClampNeg + ((2 : Int32) * c_size).toNatClampNeg + c_n_order) - pot0)) (by show (((2 : Int32) * c_size).toNatClampNeg + ((2 : Int32) * c_size).toNatClampNeg + c_n_firstBy + c_n_order) - pot0 + 1 ≤ (((2 : Int32) * c_size).toNatClampNeg + ((2 : Int32) * c_size).toNatClampNeg + ((2 : Int32) * c_size).toNatClampNeg + c_n_order) - pot0; omega) (by show 2 * ((((2 : Int32) * c_size).toNatClampNeg + ((2 : Int32) * c_size).toNatClampNeg + c_n_firstBy + c_n_order) - pot0) + ((2 : Int32) * c_size).toNatClampNeg ≤ 2 * ((((2 : Int32) * c_size).toNatClampNeg + ((2 : Int32) * c_size).toNatClampNeg + ((2 : Int32) * c_size).toNatClampNeg + c_n_order) - pot0); omega) ?_
    refine lv_aload_n hx hb dX0_insert_63 rfl (lv_at hl 0 rfl) ?_
    refine lv_aload_n hx hb dX0_insert_64 rfl (lv_at hl 0 rfl) ?_
    refine va_get (v := .ref ((va_up (va_up (va_up uC 0 qn11) 1 qn14) 2 qn17) 3)) (D := D) (ci := 0) (C := RX0) (T := TX0) (N := 10) hx hb hts huX0 hown hK hP 0 rfl rfl 9 (by decide) fk32 (fun _ h9 => h9) rfl dX0_insert_65 ?_
    refine lv_iconst (v := (2 : Int32)) hx hb dX0_insert_68 (by decide) ?_
    refine lv_aload_n hx hb dX0_insert_69 rfl (lv_at hl 0 rfl) ?_
    refine va_get (D := D) (ci := 0) (C := RX0) (T := TX0) (N := 10) hx hb hts huX0 hown hK hP 0 rfl rfl 5 (by decide) fk19 (fun _ h9 => h9) rfl dX0_insert_70 ?_
    refine lv_imul hx hb dX0_insert_73 ?_
    obtain ⟨⟨cg19a, cg19b, cg19c, cg19d, cg19e⟩, hf⟩ := ck_some hf
    have hI21 : kIn (gC cy qC (va_up (va_up (va_up uC 0 qn11) 1 qn14) 2 qn17) (qG 0) (qS 0) c_step c_stamp c_homes c_size ((2 : Int32) * c_size).toNatClampNeg (va_cpy c_leasts (fun _ => 0) 0 0 c_n_leasts) ((2 : Int32) * c_size).toNatClampNeg (va_cpy c_lengths (fun _ => 0) 0 0 c_n_lengths) ((2 : Int32) * c_size).toNatClampNeg (va_cpy c_firstBy (fun _ => 0) 0 0 c_n_firstBy) c_n_order c_order) [(((va_up (va_up (va_up uC 0 qn11) 1 qn14) 2 qn17) 3), .inl (cy 0, c_n_order, .inl c_order))] (kpick (gC cy qC (va_up (va_up (va_up uC 0 qn11) 1 qn14) 2 qn17) (qG 0) (qS 0) c_step c_stamp c_homes c_size ((2 : Int32) * c_size).toNatClampNeg (va_cpy c_leasts (fun _ => 0) 0 0 c_n_leasts) ((2 : Int32) * c_size).toNatClampNeg (va_cpy c_lengths (fun _ => 0) 0 0 c_n_lengths) ((2 : Int32) * c_size).toNatClampNeg (va_cpy c_firstBy (fun _ => 0) 0 0 c_n_firstBy) c_n_order c_order) [0, 1, 2, 3, 4]) (fun qn20 : Nat => [(((va_up (va_up (va_up uC 0 qn11) 1 qn14) 2 qn17) 3), .inl (cy 0, c_n_order, .inl c_order)), (qn20, .inl (cy 0, ((2 : Int32) * c_size).toNatClampNeg, .inl (va_cpy c_order (fun _ => 0) 0 0 c_n_order)))]) (fun qn20 : Nat => (gC cy qC (va_up (va_up (va_up uC 0 qn11) 1 qn14) 2 qn17) (qG 0) (qS 0) c_step c_stamp c_homes c_size ((2 : Int32) * c_size).toNatClampNeg (va_cpy c_leasts (fun _ => 0) 0 0 c_n_leasts) ((2 : Int32) * c_size).toNatClampNeg (va_cpy c_lengths (fun _ => 0) 0 0 c_n_lengths) ((2 : Int32) * c_size).toNatClampNeg (va_cpy c_firstBy (fun _ => 0) 0 0 c_n_firstBy) c_n_order c_order) ++ [(qn20, .inl (cy 0, ((2 : Int32) * c_size).toNatClampNeg, .inl (va_cpy c_order (fun _ => 0) 0 0 c_n_order)))]) [5] [0, 1, 2, 3, 4] [0, 1, 2, 3, 4, 5, 6] := ⟨rfl, rfl, rfl, rfl, by decide, rfl, fun _ => rfl⟩
    refine kc_r (k_runS ⟨hx, hb, hml, hown, hts⟩ (c_copyI (n0 := c_n_order) cg19a rfl (by omega) cg19e) (va_cwS 2 hts gX0_insert_J7_copyOf_59c91 rfl rfl rfl (by decide +kernel) ⟨Nat.le_of_ble_eq_true rfl, Nat.le_of_ble_eq_true rfl⟩) hK hN hP hD ⟨hI21.1, hI21.2.2.1⟩ rfl hl.1 rfl (Nat.le_of_ble_eq_true rfl) dX0_insert_74 ⟨by show (((2 : Int32) * c_size).toNatClampNeg + ((2 : Int32) * c_size).toNatClampNeg + ((2 : Int32) * c_size).toNatClampNeg + c_n_order) - pot0 + 1 ≤ pm - pot0; omega, by show 2 * ((((2 : Int32) * c_size).toNatClampNeg + ((2 : Int32) * c_size).toNatClampNeg + ((2 : Int32) * c_size).toNatClampNeg + c_n_order) - pot0) + ((2 : Int32) * c_size).toNatClampNeg ≤ 2 * (pm - pot0); omega⟩) hP hD hS hA hI21 (fun qn20 H locs hP hD hS => ?_)
    refine va_put (D := D) (ci := 0) (v := .ref qn20) (ty := .array .int) (C := RX0) (T := TX0) (N := 10) hx hb hts huX0 tyX0 tyX0_ok nmX0 hown hK hP hD hS 0 rfl rfl 9 (by decide) fk32 (fun _ h9 => h9) rfl (tyX0_ok 9 (by decide)) rfl rfl (Nat.le_of_ble_eq_true rfl) dX0_insert_77 (fun H locs hP hD hS => ?_)
    have hP : va_P D vwCl (gC cy qC (va_up (va_up (va_up (va_up uC 0 qn11) 1 qn14) 2 qn17) 3 qn20) (qG 0) (qS 0) c_step c_stamp c_homes c_size ((2 : Int32) * c_size).toNatClampNeg (va_cpy c_leasts (fun _ => 0) 0 0 c_n_leasts) ((2 : Int32) * c_size).toNatClampNeg (va_cpy c_lengths (fun _ => 0) 0 0 c_n_lengths) ((2 : Int32) * c_size).toNatClampNeg (va_cpy c_firstBy (fun _ => 0) 0 0 c_n_firstBy) ((2 : Int32) * c_size).toNatClampNeg (va_cpy c_order (fun _ => 0) 0 0 c_n_order)) H := kP_sub hP [0, 1, 2, 3, 4, 6] rfl
    have hD : va_D A (gC cy qC (va_up (va_up (va_up (va_up uC 0 qn11) 1 qn14) 2 qn17) 3 qn20) (qG 0) (qS 0) c_step c_stamp c_homes c_size ((2 : Int32) * c_size).toNatClampNeg (va_cpy c_leasts (fun _ => 0) 0 0 c_n_leasts) ((2 : Int32) * c_size).toNatClampNeg (va_cpy c_lengths (fun _ => 0) 0 0 c_n_lengths) ((2 : Int32) * c_size).toNatClampNeg (va_cpy c_firstBy (fun _ => 0) 0 0 c_n_firstBy) ((2 : Int32) * c_size).toNatClampNeg (va_cpy c_order (fun _ => 0) 0 0 c_n_order)) := hD.sub [0, 1, 2, 3, 4, 6] rfl rfl
    have hpt : pot0 ≤ (((2 : Int32) * c_size).toNatClampNeg + ((2 : Int32) * c_size).toNatClampNeg + ((2 : Int32) * c_size).toNatClampNeg + ((2 : Int32) * c_size).toNatClampNeg) ∧ (((2 : Int32) * c_size).toNatClampNeg + ((2 : Int32) * c_size).toNatClampNeg + ((2 : Int32) * c_size).toNatClampNeg + ((2 : Int32) * c_size).toNatClampNeg) ≤ pm := by omega
    refine W.widen (k := (((2 : Int32) * c_size).toNatClampNeg + ((2 : Int32) * c_size).toNatClampNeg + ((2 : Int32) * c_size).toNatClampNeg + ((2 : Int32) * c_size).toNatClampNeg) - pot0) (n := 2 * ((((2 : Int32) * c_size).toNatClampNeg + ((2 : Int32) * c_size).toNatClampNeg + ((2 : Int32) * c_size).toNatClampNeg + ((2 : Int32) * c_size).toNatClampNeg) - pot0)) (by show (((2 : Int32) * c_size).toNatClampNeg + ((2 : Int32) * c_size).toNatClampNeg + ((2 : Int32) * c_size).toNatClampNeg + c_n_order) - pot0 + 1 ≤ (((2 : Int32) * c_size).toNatClampNeg + ((2 : Int32) * c_size).toNatClampNeg + ((2 : Int32) * c_size).toNatClampNeg + ((2 : Int32) * c_size).toNatClampNeg) - pot0; omega) (by show 2 * ((((2 : Int32) * c_size).toNatClampNeg + ((2 : Int32) * c_size).toNatClampNeg + ((2 : Int32) * c_size).toNatClampNeg + c_n_order) - pot0) + ((2 : Int32) * c_size).toNatClampNeg ≤ 2 * ((((2 : Int32) * c_size).toNatClampNeg + ((2 : Int32) * c_size).toNatClampNeg + ((2 : Int32) * c_size).toNatClampNeg + ((2 : Int32) * c_size).toNatClampNeg) - pot0); omega) ?_
    exact hJ80 c_size ((2 : Int32) * c_size).toNatClampNeg (va_cpy c_leasts (fun _ => 0) 0 0 c_n_leasts) ((2 : Int32) * c_size).toNatClampNeg (va_cpy c_lengths (fun _ => 0) 0 0 c_n_lengths) ((2 : Int32) * c_size).toNatClampNeg (va_cpy c_firstBy (fun _ => 0) 0 0 c_n_firstBy) ((2 : Int32) * c_size).toNatClampNeg (va_cpy c_order (fun _ => 0) 0 0 c_n_order) _ _ _ _ hf hpt hP hD hS (lv_sub hl [0, 1, 2, 3] rfl)
def f_X0_roundThrough_J88 (F : Nat) (a3 : Int32) (pm : Nat) (x4 : Int64) (x8 : Int32) (g_row : Nat → Int32) (g_many : Nat → Int32) (c_size : Int32) (c_n_leasts : Nat) (c_leasts : Nat → Int64) (c_n_lengths : Nat) (c_lengths : Nat → Int32) (c_n_firstBy : Nat) (c_firstBy : Nat → Int32) (c_n_order : Nat) (c_order : Nat → Int32) : Option (Int32 × (Nat → Int32) × (Nat → Int32) × Int32 × Nat × (Nat → Int64) × Nat × (Nat → Int32) × Nat × (Nat → Int32) × Nat × (Nat → Int32)) := ck ((c_n_leasts + c_n_lengths + c_n_firstBy + c_n_order) ≤ pm ∧ pm ≤ pm) ((f_X0_insert F pm x8 x4 a3 c_size c_n_leasts c_leasts c_n_lengths c_lengths c_n_firstBy c_firstBy c_n_order c_order).bind (fun r2 => ck ((r2.2.1 + r2.2.2.2.1 + r2.2.2.2.2.2.1 + r2.2.2.2.2.2.2.2.1) = pm) (ck ((r2.2.1 + r2.2.2.2.1 + r2.2.2.2.2.2.1 + r2.2.2.2.2.2.2.2.1) = pm) (some ((r2.1 - (1 : Int32)), g_row, g_many, r2.1, r2.2.1, r2.2.2.1, r2.2.2.2.1, r2.2.2.2.2.1, r2.2.2.2.2.2.1, r2.2.2.2.2.2.2.1, r2.2.2.2.2.2.2.2.1, r2.2.2.2.2.2.2.2.2)))))
def f_X0_roundThrough_B9 (F : Nat) (a3 : Int32) (c_step : Int32) (g_base : Int32) (g_worth : Nat → Int32) (c_size : Int32) (c_n_leasts : Nat) (c_leasts : Nat → Int64) (c_n_lengths : Nat) (c_lengths : Nat → Int32) (c_n_firstBy : Nat) (c_firstBy : Nat → Int32) (c_n_order : Nat) (c_order : Nat → Int32) (rec : Int64 × Int64 × Int32 × (Nat → Int32) × (Nat → Int32) → Option (Int64 × (Nat → Int32) × (Nat → Int32))) (x : Int64 × Int64 × Int32 × (Nat → Int32) × (Nat → Int32)) : Option (Int64 × (Nat → Int32) × (Nat → Int32)) := if a3 ≤ x.2.2.1 then (some (x.1, x.2.2.2.1, x.2.2.2.2)) else ((f_X1_make F c_step x.2.1 g_base g_worth x.2.2.2.1 x.2.2.2.2).bind (fun r7 => rec ((if r7.1 < x.1 then r7.1 else x.1), r7.1, (x.2.2.1 + (1 : Int32)), r7.2.1, r7.2.2)))
def f_X0_roundThrough (F : Nat) (pm : Nat) (a1 : Int64) (a3 : Int32) (g_base : Int32) (g_worth : Nat → Int32) (g_row : Nat → Int32) (g_many : Nat → Int32) (c_step : Int32) (c_size : Int32) (c_n_leasts : Nat) (c_leasts : Nat → Int64) (c_n_lengths : Nat) (c_lengths : Nat → Int32) (c_n_firstBy : Nat) (c_firstBy : Nat → Int32) (c_n_order : Nat) (c_order : Nat → Int32) : Option (Int32 × (Nat → Int32) × (Nat → Int32) × Int32 × Nat × (Nat → Int64) × Nat × (Nat → Int32) × Nat × (Nat → Int32) × Nat × (Nat → Int32)) := ck ((c_n_leasts + c_n_lengths + c_n_firstBy + c_n_order) ≤ pm) ((lp (f_X0_roundThrough_B9 F a3 c_step g_base g_worth c_size c_n_leasts c_leasts c_n_lengths c_lengths c_n_firstBy c_firstBy c_n_order c_order) F (a1, a1, (1 : Int32), g_row, g_many)).bind (fun ex10 => (f_X0_rankOf F ex10.1 c_size c_n_leasts c_leasts c_n_order c_order).bind (fun r11 => if c_size ≤ r11 then (f_X0_roundThrough_J88 F a3 pm ex10.1 r11 ex10.2.1 ex10.2.2 c_size c_n_leasts c_leasts c_n_lengths c_lengths c_n_firstBy c_firstBy c_n_order c_order) else (ck (¬ (r11 < 0 ∨ c_n_order ≤ r11.toNatClampNeg)) (ck (¬ ((c_order r11.toNatClampNeg) < 0 ∨ c_n_leasts ≤ (c_order r11.toNatClampNeg).toNatClampNeg)) (if (c_leasts (c_order r11.toNatClampNeg).toNatClampNeg) = ex10.1 then (ck (¬ (r11 < 0 ∨ c_n_order ≤ r11.toNatClampNeg)) (ck ((c_n_leasts + c_n_lengths + c_n_firstBy + c_n_order) = pm) (some ((c_order r11.toNatClampNeg), ex10.2.1, ex10.2.2, c_size, c_n_leasts, c_leasts, c_n_lengths, c_lengths, c_n_firstBy, c_firstBy, c_n_order, c_order)))) else (f_X0_roundThrough_J88 F a3 pm ex10.1 r11 ex10.2.1 ex10.2.2 c_size c_n_leasts c_leasts c_n_lengths c_lengths c_n_firstBy c_firstBy c_n_order c_order)))))))
abbrev rmX0_roundThrough (k : Nat) : Room := { frames := 3, cells := k, slots := 2 * k, locals := 125 }
set_option maxHeartbeats 1000000 in
set_option maxRecDepth 100000 in
theorem c_X0_roundThrough {l : Launch} {D : va_G} {cy : Nat → ClassId} {qC : Nat → Nat} {qG : Nat → Nat} {qS : Nat → Nat} {uC : Nat → Nat} {c_step : Int32} {c_stamp : Int32} {c_homes : Nat → Int32} {c_size : Int32} {c_n_leasts : Nat} {c_leasts : Nat → Int64} {c_n_lengths : Nat} {c_lengths : Nat → Int32} {c_n_firstBy : Nat} {c_firstBy : Nat → Int32} {c_n_order : Nat} {c_order : Nat → Int32} {g_base : Int32} {g_worth : Nat → Int32} {g_row : Nat → Int32} {g_many : Nat → Int32} {g_version : Int32} {a1 : Int64} {a3 : Int32} {F : Nat} {pm pot0 : Nat} {res : Int32 × (Nat → Int32) × (Nat → Int32) × Int32 × Nat × (Nat → Int64) × Nat × (Nat → Int32) × Nat × (Nat → Int32) × Nat × (Nat → Int32)} (hf : f_X0_roundThrough F pm a1 a3 g_base g_worth g_row g_many c_step c_size c_n_leasts c_leasts c_n_lengths c_lengths c_n_firstBy c_firstBy c_n_order c_order = some res) (hp0 : pot0 = (c_n_leasts + c_n_lengths + c_n_firstBy + c_n_order)) : kM l yX0_roundThrough wsX0_roundThrough (rmX0_roundThrough (pm - pot0)) D cy [.ref (qC 0), .long a1, .int a3] (gC cy qC uC (qG 0) (qS 0) c_step c_stamp c_homes c_size c_n_leasts c_leasts c_n_lengths c_lengths c_n_firstBy c_firstBy c_n_order c_order ++ (gG cy qG g_base g_worth g_row g_many g_version)) (kQi D cy (fun uC : Nat → Nat => gC cy qC uC (qG 0) (qS 0) c_step c_stamp c_homes res.2.2.2.1 res.2.2.2.2.1 res.2.2.2.2.2.1 res.2.2.2.2.2.2.1 res.2.2.2.2.2.2.2.1 res.2.2.2.2.2.2.2.2.1 res.2.2.2.2.2.2.2.2.2.1 res.2.2.2.2.2.2.2.2.2.2.1 res.2.2.2.2.2.2.2.2.2.2.2 ++ (gG cy qG g_base g_worth res.2.1 res.2.2.1 g_version)) res.1) := by
  refine kent_i (cc := cX0_roundThrough) (maxL := 9) (by decide) rfl (Nat.le_of_ble_eq_true rfl) ?_
  intro p e0 s m ar below meth c A Q ls ⟨hx, hb, hml, hr, hts, hown, hlocks, hnm⟩ hA hK hN hQ hP hD hS hl
  have hl : lv_has ls 9 [(0, .ref (qC 0)), (1, .long a1), (3, .int a3)] := hl
  have hown : s.vm.findClass RX0 = some m.cls := hown
  have huX0 : ∀ x ∈ u_ws RX0 TX0 10, x ∈ wsX0_roundThrough := by decide +kernel
  have fk19 : (Cond.fieldLink RX0 19 "FigurePlay$Circles" "size" "I").before ar s = true := hts _ (by decide +kernel)
  have fk35 : (Cond.fieldLink RX0 35 "FigurePlay$Circles" "figures" "LFigurePlay$Figures;").before ar s = true := hts _ (by decide +kernel)
  have fk39 : (Cond.fieldLink RX0 39 "FigurePlay$Circles" "step" "I").before ar s = true := hts _ (by decide +kernel)
  have fk22 : (Cond.fieldLink RX0 22 "FigurePlay$Circles" "leasts" "[J").before ar s = true := hts _ (by decide +kernel)
  have fk32 : (Cond.fieldLink RX0 32 "FigurePlay$Circles" "order" "[I").before ar s = true := hts _ (by decide +kernel)
  unfold f_X0_roundThrough at hf
  obtain ⟨cp0, hf⟩ := ck_some hf
  have hpt : pot0 ≤ (c_n_leasts + c_n_lengths + c_n_firstBy + c_n_order) ∧ (c_n_leasts + c_n_lengths + c_n_firstBy + c_n_order) ≤ pm := by omega
  refine W.widen (k := (c_n_leasts + c_n_lengths + c_n_firstBy + c_n_order) - pot0) (n := 2 * ((c_n_leasts + c_n_lengths + c_n_firstBy + c_n_order) - pot0)) (Nat.zero_le _) (Nat.zero_le _) ?_
  have hJ88 : ∀ (x4 : Int64) (x8 : Int32) (g_row : Nat → Int32) (g_many : Nat → Int32) (c_size : Int32) (c_n_leasts : Nat) (c_leasts : Nat → Int64) (c_n_lengths : Nat) (c_lengths : Nat → Int32) (c_n_firstBy : Nat) (c_firstBy : Nat → Int32) (c_n_order : Nat) (c_order : Nat → Int32) (uC : Nat → Nat) (H : Heap) (locs : List Loc) (ls : Array Slot), f_X0_roundThrough_J88 F a3 pm x4 x8 g_row g_many c_size c_n_leasts c_leasts c_n_lengths c_lengths c_n_firstBy c_firstBy c_n_order c_order = some res → (pot0 ≤ (c_n_leasts + c_n_lengths + c_n_firstBy + c_n_order) ∧ (c_n_leasts + c_n_lengths + c_n_firstBy + c_n_order) ≤ pm) → va_P D vwCl (gC cy qC uC (qG 0) (qS 0) c_step c_stamp c_homes c_size c_n_leasts c_leasts c_n_lengths c_lengths c_n_firstBy c_firstBy c_n_order c_order ++ (gG cy qG g_base g_worth g_row g_many g_version)) H → va_D A (gC cy qC uC (qG 0) (qS 0) c_step c_stamp c_homes c_size c_n_leasts c_leasts c_n_lengths c_lengths c_n_firstBy c_firstBy c_n_order c_order ++ (gG cy qG g_base g_worth g_row g_many g_version)) → va_S A s.heap H locs → lv_has ls 9 [(0, .ref (qC 0)), (3, .int a3), (4, .long x4), (8, .int x8)] → W p l e0 (rmX0_roundThrough (pm - pot0)) s m ar below meth c H locs ((c_n_leasts + c_n_lengths + c_n_firstBy + c_n_order) - pot0) (2 * ((c_n_leasts + c_n_lengths + c_n_firstBy + c_n_order) - pot0)) Q (F0 m 88 ls []) := by
    intro x4 x8 g_row g_many c_size c_n_leasts c_leasts c_n_lengths c_lengths c_n_firstBy c_firstBy c_n_order c_order uC H locs ls hf hpt hP hD hS hl
    unfold f_X0_roundThrough_J88 at hf
    refine lv_aload_n hx hb dX0_roundThrough_88 rfl (lv_at hl 0 rfl) ?_
    refine lv_iload hx hb dX0_roundThrough_89 (lv_at hl 3 rfl) ?_
    refine lv_lload hx hb dX0_roundThrough_91 (lv_at hl 2 rfl) ?_
    refine lv_iload_n hx hb dX0_roundThrough_93 rfl (lv_at hl 1 rfl) ?_
    obtain ⟨cg1, hf⟩ := ck_some hf
    obtain ⟨r2, hc3, hf⟩ := ob_some hf
    have hI4 : kIn (gC cy qC uC (qG 0) (qS 0) c_step c_stamp c_homes c_size c_n_leasts c_leasts c_n_lengths c_lengths c_n_firstBy c_firstBy c_n_order c_order ++ (gG cy qG g_base g_worth g_row g_many g_version)) (gC cy qC uC (qG 0) (qS 0) c_step c_stamp c_homes c_size c_n_leasts c_leasts c_n_lengths c_lengths c_n_firstBy c_firstBy c_n_order c_order) (kpick (gC cy qC uC (qG 0) (qS 0) c_step c_stamp c_homes c_size c_n_leasts c_leasts c_n_lengths c_lengths c_n_firstBy c_firstBy c_n_order c_order ++ (gG cy qG g_base g_worth g_row g_many g_version)) [6, 7, 8, 9]) (fun uC : Nat → Nat => gC cy qC uC (qG 0) (qS 0) c_step c_stamp c_homes r2.1 r2.2.1 r2.2.2.1 r2.2.2.2.1 r2.2.2.2.2.1 r2.2.2.2.2.2.1 r2.2.2.2.2.2.2.1 r2.2.2.2.2.2.2.2.1 r2.2.2.2.2.2.2.2.2) (fun uC : Nat → Nat => gC cy qC uC (qG 0) (qS 0) c_step c_stamp c_homes r2.1 r2.2.1 r2.2.2.1 r2.2.2.2.1 r2.2.2.2.2.1 r2.2.2.2.2.2.1 r2.2.2.2.2.2.2.1 r2.2.2.2.2.2.2.2.1 r2.2.2.2.2.2.2.2.2 ++ (gG cy qG g_base g_worth g_row g_many g_version)) [0, 1, 2, 3, 4, 5] [6, 7, 8, 9] [4, 5, 6, 7, 8, 9, 0, 1, 2, 3] := ⟨rfl, rfl, rfl, rfl, by decide, rfl, fun _ => rfl⟩
    refine kc_v (k_run ⟨hx, hb, hml, hown, hts⟩ (c_X0_insert hc3 rfl) (cwV 3 hts gX0_roundThrough_X0_insert rfl rfl rfl (by decide +kernel) ⟨Nat.le_of_ble_eq_true rfl, Nat.le_of_ble_eq_true rfl⟩) hK hN hP hD ⟨hI4.1, hI4.2.2.1⟩ (ci := 0) (q0 := 0) rfl rfl rfl rfl hl.1 rfl (Nat.le_of_ble_eq_true rfl) dX0_roundThrough_94 ⟨by show (c_n_leasts + c_n_lengths + c_n_firstBy + c_n_order) - pot0 + (pm - (c_n_leasts + c_n_lengths + c_n_firstBy + c_n_order)) ≤ pm - pot0; omega, by show 2 * ((c_n_leasts + c_n_lengths + c_n_firstBy + c_n_order) - pot0) + 2 * (pm - (c_n_leasts + c_n_lengths + c_n_firstBy + c_n_order)) ≤ 2 * (pm - pot0); omega⟩) hP hD hS hA hI4 (fun uC H locs hP hD hS => ?_)
    obtain ⟨cq5, hf⟩ := ck_some hf
    have hpt : pot0 ≤ (r2.2.1 + r2.2.2.2.1 + r2.2.2.2.2.2.1 + r2.2.2.2.2.2.2.2.1) ∧ (r2.2.1 + r2.2.2.2.1 + r2.2.2.2.2.2.1 + r2.2.2.2.2.2.2.2.1) ≤ pm := by omega
    refine W.widen (k := (r2.2.1 + r2.2.2.2.1 + r2.2.2.2.2.2.1 + r2.2.2.2.2.2.2.2.1) - pot0) (n := 2 * ((r2.2.1 + r2.2.2.2.1 + r2.2.2.2.2.2.1 + r2.2.2.2.2.2.2.2.1) - pot0)) (by show (c_n_leasts + c_n_lengths + c_n_firstBy + c_n_order) - pot0 + (pm - (c_n_leasts + c_n_lengths + c_n_firstBy + c_n_order)) ≤ (r2.2.1 + r2.2.2.2.1 + r2.2.2.2.2.2.1 + r2.2.2.2.2.2.2.2.1) - pot0; omega) (by show 2 * ((c_n_leasts + c_n_lengths + c_n_firstBy + c_n_order) - pot0) + 2 * (pm - (c_n_leasts + c_n_lengths + c_n_firstBy + c_n_order)) ≤ 2 * ((r2.2.1 + r2.2.2.2.1 + r2.2.2.2.2.2.1 + r2.2.2.2.2.2.2.2.1) - pot0); omega) ?_
    refine lv_aload_n hx hb dX0_roundThrough_97 rfl (lv_at hl 0 rfl) ?_
    refine va_get (D := D) (ci := 0) (C := RX0) (T := TX0) (N := 10) hx hb hts huX0 hown hK hP 0 rfl rfl 5 (by decide) fk19 (fun _ h9 => h9) rfl dX0_roundThrough_98 ?_
    refine lv_iconst (v := (1 : Int32)) hx hb dX0_roundThrough_101 (by decide) ?_
    refine lv_isub hx hb dX0_roundThrough_102 ?_
    obtain ⟨cp, hf⟩ := ck_some hf
    refine W.widen (k := pm - pot0) (n := 2 * (pm - pot0)) (by omega) (by omega) ?_
    obtain rfl := Option.some.inj hf
    exact hQ uC 103 _ _ _ dX0_roundThrough_103 hP hD hS
  have hL9 : ∀ (c_size : Int32) (c_n_leasts : Nat) (c_leasts : Nat → Int64) (c_n_lengths : Nat) (c_lengths : Nat → Int32) (c_n_firstBy : Nat) (c_firstBy : Nat → Int32) (c_n_order : Nat) (c_order : Nat → Int32) (k : Nat) (x : Int64 × Int64 × Int32 × (Nat → Int32) × (Nat → Int32)) (ex : Int64 × (Nat → Int32) × (Nat → Int32)) (uC : Nat → Nat) (H : Heap) (locs : List Loc) (ls : Array Slot), lp (f_X0_roundThrough_B9 F a3 c_step g_base g_worth c_size c_n_leasts c_leasts c_n_lengths c_lengths c_n_firstBy c_firstBy c_n_order c_order) k x = some ex → (∀ (uC : Nat → Nat) (H : Heap) (locs : List Loc) (ls : Array Slot), (pot0 ≤ (c_n_leasts + c_n_lengths + c_n_firstBy + c_n_order) ∧ (c_n_leasts + c_n_lengths + c_n_firstBy + c_n_order) ≤ pm) → va_P D vwCl (gC cy qC uC (qG 0) (qS 0) c_step c_stamp c_homes c_size c_n_leasts c_leasts c_n_lengths c_lengths c_n_firstBy c_firstBy c_n_order c_order ++ (gG cy qG g_base g_worth ex.2.1 ex.2.2 g_version)) H → va_D A (gC cy qC uC (qG 0) (qS 0) c_step c_stamp c_homes c_size c_n_leasts c_leasts c_n_lengths c_lengths c_n_firstBy c_firstBy c_n_order c_order ++ (gG cy qG g_base g_worth ex.2.1 ex.2.2 g_version)) → va_S A s.heap H locs → lv_has ls 9 [(0, .ref (qC 0)), (3, .int a3), (4, .long ex.1)] → W p l e0 (rmX0_roundThrough (pm - pot0)) s m ar below meth c H locs ((c_n_leasts + c_n_lengths + c_n_firstBy + c_n_order) - pot0) (2 * ((c_n_leasts + c_n_lengths + c_n_firstBy + c_n_order) - pot0)) Q (F0 m 45 ls [])) → (pot0 ≤ (c_n_leasts + c_n_lengths + c_n_firstBy + c_n_order) ∧ (c_n_leasts + c_n_lengths + c_n_firstBy + c_n_order) ≤ pm) → va_P D vwCl (gC cy qC uC (qG 0) (qS 0) c_step c_stamp c_homes c_size c_n_leasts c_leasts c_n_lengths c_lengths c_n_firstBy c_firstBy c_n_order c_order ++ (gG cy qG g_base g_worth x.2.2.2.1 x.2.2.2.2 g_version)) H → va_D A (gC cy qC uC (qG 0) (qS 0) c_step c_stamp c_homes c_size c_n_leasts c_leasts c_n_lengths c_lengths c_n_firstBy c_firstBy c_n_order c_order ++ (gG cy qG g_base g_worth x.2.2.2.1 x.2.2.2.2 g_version)) → va_S A s.heap H locs → lv_has ls 9 [(0, .ref (qC 0)), (3, .int a3), (4, .long x.1), (6, .long x.2.1), (8, .int x.2.2.1)] → W p l e0 (rmX0_roundThrough (pm - pot0)) s m ar below meth c H locs ((c_n_leasts + c_n_lengths + c_n_firstBy + c_n_order) - pot0) (2 * ((c_n_leasts + c_n_lengths + c_n_firstBy + c_n_order) - pot0)) Q (F0 m 9 ls []) := by
    intro c_size c_n_leasts c_leasts c_n_lengths c_lengths c_n_firstBy c_firstBy c_n_order c_order k
    induction k with
    | zero => intro x ex uC H locs ls hf; exact no_some hf
    | succ k ih =>
      intro x ex uC H locs ls hf hex hpt hP hD hS hl
      have hf : f_X0_roundThrough_B9 F a3 c_step g_base g_worth c_size c_n_leasts c_leasts c_n_lengths c_lengths c_n_firstBy c_firstBy c_n_order c_order (lp (f_X0_roundThrough_B9 F a3 c_step g_base g_worth c_size c_n_leasts c_leasts c_n_lengths c_lengths c_n_firstBy c_firstBy c_n_order c_order) k) x = some ex := hf
      unfold f_X0_roundThrough_B9 at hf
      refine lv_iload hx hb dX0_roundThrough_9 (lv_at hl 4 rfl) ?_
      refine lv_iload_n hx hb dX0_roundThrough_11 rfl (lv_at hl 1 rfl) ?_
      refine lv_icmp_ge (tgt := 45) hx hb dX0_roundThrough_12 (by decide) (fun c6 => ?_) (fun c6 => ?_)
      · have hf := if_t hf c6
        obtain rfl := Option.some.inj hf
        exact hex _ _ _ _ hpt hP hD hS (lv_sub hl [0, 1, 2] rfl)
      · have hf := if_f hf c6
        refine lv_aload_n hx hb dX0_roundThrough_15 rfl (lv_at hl 0 rfl) ?_
        refine va_get (v := .ref (qG 0)) (D := D) (ci := 0) (C := RX0) (T := TX0) (N := 10) hx hb hts huX0 hown hK hP 0 rfl rfl 0 (by decide) fk35 (fun _ h9 => h9) rfl dX0_roundThrough_16 ?_
        refine lv_aload_n hx hb dX0_roundThrough_19 rfl (lv_at hl 0 rfl) ?_
        refine va_get (D := D) (ci := 0) (C := RX0) (T := TX0) (N := 10) hx hb hts huX0 hown hK hP 0 rfl rfl 1 (by decide) fk39 (fun _ h9 => h9) rfl dX0_roundThrough_20 ?_
        refine lv_lload hx hb dX0_roundThrough_23 (lv_at hl 3 rfl) ?_
        obtain ⟨r7, hc8, hf⟩ := ob_some hf
        have hI9 : kIn (gC cy qC uC (qG 0) (qS 0) c_step c_stamp c_homes c_size c_n_leasts c_leasts c_n_lengths c_lengths c_n_firstBy c_firstBy c_n_order c_order ++ (gG cy qG g_base g_worth x.2.2.2.1 x.2.2.2.2 g_version)) (gG cy qG g_base g_worth x.2.2.2.1 x.2.2.2.2 g_version) (kpick (gC cy qC uC (qG 0) (qS 0) c_step c_stamp c_homes c_size c_n_leasts c_leasts c_n_lengths c_lengths c_n_firstBy c_firstBy c_n_order c_order ++ (gG cy qG g_base g_worth x.2.2.2.1 x.2.2.2.2 g_version)) [0, 1, 2, 3, 4, 5]) (fun _ : Unit => gG cy qG g_base g_worth r7.2.1 r7.2.2 g_version) (fun _ : Unit => gC cy qC uC (qG 0) (qS 0) c_step c_stamp c_homes c_size c_n_leasts c_leasts c_n_lengths c_lengths c_n_firstBy c_firstBy c_n_order c_order ++ (gG cy qG g_base g_worth r7.2.1 r7.2.2 g_version)) [6, 7, 8, 9] [0, 1, 2, 3, 4, 5] [0, 1, 2, 3, 4, 5, 6, 7, 8, 9] := ⟨rfl, rfl, rfl, rfl, by decide, rfl, fun _ => rfl⟩
        refine kc_l (k_run ⟨hx, hb, hml, hown, hts⟩ (c_X1_make hc8) (cwV 2 hts gX0_roundThrough_X1_make rfl rfl rfl (by decide +kernel) ⟨Nat.le_of_ble_eq_true rfl, Nat.le_of_ble_eq_true rfl⟩) hK hN hP hD ⟨hI9.1, hI9.2.2.1⟩ (ci := 1) (q0 := 0) rfl rfl rfl rfl hl.1 rfl (Nat.le_of_ble_eq_true rfl) dX0_roundThrough_25 ⟨by show (c_n_leasts + c_n_lengths + c_n_firstBy + c_n_order) - pot0 + 0 ≤ pm - pot0; omega, by show 2 * ((c_n_leasts + c_n_lengths + c_n_firstBy + c_n_order) - pot0) + 0 ≤ 2 * (pm - pot0); omega⟩) hP hD hS hA hI9 (fun _ H locs hP hD hS => ?_)
        refine W.widen (k := (c_n_leasts + c_n_lengths + c_n_firstBy + c_n_order) - pot0) (n := 2 * ((c_n_leasts + c_n_lengths + c_n_firstBy + c_n_order) - pot0)) (Nat.le_refl _) (Nat.le_refl _) ?_
        refine lv_lstore (lv' := [(6, .long r7.1), (0, .ref (qC 0)), (3, .int a3), (4, .long x.1), (8, .int x.2.2.1)]) hx hb dX0_roundThrough_28 hl (by decide) rfl (fun ls hl => ?_)
        refine lv_lload hx hb dX0_roundThrough_30 (lv_at hl 3 rfl) ?_
        refine lv_lload hx hb dX0_roundThrough_32 (lv_at hl 0 rfl) ?_
        refine va_mmin_long hx hb (hml.trans hl.1.symm) hown (hts (.methodLink RX0 99 Lib.MathLoose.min_long.x) (by decide +kernel)) (hts (.static Lib.MathLoose.min_long.x) (by decide +kernel)) (hts (.initialized "java/lang/Math") (by decide +kernel)) (hts (.code Lib.MathLoose.min_long.x Lib.MathLoose.min_long.code 4 (some .long)) (by decide +kernel)) (Nat.le_of_ble_eq_true rfl) (Nat.le_of_ble_eq_true rfl) (by show (c_n_leasts + c_n_lengths + c_n_firstBy + c_n_order) - pot0 ≤ pm - pot0; omega) (by show 2 * ((c_n_leasts + c_n_lengths + c_n_firstBy + c_n_order) - pot0) ≤ 2 * (pm - pot0); omega) dX0_roundThrough_34 ?_
        refine lv_lstore (lv' := [(4, .long (if r7.1 < x.1 then r7.1 else x.1)), (6, .long r7.1), (0, .ref (qC 0)), (3, .int a3), (8, .int x.2.2.1)]) hx hb dX0_roundThrough_37 hl (by decide) rfl (fun ls hl => ?_)
        refine lv_iinc (v := (x.2.2.1 + (1 : Int32))) (lv' := [(8, .int (x.2.2.1 + (1 : Int32))), (4, .long (if r7.1 < x.1 then r7.1 else x.1)), (6, .long r7.1), (0, .ref (qC 0)), (3, .int a3)]) hx hb dX0_roundThrough_39 hl (k := 4) rfl rfl (by decide) rfl (fun ls hl => ?_)
        refine lv_goto (tgt := 9) hx hb dX0_roundThrough_42 (by decide) ?_
        exact ih ((if r7.1 < x.1 then r7.1 else x.1), r7.1, (x.2.2.1 + (1 : Int32)), r7.2.1, r7.2.2) ex _ _ _ _ hf hex hpt hP hD hS (lv_sub hl [3, 4, 1, 2, 0] rfl)
  refine lv_lload_n hx hb dX0_roundThrough_0 rfl (lv_at hl 1 rfl) ?_
  refine lv_lstore (lv' := [(4, .long a1), (0, .ref (qC 0)), (1, .long a1), (3, .int a3)]) hx hb dX0_roundThrough_1 hl (by decide) rfl (fun ls hl => ?_)
  refine lv_lload_n hx hb dX0_roundThrough_3 rfl (lv_at hl 2 rfl) ?_
  refine lv_lstore (lv' := [(6, .long a1), (4, .long a1), (0, .ref (qC 0)), (1, .long a1), (3, .int a3)]) hx hb dX0_roundThrough_4 hl (by decide) rfl (fun ls hl => ?_)
  refine lv_iconst (v := (1 : Int32)) hx hb dX0_roundThrough_6 (by decide) ?_
  refine lv_istore (lv' := [(8, .int (1 : Int32)), (6, .long a1), (4, .long a1), (0, .ref (qC 0)), (1, .long a1), (3, .int a3)]) hx hb dX0_roundThrough_7 hl (by decide) rfl (fun ls hl => ?_)
  obtain ⟨ex10, hcl, hf⟩ := ob_some hf
  refine hL9 c_size c_n_leasts c_leasts c_n_lengths c_lengths c_n_firstBy c_firstBy c_n_order c_order F (a1, a1, (1 : Int32), g_row, g_many) ex10 _ _ _ _ hcl (fun uC H locs ls hpt hP hD hS hl => ?_) hpt hP hD hS (lv_sub hl [3, 5, 2, 1, 0] rfl)
  refine lv_aload_n hx hb dX0_roundThrough_45 rfl (lv_at hl 0 rfl) ?_
  refine lv_lload hx hb dX0_roundThrough_46 (lv_at hl 2 rfl) ?_
  obtain ⟨r11, hc12, hf⟩ := ob_some hf
  have hI13 : kIn (gC cy qC uC (qG 0) (qS 0) c_step c_stamp c_homes c_size c_n_leasts c_leasts c_n_lengths c_lengths c_n_firstBy c_firstBy c_n_order c_order ++ (gG cy qG g_base g_worth ex10.2.1 ex10.2.2 g_version)) (gC cy qC uC (qG 0) (qS 0) c_step c_stamp c_homes c_size c_n_leasts c_leasts c_n_lengths c_lengths c_n_firstBy c_firstBy c_n_order c_order) (kpick (gC cy qC uC (qG 0) (qS 0) c_step c_stamp c_homes c_size c_n_leasts c_leasts c_n_lengths c_lengths c_n_firstBy c_firstBy c_n_order c_order ++ (gG cy qG g_base g_worth ex10.2.1 ex10.2.2 g_version)) [6, 7, 8, 9]) (fun _ : Unit => gC cy qC uC (qG 0) (qS 0) c_step c_stamp c_homes c_size c_n_leasts c_leasts c_n_lengths c_lengths c_n_firstBy c_firstBy c_n_order c_order) (fun _ : Unit => gC cy qC uC (qG 0) (qS 0) c_step c_stamp c_homes c_size c_n_leasts c_leasts c_n_lengths c_lengths c_n_firstBy c_firstBy c_n_order c_order ++ (gG cy qG g_base g_worth ex10.2.1 ex10.2.2 g_version)) [0, 1, 2, 3, 4, 5] [6, 7, 8, 9] [4, 5, 6, 7, 8, 9, 0, 1, 2, 3] := ⟨rfl, rfl, rfl, rfl, by decide, rfl, fun _ => rfl⟩
  refine kc_i (k_run ⟨hx, hb, hml, hown, hts⟩ (c_X0_rankOf hc12) (cwV 1 hts gX0_roundThrough_X0_rankOf rfl rfl rfl (by decide +kernel) ⟨Nat.le_of_ble_eq_true rfl, Nat.le_of_ble_eq_true rfl⟩) hK hN hP hD ⟨hI13.1, hI13.2.2.1⟩ (ci := 0) (q0 := 0) rfl rfl rfl rfl hl.1 rfl (Nat.le_of_ble_eq_true rfl) dX0_roundThrough_48 ⟨by show (c_n_leasts + c_n_lengths + c_n_firstBy + c_n_order) - pot0 + 0 ≤ pm - pot0; omega, by show 2 * ((c_n_leasts + c_n_lengths + c_n_firstBy + c_n_order) - pot0) + 0 ≤ 2 * (pm - pot0); omega⟩) hP hD hS hA hI13 (fun _ H locs hP hD hS => ?_)
  refine W.widen (k := (c_n_leasts + c_n_lengths + c_n_firstBy + c_n_order) - pot0) (n := 2 * ((c_n_leasts + c_n_lengths + c_n_firstBy + c_n_order) - pot0)) (Nat.le_refl _) (Nat.le_refl _) ?_
  refine lv_istore (lv' := [(8, .int r11), (0, .ref (qC 0)), (3, .int a3), (4, .long ex10.1)]) hx hb dX0_roundThrough_51 hl (by decide) rfl (fun ls hl => ?_)
  refine lv_iload hx hb dX0_roundThrough_53 (lv_at hl 0 rfl) ?_
  refine lv_aload_n hx hb dX0_roundThrough_55 rfl (lv_at hl 1 rfl) ?_
  refine va_get (D := D) (ci := 0) (C := RX0) (T := TX0) (N := 10) hx hb hts huX0 hown hK hP 0 rfl rfl 5 (by decide) fk19 (fun _ h9 => h9) rfl dX0_roundThrough_56 ?_
  refine lv_icmp_ge (tgt := 88) hx hb dX0_roundThrough_59 (by decide) (fun c14 => ?_) (fun c14 => ?_)
  · have hf := if_t hf c14
    exact hJ88 ex10.1 r11 ex10.2.1 ex10.2.2 c_size c_n_leasts c_leasts c_n_lengths c_lengths c_n_firstBy c_firstBy c_n_order c_order _ _ _ _ hf hpt hP hD hS (lv_sub hl [1, 2, 3, 0] rfl)
  · have hf := if_f hf c14
    refine lv_aload_n hx hb dX0_roundThrough_62 rfl (lv_at hl 1 rfl) ?_
    refine va_get (v := .ref (uC 0)) (D := D) (ci := 0) (C := RX0) (T := TX0) (N := 10) hx hb hts huX0 hown hK hP 0 rfl rfl 6 (by decide) fk22 (fun _ h9 => h9) rfl dX0_roundThrough_63 ?_
    refine lv_aload_n hx hb dX0_roundThrough_66 rfl (lv_at hl 1 rfl) ?_
    refine va_get (v := .ref (uC 3)) (D := D) (ci := 0) (C := RX0) (T := TX0) (N := 10) hx hb hts huX0 hown hK hP 0 rfl rfl 9 (by decide) fk32 (fun _ h9 => h9) rfl dX0_roundThrough_67 ?_
    refine lv_iload hx hb dX0_roundThrough_70 (lv_at hl 0 rfl) ?_
    obtain ⟨c15, hf⟩ := ck_some hf
    refine va_iald hx hb hK hP 5 0 rfl rfl c15 dX0_roundThrough_72 ?_
    obtain ⟨c16, hf⟩ := ck_some hf
    refine va_lald hx hb hK hP 2 1 rfl rfl c16 dX0_roundThrough_73 ?_
    refine lv_lload hx hb dX0_roundThrough_74 (lv_at hl 3 rfl) ?_
    refine kl_ne (tgt := 88) hx hb dX0_roundThrough_76 dX0_roundThrough_77 (by decide) (fun c17 => ?_) (fun c17 => ?_)
    · have hf := if_f hf c17
      exact hJ88 ex10.1 r11 ex10.2.1 ex10.2.2 c_size c_n_leasts c_leasts c_n_lengths c_lengths c_n_firstBy c_firstBy c_n_order c_order _ _ _ _ hf hpt hP hD hS (lv_sub hl [1, 2, 3, 0] rfl)
    · have hf := if_t hf c17
      refine lv_aload_n hx hb dX0_roundThrough_80 rfl (lv_at hl 1 rfl) ?_
      refine va_get (v := .ref (uC 3)) (D := D) (ci := 0) (C := RX0) (T := TX0) (N := 10) hx hb hts huX0 hown hK hP 0 rfl rfl 9 (by decide) fk32 (fun _ h9 => h9) rfl dX0_roundThrough_81 ?_
      refine lv_iload hx hb dX0_roundThrough_84 (lv_at hl 0 rfl) ?_
      obtain ⟨c18, hf⟩ := ck_some hf
      refine va_iald hx hb hK hP 5 0 rfl rfl c18 dX0_roundThrough_86 ?_
      obtain ⟨cp, hf⟩ := ck_some hf
      refine W.widen (k := pm - pot0) (n := 2 * (pm - pot0)) (by omega) (by omega) ?_
      obtain rfl := Option.some.inj hf
      exact hQ uC 87 _ _ _ dX0_roundThrough_87 hP hD hS
def f_X0_resolve_J147 (F : Nat) (pm : Nat) (g_row : Nat → Int32) (g_many : Nat → Int32) (s_keys : Nat → Int64) (s_tails : Nat → Int32) (s_homes : Nat → Int32) (c_size : Int32) (c_n_leasts : Nat) (c_leasts : Nat → Int64) (c_n_lengths : Nat) (c_lengths : Nat → Int32) (c_n_firstBy : Nat) (c_firstBy : Nat → Int32) (c_n_order : Nat) (c_order : Nat → Int32) : Option ((Nat → Int32) × (Nat → Int32) × (Nat → Int64) × (Nat → Int32) × (Nat → Int32) × Int32 × Nat × (Nat → Int64) × Nat × (Nat → Int32) × Nat × (Nat → Int32) × Nat × (Nat → Int32)) := ck ((c_n_leasts + c_n_lengths + c_n_firstBy + c_n_order) = pm) (some (g_row, g_many, s_keys, s_tails, s_homes, c_size, c_n_leasts, c_leasts, c_n_lengths, c_lengths, c_n_firstBy, c_firstBy, c_n_order, c_order))
def f_X0_resolve_B8 (F : Nat) (c_step : Int32) (s_stamp : Int32) (g_base : Int32) (g_worth : Nat → Int32) (pm : Nat) (c_size : Int32) (c_n_leasts : Nat) (c_leasts : Nat → Int64) (c_n_lengths : Nat) (c_lengths : Nat → Int32) (c_n_firstBy : Nat) (c_firstBy : Nat → Int32) (c_n_order : Nat) (c_order : Nat → Int32) (rec : Int32 × Int64 × Int32 × (Nat → Int32) × (Nat → Int32) × (Nat → Int64) × (Nat → Int32) × (Nat → Int32) → Option (((Nat → Int32) × (Nat → Int32) × (Nat → Int64) × (Nat → Int32) × (Nat → Int32) × Int32 × Nat × (Nat → Int64) × Nat × (Nat → Int32) × Nat × (Nat → Int32) × Nat × (Nat → Int32)) ⊕ (Int32 × Int64 × Int32 × (Nat → Int32) × (Nat → Int32) × (Nat → Int64) × (Nat → Int32) × (Nat → Int32)))) (x : Int32 × Int64 × Int32 × (Nat → Int32) × (Nat → Int32) × (Nat → Int64) × (Nat → Int32) × (Nat → Int32)) : Option (((Nat → Int32) × (Nat → Int32) × (Nat → Int64) × (Nat → Int32) × (Nat → Int32) × Int32 × Nat × (Nat → Int64) × Nat × (Nat → Int32) × Nat × (Nat → Int32) × Nat × (Nat → Int32)) ⊕ (Int32 × Int64 × Int32 × (Nat → Int32) × (Nat → Int32) × (Nat → Int64) × (Nat → Int32) × (Nat → Int32))) := if 0 ≤ x.2.2.1 then (some (.inr (x.1, x.2.1, x.2.2.1, x.2.2.2.1, x.2.2.2.2.1, x.2.2.2.2.2.1, x.2.2.2.2.2.2.1, x.2.2.2.2.2.2.2))) else (if (32768 : Int32) ≤ x.1 then (some (.inr (x.1, x.2.1, x.2.2.1, x.2.2.2.1, x.2.2.2.2.1, x.2.2.2.2.2.1, x.2.2.2.2.2.2.1, x.2.2.2.2.2.2.2))) else ((f_X8_put F x.2.1 x.1 (-1 : Int32) x.2.2.2.2.2.1 x.2.2.2.2.2.2.1 x.2.2.2.2.2.2.2 s_stamp).bind (fun r3 => if r3.1 = 0 then (ck ((c_n_leasts + c_n_lengths + c_n_firstBy + c_n_order) = pm) (some (.inl (x.2.2.2.1, x.2.2.2.2.1, r3.2.1, r3.2.2.1, r3.2.2.2, c_size, c_n_leasts, c_leasts, c_n_lengths, c_lengths, c_n_firstBy, c_firstBy, c_n_order, c_order)))) else ((f_X1_make F c_step x.2.1 g_base g_worth x.2.2.2.1 x.2.2.2.2.1).bind (fun r7 => (f_X8_find F r7.1 r3.2.1 s_stamp).bind (fun r10 => rec ((x.1 + (1 : Int32)), r7.1, r10, r7.2.1, r7.2.2, r3.2.1, r3.2.2.1, r3.2.2.2)))))))
def f_X0_resolve (F : Nat) (pm : Nat) (a1 : Int64) (g_base : Int32) (g_worth : Nat → Int32) (g_row : Nat → Int32) (g_many : Nat → Int32) (s_keys : Nat → Int64) (s_tails : Nat → Int32) (s_homes : Nat → Int32) (s_stamp : Int32) (c_step : Int32) (c_size : Int32) (c_n_leasts : Nat) (c_leasts : Nat → Int64) (c_n_lengths : Nat) (c_lengths : Nat → Int32) (c_n_firstBy : Nat) (c_firstBy : Nat → Int32) (c_n_order : Nat) (c_order : Nat → Int32) : Option ((Nat → Int32) × (Nat → Int32) × (Nat → Int64) × (Nat → Int32) × (Nat → Int32) × Int32 × Nat × (Nat → Int64) × Nat × (Nat → Int32) × Nat × (Nat → Int32) × Nat × (Nat → Int32)) := ck ((c_n_leasts + c_n_lengths + c_n_firstBy + c_n_order) ≤ pm) ((lp (f_X0_resolve_B8 F c_step s_stamp g_base g_worth pm c_size c_n_leasts c_leasts c_n_lengths c_lengths c_n_firstBy c_firstBy c_n_order c_order) F ((0 : Int32), a1, (-1 : Int32), g_row, g_many, s_keys, s_tails, s_homes)).bind (fun ex13 => Sum.elim (fun r => some r) (fun er14 => if 0 ≤ er14.2.2.1 then (ck (¬ (er14.2.2.1 < 0 ∨ 32768 ≤ er14.2.2.1.toNatClampNeg)) (if (er14.2.2.2.2.2.2.2 er14.2.2.1.toNatClampNeg) = (-1 : Int32) then (ck (¬ (er14.2.2.1 < 0 ∨ 32768 ≤ er14.2.2.1.toNatClampNeg)) (ck ((c_n_leasts + c_n_lengths + c_n_firstBy + c_n_order) ≤ pm ∧ pm ≤ pm) ((f_X0_roundThrough F pm er14.2.1 (er14.1 - (er14.2.2.2.2.2.2.1 er14.2.2.1.toNatClampNeg)) g_base g_worth er14.2.2.2.1 er14.2.2.2.2.1 c_step c_size c_n_leasts c_leasts c_n_lengths c_lengths c_n_firstBy c_firstBy c_n_order c_order).bind (fun r24 => ck ((r24.2.2.2.2.1 + r24.2.2.2.2.2.2.1 + r24.2.2.2.2.2.2.2.2.1 + r24.2.2.2.2.2.2.2.2.2.2.1) = pm) ((f_X0_settle F a1 er14.1 (er14.2.2.2.2.2.2.1 er14.2.2.1.toNatClampNeg) (0 : Int32) r24.1 g_base g_worth r24.2.1 r24.2.2.1 er14.2.2.2.2.2.1 er14.2.2.2.2.2.2.1 er14.2.2.2.2.2.2.2 s_stamp c_step).bind (fun r28 => f_X0_resolve_J147 F pm r28.1 r28.2.1 r28.2.2.1 r28.2.2.2.1 r28.2.2.2.2 r24.2.2.2.1 r24.2.2.2.2.1 r24.2.2.2.2.2.1 r24.2.2.2.2.2.2.1 r24.2.2.2.2.2.2.2.1 r24.2.2.2.2.2.2.2.2.1 r24.2.2.2.2.2.2.2.2.2.1 r24.2.2.2.2.2.2.2.2.2.2.1 r24.2.2.2.2.2.2.2.2.2.2.2)))))) else (ck (¬ (er14.2.2.1 < 0 ∨ 32768 ≤ er14.2.2.1.toNatClampNeg)) (ck (¬ (er14.2.2.1 < 0 ∨ 32768 ≤ er14.2.2.1.toNatClampNeg)) ((f_X0_settle F a1 er14.1 er14.1 (er14.2.2.2.2.2.2.1 er14.2.2.1.toNatClampNeg) (er14.2.2.2.2.2.2.2 er14.2.2.1.toNatClampNeg) g_base g_worth er14.2.2.2.1 er14.2.2.2.2.1 er14.2.2.2.2.2.1 er14.2.2.2.2.2.2.1 er14.2.2.2.2.2.2.2 s_stamp c_step).bind (fun r20 => f_X0_resolve_J147 F pm r20.1 r20.2.1 r20.2.2.1 r20.2.2.2.1 r20.2.2.2.2 c_size c_n_leasts c_leasts c_n_lengths c_lengths c_n_firstBy c_firstBy c_n_order c_order)))))) else (ck ((c_n_leasts + c_n_lengths + c_n_firstBy + c_n_order) = pm) (some (er14.2.2.2.1, er14.2.2.2.2.1, er14.2.2.2.2.2.1, er14.2.2.2.2.2.2.1, er14.2.2.2.2.2.2.2, c_size, c_n_leasts, c_leasts, c_n_lengths, c_lengths, c_n_firstBy, c_firstBy, c_n_order, c_order)))) ex13))
abbrev rmX0_resolve (k : Nat) : Room := { frames := 4, cells := k, slots := 2 * k, locals := 153 }
set_option maxHeartbeats 1000000 in
set_option maxRecDepth 100000 in
theorem c_X0_resolve {l : Launch} {D : va_G} {cy : Nat → ClassId} {qC : Nat → Nat} {qG : Nat → Nat} {qS : Nat → Nat} {uC : Nat → Nat} {c_step : Int32} {c_stamp : Int32} {c_homes : Nat → Int32} {c_size : Int32} {c_n_leasts : Nat} {c_leasts : Nat → Int64} {c_n_lengths : Nat} {c_lengths : Nat → Int32} {c_n_firstBy : Nat} {c_firstBy : Nat → Int32} {c_n_order : Nat} {c_order : Nat → Int32} {s_keys : Nat → Int64} {s_tails : Nat → Int32} {s_homes : Nat → Int32} {s_stamp : Int32} {g_base : Int32} {g_worth : Nat → Int32} {g_row : Nat → Int32} {g_many : Nat → Int32} {g_version : Int32} {a1 : Int64} {F : Nat} {pm pot0 : Nat} {res : (Nat → Int32) × (Nat → Int32) × (Nat → Int64) × (Nat → Int32) × (Nat → Int32) × Int32 × Nat × (Nat → Int64) × Nat × (Nat → Int32) × Nat × (Nat → Int32) × Nat × (Nat → Int32)} (hf : f_X0_resolve F pm a1 g_base g_worth g_row g_many s_keys s_tails s_homes s_stamp c_step c_size c_n_leasts c_leasts c_n_lengths c_lengths c_n_firstBy c_firstBy c_n_order c_order = some res) (hp0 : pot0 = (c_n_leasts + c_n_lengths + c_n_firstBy + c_n_order)) : kM l yX0_resolve wsX0_resolve (rmX0_resolve (pm - pot0)) D cy [.ref (qC 0), .long a1] (gC cy qC uC (qG 0) (qS 0) c_step c_stamp c_homes c_size c_n_leasts c_leasts c_n_lengths c_lengths c_n_firstBy c_firstBy c_n_order c_order ++ (gS cy qS s_keys s_tails s_homes s_stamp ++ (gG cy qG g_base g_worth g_row g_many g_version))) (kQv D cy (fun uC : Nat → Nat => gC cy qC uC (qG 0) (qS 0) c_step c_stamp c_homes res.2.2.2.2.2.1 res.2.2.2.2.2.2.1 res.2.2.2.2.2.2.2.1 res.2.2.2.2.2.2.2.2.1 res.2.2.2.2.2.2.2.2.2.1 res.2.2.2.2.2.2.2.2.2.2.1 res.2.2.2.2.2.2.2.2.2.2.2.1 res.2.2.2.2.2.2.2.2.2.2.2.2.1 res.2.2.2.2.2.2.2.2.2.2.2.2.2 ++ (gS cy qS res.2.2.1 res.2.2.2.1 res.2.2.2.2.1 s_stamp ++ (gG cy qG g_base g_worth res.1 res.2.1 g_version)))) := by
  refine kent_v (cc := cX0_resolve) (maxL := 8) (by decide) rfl (Nat.le_of_ble_eq_true rfl) ?_
  intro p e0 s m ar below meth c A Q ls ⟨hx, hb, hml, hr, hts, hown, hlocks, hnm⟩ hA hK hN hQ hP hD hS hl
  have hl : lv_has ls 8 [(0, .ref (qC 0)), (1, .long a1)] := hl
  have hown : s.vm.findClass RX0 = some m.cls := hown
  have fk83 : (Cond.constant RX0 83 (32768)).before ar s = true := hts _ (by decide +kernel)
  have huX0 : ∀ x ∈ u_ws RX0 TX0 10, x ∈ wsX0_resolve := by decide +kernel
  have fk42 : (Cond.fieldLink RX0 42 "FigurePlay$Circles" "slots" "LFigurePlay$Slots;").before ar s = true := hts _ (by decide +kernel)
  have fk35 : (Cond.fieldLink RX0 35 "FigurePlay$Circles" "figures" "LFigurePlay$Figures;").before ar s = true := hts _ (by decide +kernel)
  have fk39 : (Cond.fieldLink RX0 39 "FigurePlay$Circles" "step" "I").before ar s = true := hts _ (by decide +kernel)
  have huX8 : ∀ x ∈ u_ws RX8 TX8 4, x ∈ wsX0_resolve := by decide +kernel
  have fk67 : (Cond.fieldLink RX0 67 "FigurePlay$Slots" "homes" "[I").before ar s = true := hts _ (by decide +kernel)
  have fk68 : (Cond.fieldLink RX0 68 "FigurePlay$Slots" "tails" "[I").before ar s = true := hts _ (by decide +kernel)
  unfold f_X0_resolve at hf
  obtain ⟨cp0, hf⟩ := ck_some hf
  have hpt : pot0 ≤ (c_n_leasts + c_n_lengths + c_n_firstBy + c_n_order) ∧ (c_n_leasts + c_n_lengths + c_n_firstBy + c_n_order) ≤ pm := by omega
  refine W.widen (k := (c_n_leasts + c_n_lengths + c_n_firstBy + c_n_order) - pot0) (n := 2 * ((c_n_leasts + c_n_lengths + c_n_firstBy + c_n_order) - pot0)) (Nat.zero_le _) (Nat.zero_le _) ?_
  have hJ147 : ∀ (g_row : Nat → Int32) (g_many : Nat → Int32) (s_keys : Nat → Int64) (s_tails : Nat → Int32) (s_homes : Nat → Int32) (c_size : Int32) (c_n_leasts : Nat) (c_leasts : Nat → Int64) (c_n_lengths : Nat) (c_lengths : Nat → Int32) (c_n_firstBy : Nat) (c_firstBy : Nat → Int32) (c_n_order : Nat) (c_order : Nat → Int32) (uC : Nat → Nat) (H : Heap) (locs : List Loc) (ls : Array Slot), f_X0_resolve_J147 F pm g_row g_many s_keys s_tails s_homes c_size c_n_leasts c_leasts c_n_lengths c_lengths c_n_firstBy c_firstBy c_n_order c_order = some res → (pot0 ≤ (c_n_leasts + c_n_lengths + c_n_firstBy + c_n_order) ∧ (c_n_leasts + c_n_lengths + c_n_firstBy + c_n_order) ≤ pm) → va_P D vwCl (gC cy qC uC (qG 0) (qS 0) c_step c_stamp c_homes c_size c_n_leasts c_leasts c_n_lengths c_lengths c_n_firstBy c_firstBy c_n_order c_order ++ (gS cy qS s_keys s_tails s_homes s_stamp ++ (gG cy qG g_base g_worth g_row g_many g_version))) H → va_D A (gC cy qC uC (qG 0) (qS 0) c_step c_stamp c_homes c_size c_n_leasts c_leasts c_n_lengths c_lengths c_n_firstBy c_firstBy c_n_order c_order ++ (gS cy qS s_keys s_tails s_homes s_stamp ++ (gG cy qG g_base g_worth g_row g_many g_version))) → va_S A s.heap H locs → lv_has ls 8 [] → W p l e0 (rmX0_resolve (pm - pot0)) s m ar below meth c H locs ((c_n_leasts + c_n_lengths + c_n_firstBy + c_n_order) - pot0) (2 * ((c_n_leasts + c_n_lengths + c_n_firstBy + c_n_order) - pot0)) Q (F0 m 147 ls []) := by
    intro g_row g_many s_keys s_tails s_homes c_size c_n_leasts c_leasts c_n_lengths c_lengths c_n_firstBy c_firstBy c_n_order c_order uC H locs ls hf hpt hP hD hS hl
    unfold f_X0_resolve_J147 at hf
    obtain ⟨cp, hf⟩ := ck_some hf
    refine W.widen (k := pm - pot0) (n := 2 * (pm - pot0)) (by omega) (by omega) ?_
    obtain rfl := Option.some.inj hf
    exact hQ uC 147 _ _ _ dX0_resolve_147 hP hD hS
  have hL8 : ∀ (c_size : Int32) (c_n_leasts : Nat) (c_leasts : Nat → Int64) (c_n_lengths : Nat) (c_lengths : Nat → Int32) (c_n_firstBy : Nat) (c_firstBy : Nat → Int32) (c_n_order : Nat) (c_order : Nat → Int32) (k : Nat) (x : Int32 × Int64 × Int32 × (Nat → Int32) × (Nat → Int32) × (Nat → Int64) × (Nat → Int32) × (Nat → Int32)) (ex : ((Nat → Int32) × (Nat → Int32) × (Nat → Int64) × (Nat → Int32) × (Nat → Int32) × Int32 × Nat × (Nat → Int64) × Nat × (Nat → Int32) × Nat × (Nat → Int32) × Nat × (Nat → Int32)) ⊕ (Int32 × Int64 × Int32 × (Nat → Int32) × (Nat → Int32) × (Nat → Int64) × (Nat → Int32) × (Nat → Int32))) (uC : Nat → Nat) (H : Heap) (locs : List Loc) (ls : Array Slot), lp (f_X0_resolve_B8 F c_step s_stamp g_base g_worth pm c_size c_n_leasts c_leasts c_n_lengths c_lengths c_n_firstBy c_firstBy c_n_order c_order) k x = some ex → (∀ r, ex = .inl r → r = res) → (∀ er, ex = .inr er → ∀ (uC : Nat → Nat) (H : Heap) (locs : List Loc) (ls : Array Slot), (pot0 ≤ (c_n_leasts + c_n_lengths + c_n_firstBy + c_n_order) ∧ (c_n_leasts + c_n_lengths + c_n_firstBy + c_n_order) ≤ pm) → va_P D vwCl (gC cy qC uC (qG 0) (qS 0) c_step c_stamp c_homes c_size c_n_leasts c_leasts c_n_lengths c_lengths c_n_firstBy c_firstBy c_n_order c_order ++ (gS cy qS er.2.2.2.2.2.1 er.2.2.2.2.2.2.1 er.2.2.2.2.2.2.2 s_stamp ++ (gG cy qG g_base g_worth er.2.2.2.1 er.2.2.2.2.1 g_version))) H → va_D A (gC cy qC uC (qG 0) (qS 0) c_step c_stamp c_homes c_size c_n_leasts c_leasts c_n_lengths c_lengths c_n_firstBy c_firstBy c_n_order c_order ++ (gS cy qS er.2.2.2.2.2.1 er.2.2.2.2.2.2.1 er.2.2.2.2.2.2.2 s_stamp ++ (gG cy qG g_base g_worth er.2.2.2.1 er.2.2.2.2.1 g_version))) → va_S A s.heap H locs → lv_has ls 8 [(0, .ref (qC 0)), (1, .long a1), (3, .int er.1), (4, .long er.2.1), (6, .int er.2.2.1)] → W p l e0 (rmX0_resolve (pm - pot0)) s m ar below meth c H locs ((c_n_leasts + c_n_lengths + c_n_firstBy + c_n_order) - pot0) (2 * ((c_n_leasts + c_n_lengths + c_n_firstBy + c_n_order) - pot0)) Q (F0 m 66 ls [])) → (pot0 ≤ (c_n_leasts + c_n_lengths + c_n_firstBy + c_n_order) ∧ (c_n_leasts + c_n_lengths + c_n_firstBy + c_n_order) ≤ pm) → va_P D vwCl (gC cy qC uC (qG 0) (qS 0) c_step c_stamp c_homes c_size c_n_leasts c_leasts c_n_lengths c_lengths c_n_firstBy c_firstBy c_n_order c_order ++ (gS cy qS x.2.2.2.2.2.1 x.2.2.2.2.2.2.1 x.2.2.2.2.2.2.2 s_stamp ++ (gG cy qG g_base g_worth x.2.2.2.1 x.2.2.2.2.1 g_version))) H → va_D A (gC cy qC uC (qG 0) (qS 0) c_step c_stamp c_homes c_size c_n_leasts c_leasts c_n_lengths c_lengths c_n_firstBy c_firstBy c_n_order c_order ++ (gS cy qS x.2.2.2.2.2.1 x.2.2.2.2.2.2.1 x.2.2.2.2.2.2.2 s_stamp ++ (gG cy qG g_base g_worth x.2.2.2.1 x.2.2.2.2.1 g_version))) → va_S A s.heap H locs → lv_has ls 8 [(0, .ref (qC 0)), (1, .long a1), (3, .int x.1), (4, .long x.2.1), (6, .int x.2.2.1)] → W p l e0 (rmX0_resolve (pm - pot0)) s m ar below meth c H locs ((c_n_leasts + c_n_lengths + c_n_firstBy + c_n_order) - pot0) (2 * ((c_n_leasts + c_n_lengths + c_n_firstBy + c_n_order) - pot0)) Q (F0 m 8 ls []) := by
    intro c_size c_n_leasts c_leasts c_n_lengths c_lengths c_n_firstBy c_firstBy c_n_order c_order k
    induction k with
    | zero => intro x ex uC H locs ls hf; exact no_some hf
    | succ k ih =>
      intro x ex uC H locs ls hf hret hex hpt hP hD hS hl
      have hf : f_X0_resolve_B8 F c_step s_stamp g_base g_worth pm c_size c_n_leasts c_leasts c_n_lengths c_lengths c_n_firstBy c_firstBy c_n_order c_order (lp (f_X0_resolve_B8 F c_step s_stamp g_base g_worth pm c_size c_n_leasts c_leasts c_n_lengths c_lengths c_n_firstBy c_firstBy c_n_order c_order) k) x = some ex := hf
      unfold f_X0_resolve_B8 at hf
      refine lv_iload hx hb dX0_resolve_8 (lv_at hl 4 rfl) ?_
      refine lv_if_ge (tgt := 66) hx hb dX0_resolve_10 (by decide) (fun c1 => ?_) (fun c1 => ?_)
      · have hf := if_t hf c1
        obtain rfl := Option.some.inj hf
        exact hex _ rfl _ _ _ _ hpt hP hD hS (lv_sub hl [0, 1, 2, 3, 4] rfl)
      · have hf := if_f hf c1
        refine lv_iload_n hx hb dX0_resolve_13 rfl (lv_at hl 2 rfl) ?_
        refine lv_ldc (v := (32768 : Int32)) hx hb hown fk83 dX0_resolve_14 ?_
        refine lv_icmp_ge (tgt := 66) hx hb dX0_resolve_16 (by decide) (fun c2 => ?_) (fun c2 => ?_)
        · have hf := if_t hf c2
          obtain rfl := Option.some.inj hf
          exact hex _ rfl _ _ _ _ hpt hP hD hS (lv_sub hl [0, 1, 2, 3, 4] rfl)
        · have hf := if_f hf c2
          refine lv_aload_n hx hb dX0_resolve_19 rfl (lv_at hl 0 rfl) ?_
          refine va_get (v := .ref (qS 0)) (D := D) (ci := 0) (C := RX0) (T := TX0) (N := 10) hx hb hts huX0 hown hK hP 0 rfl rfl 2 (by decide) fk42 (fun _ h9 => h9) rfl dX0_resolve_20 ?_
          refine lv_lload hx hb dX0_resolve_23 (lv_at hl 3 rfl) ?_
          refine lv_iload_n hx hb dX0_resolve_25 rfl (lv_at hl 2 rfl) ?_
          refine lv_iconst (v := (-1 : Int32)) hx hb dX0_resolve_26 (by decide) ?_
          obtain ⟨r3, hc4, hf⟩ := ob_some hf
          have hI5 : kIn (gC cy qC uC (qG 0) (qS 0) c_step c_stamp c_homes c_size c_n_leasts c_leasts c_n_lengths c_lengths c_n_firstBy c_firstBy c_n_order c_order ++ (gS cy qS x.2.2.2.2.2.1 x.2.2.2.2.2.2.1 x.2.2.2.2.2.2.2 s_stamp ++ (gG cy qG g_base g_worth x.2.2.2.1 x.2.2.2.2.1 g_version))) (gS cy qS x.2.2.2.2.2.1 x.2.2.2.2.2.2.1 x.2.2.2.2.2.2.2 s_stamp) (kpick (gC cy qC uC (qG 0) (qS 0) c_step c_stamp c_homes c_size c_n_leasts c_leasts c_n_lengths c_lengths c_n_firstBy c_firstBy c_n_order c_order ++ (gS cy qS x.2.2.2.2.2.1 x.2.2.2.2.2.2.1 x.2.2.2.2.2.2.2 s_stamp ++ (gG cy qG g_base g_worth x.2.2.2.1 x.2.2.2.2.1 g_version))) [0, 1, 2, 3, 4, 5, 10, 11, 12, 13]) (fun _ : Unit => gS cy qS r3.2.1 r3.2.2.1 r3.2.2.2 s_stamp) (fun _ : Unit => gC cy qC uC (qG 0) (qS 0) c_step c_stamp c_homes c_size c_n_leasts c_leasts c_n_lengths c_lengths c_n_firstBy c_firstBy c_n_order c_order ++ (gS cy qS r3.2.1 r3.2.2.1 r3.2.2.2 s_stamp ++ (gG cy qG g_base g_worth x.2.2.2.1 x.2.2.2.2.1 g_version))) [6, 7, 8, 9] [0, 1, 2, 3, 4, 5, 10, 11, 12, 13] [0, 1, 2, 3, 4, 5, 10, 11, 12, 13, 6, 7, 8, 9] := ⟨rfl, rfl, rfl, rfl, by decide, rfl, fun _ => rfl⟩
          refine kc_i (k_run ⟨hx, hb, hml, hown, hts⟩ (c_X8_put hc4) (cwV 3 hts gX0_resolve_X8_put rfl rfl rfl (by decide +kernel) ⟨Nat.le_of_ble_eq_true rfl, Nat.le_of_ble_eq_true rfl⟩) hK hN hP hD ⟨hI5.1, hI5.2.2.1⟩ (ci := 8) (q0 := 0) rfl rfl rfl rfl hl.1 rfl (Nat.le_of_ble_eq_true rfl) dX0_resolve_27 ⟨by show (c_n_leasts + c_n_lengths + c_n_firstBy + c_n_order) - pot0 + 0 ≤ pm - pot0; omega, by show 2 * ((c_n_leasts + c_n_lengths + c_n_firstBy + c_n_order) - pot0) + 0 ≤ 2 * (pm - pot0); omega⟩) hP hD hS hA hI5 (fun _ H locs hP hD hS => ?_)
          refine W.widen (k := (c_n_leasts + c_n_lengths + c_n_firstBy + c_n_order) - pot0) (n := 2 * ((c_n_leasts + c_n_lengths + c_n_firstBy + c_n_order) - pot0)) (Nat.le_refl _) (Nat.le_refl _) ?_
          refine lv_if_ne (tgt := 34) hx hb dX0_resolve_30 (by decide) (fun c6 => ?_) (fun c6 => ?_)
          · have hf := if_f hf c6
            refine lv_iinc (v := (x.1 + (1 : Int32))) (lv' := [(3, .int (x.1 + (1 : Int32))), (0, .ref (qC 0)), (1, .long a1), (4, .long x.2.1), (6, .int x.2.2.1)]) hx hb dX0_resolve_34 hl (k := 2) rfl rfl (by decide) rfl (fun ls hl => ?_)
            refine lv_aload_n hx hb dX0_resolve_37 rfl (lv_at hl 1 rfl) ?_
            refine va_get (v := .ref (qG 0)) (D := D) (ci := 0) (C := RX0) (T := TX0) (N := 10) hx hb hts huX0 hown hK hP 0 rfl rfl 0 (by decide) fk35 (fun _ h9 => h9) rfl dX0_resolve_38 ?_
            refine lv_aload_n hx hb dX0_resolve_41 rfl (lv_at hl 1 rfl) ?_
            refine va_get (D := D) (ci := 0) (C := RX0) (T := TX0) (N := 10) hx hb hts huX0 hown hK hP 0 rfl rfl 1 (by decide) fk39 (fun _ h9 => h9) rfl dX0_resolve_42 ?_
            refine lv_lload hx hb dX0_resolve_45 (lv_at hl 3 rfl) ?_
            obtain ⟨r7, hc8, hf⟩ := ob_some hf
            have hI9 : kIn (gC cy qC uC (qG 0) (qS 0) c_step c_stamp c_homes c_size c_n_leasts c_leasts c_n_lengths c_lengths c_n_firstBy c_firstBy c_n_order c_order ++ (gS cy qS r3.2.1 r3.2.2.1 r3.2.2.2 s_stamp ++ (gG cy qG g_base g_worth x.2.2.2.1 x.2.2.2.2.1 g_version))) (gG cy qG g_base g_worth x.2.2.2.1 x.2.2.2.2.1 g_version) (kpick (gC cy qC uC (qG 0) (qS 0) c_step c_stamp c_homes c_size c_n_leasts c_leasts c_n_lengths c_lengths c_n_firstBy c_firstBy c_n_order c_order ++ (gS cy qS r3.2.1 r3.2.2.1 r3.2.2.2 s_stamp ++ (gG cy qG g_base g_worth x.2.2.2.1 x.2.2.2.2.1 g_version))) [0, 1, 2, 3, 4, 5, 6, 7, 8, 9]) (fun _ : Unit => gG cy qG g_base g_worth r7.2.1 r7.2.2 g_version) (fun _ : Unit => gC cy qC uC (qG 0) (qS 0) c_step c_stamp c_homes c_size c_n_leasts c_leasts c_n_lengths c_lengths c_n_firstBy c_firstBy c_n_order c_order ++ (gS cy qS r3.2.1 r3.2.2.1 r3.2.2.2 s_stamp ++ (gG cy qG g_base g_worth r7.2.1 r7.2.2 g_version))) [10, 11, 12, 13] [0, 1, 2, 3, 4, 5, 6, 7, 8, 9] [0, 1, 2, 3, 4, 5, 6, 7, 8, 9, 10, 11, 12, 13] := ⟨rfl, rfl, rfl, rfl, by decide, rfl, fun _ => rfl⟩
            refine kc_l (k_run ⟨hx, hb, hml, hown, hts⟩ (c_X1_make hc8) (cwV 2 hts gX0_resolve_X1_make rfl rfl rfl (by decide +kernel) ⟨Nat.le_of_ble_eq_true rfl, Nat.le_of_ble_eq_true rfl⟩) hK hN hP hD ⟨hI9.1, hI9.2.2.1⟩ (ci := 1) (q0 := 0) rfl rfl rfl rfl hl.1 rfl (Nat.le_of_ble_eq_true rfl) dX0_resolve_47 ⟨by show (c_n_leasts + c_n_lengths + c_n_firstBy + c_n_order) - pot0 + 0 ≤ pm - pot0; omega, by show 2 * ((c_n_leasts + c_n_lengths + c_n_firstBy + c_n_order) - pot0) + 0 ≤ 2 * (pm - pot0); omega⟩) hP hD hS hA hI9 (fun _ H locs hP hD hS => ?_)
            refine W.widen (k := (c_n_leasts + c_n_lengths + c_n_firstBy + c_n_order) - pot0) (n := 2 * ((c_n_leasts + c_n_lengths + c_n_firstBy + c_n_order) - pot0)) (Nat.le_refl _) (Nat.le_refl _) ?_
            refine lv_lstore (lv' := [(4, .long r7.1), (3, .int (x.1 + (1 : Int32))), (0, .ref (qC 0)), (1, .long a1), (6, .int x.2.2.1)]) hx hb dX0_resolve_50 hl (by decide) rfl (fun ls hl => ?_)
            refine lv_aload_n hx hb dX0_resolve_52 rfl (lv_at hl 2 rfl) ?_
            refine va_get (v := .ref (qS 0)) (D := D) (ci := 0) (C := RX0) (T := TX0) (N := 10) hx hb hts huX0 hown hK hP 0 rfl rfl 2 (by decide) fk42 (fun _ h9 => h9) rfl dX0_resolve_53 ?_
            refine lv_lload hx hb dX0_resolve_56 (lv_at hl 0 rfl) ?_
            obtain ⟨r10, hc11, hf⟩ := ob_some hf
            have hI12 : kIn (gC cy qC uC (qG 0) (qS 0) c_step c_stamp c_homes c_size c_n_leasts c_leasts c_n_lengths c_lengths c_n_firstBy c_firstBy c_n_order c_order ++ (gS cy qS r3.2.1 r3.2.2.1 r3.2.2.2 s_stamp ++ (gG cy qG g_base g_worth r7.2.1 r7.2.2 g_version))) (gS cy qS r3.2.1 r3.2.2.1 r3.2.2.2 s_stamp) (kpick (gC cy qC uC (qG 0) (qS 0) c_step c_stamp c_homes c_size c_n_leasts c_leasts c_n_lengths c_lengths c_n_firstBy c_firstBy c_n_order c_order ++ (gS cy qS r3.2.1 r3.2.2.1 r3.2.2.2 s_stamp ++ (gG cy qG g_base g_worth r7.2.1 r7.2.2 g_version))) [0, 1, 2, 3, 4, 5, 10, 11, 12, 13]) (fun _ : Unit => gS cy qS r3.2.1 r3.2.2.1 r3.2.2.2 s_stamp) (fun _ : Unit => gC cy qC uC (qG 0) (qS 0) c_step c_stamp c_homes c_size c_n_leasts c_leasts c_n_lengths c_lengths c_n_firstBy c_firstBy c_n_order c_order ++ (gS cy qS r3.2.1 r3.2.2.1 r3.2.2.2 s_stamp ++ (gG cy qG g_base g_worth r7.2.1 r7.2.2 g_version))) [6, 7, 8, 9] [0, 1, 2, 3, 4, 5, 10, 11, 12, 13] [0, 1, 2, 3, 4, 5, 10, 11, 12, 13, 6, 7, 8, 9] := ⟨rfl, rfl, rfl, rfl, by decide, rfl, fun _ => rfl⟩
            refine kc_i (k_run ⟨hx, hb, hml, hown, hts⟩ (c_X8_find hc11) (cwV 1 hts gX0_resolve_X8_find rfl rfl rfl (by decide +kernel) ⟨Nat.le_of_ble_eq_true rfl, Nat.le_of_ble_eq_true rfl⟩) hK hN hP hD ⟨hI12.1, hI12.2.2.1⟩ (ci := 8) (q0 := 0) rfl rfl rfl rfl hl.1 rfl (Nat.le_of_ble_eq_true rfl) dX0_resolve_58 ⟨by show (c_n_leasts + c_n_lengths + c_n_firstBy + c_n_order) - pot0 + 0 ≤ pm - pot0; omega, by show 2 * ((c_n_leasts + c_n_lengths + c_n_firstBy + c_n_order) - pot0) + 0 ≤ 2 * (pm - pot0); omega⟩) hP hD hS hA hI12 (fun _ H locs hP hD hS => ?_)
            refine W.widen (k := (c_n_leasts + c_n_lengths + c_n_firstBy + c_n_order) - pot0) (n := 2 * ((c_n_leasts + c_n_lengths + c_n_firstBy + c_n_order) - pot0)) (Nat.le_refl _) (Nat.le_refl _) ?_
            refine lv_istore (lv' := [(6, .int r10), (4, .long r7.1), (3, .int (x.1 + (1 : Int32))), (0, .ref (qC 0)), (1, .long a1)]) hx hb dX0_resolve_61 hl (by decide) rfl (fun ls hl => ?_)
            refine lv_goto (tgt := 8) hx hb dX0_resolve_63 (by decide) ?_
            exact ih ((x.1 + (1 : Int32)), r7.1, r10, r7.2.1, r7.2.2, r3.2.1, r3.2.2.1, r3.2.2.2) ex _ _ _ _ hf hret hex hpt hP hD hS (lv_sub hl [3, 4, 2, 1, 0] rfl)
          · have hf := if_t hf c6
            obtain ⟨cp, hf⟩ := ck_some hf
            refine W.widen (k := pm - pot0) (n := 2 * (pm - pot0)) (by omega) (by omega) ?_
            obtain rfl := Option.some.inj hf
            obtain rfl := hret _ rfl
            exact hQ uC 33 _ _ _ dX0_resolve_33 hP hD hS
  refine lv_iconst (v := (0 : Int32)) hx hb dX0_resolve_0 (by decide) ?_
  refine lv_istore_n (lv' := [(3, .int (0 : Int32)), (0, .ref (qC 0)), (1, .long a1)]) hx hb dX0_resolve_1 rfl hl (by decide) rfl (fun ls hl => ?_)
  refine lv_lload_n hx hb dX0_resolve_2 rfl (lv_at hl 2 rfl) ?_
  refine lv_lstore (lv' := [(4, .long a1), (3, .int (0 : Int32)), (0, .ref (qC 0)), (1, .long a1)]) hx hb dX0_resolve_3 hl (by decide) rfl (fun ls hl => ?_)
  refine lv_iconst (v := (-1 : Int32)) hx hb dX0_resolve_5 (by decide) ?_
  refine lv_istore (lv' := [(6, .int (-1 : Int32)), (4, .long a1), (3, .int (0 : Int32)), (0, .ref (qC 0)), (1, .long a1)]) hx hb dX0_resolve_6 hl (by decide) rfl (fun ls hl => ?_)
  obtain ⟨ex13, hcl, hf⟩ := ob_some hf
  refine hL8 c_size c_n_leasts c_leasts c_n_lengths c_lengths c_n_firstBy c_firstBy c_n_order c_order F ((0 : Int32), a1, (-1 : Int32), g_row, g_many, s_keys, s_tails, s_homes) ex13 _ _ _ _ hcl (fun r hr0 => ?_) (fun er14 hr0 uC H locs ls hpt hP hD hS hl => ?_) hpt hP hD hS (lv_sub hl [3, 4, 2, 1, 0] rfl)
  · subst hr0; exact Option.some.inj (sm_inl hf)
  · subst hr0
    have hf := sm_inr hf
    refine lv_iload hx hb dX0_resolve_66 (lv_at hl 4 rfl) ?_
    refine lv_if_ge (tgt := 72) hx hb dX0_resolve_68 (by decide) (fun c15 => ?_) (fun c15 => ?_)
    · have hf := if_t hf c15
      refine lv_aload_n hx hb dX0_resolve_72 rfl (lv_at hl 0 rfl) ?_
      refine va_get (v := .ref (qS 0)) (D := D) (ci := 0) (C := RX0) (T := TX0) (N := 10) hx hb hts huX0 hown hK hP 0 rfl rfl 2 (by decide) fk42 (fun _ h9 => h9) rfl dX0_resolve_73 ?_
      refine va_get (v := .ref (qS 3)) (D := D) (ci := 8) (C := RX8) (T := TX8) (N := 4) hx hb hts huX8 hown hK hP 6 rfl rfl 2 (by decide) fk67 (fun _ h9 => h9) rfl dX0_resolve_76 ?_
      refine lv_iload hx hb dX0_resolve_79 (lv_at hl 4 rfl) ?_
      obtain ⟨c16, hf⟩ := ck_some hf
      refine va_iald hx hb hK hP 9 0 rfl rfl c16 dX0_resolve_81 ?_
      refine lv_iconst (v := (-1 : Int32)) hx hb dX0_resolve_82 (by decide) ?_
      refine lv_icmp_ne (tgt := 120) hx hb dX0_resolve_83 (by decide) (fun c17 => ?_) (fun c17 => ?_)
      · have hf := if_f hf c17
        refine lv_aload_n hx hb dX0_resolve_120 rfl (lv_at hl 0 rfl) ?_
        refine lv_lload_n hx hb dX0_resolve_121 rfl (lv_at hl 1 rfl) ?_
        refine lv_iload_n hx hb dX0_resolve_122 rfl (lv_at hl 2 rfl) ?_
        refine lv_iload_n hx hb dX0_resolve_123 rfl (lv_at hl 2 rfl) ?_
        refine lv_aload_n hx hb dX0_resolve_124 rfl (lv_at hl 0 rfl) ?_
        refine va_get (v := .ref (qS 0)) (D := D) (ci := 0) (C := RX0) (T := TX0) (N := 10) hx hb hts huX0 hown hK hP 0 rfl rfl 2 (by decide) fk42 (fun _ h9 => h9) rfl dX0_resolve_125 ?_
        refine va_get (v := .ref (qS 2)) (D := D) (ci := 8) (C := RX8) (T := TX8) (N := 4) hx hb hts huX8 hown hK hP 6 rfl rfl 1 (by decide) fk68 (fun _ h9 => h9) rfl dX0_resolve_128 ?_
        refine lv_iload hx hb dX0_resolve_131 (lv_at hl 4 rfl) ?_
        obtain ⟨c18, hf⟩ := ck_some hf
        refine va_iald hx hb hK hP 8 0 rfl rfl c18 dX0_resolve_133 ?_
        refine lv_aload_n hx hb dX0_resolve_134 rfl (lv_at hl 0 rfl) ?_
        refine va_get (v := .ref (qS 0)) (D := D) (ci := 0) (C := RX0) (T := TX0) (N := 10) hx hb hts huX0 hown hK hP 0 rfl rfl 2 (by decide) fk42 (fun _ h9 => h9) rfl dX0_resolve_135 ?_
        refine va_get (v := .ref (qS 3)) (D := D) (ci := 8) (C := RX8) (T := TX8) (N := 4) hx hb hts huX8 hown hK hP 6 rfl rfl 2 (by decide) fk67 (fun _ h9 => h9) rfl dX0_resolve_138 ?_
        refine lv_iload hx hb dX0_resolve_141 (lv_at hl 4 rfl) ?_
        obtain ⟨c19, hf⟩ := ck_some hf
        refine va_iald hx hb hK hP 9 0 rfl rfl c19 dX0_resolve_143 ?_
        obtain ⟨r20, hc21, hf⟩ := ob_some hf
        refine kc_v (k_run ⟨hx, hb, hml, hown, hts⟩ (c_X0_settle hc21) (cwV 5 hts gX0_resolve_X0_settle rfl rfl rfl (by decide +kernel) ⟨Nat.le_of_ble_eq_true rfl, Nat.le_of_ble_eq_true rfl⟩) hK hN hP hD kA_s (ci := 0) (q0 := 0) rfl rfl rfl rfl hl.1 rfl (Nat.le_of_ble_eq_true rfl) dX0_resolve_144 ⟨by show (c_n_leasts + c_n_lengths + c_n_firstBy + c_n_order) - pot0 + 0 ≤ pm - pot0; omega, by show 2 * ((c_n_leasts + c_n_lengths + c_n_firstBy + c_n_order) - pot0) + 0 ≤ 2 * (pm - pot0); omega⟩) hP hD hS hA kI_s (fun _ H locs hP hD hS => ?_)
        refine W.widen (k := (c_n_leasts + c_n_lengths + c_n_firstBy + c_n_order) - pot0) (n := 2 * ((c_n_leasts + c_n_lengths + c_n_firstBy + c_n_order) - pot0)) (Nat.le_refl _) (Nat.le_refl _) ?_
        exact hJ147 r20.1 r20.2.1 r20.2.2.1 r20.2.2.2.1 r20.2.2.2.2 c_size c_n_leasts c_leasts c_n_lengths c_lengths c_n_firstBy c_firstBy c_n_order c_order _ _ _ _ hf hpt hP hD hS (lv_sub hl [] rfl)
      · have hf := if_t hf c17
        refine lv_aload_n hx hb dX0_resolve_86 rfl (lv_at hl 0 rfl) ?_
        refine va_get (v := .ref (qS 0)) (D := D) (ci := 0) (C := RX0) (T := TX0) (N := 10) hx hb hts huX0 hown hK hP 0 rfl rfl 2 (by decide) fk42 (fun _ h9 => h9) rfl dX0_resolve_87 ?_
        refine va_get (v := .ref (qS 2)) (D := D) (ci := 8) (C := RX8) (T := TX8) (N := 4) hx hb hts huX8 hown hK hP 6 rfl rfl 1 (by decide) fk68 (fun _ h9 => h9) rfl dX0_resolve_90 ?_
        refine lv_iload hx hb dX0_resolve_93 (lv_at hl 4 rfl) ?_
        obtain ⟨c22, hf⟩ := ck_some hf
        refine va_iald hx hb hK hP 8 0 rfl rfl c22 dX0_resolve_95 ?_
        refine lv_istore (lv' := [(7, .int (er14.2.2.2.2.2.2.1 er14.2.2.1.toNatClampNeg)), (0, .ref (qC 0)), (1, .long a1), (3, .int er14.1), (4, .long er14.2.1), (6, .int er14.2.2.1)]) hx hb dX0_resolve_96 hl (by decide) rfl (fun ls hl => ?_)
        refine lv_aload_n hx hb dX0_resolve_98 rfl (lv_at hl 1 rfl) ?_
        refine lv_lload_n hx hb dX0_resolve_99 rfl (lv_at hl 2 rfl) ?_
        refine lv_iload_n hx hb dX0_resolve_100 rfl (lv_at hl 3 rfl) ?_
        refine lv_iload hx hb dX0_resolve_101 (lv_at hl 0 rfl) ?_
        refine lv_iconst (v := (0 : Int32)) hx hb dX0_resolve_103 (by decide) ?_
        refine lv_aload_n hx hb dX0_resolve_104 rfl (lv_at hl 1 rfl) ?_
        refine lv_lload hx hb dX0_resolve_105 (lv_at hl 4 rfl) ?_
        refine lv_iload_n hx hb dX0_resolve_107 rfl (lv_at hl 3 rfl) ?_
        refine lv_iload hx hb dX0_resolve_108 (lv_at hl 0 rfl) ?_
        refine lv_isub hx hb dX0_resolve_110 ?_
        obtain ⟨cg23, hf⟩ := ck_some hf
        obtain ⟨r24, hc25, hf⟩ := ob_some hf
        have hI26 : kIn (gC cy qC uC (qG 0) (qS 0) c_step c_stamp c_homes c_size c_n_leasts c_leasts c_n_lengths c_lengths c_n_firstBy c_firstBy c_n_order c_order ++ (gS cy qS er14.2.2.2.2.2.1 er14.2.2.2.2.2.2.1 er14.2.2.2.2.2.2.2 s_stamp ++ (gG cy qG g_base g_worth er14.2.2.2.1 er14.2.2.2.2.1 g_version))) (gC cy qC uC (qG 0) (qS 0) c_step c_stamp c_homes c_size c_n_leasts c_leasts c_n_lengths c_lengths c_n_firstBy c_firstBy c_n_order c_order ++ (gG cy qG g_base g_worth er14.2.2.2.1 er14.2.2.2.2.1 g_version)) (kpick (gC cy qC uC (qG 0) (qS 0) c_step c_stamp c_homes c_size c_n_leasts c_leasts c_n_lengths c_lengths c_n_firstBy c_firstBy c_n_order c_order ++ (gS cy qS er14.2.2.2.2.2.1 er14.2.2.2.2.2.2.1 er14.2.2.2.2.2.2.2 s_stamp ++ (gG cy qG g_base g_worth er14.2.2.2.1 er14.2.2.2.2.1 g_version))) [6, 7, 8, 9]) (fun uC : Nat → Nat => gC cy qC uC (qG 0) (qS 0) c_step c_stamp c_homes r24.2.2.2.1 r24.2.2.2.2.1 r24.2.2.2.2.2.1 r24.2.2.2.2.2.2.1 r24.2.2.2.2.2.2.2.1 r24.2.2.2.2.2.2.2.2.1 r24.2.2.2.2.2.2.2.2.2.1 r24.2.2.2.2.2.2.2.2.2.2.1 r24.2.2.2.2.2.2.2.2.2.2.2 ++ (gG cy qG g_base g_worth r24.2.1 r24.2.2.1 g_version)) (fun uC : Nat → Nat => gC cy qC uC (qG 0) (qS 0) c_step c_stamp c_homes r24.2.2.2.1 r24.2.2.2.2.1 r24.2.2.2.2.2.1 r24.2.2.2.2.2.2.1 r24.2.2.2.2.2.2.2.1 r24.2.2.2.2.2.2.2.2.1 r24.2.2.2.2.2.2.2.2.2.1 r24.2.2.2.2.2.2.2.2.2.2.1 r24.2.2.2.2.2.2.2.2.2.2.2 ++ (gS cy qS er14.2.2.2.2.2.1 er14.2.2.2.2.2.2.1 er14.2.2.2.2.2.2.2 s_stamp ++ (gG cy qG g_base g_worth r24.2.1 r24.2.2.1 g_version))) [0, 1, 2, 3, 4, 5, 10, 11, 12, 13] [6, 7, 8, 9] [4, 5, 6, 7, 8, 9, 0, 1, 2, 3, 10, 11, 12, 13] := ⟨rfl, rfl, rfl, rfl, by decide, rfl, fun _ => rfl⟩
        refine kc_i (k_run ⟨hx, hb, hml, hown, hts⟩ (c_X0_roundThrough hc25 rfl) (cwV 2 hts gX0_resolve_X0_roundThrough rfl rfl rfl (by decide +kernel) ⟨Nat.le_of_ble_eq_true rfl, Nat.le_of_ble_eq_true rfl⟩) hK hN hP hD ⟨hI26.1, hI26.2.2.1⟩ (ci := 0) (q0 := 0) rfl rfl rfl rfl hl.1 rfl (Nat.le_of_ble_eq_true rfl) dX0_resolve_111 ⟨by show (c_n_leasts + c_n_lengths + c_n_firstBy + c_n_order) - pot0 + (pm - (c_n_leasts + c_n_lengths + c_n_firstBy + c_n_order)) ≤ pm - pot0; omega, by show 2 * ((c_n_leasts + c_n_lengths + c_n_firstBy + c_n_order) - pot0) + 2 * (pm - (c_n_leasts + c_n_lengths + c_n_firstBy + c_n_order)) ≤ 2 * (pm - pot0); omega⟩) hP hD hS hA hI26 (fun uC H locs hP hD hS => ?_)
        obtain ⟨cq27, hf⟩ := ck_some hf
        have hpt : pot0 ≤ (r24.2.2.2.2.1 + r24.2.2.2.2.2.2.1 + r24.2.2.2.2.2.2.2.2.1 + r24.2.2.2.2.2.2.2.2.2.2.1) ∧ (r24.2.2.2.2.1 + r24.2.2.2.2.2.2.1 + r24.2.2.2.2.2.2.2.2.1 + r24.2.2.2.2.2.2.2.2.2.2.1) ≤ pm := by omega
        refine W.widen (k := (r24.2.2.2.2.1 + r24.2.2.2.2.2.2.1 + r24.2.2.2.2.2.2.2.2.1 + r24.2.2.2.2.2.2.2.2.2.2.1) - pot0) (n := 2 * ((r24.2.2.2.2.1 + r24.2.2.2.2.2.2.1 + r24.2.2.2.2.2.2.2.2.1 + r24.2.2.2.2.2.2.2.2.2.2.1) - pot0)) (by show (c_n_leasts + c_n_lengths + c_n_firstBy + c_n_order) - pot0 + (pm - (c_n_leasts + c_n_lengths + c_n_firstBy + c_n_order)) ≤ (r24.2.2.2.2.1 + r24.2.2.2.2.2.2.1 + r24.2.2.2.2.2.2.2.2.1 + r24.2.2.2.2.2.2.2.2.2.2.1) - pot0; omega) (by show 2 * ((c_n_leasts + c_n_lengths + c_n_firstBy + c_n_order) - pot0) + 2 * (pm - (c_n_leasts + c_n_lengths + c_n_firstBy + c_n_order)) ≤ 2 * ((r24.2.2.2.2.1 + r24.2.2.2.2.2.2.1 + r24.2.2.2.2.2.2.2.2.1 + r24.2.2.2.2.2.2.2.2.2.2.1) - pot0); omega) ?_
        obtain ⟨r28, hc29, hf⟩ := ob_some hf
        refine kc_v (k_run ⟨hx, hb, hml, hown, hts⟩ (c_X0_settle hc29) (cwV 5 hts gX0_resolve_X0_settle rfl rfl rfl (by decide +kernel) ⟨Nat.le_of_ble_eq_true rfl, Nat.le_of_ble_eq_true rfl⟩) hK hN hP hD kA_s (ci := 0) (q0 := 0) rfl rfl rfl rfl hl.1 rfl (Nat.le_of_ble_eq_true rfl) dX0_resolve_114 ⟨by show (r24.2.2.2.2.1 + r24.2.2.2.2.2.2.1 + r24.2.2.2.2.2.2.2.2.1 + r24.2.2.2.2.2.2.2.2.2.2.1) - pot0 + 0 ≤ pm - pot0; omega, by show 2 * ((r24.2.2.2.2.1 + r24.2.2.2.2.2.2.1 + r24.2.2.2.2.2.2.2.2.1 + r24.2.2.2.2.2.2.2.2.2.2.1) - pot0) + 0 ≤ 2 * (pm - pot0); omega⟩) hP hD hS hA kI_s (fun _ H locs hP hD hS => ?_)
        refine W.widen (k := (r24.2.2.2.2.1 + r24.2.2.2.2.2.2.1 + r24.2.2.2.2.2.2.2.2.1 + r24.2.2.2.2.2.2.2.2.2.2.1) - pot0) (n := 2 * ((r24.2.2.2.2.1 + r24.2.2.2.2.2.2.1 + r24.2.2.2.2.2.2.2.2.1 + r24.2.2.2.2.2.2.2.2.2.2.1) - pot0)) (Nat.le_refl _) (Nat.le_refl _) ?_
        refine lv_goto (tgt := 147) hx hb dX0_resolve_117 (by decide) ?_
        exact hJ147 r28.1 r28.2.1 r28.2.2.1 r28.2.2.2.1 r28.2.2.2.2 r24.2.2.2.1 r24.2.2.2.2.1 r24.2.2.2.2.2.1 r24.2.2.2.2.2.2.1 r24.2.2.2.2.2.2.2.1 r24.2.2.2.2.2.2.2.2.1 r24.2.2.2.2.2.2.2.2.2.1 r24.2.2.2.2.2.2.2.2.2.2.1 r24.2.2.2.2.2.2.2.2.2.2.2 _ _ _ _ hf hpt hP hD hS (lv_sub hl [] rfl)
    · have hf := if_f hf c15
      obtain ⟨cp, hf⟩ := ck_some hf
      refine W.widen (k := pm - pot0) (n := 2 * (pm - pot0)) (by omega) (by omega) ?_
      obtain rfl := Option.some.inj hf
      exact hQ uC 71 _ _ _ dX0_resolve_71 hP hD hS
def f_X0_tailFrom_J214 (F : Nat) (pm : Nat) (x5 : Int32) (g_row : Nat → Int32) (g_many : Nat → Int32) (s_keys : Nat → Int64) (s_tails : Nat → Int32) (s_homes : Nat → Int32) (s_stamp : Int32) (c_stamp : Int32) (c_homes : Nat → Int32) (c_size : Int32) (c_n_leasts : Nat) (c_leasts : Nat → Int64) (c_n_lengths : Nat) (c_lengths : Nat → Int32) (c_n_firstBy : Nat) (c_firstBy : Nat → Int32) (c_n_order : Nat) (c_order : Nat → Int32) : Option (Int32 × (Nat → Int32) × (Nat → Int32) × (Nat → Int64) × (Nat → Int32) × (Nat → Int32) × Int32 × Int32 × (Nat → Int32) × Int32 × Nat × (Nat → Int64) × Nat × (Nat → Int32) × Nat × (Nat → Int32) × Nat × (Nat → Int32)) := ck ((c_n_leasts + c_n_lengths + c_n_firstBy + c_n_order) = pm) (some (x5, g_row, g_many, s_keys, s_tails, s_homes, s_stamp, c_stamp, c_homes, c_size, c_n_leasts, c_leasts, c_n_lengths, c_lengths, c_n_firstBy, c_firstBy, c_n_order, c_order))
def f_X0_tailFrom_J197 (F : Nat) (a1 : Int32) (pm : Nat) (x4 : Int32) (x5 : Int32) (g_row : Nat → Int32) (g_many : Nat → Int32) (s_keys : Nat → Int64) (s_tails : Nat → Int32) (s_homes : Nat → Int32) (s_stamp : Int32) (c_stamp : Int32) (c_homes : Nat → Int32) (c_size : Int32) (c_n_leasts : Nat) (c_leasts : Nat → Int64) (c_n_lengths : Nat) (c_lengths : Nat → Int32) (c_n_firstBy : Nat) (c_firstBy : Nat → Int32) (c_n_order : Nat) (c_order : Nat → Int32) : Option (Int32 × (Nat → Int32) × (Nat → Int32) × (Nat → Int64) × (Nat → Int32) × (Nat → Int32) × Int32 × Int32 × (Nat → Int32) × Int32 × Nat × (Nat → Int64) × Nat × (Nat → Int32) × Nat × (Nat → Int32) × Nat × (Nat → Int32)) := if (3001 : Int32) ≤ a1 then (f_X0_tailFrom_J214 F pm x5 g_row g_many s_keys s_tails s_homes s_stamp c_stamp c_homes c_size c_n_leasts c_leasts c_n_lengths c_lengths c_n_firstBy c_firstBy c_n_order c_order) else (ck (¬ (a1 < 0 ∨ 3001 ≤ a1.toNatClampNeg)) (f_X0_tailFrom_J214 F pm x5 g_row g_many s_keys s_tails s_homes s_stamp c_stamp (upd c_homes a1.toNatClampNeg x4) c_size c_n_leasts c_leasts c_n_lengths c_lengths c_n_firstBy c_firstBy c_n_order c_order))
def f_X0_tailFrom_J170 (F : Nat) (a1 : Int32) (pm : Nat) (g_row : Nat → Int32) (g_many : Nat → Int32) (s_keys : Nat → Int64) (s_tails : Nat → Int32) (s_homes : Nat → Int32) (s_stamp : Int32) (c_stamp : Int32) (c_homes : Nat → Int32) (c_size : Int32) (c_n_leasts : Nat) (c_leasts : Nat → Int64) (c_n_lengths : Nat) (c_lengths : Nat → Int32) (c_n_firstBy : Nat) (c_firstBy : Nat → Int32) (c_n_order : Nat) (c_order : Nat → Int32) : Option (Int32 × (Nat → Int32) × (Nat → Int32) × (Nat → Int64) × (Nat → Int32) × (Nat → Int32) × Int32 × Int32 × (Nat → Int32) × Int32 × Nat × (Nat → Int64) × Nat × (Nat → Int32) × Nat × (Nat → Int32) × Nat × (Nat → Int32)) := f_X0_tailFrom_J197 F a1 pm (-1 : Int32) (-1 : Int32) g_row g_many s_keys s_tails s_homes s_stamp c_stamp c_homes c_size c_n_leasts c_leasts c_n_lengths c_lengths c_n_firstBy c_firstBy c_n_order c_order
def f_X0_tailFrom_J138 (F : Nat) (a1 : Int32) (pm : Nat) (x4 : Int32) (s0 : Int32) (g_row : Nat → Int32) (g_many : Nat → Int32) (s_keys : Nat → Int64) (s_tails : Nat → Int32) (s_homes : Nat → Int32) (s_stamp : Int32) (c_stamp : Int32) (c_homes : Nat → Int32) (c_size : Int32) (c_n_leasts : Nat) (c_leasts : Nat → Int64) (c_n_lengths : Nat) (c_lengths : Nat → Int32) (c_n_firstBy : Nat) (c_firstBy : Nat → Int32) (c_n_order : Nat) (c_order : Nat → Int32) : Option (Int32 × (Nat → Int32) × (Nat → Int32) × (Nat → Int64) × (Nat → Int32) × (Nat → Int32) × Int32 × Int32 × (Nat → Int32) × Int32 × Nat × (Nat → Int64) × Nat × (Nat → Int32) × Nat × (Nat → Int32) × Nat × (Nat → Int32)) := if x4 < 0 then (f_X0_tailFrom_J170 F a1 pm g_row g_many s_keys s_tails s_homes s_stamp c_stamp c_homes c_size c_n_leasts c_leasts c_n_lengths c_lengths c_n_firstBy c_firstBy c_n_order c_order) else (if c_size ≤ x4 then (f_X0_tailFrom_J170 F a1 pm g_row g_many s_keys s_tails s_homes s_stamp c_stamp c_homes c_size c_n_leasts c_leasts c_n_lengths c_lengths c_n_firstBy c_firstBy c_n_order c_order) else (ck (¬ (x4 < 0 ∨ c_n_lengths ≤ x4.toNatClampNeg)) (if (s0 + (c_lengths x4.toNatClampNeg)) ≤ (300 : Int32) then (ck (¬ (x4 < 0 ∨ c_n_firstBy ≤ x4.toNatClampNeg)) (ck (¬ (x4 < 0 ∨ c_n_firstBy ≤ x4.toNatClampNeg)) (f_X0_tailFrom_J197 F a1 pm x4 s0 g_row g_many s_keys s_tails s_homes s_stamp c_stamp c_homes c_size c_n_leasts c_leasts c_n_lengths c_lengths c_n_firstBy (upd c_firstBy x4.toNatClampNeg (if a1 < (c_firstBy x4.toNatClampNeg) then a1 else (c_firstBy x4.toNatClampNeg))) c_n_order c_order))) else (f_X0_tailFrom_J170 F a1 pm g_row g_many s_keys s_tails s_homes s_stamp c_stamp c_homes c_size c_n_leasts c_leasts c_n_lengths c_lengths c_n_firstBy c_firstBy c_n_order c_order))))
def f_X0_tailFrom_J117 (F : Nat) (a1 : Int32) (pm : Nat) (x2 : Int32) (x3 : Int32) (s0 : Int32) (g_row : Nat → Int32) (g_many : Nat → Int32) (s_keys : Nat → Int64) (s_tails : Nat → Int32) (s_homes : Nat → Int32) (s_stamp : Int32) (c_stamp : Int32) (c_homes : Nat → Int32) (c_size : Int32) (c_n_leasts : Nat) (c_leasts : Nat → Int64) (c_n_lengths : Nat) (c_lengths : Nat → Int32) (c_n_firstBy : Nat) (c_firstBy : Nat → Int32) (c_n_order : Nat) (c_order : Nat → Int32) : Option (Int32 × (Nat → Int32) × (Nat → Int32) × (Nat → Int64) × (Nat → Int32) × (Nat → Int32) × Int32 × Int32 × (Nat → Int32) × Int32 × Nat × (Nat → Int64) × Nat × (Nat → Int32) × Nat × (Nat → Int32) × Nat × (Nat → Int32)) := if 0 ≤ x3 then (ck (¬ (x3 < 0 ∨ 32768 ≤ x3.toNatClampNeg)) (f_X0_tailFrom_J138 F a1 pm s0 ((s_tails x3.toNatClampNeg) + x2) g_row g_many s_keys s_tails s_homes s_stamp c_stamp c_homes c_size c_n_leasts c_leasts c_n_lengths c_lengths c_n_firstBy c_firstBy c_n_order c_order)) else (f_X0_tailFrom_J138 F a1 pm s0 (0 : Int32) g_row g_many s_keys s_tails s_homes s_stamp c_stamp c_homes c_size c_n_leasts c_leasts c_n_lengths c_lengths c_n_firstBy c_firstBy c_n_order c_order)
def f_X0_tailFrom_J100 (F : Nat) (a1 : Int32) (pm : Nat) (x2 : Int32) (x3 : Int32) (g_row : Nat → Int32) (g_many : Nat → Int32) (s_keys : Nat → Int64) (s_tails : Nat → Int32) (s_homes : Nat → Int32) (s_stamp : Int32) (c_stamp : Int32) (c_homes : Nat → Int32) (c_size : Int32) (c_n_leasts : Nat) (c_leasts : Nat → Int64) (c_n_lengths : Nat) (c_lengths : Nat → Int32) (c_n_firstBy : Nat) (c_firstBy : Nat → Int32) (c_n_order : Nat) (c_order : Nat → Int32) : Option (Int32 × (Nat → Int32) × (Nat → Int32) × (Nat → Int64) × (Nat → Int32) × (Nat → Int32) × Int32 × Int32 × (Nat → Int32) × Int32 × Nat × (Nat → Int64) × Nat × (Nat → Int32) × Nat × (Nat → Int32) × Nat × (Nat → Int32)) := if 0 ≤ x3 then (ck (¬ (x3 < 0 ∨ 32768 ≤ x3.toNatClampNeg)) (f_X0_tailFrom_J117 F a1 pm x2 x3 (s_homes x3.toNatClampNeg) g_row g_many s_keys s_tails s_homes s_stamp c_stamp c_homes c_size c_n_leasts c_leasts c_n_lengths c_lengths c_n_firstBy c_firstBy c_n_order c_order)) else (f_X0_tailFrom_J117 F a1 pm x2 x3 (-1 : Int32) g_row g_many s_keys s_tails s_homes s_stamp c_stamp c_homes c_size c_n_leasts c_leasts c_n_lengths c_lengths c_n_firstBy c_firstBy c_n_order c_order)
def f_X0_tailFrom_J74 (F : Nat) (a1 : Int32) (pm : Nat) (x2 : Int32) (x4 : Int64) (g_row : Nat → Int32) (g_many : Nat → Int32) (s_keys : Nat → Int64) (s_tails : Nat → Int32) (s_homes : Nat → Int32) (s_stamp : Int32) (c_stamp : Int32) (c_homes : Nat → Int32) (c_size : Int32) (c_n_leasts : Nat) (c_leasts : Nat → Int64) (c_n_lengths : Nat) (c_lengths : Nat → Int32) (c_n_firstBy : Nat) (c_firstBy : Nat → Int32) (c_n_order : Nat) (c_order : Nat → Int32) : Option (Int32 × (Nat → Int32) × (Nat → Int32) × (Nat → Int64) × (Nat → Int32) × (Nat → Int32) × Int32 × Int32 × (Nat → Int32) × Int32 × Nat × (Nat → Int64) × Nat × (Nat → Int32) × Nat × (Nat → Int32) × Nat × (Nat → Int32)) := (f_X8_find F a1.toInt64 s_keys s_stamp).bind (fun r13 => if 0 ≤ r13 then (f_X0_tailFrom_J100 F a1 pm x2 r13 g_row g_many s_keys s_tails s_homes s_stamp c_stamp c_homes c_size c_n_leasts c_leasts c_n_lengths c_lengths c_n_firstBy c_firstBy c_n_order c_order) else ((f_X8_find F x4 s_keys s_stamp).bind (fun r17 => f_X0_tailFrom_J100 F a1 pm (1 : Int32) r17 g_row g_many s_keys s_tails s_homes s_stamp c_stamp c_homes c_size c_n_leasts c_leasts c_n_lengths c_lengths c_n_firstBy c_firstBy c_n_order c_order)))
def f_X0_tailFrom_J25 (F : Nat) (a1 : Int32) (c_step : Int32) (g_base : Int32) (g_worth : Nat → Int32) (pm : Nat) (g_row : Nat → Int32) (g_many : Nat → Int32) (s_keys : Nat → Int64) (s_tails : Nat → Int32) (s_homes : Nat → Int32) (s_stamp : Int32) (c_stamp : Int32) (c_homes : Nat → Int32) (c_size : Int32) (c_n_leasts : Nat) (c_leasts : Nat → Int64) (c_n_lengths : Nat) (c_lengths : Nat → Int32) (c_n_firstBy : Nat) (c_firstBy : Nat → Int32) (c_n_order : Nat) (c_order : Nat → Int32) : Option (Int32 × (Nat → Int32) × (Nat → Int32) × (Nat → Int64) × (Nat → Int32) × (Nat → Int32) × Int32 × Int32 × (Nat → Int32) × Int32 × Nat × (Nat → Int64) × Nat × (Nat → Int32) × Nat × (Nat → Int32) × Nat × (Nat → Int32)) := (f_X8_find F a1.toInt64 s_keys s_stamp).bind (fun r20 => if 0 ≤ r20 then (f_X0_tailFrom_J100 F a1 pm (0 : Int32) r20 g_row g_many s_keys s_tails s_homes s_stamp c_stamp c_homes c_size c_n_leasts c_leasts c_n_lengths c_lengths c_n_firstBy c_firstBy c_n_order c_order) else ((f_X1_make F c_step a1.toInt64 g_base g_worth g_row g_many).bind (fun r24 => (f_X8_find F r24.1 s_keys s_stamp).bind (fun r27 => if 0 ≤ r27 then (f_X0_tailFrom_J74 F a1 pm (0 : Int32) r24.1 r24.2.1 r24.2.2 s_keys s_tails s_homes s_stamp c_stamp c_homes c_size c_n_leasts c_leasts c_n_lengths c_lengths c_n_firstBy c_firstBy c_n_order c_order) else (ck ((c_n_leasts + c_n_lengths + c_n_firstBy + c_n_order) ≤ pm ∧ pm ≤ pm) ((f_X0_resolve F pm r24.1 g_base g_worth r24.2.1 r24.2.2 s_keys s_tails s_homes s_stamp c_step c_size c_n_leasts c_leasts c_n_lengths c_lengths c_n_firstBy c_firstBy c_n_order c_order).bind (fun r32 => ck ((r32.2.2.2.2.2.2.1 + r32.2.2.2.2.2.2.2.2.1 + r32.2.2.2.2.2.2.2.2.2.2.1 + r32.2.2.2.2.2.2.2.2.2.2.2.2.1) = pm) (f_X0_tailFrom_J74 F a1 pm (0 : Int32) r24.1 r32.1 r32.2.1 r32.2.2.1 r32.2.2.2.1 r32.2.2.2.2.1 s_stamp c_stamp c_homes r32.2.2.2.2.2.1 r32.2.2.2.2.2.2.1 r32.2.2.2.2.2.2.2.1 r32.2.2.2.2.2.2.2.2.1 r32.2.2.2.2.2.2.2.2.2.1 r32.2.2.2.2.2.2.2.2.2.2.1 r32.2.2.2.2.2.2.2.2.2.2.2.1 r32.2.2.2.2.2.2.2.2.2.2.2.2.1 r32.2.2.2.2.2.2.2.2.2.2.2.2.2))))))))
def f_X0_tailFrom (F : Nat) (pm : Nat) (a1 : Int32) (g_base : Int32) (g_worth : Nat → Int32) (g_row : Nat → Int32) (g_many : Nat → Int32) (s_keys : Nat → Int64) (s_tails : Nat → Int32) (s_homes : Nat → Int32) (s_stamp : Int32) (c_step : Int32) (c_stamp : Int32) (c_homes : Nat → Int32) (c_size : Int32) (c_n_leasts : Nat) (c_leasts : Nat → Int64) (c_n_lengths : Nat) (c_lengths : Nat → Int32) (c_n_firstBy : Nat) (c_firstBy : Nat → Int32) (c_n_order : Nat) (c_order : Nat → Int32) : Option (Int32 × (Nat → Int32) × (Nat → Int32) × (Nat → Int64) × (Nat → Int32) × (Nat → Int32) × Int32 × Int32 × (Nat → Int32) × Int32 × Nat × (Nat → Int64) × Nat × (Nat → Int32) × Nat × (Nat → Int32) × Nat × (Nat → Int32)) := ck ((c_n_leasts + c_n_lengths + c_n_firstBy + c_n_order) ≤ pm) (if c_stamp = s_stamp then (f_X0_tailFrom_J25 F a1 c_step g_base g_worth pm g_row g_many s_keys s_tails s_homes s_stamp c_stamp c_homes c_size c_n_leasts c_leasts c_n_lengths c_lengths c_n_firstBy c_firstBy c_n_order c_order) else ((f_X8_renew F s_stamp).bind (fun r36 => f_X0_tailFrom_J25 F a1 c_step g_base g_worth pm g_row g_many s_keys s_tails s_homes r36.2 r36.1 c_homes c_size c_n_leasts c_leasts c_n_lengths c_lengths c_n_firstBy c_firstBy c_n_order c_order)))
abbrev rmX0_tailFrom (k : Nat) : Room := { frames := 5, cells := k, slots := 2 * k, locals := 180 }
set_option maxHeartbeats 1000000 in
set_option maxRecDepth 100000 in
theorem c_X0_tailFrom {l : Launch} {D : va_G} {cy : Nat → ClassId} {qC : Nat → Nat} {qG : Nat → Nat} {qS : Nat → Nat} {uC : Nat → Nat} {c_step : Int32} {c_stamp : Int32} {c_homes : Nat → Int32} {c_size : Int32} {c_n_leasts : Nat} {c_leasts : Nat → Int64} {c_n_lengths : Nat} {c_lengths : Nat → Int32} {c_n_firstBy : Nat} {c_firstBy : Nat → Int32} {c_n_order : Nat} {c_order : Nat → Int32} {s_keys : Nat → Int64} {s_tails : Nat → Int32} {s_homes : Nat → Int32} {s_stamp : Int32} {g_base : Int32} {g_worth : Nat → Int32} {g_row : Nat → Int32} {g_many : Nat → Int32} {g_version : Int32} {a1 : Int32} {F : Nat} {pm pot0 : Nat} {res : Int32 × (Nat → Int32) × (Nat → Int32) × (Nat → Int64) × (Nat → Int32) × (Nat → Int32) × Int32 × Int32 × (Nat → Int32) × Int32 × Nat × (Nat → Int64) × Nat × (Nat → Int32) × Nat × (Nat → Int32) × Nat × (Nat → Int32)} (hf : f_X0_tailFrom F pm a1 g_base g_worth g_row g_many s_keys s_tails s_homes s_stamp c_step c_stamp c_homes c_size c_n_leasts c_leasts c_n_lengths c_lengths c_n_firstBy c_firstBy c_n_order c_order = some res) (hp0 : pot0 = (c_n_leasts + c_n_lengths + c_n_firstBy + c_n_order)) : kM l yX0_tailFrom wsX0_tailFrom (rmX0_tailFrom (pm - pot0)) D cy [.ref (qC 0), .int a1] (gC cy qC uC (qG 0) (qS 0) c_step c_stamp c_homes c_size c_n_leasts c_leasts c_n_lengths c_lengths c_n_firstBy c_firstBy c_n_order c_order ++ (gS cy qS s_keys s_tails s_homes s_stamp ++ (gG cy qG g_base g_worth g_row g_many g_version))) (kQi D cy (fun uC : Nat → Nat => gC cy qC uC (qG 0) (qS 0) c_step res.2.2.2.2.2.2.2.1 res.2.2.2.2.2.2.2.2.1 res.2.2.2.2.2.2.2.2.2.1 res.2.2.2.2.2.2.2.2.2.2.1 res.2.2.2.2.2.2.2.2.2.2.2.1 res.2.2.2.2.2.2.2.2.2.2.2.2.1 res.2.2.2.2.2.2.2.2.2.2.2.2.2.1 res.2.2.2.2.2.2.2.2.2.2.2.2.2.2.1 res.2.2.2.2.2.2.2.2.2.2.2.2.2.2.2.1 res.2.2.2.2.2.2.2.2.2.2.2.2.2.2.2.2.1 res.2.2.2.2.2.2.2.2.2.2.2.2.2.2.2.2.2 ++ (gS cy qS res.2.2.2.1 res.2.2.2.2.1 res.2.2.2.2.2.1 res.2.2.2.2.2.2.1 ++ (gG cy qG g_base g_worth res.2.1 res.2.2.1 g_version))) res.1) := by
  refine kent_i (cc := cX0_tailFrom) (maxL := 6) (by decide) rfl (Nat.le_of_ble_eq_true rfl) ?_
  intro p e0 s m ar below meth c A Q ls ⟨hx, hb, hml, hr, hts, hown, hlocks, hnm⟩ hA hK hN hQ hP hD hS hl
  have hl : lv_has ls 6 [(0, .ref (qC 0)), (1, .int a1)] := hl
  have hown : s.vm.findClass RX0 = some m.cls := hown
  have huX0 : ∀ x ∈ u_ws RX0 TX0 10, x ∈ wsX0_tailFrom := by decide +kernel
  have fk15 : (Cond.fieldLink RX0 15 "FigurePlay$Circles" "homes" "[I").before ar s = true := hts _ (by decide +kernel)
  have fk19 : (Cond.fieldLink RX0 19 "FigurePlay$Circles" "size" "I").before ar s = true := hts _ (by decide +kernel)
  have fk26 : (Cond.fieldLink RX0 26 "FigurePlay$Circles" "lengths" "[I").before ar s = true := hts _ (by decide +kernel)
  have fk29 : (Cond.fieldLink RX0 29 "FigurePlay$Circles" "firstBy" "[I").before ar s = true := hts _ (by decide +kernel)
  have fk42 : (Cond.fieldLink RX0 42 "FigurePlay$Circles" "slots" "LFigurePlay$Slots;").before ar s = true := hts _ (by decide +kernel)
  have huX8 : ∀ x ∈ u_ws RX8 TX8 4, x ∈ wsX0_tailFrom := by decide +kernel
  have fk68 : (Cond.fieldLink RX0 68 "FigurePlay$Slots" "tails" "[I").before ar s = true := hts _ (by decide +kernel)
  have fk67 : (Cond.fieldLink RX0 67 "FigurePlay$Slots" "homes" "[I").before ar s = true := hts _ (by decide +kernel)
  have fk35 : (Cond.fieldLink RX0 35 "FigurePlay$Circles" "figures" "LFigurePlay$Figures;").before ar s = true := hts _ (by decide +kernel)
  have fk39 : (Cond.fieldLink RX0 39 "FigurePlay$Circles" "step" "I").before ar s = true := hts _ (by decide +kernel)
  have fk9 : (Cond.fieldLink RX0 9 "FigurePlay$Circles" "stamp" "I").before ar s = true := hts _ (by decide +kernel)
  have fk46 : (Cond.fieldLink RX0 46 "FigurePlay$Slots" "stamp" "I").before ar s = true := hts _ (by decide +kernel)
  unfold f_X0_tailFrom at hf
  obtain ⟨cp0, hf⟩ := ck_some hf
  have hpt : pot0 ≤ (c_n_leasts + c_n_lengths + c_n_firstBy + c_n_order) ∧ (c_n_leasts + c_n_lengths + c_n_firstBy + c_n_order) ≤ pm := by omega
  refine W.widen (k := (c_n_leasts + c_n_lengths + c_n_firstBy + c_n_order) - pot0) (n := 2 * ((c_n_leasts + c_n_lengths + c_n_firstBy + c_n_order) - pot0)) (Nat.zero_le _) (Nat.zero_le _) ?_
  have hJ214 : ∀ (x5 : Int32) (g_row : Nat → Int32) (g_many : Nat → Int32) (s_keys : Nat → Int64) (s_tails : Nat → Int32) (s_homes : Nat → Int32) (s_stamp : Int32) (c_stamp : Int32) (c_homes : Nat → Int32) (c_size : Int32) (c_n_leasts : Nat) (c_leasts : Nat → Int64) (c_n_lengths : Nat) (c_lengths : Nat → Int32) (c_n_firstBy : Nat) (c_firstBy : Nat → Int32) (c_n_order : Nat) (c_order : Nat → Int32) (uC : Nat → Nat) (H : Heap) (locs : List Loc) (ls : Array Slot), f_X0_tailFrom_J214 F pm x5 g_row g_many s_keys s_tails s_homes s_stamp c_stamp c_homes c_size c_n_leasts c_leasts c_n_lengths c_lengths c_n_firstBy c_firstBy c_n_order c_order = some res → (pot0 ≤ (c_n_leasts + c_n_lengths + c_n_firstBy + c_n_order) ∧ (c_n_leasts + c_n_lengths + c_n_firstBy + c_n_order) ≤ pm) → va_P D vwCl (gC cy qC uC (qG 0) (qS 0) c_step c_stamp c_homes c_size c_n_leasts c_leasts c_n_lengths c_lengths c_n_firstBy c_firstBy c_n_order c_order ++ (gS cy qS s_keys s_tails s_homes s_stamp ++ (gG cy qG g_base g_worth g_row g_many g_version))) H → va_D A (gC cy qC uC (qG 0) (qS 0) c_step c_stamp c_homes c_size c_n_leasts c_leasts c_n_lengths c_lengths c_n_firstBy c_firstBy c_n_order c_order ++ (gS cy qS s_keys s_tails s_homes s_stamp ++ (gG cy qG g_base g_worth g_row g_many g_version))) → va_S A s.heap H locs → lv_has ls 6 [(5, .int x5)] → W p l e0 (rmX0_tailFrom (pm - pot0)) s m ar below meth c H locs ((c_n_leasts + c_n_lengths + c_n_firstBy + c_n_order) - pot0) (2 * ((c_n_leasts + c_n_lengths + c_n_firstBy + c_n_order) - pot0)) Q (F0 m 214 ls []) := by
    intro x5 g_row g_many s_keys s_tails s_homes s_stamp c_stamp c_homes c_size c_n_leasts c_leasts c_n_lengths c_lengths c_n_firstBy c_firstBy c_n_order c_order uC H locs ls hf hpt hP hD hS hl
    unfold f_X0_tailFrom_J214 at hf
    refine lv_iload hx hb dX0_tailFrom_214 (lv_at hl 0 rfl) ?_
    obtain ⟨cp, hf⟩ := ck_some hf
    refine W.widen (k := pm - pot0) (n := 2 * (pm - pot0)) (by omega) (by omega) ?_
    obtain rfl := Option.some.inj hf
    exact hQ uC 216 _ _ _ dX0_tailFrom_216 hP hD hS
  have hJ197 : ∀ (x4 : Int32) (x5 : Int32) (g_row : Nat → Int32) (g_many : Nat → Int32) (s_keys : Nat → Int64) (s_tails : Nat → Int32) (s_homes : Nat → Int32) (s_stamp : Int32) (c_stamp : Int32) (c_homes : Nat → Int32) (c_size : Int32) (c_n_leasts : Nat) (c_leasts : Nat → Int64) (c_n_lengths : Nat) (c_lengths : Nat → Int32) (c_n_firstBy : Nat) (c_firstBy : Nat → Int32) (c_n_order : Nat) (c_order : Nat → Int32) (uC : Nat → Nat) (H : Heap) (locs : List Loc) (ls : Array Slot), f_X0_tailFrom_J197 F a1 pm x4 x5 g_row g_many s_keys s_tails s_homes s_stamp c_stamp c_homes c_size c_n_leasts c_leasts c_n_lengths c_lengths c_n_firstBy c_firstBy c_n_order c_order = some res → (pot0 ≤ (c_n_leasts + c_n_lengths + c_n_firstBy + c_n_order) ∧ (c_n_leasts + c_n_lengths + c_n_firstBy + c_n_order) ≤ pm) → va_P D vwCl (gC cy qC uC (qG 0) (qS 0) c_step c_stamp c_homes c_size c_n_leasts c_leasts c_n_lengths c_lengths c_n_firstBy c_firstBy c_n_order c_order ++ (gS cy qS s_keys s_tails s_homes s_stamp ++ (gG cy qG g_base g_worth g_row g_many g_version))) H → va_D A (gC cy qC uC (qG 0) (qS 0) c_step c_stamp c_homes c_size c_n_leasts c_leasts c_n_lengths c_lengths c_n_firstBy c_firstBy c_n_order c_order ++ (gS cy qS s_keys s_tails s_homes s_stamp ++ (gG cy qG g_base g_worth g_row g_many g_version))) → va_S A s.heap H locs → lv_has ls 6 [(0, .ref (qC 0)), (1, .int a1), (4, .int x4), (5, .int x5)] → W p l e0 (rmX0_tailFrom (pm - pot0)) s m ar below meth c H locs ((c_n_leasts + c_n_lengths + c_n_firstBy + c_n_order) - pot0) (2 * ((c_n_leasts + c_n_lengths + c_n_firstBy + c_n_order) - pot0)) Q (F0 m 197 ls []) := by
    intro x4 x5 g_row g_many s_keys s_tails s_homes s_stamp c_stamp c_homes c_size c_n_leasts c_leasts c_n_lengths c_lengths c_n_firstBy c_firstBy c_n_order c_order uC H locs ls hf hpt hP hD hS hl
    unfold f_X0_tailFrom_J197 at hf
    refine lv_iload_n hx hb dX0_tailFrom_197 rfl (lv_at hl 1 rfl) ?_
    refine lv_aload_n hx hb dX0_tailFrom_198 rfl (lv_at hl 0 rfl) ?_
    refine va_get (v := .ref (qC 1)) (D := D) (ci := 0) (C := RX0) (T := TX0) (N := 10) hx hb hts huX0 hown hK hP 0 rfl rfl 4 (by decide) fk15 (fun _ h9 => h9) rfl dX0_tailFrom_199 ?_
    refine va_alen (v := (3001 : Int32)) hx hb hK hP 1 0 rfl rfl rfl dX0_tailFrom_202 ?_
    refine lv_icmp_ge (tgt := 214) hx hb dX0_tailFrom_203 (by decide) (fun c1 => ?_) (fun c1 => ?_)
    · have hf := if_t hf c1
      exact hJ214 x5 g_row g_many s_keys s_tails s_homes s_stamp c_stamp c_homes c_size c_n_leasts c_leasts c_n_lengths c_lengths c_n_firstBy c_firstBy c_n_order c_order _ _ _ _ hf hpt hP hD hS (lv_sub hl [3] rfl)
    · have hf := if_f hf c1
      refine lv_aload_n hx hb dX0_tailFrom_206 rfl (lv_at hl 0 rfl) ?_
      refine va_get (v := .ref (qC 1)) (D := D) (ci := 0) (C := RX0) (T := TX0) (N := 10) hx hb hts huX0 hown hK hP 0 rfl rfl 4 (by decide) fk15 (fun _ h9 => h9) rfl dX0_tailFrom_207 ?_
      refine lv_iload_n hx hb dX0_tailFrom_210 rfl (lv_at hl 1 rfl) ?_
      refine lv_iload hx hb dX0_tailFrom_211 (lv_at hl 2 rfl) ?_
      obtain ⟨c2, hf⟩ := ck_some hf
      refine va_iast hx hb hK hP hD hS 1 0 rfl rfl c2 dX0_tailFrom_213 (fun H locs hP hD hS => ?_)
      have hP : va_P D vwCl (gC cy qC uC (qG 0) (qS 0) c_step c_stamp (upd c_homes a1.toNatClampNeg x4) c_size c_n_leasts c_leasts c_n_lengths c_lengths c_n_firstBy c_firstBy c_n_order c_order ++ (gS cy qS s_keys s_tails s_homes s_stamp ++ (gG cy qG g_base g_worth g_row g_many g_version))) H := hP
      have hD : va_D A (gC cy qC uC (qG 0) (qS 0) c_step c_stamp (upd c_homes a1.toNatClampNeg x4) c_size c_n_leasts c_leasts c_n_lengths c_lengths c_n_firstBy c_firstBy c_n_order c_order ++ (gS cy qS s_keys s_tails s_homes s_stamp ++ (gG cy qG g_base g_worth g_row g_many g_version))) := hD
      exact hJ214 x5 g_row g_many s_keys s_tails s_homes s_stamp c_stamp (upd c_homes a1.toNatClampNeg x4) c_size c_n_leasts c_leasts c_n_lengths c_lengths c_n_firstBy c_firstBy c_n_order c_order _ _ _ _ hf hpt hP hD hS (lv_sub hl [3] rfl)
  have hJ170 : ∀ (g_row : Nat → Int32) (g_many : Nat → Int32) (s_keys : Nat → Int64) (s_tails : Nat → Int32) (s_homes : Nat → Int32) (s_stamp : Int32) (c_stamp : Int32) (c_homes : Nat → Int32) (c_size : Int32) (c_n_leasts : Nat) (c_leasts : Nat → Int64) (c_n_lengths : Nat) (c_lengths : Nat → Int32) (c_n_firstBy : Nat) (c_firstBy : Nat → Int32) (c_n_order : Nat) (c_order : Nat → Int32) (uC : Nat → Nat) (H : Heap) (locs : List Loc) (ls : Array Slot), f_X0_tailFrom_J170 F a1 pm g_row g_many s_keys s_tails s_homes s_stamp c_stamp c_homes c_size c_n_leasts c_leasts c_n_lengths c_lengths c_n_firstBy c_firstBy c_n_order c_order = some res → (pot0 ≤ (c_n_leasts + c_n_lengths + c_n_firstBy + c_n_order) ∧ (c_n_leasts + c_n_lengths + c_n_firstBy + c_n_order) ≤ pm) → va_P D vwCl (gC cy qC uC (qG 0) (qS 0) c_step c_stamp c_homes c_size c_n_leasts c_leasts c_n_lengths c_lengths c_n_firstBy c_firstBy c_n_order c_order ++ (gS cy qS s_keys s_tails s_homes s_stamp ++ (gG cy qG g_base g_worth g_row g_many g_version))) H → va_D A (gC cy qC uC (qG 0) (qS 0) c_step c_stamp c_homes c_size c_n_leasts c_leasts c_n_lengths c_lengths c_n_firstBy c_firstBy c_n_order c_order ++ (gS cy qS s_keys s_tails s_homes s_stamp ++ (gG cy qG g_base g_worth g_row g_many g_version))) → va_S A s.heap H locs → lv_has ls 6 [(0, .ref (qC 0)), (1, .int a1)] → W p l e0 (rmX0_tailFrom (pm - pot0)) s m ar below meth c H locs ((c_n_leasts + c_n_lengths + c_n_firstBy + c_n_order) - pot0) (2 * ((c_n_leasts + c_n_lengths + c_n_firstBy + c_n_order) - pot0)) Q (F0 m 170 ls []) := by
    intro g_row g_many s_keys s_tails s_homes s_stamp c_stamp c_homes c_size c_n_leasts c_leasts c_n_lengths c_lengths c_n_firstBy c_firstBy c_n_order c_order uC H locs ls hf hpt hP hD hS hl
    unfold f_X0_tailFrom_J170 at hf
    refine lv_iconst (v := (-1 : Int32)) hx hb dX0_tailFrom_170 (by decide) ?_
    refine lv_istore (lv' := [(4, .int (-1 : Int32)), (0, .ref (qC 0)), (1, .int a1)]) hx hb dX0_tailFrom_171 hl (by decide) rfl (fun ls hl => ?_)
    refine lv_iconst (v := (-1 : Int32)) hx hb dX0_tailFrom_173 (by decide) ?_
    refine lv_istore (lv' := [(5, .int (-1 : Int32)), (4, .int (-1 : Int32)), (0, .ref (qC 0)), (1, .int a1)]) hx hb dX0_tailFrom_174 hl (by decide) rfl (fun ls hl => ?_)
    refine lv_goto (tgt := 197) hx hb dX0_tailFrom_176 (by decide) ?_
    exact hJ197 (-1 : Int32) (-1 : Int32) g_row g_many s_keys s_tails s_homes s_stamp c_stamp c_homes c_size c_n_leasts c_leasts c_n_lengths c_lengths c_n_firstBy c_firstBy c_n_order c_order _ _ _ _ hf hpt hP hD hS (lv_sub hl [2, 3, 1, 0] rfl)
  have hJ138 : ∀ (x4 : Int32) (s0 : Int32) (g_row : Nat → Int32) (g_many : Nat → Int32) (s_keys : Nat → Int64) (s_tails : Nat → Int32) (s_homes : Nat → Int32) (s_stamp : Int32) (c_stamp : Int32) (c_homes : Nat → Int32) (c_size : Int32) (c_n_leasts : Nat) (c_leasts : Nat → Int64) (c_n_lengths : Nat) (c_lengths : Nat → Int32) (c_n_firstBy : Nat) (c_firstBy : Nat → Int32) (c_n_order : Nat) (c_order : Nat → Int32) (uC : Nat → Nat) (H : Heap) (locs : List Loc) (ls : Array Slot), f_X0_tailFrom_J138 F a1 pm x4 s0 g_row g_many s_keys s_tails s_homes s_stamp c_stamp c_homes c_size c_n_leasts c_leasts c_n_lengths c_lengths c_n_firstBy c_firstBy c_n_order c_order = some res → (pot0 ≤ (c_n_leasts + c_n_lengths + c_n_firstBy + c_n_order) ∧ (c_n_leasts + c_n_lengths + c_n_firstBy + c_n_order) ≤ pm) → va_P D vwCl (gC cy qC uC (qG 0) (qS 0) c_step c_stamp c_homes c_size c_n_leasts c_leasts c_n_lengths c_lengths c_n_firstBy c_firstBy c_n_order c_order ++ (gS cy qS s_keys s_tails s_homes s_stamp ++ (gG cy qG g_base g_worth g_row g_many g_version))) H → va_D A (gC cy qC uC (qG 0) (qS 0) c_step c_stamp c_homes c_size c_n_leasts c_leasts c_n_lengths c_lengths c_n_firstBy c_firstBy c_n_order c_order ++ (gS cy qS s_keys s_tails s_homes s_stamp ++ (gG cy qG g_base g_worth g_row g_many g_version))) → va_S A s.heap H locs → lv_has ls 6 [(0, .ref (qC 0)), (1, .int a1), (4, .int x4)] → W p l e0 (rmX0_tailFrom (pm - pot0)) s m ar below meth c H locs ((c_n_leasts + c_n_lengths + c_n_firstBy + c_n_order) - pot0) (2 * ((c_n_leasts + c_n_lengths + c_n_firstBy + c_n_order) - pot0)) Q (F0 m 138 ls [.int s0]) := by
    intro x4 s0 g_row g_many s_keys s_tails s_homes s_stamp c_stamp c_homes c_size c_n_leasts c_leasts c_n_lengths c_lengths c_n_firstBy c_firstBy c_n_order c_order uC H locs ls hf hpt hP hD hS hl
    unfold f_X0_tailFrom_J138 at hf
    refine lv_istore (lv' := [(5, .int s0), (0, .ref (qC 0)), (1, .int a1), (4, .int x4)]) hx hb dX0_tailFrom_138 hl (by decide) rfl (fun ls hl => ?_)
    refine lv_iload hx hb dX0_tailFrom_140 (lv_at hl 3 rfl) ?_
    refine lv_if_lt (tgt := 170) hx hb dX0_tailFrom_142 (by decide) (fun c3 => ?_) (fun c3 => ?_)
    · have hf := if_t hf c3
      exact hJ170 g_row g_many s_keys s_tails s_homes s_stamp c_stamp c_homes c_size c_n_leasts c_leasts c_n_lengths c_lengths c_n_firstBy c_firstBy c_n_order c_order _ _ _ _ hf hpt hP hD hS (lv_sub hl [1, 2] rfl)
    · have hf := if_f hf c3
      refine lv_iload hx hb dX0_tailFrom_145 (lv_at hl 3 rfl) ?_
      refine lv_aload_n hx hb dX0_tailFrom_147 rfl (lv_at hl 1 rfl) ?_
      refine va_get (D := D) (ci := 0) (C := RX0) (T := TX0) (N := 10) hx hb hts huX0 hown hK hP 0 rfl rfl 5 (by decide) fk19 (fun _ h9 => h9) rfl dX0_tailFrom_148 ?_
      refine lv_icmp_ge (tgt := 170) hx hb dX0_tailFrom_151 (by decide) (fun c4 => ?_) (fun c4 => ?_)
      · have hf := if_t hf c4
        exact hJ170 g_row g_many s_keys s_tails s_homes s_stamp c_stamp c_homes c_size c_n_leasts c_leasts c_n_lengths c_lengths c_n_firstBy c_firstBy c_n_order c_order _ _ _ _ hf hpt hP hD hS (lv_sub hl [1, 2] rfl)
      · have hf := if_f hf c4
        refine lv_iload hx hb dX0_tailFrom_154 (lv_at hl 0 rfl) ?_
        refine lv_aload_n hx hb dX0_tailFrom_156 rfl (lv_at hl 1 rfl) ?_
        refine va_get (v := .ref (uC 1)) (D := D) (ci := 0) (C := RX0) (T := TX0) (N := 10) hx hb hts huX0 hown hK hP 0 rfl rfl 7 (by decide) fk26 (fun _ h9 => h9) rfl dX0_tailFrom_157 ?_
        refine lv_iload hx hb dX0_tailFrom_160 (lv_at hl 3 rfl) ?_
        obtain ⟨c5, hf⟩ := ck_some hf
        refine va_iald hx hb hK hP 3 0 rfl rfl c5 dX0_tailFrom_162 ?_
        refine lv_iadd hx hb dX0_tailFrom_163 ?_
        refine lv_sipush (v := (300 : Int32)) hx hb dX0_tailFrom_164 (by decide) ?_
        refine lv_icmp_le (tgt := 179) hx hb dX0_tailFrom_167 (by decide) (fun c6 => ?_) (fun c6 => ?_)
        · have hf := if_t hf c6
          refine lv_aload_n hx hb dX0_tailFrom_179 rfl (lv_at hl 1 rfl) ?_
          refine va_get (v := .ref (uC 2)) (D := D) (ci := 0) (C := RX0) (T := TX0) (N := 10) hx hb hts huX0 hown hK hP 0 rfl rfl 8 (by decide) fk29 (fun _ h9 => h9) rfl dX0_tailFrom_180 ?_
          refine lv_iload hx hb dX0_tailFrom_183 (lv_at hl 3 rfl) ?_
          refine lv_aload_n hx hb dX0_tailFrom_185 rfl (lv_at hl 1 rfl) ?_
          refine va_get (v := .ref (uC 2)) (D := D) (ci := 0) (C := RX0) (T := TX0) (N := 10) hx hb hts huX0 hown hK hP 0 rfl rfl 8 (by decide) fk29 (fun _ h9 => h9) rfl dX0_tailFrom_186 ?_
          refine lv_iload hx hb dX0_tailFrom_189 (lv_at hl 3 rfl) ?_
          obtain ⟨c7, hf⟩ := ck_some hf
          refine va_iald hx hb hK hP 4 0 rfl rfl c7 dX0_tailFrom_191 ?_
          refine lv_iload_n hx hb dX0_tailFrom_192 rfl (lv_at hl 2 rfl) ?_
          refine va_mmin hx hb (hml.trans hl.1.symm) hown (hts (.methodLink RX0 71 Lib.Math.min.name) (by decide +kernel)) (hts (.static Lib.Math.min.name) (by decide +kernel)) (hts (.initialized "java/lang/Math") (by decide +kernel)) (hts (.code Lib.Math.min.name Lib.Math.min.code 2 (some .int)) (by decide +kernel)) (Nat.le_of_ble_eq_true rfl) (Nat.le_of_ble_eq_true rfl) (by show (c_n_leasts + c_n_lengths + c_n_firstBy + c_n_order) - pot0 ≤ pm - pot0; omega) (by show 2 * ((c_n_leasts + c_n_lengths + c_n_firstBy + c_n_order) - pot0) ≤ 2 * (pm - pot0); omega) dX0_tailFrom_193 ?_
          obtain ⟨c8, hf⟩ := ck_some hf
          refine va_iast hx hb hK hP hD hS 4 0 rfl rfl c8 dX0_tailFrom_196 (fun H locs hP hD hS => ?_)
          have hP : va_P D vwCl (gC cy qC uC (qG 0) (qS 0) c_step c_stamp c_homes c_size c_n_leasts c_leasts c_n_lengths c_lengths c_n_firstBy (upd c_firstBy x4.toNatClampNeg (if a1 < (c_firstBy x4.toNatClampNeg) then a1 else (c_firstBy x4.toNatClampNeg))) c_n_order c_order ++ (gS cy qS s_keys s_tails s_homes s_stamp ++ (gG cy qG g_base g_worth g_row g_many g_version))) H := hP
          have hD : va_D A (gC cy qC uC (qG 0) (qS 0) c_step c_stamp c_homes c_size c_n_leasts c_leasts c_n_lengths c_lengths c_n_firstBy (upd c_firstBy x4.toNatClampNeg (if a1 < (c_firstBy x4.toNatClampNeg) then a1 else (c_firstBy x4.toNatClampNeg))) c_n_order c_order ++ (gS cy qS s_keys s_tails s_homes s_stamp ++ (gG cy qG g_base g_worth g_row g_many g_version))) := hD
          exact hJ197 x4 s0 g_row g_many s_keys s_tails s_homes s_stamp c_stamp c_homes c_size c_n_leasts c_leasts c_n_lengths c_lengths c_n_firstBy (upd c_firstBy x4.toNatClampNeg (if a1 < (c_firstBy x4.toNatClampNeg) then a1 else (c_firstBy x4.toNatClampNeg))) c_n_order c_order _ _ _ _ hf hpt hP hD hS (lv_sub hl [1, 2, 3, 0] rfl)
        · have hf := if_f hf c6
          exact hJ170 g_row g_many s_keys s_tails s_homes s_stamp c_stamp c_homes c_size c_n_leasts c_leasts c_n_lengths c_lengths c_n_firstBy c_firstBy c_n_order c_order _ _ _ _ hf hpt hP hD hS (lv_sub hl [1, 2] rfl)
  have hJ117 : ∀ (x2 : Int32) (x3 : Int32) (s0 : Int32) (g_row : Nat → Int32) (g_many : Nat → Int32) (s_keys : Nat → Int64) (s_tails : Nat → Int32) (s_homes : Nat → Int32) (s_stamp : Int32) (c_stamp : Int32) (c_homes : Nat → Int32) (c_size : Int32) (c_n_leasts : Nat) (c_leasts : Nat → Int64) (c_n_lengths : Nat) (c_lengths : Nat → Int32) (c_n_firstBy : Nat) (c_firstBy : Nat → Int32) (c_n_order : Nat) (c_order : Nat → Int32) (uC : Nat → Nat) (H : Heap) (locs : List Loc) (ls : Array Slot), f_X0_tailFrom_J117 F a1 pm x2 x3 s0 g_row g_many s_keys s_tails s_homes s_stamp c_stamp c_homes c_size c_n_leasts c_leasts c_n_lengths c_lengths c_n_firstBy c_firstBy c_n_order c_order = some res → (pot0 ≤ (c_n_leasts + c_n_lengths + c_n_firstBy + c_n_order) ∧ (c_n_leasts + c_n_lengths + c_n_firstBy + c_n_order) ≤ pm) → va_P D vwCl (gC cy qC uC (qG 0) (qS 0) c_step c_stamp c_homes c_size c_n_leasts c_leasts c_n_lengths c_lengths c_n_firstBy c_firstBy c_n_order c_order ++ (gS cy qS s_keys s_tails s_homes s_stamp ++ (gG cy qG g_base g_worth g_row g_many g_version))) H → va_D A (gC cy qC uC (qG 0) (qS 0) c_step c_stamp c_homes c_size c_n_leasts c_leasts c_n_lengths c_lengths c_n_firstBy c_firstBy c_n_order c_order ++ (gS cy qS s_keys s_tails s_homes s_stamp ++ (gG cy qG g_base g_worth g_row g_many g_version))) → va_S A s.heap H locs → lv_has ls 6 [(0, .ref (qC 0)), (1, .int a1), (2, .int x2), (3, .int x3)] → W p l e0 (rmX0_tailFrom (pm - pot0)) s m ar below meth c H locs ((c_n_leasts + c_n_lengths + c_n_firstBy + c_n_order) - pot0) (2 * ((c_n_leasts + c_n_lengths + c_n_firstBy + c_n_order) - pot0)) Q (F0 m 117 ls [.int s0]) := by
    intro x2 x3 s0 g_row g_many s_keys s_tails s_homes s_stamp c_stamp c_homes c_size c_n_leasts c_leasts c_n_lengths c_lengths c_n_firstBy c_firstBy c_n_order c_order uC H locs ls hf hpt hP hD hS hl
    unfold f_X0_tailFrom_J117 at hf
    refine lv_istore (lv' := [(4, .int s0), (0, .ref (qC 0)), (1, .int a1), (2, .int x2), (3, .int x3)]) hx hb dX0_tailFrom_117 hl (by decide) rfl (fun ls hl => ?_)
    refine lv_iload_n hx hb dX0_tailFrom_119 rfl (lv_at hl 4 rfl) ?_
    refine lv_if_ge (tgt := 127) hx hb dX0_tailFrom_120 (by decide) (fun c9 => ?_) (fun c9 => ?_)
    · have hf := if_t hf c9
      refine lv_aload_n hx hb dX0_tailFrom_127 rfl (lv_at hl 1 rfl) ?_
      refine va_get (v := .ref (qS 0)) (D := D) (ci := 0) (C := RX0) (T := TX0) (N := 10) hx hb hts huX0 hown hK hP 0 rfl rfl 2 (by decide) fk42 (fun _ h9 => h9) rfl dX0_tailFrom_128 ?_
      refine va_get (v := .ref (qS 2)) (D := D) (ci := 8) (C := RX8) (T := TX8) (N := 4) hx hb hts huX8 hown hK hP 6 rfl rfl 1 (by decide) fk68 (fun _ h9 => h9) rfl dX0_tailFrom_131 ?_
      refine lv_iload_n hx hb dX0_tailFrom_134 rfl (lv_at hl 4 rfl) ?_
      obtain ⟨c10, hf⟩ := ck_some hf
      refine va_iald hx hb hK hP 8 0 rfl rfl c10 dX0_tailFrom_135 ?_
      refine lv_iload_n hx hb dX0_tailFrom_136 rfl (lv_at hl 3 rfl) ?_
      refine lv_iadd hx hb dX0_tailFrom_137 ?_
      exact hJ138 s0 ((s_tails x3.toNatClampNeg) + x2) g_row g_many s_keys s_tails s_homes s_stamp c_stamp c_homes c_size c_n_leasts c_leasts c_n_lengths c_lengths c_n_firstBy c_firstBy c_n_order c_order _ _ _ _ hf hpt hP hD hS (lv_sub hl [1, 2, 0] rfl)
    · have hf := if_f hf c9
      refine lv_iconst (v := (0 : Int32)) hx hb dX0_tailFrom_123 (by decide) ?_
      refine lv_goto (tgt := 138) hx hb dX0_tailFrom_124 (by decide) ?_
      exact hJ138 s0 (0 : Int32) g_row g_many s_keys s_tails s_homes s_stamp c_stamp c_homes c_size c_n_leasts c_leasts c_n_lengths c_lengths c_n_firstBy c_firstBy c_n_order c_order _ _ _ _ hf hpt hP hD hS (lv_sub hl [1, 2, 0] rfl)
  have hJ100 : ∀ (x2 : Int32) (x3 : Int32) (g_row : Nat → Int32) (g_many : Nat → Int32) (s_keys : Nat → Int64) (s_tails : Nat → Int32) (s_homes : Nat → Int32) (s_stamp : Int32) (c_stamp : Int32) (c_homes : Nat → Int32) (c_size : Int32) (c_n_leasts : Nat) (c_leasts : Nat → Int64) (c_n_lengths : Nat) (c_lengths : Nat → Int32) (c_n_firstBy : Nat) (c_firstBy : Nat → Int32) (c_n_order : Nat) (c_order : Nat → Int32) (uC : Nat → Nat) (H : Heap) (locs : List Loc) (ls : Array Slot), f_X0_tailFrom_J100 F a1 pm x2 x3 g_row g_many s_keys s_tails s_homes s_stamp c_stamp c_homes c_size c_n_leasts c_leasts c_n_lengths c_lengths c_n_firstBy c_firstBy c_n_order c_order = some res → (pot0 ≤ (c_n_leasts + c_n_lengths + c_n_firstBy + c_n_order) ∧ (c_n_leasts + c_n_lengths + c_n_firstBy + c_n_order) ≤ pm) → va_P D vwCl (gC cy qC uC (qG 0) (qS 0) c_step c_stamp c_homes c_size c_n_leasts c_leasts c_n_lengths c_lengths c_n_firstBy c_firstBy c_n_order c_order ++ (gS cy qS s_keys s_tails s_homes s_stamp ++ (gG cy qG g_base g_worth g_row g_many g_version))) H → va_D A (gC cy qC uC (qG 0) (qS 0) c_step c_stamp c_homes c_size c_n_leasts c_leasts c_n_lengths c_lengths c_n_firstBy c_firstBy c_n_order c_order ++ (gS cy qS s_keys s_tails s_homes s_stamp ++ (gG cy qG g_base g_worth g_row g_many g_version))) → va_S A s.heap H locs → lv_has ls 6 [(0, .ref (qC 0)), (1, .int a1), (2, .int x2), (3, .int x3)] → W p l e0 (rmX0_tailFrom (pm - pot0)) s m ar below meth c H locs ((c_n_leasts + c_n_lengths + c_n_firstBy + c_n_order) - pot0) (2 * ((c_n_leasts + c_n_lengths + c_n_firstBy + c_n_order) - pot0)) Q (F0 m 100 ls []) := by
    intro x2 x3 g_row g_many s_keys s_tails s_homes s_stamp c_stamp c_homes c_size c_n_leasts c_leasts c_n_lengths c_lengths c_n_firstBy c_firstBy c_n_order c_order uC H locs ls hf hpt hP hD hS hl
    unfold f_X0_tailFrom_J100 at hf
    refine lv_iload_n hx hb dX0_tailFrom_100 rfl (lv_at hl 3 rfl) ?_
    refine lv_if_ge (tgt := 108) hx hb dX0_tailFrom_101 (by decide) (fun c11 => ?_) (fun c11 => ?_)
    · have hf := if_t hf c11
      refine lv_aload_n hx hb dX0_tailFrom_108 rfl (lv_at hl 0 rfl) ?_
      refine va_get (v := .ref (qS 0)) (D := D) (ci := 0) (C := RX0) (T := TX0) (N := 10) hx hb hts huX0 hown hK hP 0 rfl rfl 2 (by decide) fk42 (fun _ h9 => h9) rfl dX0_tailFrom_109 ?_
      refine va_get (v := .ref (qS 3)) (D := D) (ci := 8) (C := RX8) (T := TX8) (N := 4) hx hb hts huX8 hown hK hP 6 rfl rfl 2 (by decide) fk67 (fun _ h9 => h9) rfl dX0_tailFrom_112 ?_
      refine lv_iload_n hx hb dX0_tailFrom_115 rfl (lv_at hl 3 rfl) ?_
      obtain ⟨c12, hf⟩ := ck_some hf
      refine va_iald hx hb hK hP 9 0 rfl rfl c12 dX0_tailFrom_116 ?_
      exact hJ117 x2 x3 (s_homes x3.toNatClampNeg) g_row g_many s_keys s_tails s_homes s_stamp c_stamp c_homes c_size c_n_leasts c_leasts c_n_lengths c_lengths c_n_firstBy c_firstBy c_n_order c_order _ _ _ _ hf hpt hP hD hS (lv_sub hl [0, 1, 2, 3] rfl)
    · have hf := if_f hf c11
      refine lv_iconst (v := (-1 : Int32)) hx hb dX0_tailFrom_104 (by decide) ?_
      refine lv_goto (tgt := 117) hx hb dX0_tailFrom_105 (by decide) ?_
      exact hJ117 x2 x3 (-1 : Int32) g_row g_many s_keys s_tails s_homes s_stamp c_stamp c_homes c_size c_n_leasts c_leasts c_n_lengths c_lengths c_n_firstBy c_firstBy c_n_order c_order _ _ _ _ hf hpt hP hD hS (lv_sub hl [0, 1, 2, 3] rfl)
  have hJ74 : ∀ (x2 : Int32) (x4 : Int64) (g_row : Nat → Int32) (g_many : Nat → Int32) (s_keys : Nat → Int64) (s_tails : Nat → Int32) (s_homes : Nat → Int32) (s_stamp : Int32) (c_stamp : Int32) (c_homes : Nat → Int32) (c_size : Int32) (c_n_leasts : Nat) (c_leasts : Nat → Int64) (c_n_lengths : Nat) (c_lengths : Nat → Int32) (c_n_firstBy : Nat) (c_firstBy : Nat → Int32) (c_n_order : Nat) (c_order : Nat → Int32) (uC : Nat → Nat) (H : Heap) (locs : List Loc) (ls : Array Slot), f_X0_tailFrom_J74 F a1 pm x2 x4 g_row g_many s_keys s_tails s_homes s_stamp c_stamp c_homes c_size c_n_leasts c_leasts c_n_lengths c_lengths c_n_firstBy c_firstBy c_n_order c_order = some res → (pot0 ≤ (c_n_leasts + c_n_lengths + c_n_firstBy + c_n_order) ∧ (c_n_leasts + c_n_lengths + c_n_firstBy + c_n_order) ≤ pm) → va_P D vwCl (gC cy qC uC (qG 0) (qS 0) c_step c_stamp c_homes c_size c_n_leasts c_leasts c_n_lengths c_lengths c_n_firstBy c_firstBy c_n_order c_order ++ (gS cy qS s_keys s_tails s_homes s_stamp ++ (gG cy qG g_base g_worth g_row g_many g_version))) H → va_D A (gC cy qC uC (qG 0) (qS 0) c_step c_stamp c_homes c_size c_n_leasts c_leasts c_n_lengths c_lengths c_n_firstBy c_firstBy c_n_order c_order ++ (gS cy qS s_keys s_tails s_homes s_stamp ++ (gG cy qG g_base g_worth g_row g_many g_version))) → va_S A s.heap H locs → lv_has ls 6 [(0, .ref (qC 0)), (1, .int a1), (2, .int x2), (4, .long x4)] → W p l e0 (rmX0_tailFrom (pm - pot0)) s m ar below meth c H locs ((c_n_leasts + c_n_lengths + c_n_firstBy + c_n_order) - pot0) (2 * ((c_n_leasts + c_n_lengths + c_n_firstBy + c_n_order) - pot0)) Q (F0 m 74 ls []) := by
    intro x2 x4 g_row g_many s_keys s_tails s_homes s_stamp c_stamp c_homes c_size c_n_leasts c_leasts c_n_lengths c_lengths c_n_firstBy c_firstBy c_n_order c_order uC H locs ls hf hpt hP hD hS hl
    unfold f_X0_tailFrom_J74 at hf
    refine lv_aload_n hx hb dX0_tailFrom_74 rfl (lv_at hl 0 rfl) ?_
    refine va_get (v := .ref (qS 0)) (D := D) (ci := 0) (C := RX0) (T := TX0) (N := 10) hx hb hts huX0 hown hK hP 0 rfl rfl 2 (by decide) fk42 (fun _ h9 => h9) rfl dX0_tailFrom_75 ?_
    refine lv_iload_n hx hb dX0_tailFrom_78 rfl (lv_at hl 1 rfl) ?_
    refine lv_i2l hx hb dX0_tailFrom_79 rfl ?_
    obtain ⟨r13, hc14, hf⟩ := ob_some hf
    have hI15 : kIn (gC cy qC uC (qG 0) (qS 0) c_step c_stamp c_homes c_size c_n_leasts c_leasts c_n_lengths c_lengths c_n_firstBy c_firstBy c_n_order c_order ++ (gS cy qS s_keys s_tails s_homes s_stamp ++ (gG cy qG g_base g_worth g_row g_many g_version))) (gS cy qS s_keys s_tails s_homes s_stamp) (kpick (gC cy qC uC (qG 0) (qS 0) c_step c_stamp c_homes c_size c_n_leasts c_leasts c_n_lengths c_lengths c_n_firstBy c_firstBy c_n_order c_order ++ (gS cy qS s_keys s_tails s_homes s_stamp ++ (gG cy qG g_base g_worth g_row g_many g_version))) [0, 1, 2, 3, 4, 5, 10, 11, 12, 13]) (fun _ : Unit => gS cy qS s_keys s_tails s_homes s_stamp) (fun _ : Unit => gC cy qC uC (qG 0) (qS 0) c_step c_stamp c_homes c_size c_n_leasts c_leasts c_n_lengths c_lengths c_n_firstBy c_firstBy c_n_order c_order ++ (gS cy qS s_keys s_tails s_homes s_stamp ++ (gG cy qG g_base g_worth g_row g_many g_version))) [6, 7, 8, 9] [0, 1, 2, 3, 4, 5, 10, 11, 12, 13] [0, 1, 2, 3, 4, 5, 10, 11, 12, 13, 6, 7, 8, 9] := ⟨rfl, rfl, rfl, rfl, by decide, rfl, fun _ => rfl⟩
    refine kc_i (k_run ⟨hx, hb, hml, hown, hts⟩ (c_X8_find hc14) (cwV 1 hts gX0_tailFrom_X8_find rfl rfl rfl (by decide +kernel) ⟨Nat.le_of_ble_eq_true rfl, Nat.le_of_ble_eq_true rfl⟩) hK hN hP hD ⟨hI15.1, hI15.2.2.1⟩ (ci := 8) (q0 := 0) rfl rfl rfl rfl hl.1 rfl (Nat.le_of_ble_eq_true rfl) dX0_tailFrom_80 ⟨by show (c_n_leasts + c_n_lengths + c_n_firstBy + c_n_order) - pot0 + 0 ≤ pm - pot0; omega, by show 2 * ((c_n_leasts + c_n_lengths + c_n_firstBy + c_n_order) - pot0) + 0 ≤ 2 * (pm - pot0); omega⟩) hP hD hS hA hI15 (fun _ H locs hP hD hS => ?_)
    refine W.widen (k := (c_n_leasts + c_n_lengths + c_n_firstBy + c_n_order) - pot0) (n := 2 * ((c_n_leasts + c_n_lengths + c_n_firstBy + c_n_order) - pot0)) (Nat.le_refl _) (Nat.le_refl _) ?_
    refine lv_istore_n (lv' := [(3, .int r13), (0, .ref (qC 0)), (1, .int a1), (2, .int x2), (4, .long x4)]) hx hb dX0_tailFrom_83 rfl hl (by decide) rfl (fun ls hl => ?_)
    refine lv_iload_n hx hb dX0_tailFrom_84 rfl (lv_at hl 0 rfl) ?_
    refine lv_if_ge (tgt := 100) hx hb dX0_tailFrom_85 (by decide) (fun c16 => ?_) (fun c16 => ?_)
    · have hf := if_t hf c16
      exact hJ100 x2 r13 g_row g_many s_keys s_tails s_homes s_stamp c_stamp c_homes c_size c_n_leasts c_leasts c_n_lengths c_lengths c_n_firstBy c_firstBy c_n_order c_order _ _ _ _ hf hpt hP hD hS (lv_sub hl [1, 2, 3, 0] rfl)
    · have hf := if_f hf c16
      refine lv_iconst (v := (1 : Int32)) hx hb dX0_tailFrom_88 (by decide) ?_
      refine lv_istore_n (lv' := [(2, .int (1 : Int32)), (3, .int r13), (0, .ref (qC 0)), (1, .int a1), (4, .long x4)]) hx hb dX0_tailFrom_89 rfl hl (by decide) rfl (fun ls hl => ?_)
      refine lv_aload_n hx hb dX0_tailFrom_90 rfl (lv_at hl 2 rfl) ?_
      refine va_get (v := .ref (qS 0)) (D := D) (ci := 0) (C := RX0) (T := TX0) (N := 10) hx hb hts huX0 hown hK hP 0 rfl rfl 2 (by decide) fk42 (fun _ h9 => h9) rfl dX0_tailFrom_91 ?_
      refine lv_lload hx hb dX0_tailFrom_94 (lv_at hl 4 rfl) ?_
      obtain ⟨r17, hc18, hf⟩ := ob_some hf
      have hI19 : kIn (gC cy qC uC (qG 0) (qS 0) c_step c_stamp c_homes c_size c_n_leasts c_leasts c_n_lengths c_lengths c_n_firstBy c_firstBy c_n_order c_order ++ (gS cy qS s_keys s_tails s_homes s_stamp ++ (gG cy qG g_base g_worth g_row g_many g_version))) (gS cy qS s_keys s_tails s_homes s_stamp) (kpick (gC cy qC uC (qG 0) (qS 0) c_step c_stamp c_homes c_size c_n_leasts c_leasts c_n_lengths c_lengths c_n_firstBy c_firstBy c_n_order c_order ++ (gS cy qS s_keys s_tails s_homes s_stamp ++ (gG cy qG g_base g_worth g_row g_many g_version))) [0, 1, 2, 3, 4, 5, 10, 11, 12, 13]) (fun _ : Unit => gS cy qS s_keys s_tails s_homes s_stamp) (fun _ : Unit => gC cy qC uC (qG 0) (qS 0) c_step c_stamp c_homes c_size c_n_leasts c_leasts c_n_lengths c_lengths c_n_firstBy c_firstBy c_n_order c_order ++ (gS cy qS s_keys s_tails s_homes s_stamp ++ (gG cy qG g_base g_worth g_row g_many g_version))) [6, 7, 8, 9] [0, 1, 2, 3, 4, 5, 10, 11, 12, 13] [0, 1, 2, 3, 4, 5, 10, 11, 12, 13, 6, 7, 8, 9] := ⟨rfl, rfl, rfl, rfl, by decide, rfl, fun _ => rfl⟩
      refine kc_i (k_run ⟨hx, hb, hml, hown, hts⟩ (c_X8_find hc18) (cwV 1 hts gX0_tailFrom_X8_find rfl rfl rfl (by decide +kernel) ⟨Nat.le_of_ble_eq_true rfl, Nat.le_of_ble_eq_true rfl⟩) hK hN hP hD ⟨hI19.1, hI19.2.2.1⟩ (ci := 8) (q0 := 0) rfl rfl rfl rfl hl.1 rfl (Nat.le_of_ble_eq_true rfl) dX0_tailFrom_96 ⟨by show (c_n_leasts + c_n_lengths + c_n_firstBy + c_n_order) - pot0 + 0 ≤ pm - pot0; omega, by show 2 * ((c_n_leasts + c_n_lengths + c_n_firstBy + c_n_order) - pot0) + 0 ≤ 2 * (pm - pot0); omega⟩) hP hD hS hA hI19 (fun _ H locs hP hD hS => ?_)
      refine W.widen (k := (c_n_leasts + c_n_lengths + c_n_firstBy + c_n_order) - pot0) (n := 2 * ((c_n_leasts + c_n_lengths + c_n_firstBy + c_n_order) - pot0)) (Nat.le_refl _) (Nat.le_refl _) ?_
      refine lv_istore_n (lv' := [(3, .int r17), (2, .int (1 : Int32)), (0, .ref (qC 0)), (1, .int a1), (4, .long x4)]) hx hb dX0_tailFrom_99 rfl hl (by decide) rfl (fun ls hl => ?_)
      exact hJ100 (1 : Int32) r17 g_row g_many s_keys s_tails s_homes s_stamp c_stamp c_homes c_size c_n_leasts c_leasts c_n_lengths c_lengths c_n_firstBy c_firstBy c_n_order c_order _ _ _ _ hf hpt hP hD hS (lv_sub hl [2, 3, 1, 0] rfl)
  have hJ25 : ∀ (g_row : Nat → Int32) (g_many : Nat → Int32) (s_keys : Nat → Int64) (s_tails : Nat → Int32) (s_homes : Nat → Int32) (s_stamp : Int32) (c_stamp : Int32) (c_homes : Nat → Int32) (c_size : Int32) (c_n_leasts : Nat) (c_leasts : Nat → Int64) (c_n_lengths : Nat) (c_lengths : Nat → Int32) (c_n_firstBy : Nat) (c_firstBy : Nat → Int32) (c_n_order : Nat) (c_order : Nat → Int32) (uC : Nat → Nat) (H : Heap) (locs : List Loc) (ls : Array Slot), f_X0_tailFrom_J25 F a1 c_step g_base g_worth pm g_row g_many s_keys s_tails s_homes s_stamp c_stamp c_homes c_size c_n_leasts c_leasts c_n_lengths c_lengths c_n_firstBy c_firstBy c_n_order c_order = some res → (pot0 ≤ (c_n_leasts + c_n_lengths + c_n_firstBy + c_n_order) ∧ (c_n_leasts + c_n_lengths + c_n_firstBy + c_n_order) ≤ pm) → va_P D vwCl (gC cy qC uC (qG 0) (qS 0) c_step c_stamp c_homes c_size c_n_leasts c_leasts c_n_lengths c_lengths c_n_firstBy c_firstBy c_n_order c_order ++ (gS cy qS s_keys s_tails s_homes s_stamp ++ (gG cy qG g_base g_worth g_row g_many g_version))) H → va_D A (gC cy qC uC (qG 0) (qS 0) c_step c_stamp c_homes c_size c_n_leasts c_leasts c_n_lengths c_lengths c_n_firstBy c_firstBy c_n_order c_order ++ (gS cy qS s_keys s_tails s_homes s_stamp ++ (gG cy qG g_base g_worth g_row g_many g_version))) → va_S A s.heap H locs → lv_has ls 6 [(0, .ref (qC 0)), (1, .int a1)] → W p l e0 (rmX0_tailFrom (pm - pot0)) s m ar below meth c H locs ((c_n_leasts + c_n_lengths + c_n_firstBy + c_n_order) - pot0) (2 * ((c_n_leasts + c_n_lengths + c_n_firstBy + c_n_order) - pot0)) Q (F0 m 25 ls []) := by
    intro g_row g_many s_keys s_tails s_homes s_stamp c_stamp c_homes c_size c_n_leasts c_leasts c_n_lengths c_lengths c_n_firstBy c_firstBy c_n_order c_order uC H locs ls hf hpt hP hD hS hl
    unfold f_X0_tailFrom_J25 at hf
    refine lv_iconst (v := (0 : Int32)) hx hb dX0_tailFrom_25 (by decide) ?_
    refine lv_istore_n (lv' := [(2, .int (0 : Int32)), (0, .ref (qC 0)), (1, .int a1)]) hx hb dX0_tailFrom_26 rfl hl (by decide) rfl (fun ls hl => ?_)
    refine lv_aload_n hx hb dX0_tailFrom_27 rfl (lv_at hl 1 rfl) ?_
    refine va_get (v := .ref (qS 0)) (D := D) (ci := 0) (C := RX0) (T := TX0) (N := 10) hx hb hts huX0 hown hK hP 0 rfl rfl 2 (by decide) fk42 (fun _ h9 => h9) rfl dX0_tailFrom_28 ?_
    refine lv_iload_n hx hb dX0_tailFrom_31 rfl (lv_at hl 2 rfl) ?_
    refine lv_i2l hx hb dX0_tailFrom_32 rfl ?_
    obtain ⟨r20, hc21, hf⟩ := ob_some hf
    have hI22 : kIn (gC cy qC uC (qG 0) (qS 0) c_step c_stamp c_homes c_size c_n_leasts c_leasts c_n_lengths c_lengths c_n_firstBy c_firstBy c_n_order c_order ++ (gS cy qS s_keys s_tails s_homes s_stamp ++ (gG cy qG g_base g_worth g_row g_many g_version))) (gS cy qS s_keys s_tails s_homes s_stamp) (kpick (gC cy qC uC (qG 0) (qS 0) c_step c_stamp c_homes c_size c_n_leasts c_leasts c_n_lengths c_lengths c_n_firstBy c_firstBy c_n_order c_order ++ (gS cy qS s_keys s_tails s_homes s_stamp ++ (gG cy qG g_base g_worth g_row g_many g_version))) [0, 1, 2, 3, 4, 5, 10, 11, 12, 13]) (fun _ : Unit => gS cy qS s_keys s_tails s_homes s_stamp) (fun _ : Unit => gC cy qC uC (qG 0) (qS 0) c_step c_stamp c_homes c_size c_n_leasts c_leasts c_n_lengths c_lengths c_n_firstBy c_firstBy c_n_order c_order ++ (gS cy qS s_keys s_tails s_homes s_stamp ++ (gG cy qG g_base g_worth g_row g_many g_version))) [6, 7, 8, 9] [0, 1, 2, 3, 4, 5, 10, 11, 12, 13] [0, 1, 2, 3, 4, 5, 10, 11, 12, 13, 6, 7, 8, 9] := ⟨rfl, rfl, rfl, rfl, by decide, rfl, fun _ => rfl⟩
    refine kc_i (k_run ⟨hx, hb, hml, hown, hts⟩ (c_X8_find hc21) (cwV 1 hts gX0_tailFrom_X8_find rfl rfl rfl (by decide +kernel) ⟨Nat.le_of_ble_eq_true rfl, Nat.le_of_ble_eq_true rfl⟩) hK hN hP hD ⟨hI22.1, hI22.2.2.1⟩ (ci := 8) (q0 := 0) rfl rfl rfl rfl hl.1 rfl (Nat.le_of_ble_eq_true rfl) dX0_tailFrom_33 ⟨by show (c_n_leasts + c_n_lengths + c_n_firstBy + c_n_order) - pot0 + 0 ≤ pm - pot0; omega, by show 2 * ((c_n_leasts + c_n_lengths + c_n_firstBy + c_n_order) - pot0) + 0 ≤ 2 * (pm - pot0); omega⟩) hP hD hS hA hI22 (fun _ H locs hP hD hS => ?_)
    refine W.widen (k := (c_n_leasts + c_n_lengths + c_n_firstBy + c_n_order) - pot0) (n := 2 * ((c_n_leasts + c_n_lengths + c_n_firstBy + c_n_order) - pot0)) (Nat.le_refl _) (Nat.le_refl _) ?_
    refine lv_istore_n (lv' := [(3, .int r20), (2, .int (0 : Int32)), (0, .ref (qC 0)), (1, .int a1)]) hx hb dX0_tailFrom_36 rfl hl (by decide) rfl (fun ls hl => ?_)
    refine lv_iload_n hx hb dX0_tailFrom_37 rfl (lv_at hl 0 rfl) ?_
    refine lv_if_ge (tgt := 100) hx hb dX0_tailFrom_38 (by decide) (fun c23 => ?_) (fun c23 => ?_)
    · have hf := if_t hf c23
      exact hJ100 (0 : Int32) r20 g_row g_many s_keys s_tails s_homes s_stamp c_stamp c_homes c_size c_n_leasts c_leasts c_n_lengths c_lengths c_n_firstBy c_firstBy c_n_order c_order _ _ _ _ hf hpt hP hD hS (lv_sub hl [2, 3, 1, 0] rfl)
    · have hf := if_f hf c23
      refine lv_aload_n hx hb dX0_tailFrom_41 rfl (lv_at hl 2 rfl) ?_
      refine va_get (v := .ref (qG 0)) (D := D) (ci := 0) (C := RX0) (T := TX0) (N := 10) hx hb hts huX0 hown hK hP 0 rfl rfl 0 (by decide) fk35 (fun _ h9 => h9) rfl dX0_tailFrom_42 ?_
      refine lv_aload_n hx hb dX0_tailFrom_45 rfl (lv_at hl 2 rfl) ?_
      refine va_get (D := D) (ci := 0) (C := RX0) (T := TX0) (N := 10) hx hb hts huX0 hown hK hP 0 rfl rfl 1 (by decide) fk39 (fun _ h9 => h9) rfl dX0_tailFrom_46 ?_
      refine lv_iload_n hx hb dX0_tailFrom_49 rfl (lv_at hl 3 rfl) ?_
      refine lv_i2l hx hb dX0_tailFrom_50 rfl ?_
      obtain ⟨r24, hc25, hf⟩ := ob_some hf
      have hI26 : kIn (gC cy qC uC (qG 0) (qS 0) c_step c_stamp c_homes c_size c_n_leasts c_leasts c_n_lengths c_lengths c_n_firstBy c_firstBy c_n_order c_order ++ (gS cy qS s_keys s_tails s_homes s_stamp ++ (gG cy qG g_base g_worth g_row g_many g_version))) (gG cy qG g_base g_worth g_row g_many g_version) (kpick (gC cy qC uC (qG 0) (qS 0) c_step c_stamp c_homes c_size c_n_leasts c_leasts c_n_lengths c_lengths c_n_firstBy c_firstBy c_n_order c_order ++ (gS cy qS s_keys s_tails s_homes s_stamp ++ (gG cy qG g_base g_worth g_row g_many g_version))) [0, 1, 2, 3, 4, 5, 6, 7, 8, 9]) (fun _ : Unit => gG cy qG g_base g_worth r24.2.1 r24.2.2 g_version) (fun _ : Unit => gC cy qC uC (qG 0) (qS 0) c_step c_stamp c_homes c_size c_n_leasts c_leasts c_n_lengths c_lengths c_n_firstBy c_firstBy c_n_order c_order ++ (gS cy qS s_keys s_tails s_homes s_stamp ++ (gG cy qG g_base g_worth r24.2.1 r24.2.2 g_version))) [10, 11, 12, 13] [0, 1, 2, 3, 4, 5, 6, 7, 8, 9] [0, 1, 2, 3, 4, 5, 6, 7, 8, 9, 10, 11, 12, 13] := ⟨rfl, rfl, rfl, rfl, by decide, rfl, fun _ => rfl⟩
      refine kc_l (k_run ⟨hx, hb, hml, hown, hts⟩ (c_X1_make hc25) (cwV 2 hts gX0_tailFrom_X1_make rfl rfl rfl (by decide +kernel) ⟨Nat.le_of_ble_eq_true rfl, Nat.le_of_ble_eq_true rfl⟩) hK hN hP hD ⟨hI26.1, hI26.2.2.1⟩ (ci := 1) (q0 := 0) rfl rfl rfl rfl hl.1 rfl (Nat.le_of_ble_eq_true rfl) dX0_tailFrom_51 ⟨by show (c_n_leasts + c_n_lengths + c_n_firstBy + c_n_order) - pot0 + 0 ≤ pm - pot0; omega, by show 2 * ((c_n_leasts + c_n_lengths + c_n_firstBy + c_n_order) - pot0) + 0 ≤ 2 * (pm - pot0); omega⟩) hP hD hS hA hI26 (fun _ H locs hP hD hS => ?_)
      refine W.widen (k := (c_n_leasts + c_n_lengths + c_n_firstBy + c_n_order) - pot0) (n := 2 * ((c_n_leasts + c_n_lengths + c_n_firstBy + c_n_order) - pot0)) (Nat.le_refl _) (Nat.le_refl _) ?_
      refine lv_lstore (lv' := [(4, .long r24.1), (3, .int r20), (2, .int (0 : Int32)), (0, .ref (qC 0)), (1, .int a1)]) hx hb dX0_tailFrom_54 hl (by decide) rfl (fun ls hl => ?_)
      refine lv_aload_n hx hb dX0_tailFrom_56 rfl (lv_at hl 3 rfl) ?_
      refine va_get (v := .ref (qS 0)) (D := D) (ci := 0) (C := RX0) (T := TX0) (N := 10) hx hb hts huX0 hown hK hP 0 rfl rfl 2 (by decide) fk42 (fun _ h9 => h9) rfl dX0_tailFrom_57 ?_
      refine lv_lload hx hb dX0_tailFrom_60 (lv_at hl 0 rfl) ?_
      obtain ⟨r27, hc28, hf⟩ := ob_some hf
      have hI29 : kIn (gC cy qC uC (qG 0) (qS 0) c_step c_stamp c_homes c_size c_n_leasts c_leasts c_n_lengths c_lengths c_n_firstBy c_firstBy c_n_order c_order ++ (gS cy qS s_keys s_tails s_homes s_stamp ++ (gG cy qG g_base g_worth r24.2.1 r24.2.2 g_version))) (gS cy qS s_keys s_tails s_homes s_stamp) (kpick (gC cy qC uC (qG 0) (qS 0) c_step c_stamp c_homes c_size c_n_leasts c_leasts c_n_lengths c_lengths c_n_firstBy c_firstBy c_n_order c_order ++ (gS cy qS s_keys s_tails s_homes s_stamp ++ (gG cy qG g_base g_worth r24.2.1 r24.2.2 g_version))) [0, 1, 2, 3, 4, 5, 10, 11, 12, 13]) (fun _ : Unit => gS cy qS s_keys s_tails s_homes s_stamp) (fun _ : Unit => gC cy qC uC (qG 0) (qS 0) c_step c_stamp c_homes c_size c_n_leasts c_leasts c_n_lengths c_lengths c_n_firstBy c_firstBy c_n_order c_order ++ (gS cy qS s_keys s_tails s_homes s_stamp ++ (gG cy qG g_base g_worth r24.2.1 r24.2.2 g_version))) [6, 7, 8, 9] [0, 1, 2, 3, 4, 5, 10, 11, 12, 13] [0, 1, 2, 3, 4, 5, 10, 11, 12, 13, 6, 7, 8, 9] := ⟨rfl, rfl, rfl, rfl, by decide, rfl, fun _ => rfl⟩
      refine kc_i (k_run ⟨hx, hb, hml, hown, hts⟩ (c_X8_find hc28) (cwV 1 hts gX0_tailFrom_X8_find rfl rfl rfl (by decide +kernel) ⟨Nat.le_of_ble_eq_true rfl, Nat.le_of_ble_eq_true rfl⟩) hK hN hP hD ⟨hI29.1, hI29.2.2.1⟩ (ci := 8) (q0 := 0) rfl rfl rfl rfl hl.1 rfl (Nat.le_of_ble_eq_true rfl) dX0_tailFrom_62 ⟨by show (c_n_leasts + c_n_lengths + c_n_firstBy + c_n_order) - pot0 + 0 ≤ pm - pot0; omega, by show 2 * ((c_n_leasts + c_n_lengths + c_n_firstBy + c_n_order) - pot0) + 0 ≤ 2 * (pm - pot0); omega⟩) hP hD hS hA hI29 (fun _ H locs hP hD hS => ?_)
      refine W.widen (k := (c_n_leasts + c_n_lengths + c_n_firstBy + c_n_order) - pot0) (n := 2 * ((c_n_leasts + c_n_lengths + c_n_firstBy + c_n_order) - pot0)) (Nat.le_refl _) (Nat.le_refl _) ?_
      refine lv_if_ge (tgt := 74) hx hb dX0_tailFrom_65 (by decide) (fun c30 => ?_) (fun c30 => ?_)
      · have hf := if_t hf c30
        exact hJ74 (0 : Int32) r24.1 r24.2.1 r24.2.2 s_keys s_tails s_homes s_stamp c_stamp c_homes c_size c_n_leasts c_leasts c_n_lengths c_lengths c_n_firstBy c_firstBy c_n_order c_order _ _ _ _ hf hpt hP hD hS (lv_sub hl [3, 4, 2, 0] rfl)
      · have hf := if_f hf c30
        refine lv_aload_n hx hb dX0_tailFrom_68 rfl (lv_at hl 3 rfl) ?_
        refine lv_lload hx hb dX0_tailFrom_69 (lv_at hl 0 rfl) ?_
        obtain ⟨cg31, hf⟩ := ck_some hf
        obtain ⟨r32, hc33, hf⟩ := ob_some hf
        refine kc_v (k_run ⟨hx, hb, hml, hown, hts⟩ (c_X0_resolve hc33 rfl) (cwV 1 hts gX0_tailFrom_X0_resolve rfl rfl rfl (by decide +kernel) ⟨Nat.le_of_ble_eq_true rfl, Nat.le_of_ble_eq_true rfl⟩) hK hN hP hD kA_s (ci := 0) (q0 := 0) rfl rfl rfl rfl hl.1 rfl (Nat.le_of_ble_eq_true rfl) dX0_tailFrom_71 ⟨by show (c_n_leasts + c_n_lengths + c_n_firstBy + c_n_order) - pot0 + (pm - (c_n_leasts + c_n_lengths + c_n_firstBy + c_n_order)) ≤ pm - pot0; omega, by show 2 * ((c_n_leasts + c_n_lengths + c_n_firstBy + c_n_order) - pot0) + 2 * (pm - (c_n_leasts + c_n_lengths + c_n_firstBy + c_n_order)) ≤ 2 * (pm - pot0); omega⟩) hP hD hS hA (kI_g 14 (fun _ => rfl)) (fun uC H locs hP hD hS => ?_)
        obtain ⟨cq34, hf⟩ := ck_some hf
        have hpt : pot0 ≤ (r32.2.2.2.2.2.2.1 + r32.2.2.2.2.2.2.2.2.1 + r32.2.2.2.2.2.2.2.2.2.2.1 + r32.2.2.2.2.2.2.2.2.2.2.2.2.1) ∧ (r32.2.2.2.2.2.2.1 + r32.2.2.2.2.2.2.2.2.1 + r32.2.2.2.2.2.2.2.2.2.2.1 + r32.2.2.2.2.2.2.2.2.2.2.2.2.1) ≤ pm := by omega
        refine W.widen (k := (r32.2.2.2.2.2.2.1 + r32.2.2.2.2.2.2.2.2.1 + r32.2.2.2.2.2.2.2.2.2.2.1 + r32.2.2.2.2.2.2.2.2.2.2.2.2.1) - pot0) (n := 2 * ((r32.2.2.2.2.2.2.1 + r32.2.2.2.2.2.2.2.2.1 + r32.2.2.2.2.2.2.2.2.2.2.1 + r32.2.2.2.2.2.2.2.2.2.2.2.2.1) - pot0)) (by show (c_n_leasts + c_n_lengths + c_n_firstBy + c_n_order) - pot0 + (pm - (c_n_leasts + c_n_lengths + c_n_firstBy + c_n_order)) ≤ (r32.2.2.2.2.2.2.1 + r32.2.2.2.2.2.2.2.2.1 + r32.2.2.2.2.2.2.2.2.2.2.1 + r32.2.2.2.2.2.2.2.2.2.2.2.2.1) - pot0; omega) (by show 2 * ((c_n_leasts + c_n_lengths + c_n_firstBy + c_n_order) - pot0) + 2 * (pm - (c_n_leasts + c_n_lengths + c_n_firstBy + c_n_order)) ≤ 2 * ((r32.2.2.2.2.2.2.1 + r32.2.2.2.2.2.2.2.2.1 + r32.2.2.2.2.2.2.2.2.2.2.1 + r32.2.2.2.2.2.2.2.2.2.2.2.2.1) - pot0); omega) ?_
        exact hJ74 (0 : Int32) r24.1 r32.1 r32.2.1 r32.2.2.1 r32.2.2.2.1 r32.2.2.2.2.1 s_stamp c_stamp c_homes r32.2.2.2.2.2.1 r32.2.2.2.2.2.2.1 r32.2.2.2.2.2.2.2.1 r32.2.2.2.2.2.2.2.2.1 r32.2.2.2.2.2.2.2.2.2.1 r32.2.2.2.2.2.2.2.2.2.2.1 r32.2.2.2.2.2.2.2.2.2.2.2.1 r32.2.2.2.2.2.2.2.2.2.2.2.2.1 r32.2.2.2.2.2.2.2.2.2.2.2.2.2 _ _ _ _ hf hpt hP hD hS (lv_sub hl [3, 4, 2, 0] rfl)
  refine lv_aload_n hx hb dX0_tailFrom_0 rfl (lv_at hl 0 rfl) ?_
  refine va_get (D := D) (ci := 0) (C := RX0) (T := TX0) (N := 10) hx hb hts huX0 hown hK hP 0 rfl rfl 3 (by decide) fk9 (fun _ h9 => h9) rfl dX0_tailFrom_1 ?_
  refine lv_aload_n hx hb dX0_tailFrom_4 rfl (lv_at hl 0 rfl) ?_
  refine va_get (v := .ref (qS 0)) (D := D) (ci := 0) (C := RX0) (T := TX0) (N := 10) hx hb hts huX0 hown hK hP 0 rfl rfl 2 (by decide) fk42 (fun _ h9 => h9) rfl dX0_tailFrom_5 ?_
  refine va_get (D := D) (ci := 8) (C := RX8) (T := TX8) (N := 4) hx hb hts huX8 hown hK hP 6 rfl rfl 3 (by decide) fk46 (fun _ h9 => h9) rfl dX0_tailFrom_8 ?_
  refine lv_icmp_eq (tgt := 25) hx hb dX0_tailFrom_11 (by decide) (fun c35 => ?_) (fun c35 => ?_)
  · have hf := if_t hf c35
    exact hJ25 g_row g_many s_keys s_tails s_homes s_stamp c_stamp c_homes c_size c_n_leasts c_leasts c_n_lengths c_lengths c_n_firstBy c_firstBy c_n_order c_order _ _ _ _ hf hpt hP hD hS (lv_sub hl [0, 1] rfl)
  · have hf := if_f hf c35
    refine lv_aload_n hx hb dX0_tailFrom_14 rfl (lv_at hl 0 rfl) ?_
    refine lv_aload_n hx hb dX0_tailFrom_15 rfl (lv_at hl 0 rfl) ?_
    refine va_get (v := .ref (qS 0)) (D := D) (ci := 0) (C := RX0) (T := TX0) (N := 10) hx hb hts huX0 hown hK hP 0 rfl rfl 2 (by decide) fk42 (fun _ h9 => h9) rfl dX0_tailFrom_16 ?_
    obtain ⟨r36, hc37, hf⟩ := ob_some hf
    have hI38 : kIn (gC cy qC uC (qG 0) (qS 0) c_step c_stamp c_homes c_size c_n_leasts c_leasts c_n_lengths c_lengths c_n_firstBy c_firstBy c_n_order c_order ++ (gS cy qS s_keys s_tails s_homes s_stamp ++ (gG cy qG g_base g_worth g_row g_many g_version))) (gS cy qS s_keys s_tails s_homes s_stamp) (kpick (gC cy qC uC (qG 0) (qS 0) c_step c_stamp c_homes c_size c_n_leasts c_leasts c_n_lengths c_lengths c_n_firstBy c_firstBy c_n_order c_order ++ (gS cy qS s_keys s_tails s_homes s_stamp ++ (gG cy qG g_base g_worth g_row g_many g_version))) [0, 1, 2, 3, 4, 5, 10, 11, 12, 13]) (fun _ : Unit => gS cy qS s_keys s_tails s_homes r36.2) (fun _ : Unit => gC cy qC uC (qG 0) (qS 0) c_step c_stamp c_homes c_size c_n_leasts c_leasts c_n_lengths c_lengths c_n_firstBy c_firstBy c_n_order c_order ++ (gS cy qS s_keys s_tails s_homes r36.2 ++ (gG cy qG g_base g_worth g_row g_many g_version))) [6, 7, 8, 9] [0, 1, 2, 3, 4, 5, 10, 11, 12, 13] [0, 1, 2, 3, 4, 5, 10, 11, 12, 13, 6, 7, 8, 9] := ⟨rfl, rfl, rfl, rfl, by decide, rfl, fun _ => rfl⟩
    refine kc_i (k_run ⟨hx, hb, hml, hown, hts⟩ (c_X8_renew hc37) (cwV 0 hts gX0_tailFrom_X8_renew rfl rfl rfl (by decide +kernel) ⟨Nat.le_of_ble_eq_true rfl, Nat.le_of_ble_eq_true rfl⟩) hK hN hP hD ⟨hI38.1, hI38.2.2.1⟩ (ci := 8) (q0 := 0) rfl rfl rfl rfl hl.1 rfl (Nat.le_of_ble_eq_true rfl) dX0_tailFrom_19 ⟨by show (c_n_leasts + c_n_lengths + c_n_firstBy + c_n_order) - pot0 + 0 ≤ pm - pot0; omega, by show 2 * ((c_n_leasts + c_n_lengths + c_n_firstBy + c_n_order) - pot0) + 0 ≤ 2 * (pm - pot0); omega⟩) hP hD hS hA hI38 (fun _ H locs hP hD hS => ?_)
    refine W.widen (k := (c_n_leasts + c_n_lengths + c_n_firstBy + c_n_order) - pot0) (n := 2 * ((c_n_leasts + c_n_lengths + c_n_firstBy + c_n_order) - pot0)) (Nat.le_refl _) (Nat.le_refl _) ?_
    refine va_put (D := D) (ci := 0) (v := .int r36.1) (ty := .int) (C := RX0) (T := TX0) (N := 10) hx hb hts huX0 tyX0 tyX0_ok nmX0 hown hK hP hD hS 0 rfl rfl 3 (by decide) fk9 (fun _ h9 => h9) rfl (tyX0_ok 3 (by decide)) rfl rfl (Nat.le_of_ble_eq_true rfl) dX0_tailFrom_22 (fun H locs hP hD hS => ?_)
    have hP : va_P D vwCl (gC cy qC uC (qG 0) (qS 0) c_step r36.1 c_homes c_size c_n_leasts c_leasts c_n_lengths c_lengths c_n_firstBy c_firstBy c_n_order c_order ++ (gS cy qS s_keys s_tails s_homes r36.2 ++ (gG cy qG g_base g_worth g_row g_many g_version))) H := hP
    have hD : va_D A (gC cy qC uC (qG 0) (qS 0) c_step r36.1 c_homes c_size c_n_leasts c_leasts c_n_lengths c_lengths c_n_firstBy c_firstBy c_n_order c_order ++ (gS cy qS s_keys s_tails s_homes r36.2 ++ (gG cy qG g_base g_worth g_row g_many g_version))) := hD
    exact hJ25 g_row g_many s_keys s_tails s_homes r36.2 r36.1 c_homes c_size c_n_leasts c_leasts c_n_lengths c_lengths c_n_firstBy c_firstBy c_n_order c_order _ _ _ _ hf hpt hP hD hS (lv_sub hl [0, 1] rfl)
def f_X0_comersTo_J77 (F : Nat) (rec : (Int32 × Int32) → Option (Int32)) (x5 : Int32) (x6 : Int32) : Option (Int32) := rec (x5, (x6 + (1 : Int32)))
def f_X0_comersTo_B41 (F : Nat) (a3 : Int32) (c_homes : Nat → Int32) (c_n_order : Nat) (c_order : Nat → Int32) (x4 : Int32) (rec : Int32 × Int32 → Option (Int32)) (x : Int32 × Int32) : Option (Int32) := if a3 < x.2 then (some x.1) else (if (3001 : Int32) ≤ x.2 then (some x.1) else (ck (¬ (x.2 < 0 ∨ 3001 ≤ x.2.toNatClampNeg)) (ck (¬ (x4 < 0 ∨ c_n_order ≤ x4.toNatClampNeg)) (if (c_homes x.2.toNatClampNeg) = (c_order x4.toNatClampNeg) then (f_X0_comersTo_J77 F rec (x.1 + (1 : Int32)) x.2) else (f_X0_comersTo_J77 F rec x.1 x.2)))))
def f_X0_comersTo_J33 (F : Nat) : Option (Int32) := some (0 : Int32)
def f_X0_comersTo (F : Nat) (a1 : Int64) (a3 : Int32) (c_homes : Nat → Int32) (c_size : Int32) (c_n_leasts : Nat) (c_leasts : Nat → Int64) (c_n_order : Nat) (c_order : Nat → Int32) : Option (Int32) := (f_X0_rankOf F a1 c_size c_n_leasts c_leasts c_n_order c_order).bind (fun r6 => if c_size ≤ r6 then (f_X0_comersTo_J33 F) else (ck (¬ (r6 < 0 ∨ c_n_order ≤ r6.toNatClampNeg)) (ck (¬ ((c_order r6.toNatClampNeg) < 0 ∨ c_n_leasts ≤ (c_order r6.toNatClampNeg).toNatClampNeg)) (if (c_leasts (c_order r6.toNatClampNeg).toNatClampNeg) = a1 then ((lp (f_X0_comersTo_B41 F a3 c_homes c_n_order c_order r6) F ((0 : Int32), (0 : Int32))).bind (fun ex12 => some ex12)) else (f_X0_comersTo_J33 F)))))
abbrev rmX0_comersTo : Room := { frames := 1, cells := 0, slots := 0, locals := 23 }
set_option maxHeartbeats 1000000 in
set_option maxRecDepth 100000 in
theorem c_X0_comersTo {l : Launch} {D : va_G} {cy : Nat → ClassId} {qC : Nat → Nat} {qG : Nat → Nat} {qS : Nat → Nat} {uC : Nat → Nat} {c_step : Int32} {c_stamp : Int32} {c_homes : Nat → Int32} {c_size : Int32} {c_n_leasts : Nat} {c_leasts : Nat → Int64} {c_n_lengths : Nat} {c_lengths : Nat → Int32} {c_n_firstBy : Nat} {c_firstBy : Nat → Int32} {c_n_order : Nat} {c_order : Nat → Int32} {a1 : Int64} {a3 : Int32} {F : Nat} {res : Int32} (hf : f_X0_comersTo F a1 a3 c_homes c_size c_n_leasts c_leasts c_n_order c_order = some res) : kM l yX0_comersTo wsX0_comersTo rmX0_comersTo D cy [.ref (qC 0), .long a1, .int a3] (gC cy qC uC (qG 0) (qS 0) c_step c_stamp c_homes c_size c_n_leasts c_leasts c_n_lengths c_lengths c_n_firstBy c_firstBy c_n_order c_order) (kQi D cy (fun _ : Unit => gC cy qC uC (qG 0) (qS 0) c_step c_stamp c_homes c_size c_n_leasts c_leasts c_n_lengths c_lengths c_n_firstBy c_firstBy c_n_order c_order) res) := by
  refine kent_i (cc := cX0_comersTo) (maxL := 7) (by decide) rfl (Nat.le_of_ble_eq_true rfl) ?_
  intro p e0 s m ar below meth c A Q ls ⟨hx, hb, hml, hr, hts, hown, hlocks, hnm⟩ hA hK hN hQ hP hD hS hl
  have hl : lv_has ls 7 [(0, .ref (qC 0)), (1, .long a1), (3, .int a3)] := hl
  have hown : s.vm.findClass RX0 = some m.cls := hown
  have huX0 : ∀ x ∈ u_ws RX0 TX0 10, x ∈ wsX0_comersTo := by decide +kernel
  have fk15 : (Cond.fieldLink RX0 15 "FigurePlay$Circles" "homes" "[I").before ar s = true := hts _ (by decide +kernel)
  have fk32 : (Cond.fieldLink RX0 32 "FigurePlay$Circles" "order" "[I").before ar s = true := hts _ (by decide +kernel)
  have fk19 : (Cond.fieldLink RX0 19 "FigurePlay$Circles" "size" "I").before ar s = true := hts _ (by decide +kernel)
  have fk22 : (Cond.fieldLink RX0 22 "FigurePlay$Circles" "leasts" "[J").before ar s = true := hts _ (by decide +kernel)
  unfold f_X0_comersTo at hf
  have hL41 : ∀ (x4 : Int32) (k : Nat) (x : Int32 × Int32) (ex : Int32) (H : Heap) (locs : List Loc) (ls : Array Slot), lp (f_X0_comersTo_B41 F a3 c_homes c_n_order c_order x4) k x = some ex → (∀ (H : Heap) (locs : List Loc) (ls : Array Slot), va_P D vwCl (gC cy qC uC (qG 0) (qS 0) c_step c_stamp c_homes c_size c_n_leasts c_leasts c_n_lengths c_lengths c_n_firstBy c_firstBy c_n_order c_order) H → va_D A (gC cy qC uC (qG 0) (qS 0) c_step c_stamp c_homes c_size c_n_leasts c_leasts c_n_lengths c_lengths c_n_firstBy c_firstBy c_n_order c_order) → va_S A s.heap H locs → lv_has ls 7 [(5, .int ex)] → W p l e0 rmX0_comersTo s m ar below meth c H locs 0 0 Q (F0 m 83 ls [])) → va_P D vwCl (gC cy qC uC (qG 0) (qS 0) c_step c_stamp c_homes c_size c_n_leasts c_leasts c_n_lengths c_lengths c_n_firstBy c_firstBy c_n_order c_order) H → va_D A (gC cy qC uC (qG 0) (qS 0) c_step c_stamp c_homes c_size c_n_leasts c_leasts c_n_lengths c_lengths c_n_firstBy c_firstBy c_n_order c_order) → va_S A s.heap H locs → lv_has ls 7 [(0, .ref (qC 0)), (3, .int a3), (4, .int x4), (5, .int x.1), (6, .int x.2)] → W p l e0 rmX0_comersTo s m ar below meth c H locs 0 0 Q (F0 m 41 ls []) := by
    intro x4 k
    induction k with
    | zero => intro x ex H locs ls hf; exact no_some hf
    | succ k ih =>
      intro x ex H locs ls hf hex hP hD hS hl
      have hf : f_X0_comersTo_B41 F a3 c_homes c_n_order c_order x4 (lp (f_X0_comersTo_B41 F a3 c_homes c_n_order c_order x4) k) x = some ex := hf
      unfold f_X0_comersTo_B41 at hf
      have hJ77 : ∀ (x5 : Int32) (x6 : Int32) (H : Heap) (locs : List Loc) (ls : Array Slot), f_X0_comersTo_J77 F (lp (f_X0_comersTo_B41 F a3 c_homes c_n_order c_order x4) k) x5 x6 = some ex → va_P D vwCl (gC cy qC uC (qG 0) (qS 0) c_step c_stamp c_homes c_size c_n_leasts c_leasts c_n_lengths c_lengths c_n_firstBy c_firstBy c_n_order c_order) H → va_D A (gC cy qC uC (qG 0) (qS 0) c_step c_stamp c_homes c_size c_n_leasts c_leasts c_n_lengths c_lengths c_n_firstBy c_firstBy c_n_order c_order) → va_S A s.heap H locs → lv_has ls 7 [(0, .ref (qC 0)), (3, .int a3), (4, .int x4), (5, .int x5), (6, .int x6)] → W p l e0 rmX0_comersTo s m ar below meth c H locs 0 0 Q (F0 m 77 ls []) := by
        intro x5 x6 H locs ls hf hP hD hS hl
        unfold f_X0_comersTo_J77 at hf
        refine lv_iinc (v := (x6 + (1 : Int32))) (lv' := [(6, .int (x6 + (1 : Int32))), (0, .ref (qC 0)), (3, .int a3), (4, .int x4), (5, .int x5)]) hx hb dX0_comersTo_77 hl (k := 4) rfl rfl (by decide) rfl (fun ls hl => ?_)
        refine lv_goto (tgt := 41) hx hb dX0_comersTo_80 (by decide) ?_
        exact ih (x5, (x6 + (1 : Int32))) ex _ _ _ hf hex hP hD hS (lv_sub hl [1, 2, 3, 4, 0] rfl)
      refine lv_iload hx hb dX0_comersTo_41 (lv_at hl 4 rfl) ?_
      refine lv_iload_n hx hb dX0_comersTo_43 rfl (lv_at hl 1 rfl) ?_
      refine lv_icmp_gt (tgt := 83) hx hb dX0_comersTo_44 (by decide) (fun c1 => ?_) (fun c1 => ?_)
      · have hf := if_t hf c1
        obtain rfl := Option.some.inj hf
        exact hex _ _ _ hP hD hS (lv_sub hl [3] rfl)
      · have hf := if_f hf c1
        refine lv_iload hx hb dX0_comersTo_47 (lv_at hl 4 rfl) ?_
        refine lv_aload_n hx hb dX0_comersTo_49 rfl (lv_at hl 0 rfl) ?_
        refine va_get (v := .ref (qC 1)) (D := D) (ci := 0) (C := RX0) (T := TX0) (N := 10) hx hb hts huX0 hown hK hP 0 rfl rfl 4 (by decide) fk15 (fun _ h9 => h9) rfl dX0_comersTo_50 ?_
        refine va_alen (v := (3001 : Int32)) hx hb hK hP 1 0 rfl rfl rfl dX0_comersTo_53 ?_
        refine lv_icmp_ge (tgt := 83) hx hb dX0_comersTo_54 (by decide) (fun c2 => ?_) (fun c2 => ?_)
        · have hf := if_t hf c2
          obtain rfl := Option.some.inj hf
          exact hex _ _ _ hP hD hS (lv_sub hl [3] rfl)
        · have hf := if_f hf c2
          refine lv_aload_n hx hb dX0_comersTo_57 rfl (lv_at hl 0 rfl) ?_
          refine va_get (v := .ref (qC 1)) (D := D) (ci := 0) (C := RX0) (T := TX0) (N := 10) hx hb hts huX0 hown hK hP 0 rfl rfl 4 (by decide) fk15 (fun _ h9 => h9) rfl dX0_comersTo_58 ?_
          refine lv_iload hx hb dX0_comersTo_61 (lv_at hl 4 rfl) ?_
          obtain ⟨c3, hf⟩ := ck_some hf
          refine va_iald hx hb hK hP 1 0 rfl rfl c3 dX0_comersTo_63 ?_
          refine lv_aload_n hx hb dX0_comersTo_64 rfl (lv_at hl 0 rfl) ?_
          refine va_get (v := .ref (uC 3)) (D := D) (ci := 0) (C := RX0) (T := TX0) (N := 10) hx hb hts huX0 hown hK hP 0 rfl rfl 9 (by decide) fk32 (fun _ h9 => h9) rfl dX0_comersTo_65 ?_
          refine lv_iload hx hb dX0_comersTo_68 (lv_at hl 2 rfl) ?_
          obtain ⟨c4, hf⟩ := ck_some hf
          refine va_iald hx hb hK hP 5 0 rfl rfl c4 dX0_comersTo_70 ?_
          refine lv_icmp_ne (tgt := 77) hx hb dX0_comersTo_71 (by decide) (fun c5 => ?_) (fun c5 => ?_)
          · have hf := if_f hf c5
            exact hJ77 x.1 x.2 _ _ _ hf hP hD hS (lv_sub hl [0, 1, 2, 3, 4] rfl)
          · have hf := if_t hf c5
            refine lv_iinc (v := (x.1 + (1 : Int32))) (lv' := [(5, .int (x.1 + (1 : Int32))), (0, .ref (qC 0)), (3, .int a3), (4, .int x4), (6, .int x.2)]) hx hb dX0_comersTo_74 hl (k := 3) rfl rfl (by decide) rfl (fun ls hl => ?_)
            exact hJ77 (x.1 + (1 : Int32)) x.2 _ _ _ hf hP hD hS (lv_sub hl [1, 2, 3, 0, 4] rfl)
  have hJ33 : ∀ (H : Heap) (locs : List Loc) (ls : Array Slot), f_X0_comersTo_J33 F = some res → va_P D vwCl (gC cy qC uC (qG 0) (qS 0) c_step c_stamp c_homes c_size c_n_leasts c_leasts c_n_lengths c_lengths c_n_firstBy c_firstBy c_n_order c_order) H → va_D A (gC cy qC uC (qG 0) (qS 0) c_step c_stamp c_homes c_size c_n_leasts c_leasts c_n_lengths c_lengths c_n_firstBy c_firstBy c_n_order c_order) → va_S A s.heap H locs → lv_has ls 7 [] → W p l e0 rmX0_comersTo s m ar below meth c H locs 0 0 Q (F0 m 33 ls []) := by
    intro H locs ls hf hP hD hS hl
    unfold f_X0_comersTo_J33 at hf
    refine lv_iconst (v := (0 : Int32)) hx hb dX0_comersTo_33 (by decide) ?_
    obtain rfl := Option.some.inj hf
    exact hQ () 34 _ _ _ dX0_comersTo_34 hP hD hS
  refine lv_aload_n hx hb dX0_comersTo_0 rfl (lv_at hl 0 rfl) ?_
  refine lv_lload_n hx hb dX0_comersTo_1 rfl (lv_at hl 1 rfl) ?_
  obtain ⟨r6, hc7, hf⟩ := ob_some hf
  refine kc_i (k_run ⟨hx, hb, hml, hown, hts⟩ (c_X0_rankOf hc7) (cwV 1 hts gX0_comersTo_X0_rankOf rfl rfl rfl (by decide +kernel) ⟨Nat.le_of_ble_eq_true rfl, Nat.le_of_ble_eq_true rfl⟩) hK hN hP hD kA_s (ci := 0) (q0 := 0) rfl rfl rfl rfl hl.1 rfl (Nat.le_of_ble_eq_true rfl) dX0_comersTo_2 ⟨Nat.le_of_ble_eq_true rfl, Nat.le_of_ble_eq_true rfl⟩) hP hD hS hA kI_s (fun _ H locs hP hD hS => ?_)
  refine lv_istore (lv' := [(4, .int r6), (0, .ref (qC 0)), (1, .long a1), (3, .int a3)]) hx hb dX0_comersTo_5 hl (by decide) rfl (fun ls hl => ?_)
  refine lv_iload hx hb dX0_comersTo_7 (lv_at hl 0 rfl) ?_
  refine lv_aload_n hx hb dX0_comersTo_9 rfl (lv_at hl 1 rfl) ?_
  refine va_get (D := D) (ci := 0) (C := RX0) (T := TX0) (N := 10) hx hb hts huX0 hown hK hP 0 rfl rfl 5 (by decide) fk19 (fun _ h9 => h9) rfl dX0_comersTo_10 ?_
  refine lv_icmp_ge (tgt := 33) hx hb dX0_comersTo_13 (by decide) (fun c8 => ?_) (fun c8 => ?_)
  · have hf := if_t hf c8
    exact hJ33 _ _ _ hf hP hD hS (lv_sub hl [] rfl)
  · have hf := if_f hf c8
    refine lv_aload_n hx hb dX0_comersTo_16 rfl (lv_at hl 1 rfl) ?_
    refine va_get (v := .ref (uC 0)) (D := D) (ci := 0) (C := RX0) (T := TX0) (N := 10) hx hb hts huX0 hown hK hP 0 rfl rfl 6 (by decide) fk22 (fun _ h9 => h9) rfl dX0_comersTo_17 ?_
    refine lv_aload_n hx hb dX0_comersTo_20 rfl (lv_at hl 1 rfl) ?_
    refine va_get (v := .ref (uC 3)) (D := D) (ci := 0) (C := RX0) (T := TX0) (N := 10) hx hb hts huX0 hown hK hP 0 rfl rfl 9 (by decide) fk32 (fun _ h9 => h9) rfl dX0_comersTo_21 ?_
    refine lv_iload hx hb dX0_comersTo_24 (lv_at hl 0 rfl) ?_
    obtain ⟨c9, hf⟩ := ck_some hf
    refine va_iald hx hb hK hP 5 0 rfl rfl c9 dX0_comersTo_26 ?_
    obtain ⟨c10, hf⟩ := ck_some hf
    refine va_lald hx hb hK hP 2 1 rfl rfl c10 dX0_comersTo_27 ?_
    refine lv_lload_n hx hb dX0_comersTo_28 rfl (lv_at hl 2 rfl) ?_
    refine kl_eq (tgt := 35) hx hb dX0_comersTo_29 dX0_comersTo_30 (by decide) (fun c11 => ?_) (fun c11 => ?_)
    · have hf := if_t hf c11
      refine lv_iconst (v := (0 : Int32)) hx hb dX0_comersTo_35 (by decide) ?_
      refine lv_istore (lv' := [(5, .int (0 : Int32)), (4, .int r6), (0, .ref (qC 0)), (1, .long a1), (3, .int a3)]) hx hb dX0_comersTo_36 hl (by decide) rfl (fun ls hl => ?_)
      refine lv_iconst (v := (0 : Int32)) hx hb dX0_comersTo_38 (by decide) ?_
      refine lv_istore (lv' := [(6, .int (0 : Int32)), (5, .int (0 : Int32)), (4, .int r6), (0, .ref (qC 0)), (1, .long a1), (3, .int a3)]) hx hb dX0_comersTo_39 hl (by decide) rfl (fun ls hl => ?_)
      obtain ⟨ex12, hcl, hf⟩ := ob_some hf
      refine hL41 r6 F ((0 : Int32), (0 : Int32)) ex12 _ _ _ hcl (fun H locs ls hP hD hS hl => ?_) hP hD hS (lv_sub hl [3, 5, 2, 1, 0] rfl)
      refine lv_iload hx hb dX0_comersTo_83 (lv_at hl 0 rfl) ?_
      obtain rfl := Option.some.inj hf
      exact hQ () 85 _ _ _ dX0_comersTo_85 hP hD hS
    · have hf := if_f hf c11
      exact hJ33 _ _ _ hf hP hD hS (lv_sub hl [] rfl)
