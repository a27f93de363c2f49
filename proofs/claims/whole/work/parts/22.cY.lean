/-! the class: functions and contracts -/
def f_X9_leastWithTail_Y_B2 (F : Nat) (a1 : Int32) (a2 : Int32) (y_tails : Nat → Int32) (rec : Int32 → Option ((Int32) ⊕ (Unit))) (x : Int32) : Option ((Int32) ⊕ (Unit)) := if a2 < x then (some (.inr ())) else (if (3001 : Int32) ≤ x then (some (.inr ())) else (ck (¬ (x < 0 ∨ 3001 ≤ x.toNatClampNeg)) (if (y_tails x.toNatClampNeg) = a1 then (some (.inl x)) else (rec (x + (1 : Int32))))))
def f_X9_leastWithTail_Y (F : Nat) (a1 : Int32) (a2 : Int32) (y_tails : Nat → Int32) : Option (Int32) := (lp (f_X9_leastWithTail_Y_B2 F a1 a2 y_tails) F (0 : Int32)).bind (fun ex5 => Sum.elim (fun r => some r) (fun er6 => some (-4 : Int32)) ex5)
abbrev rmX9_leastWithTail_Y : Room := { frames := 0, cells := 0, slots := 0, locals := 0 }
set_option maxHeartbeats 1000000 in
set_option maxRecDepth 100000 in
theorem c_X9_leastWithTail_Y {l : Launch} {D : va_G} {cy : Nat → ClassId} {qY : Nat → Nat} {qG : Nat → Nat} {qP : Nat → Nat} {qC : Nat → Nat} {y_step : Int32} {y_tails : Nat → Int32} {y_known : Int32} {y_version : Int32} {a1 : Int32} {a2 : Int32} {F : Nat} {res : Int32} (hf : f_X9_leastWithTail_Y F a1 a2 y_tails = some res) : kM l yX9_leastWithTail wsX9_leastWithTail rmX9_leastWithTail_Y D cy [.ref (qY 0), .int a1, .int a2] (gY cy qY (qG 0) (qP 0) (qC 0) y_step y_tails y_known y_version) (kQi D cy (fun _ : Unit => gY cy qY (qG 0) (qP 0) (qC 0) y_step y_tails y_known y_version) res) := by
  refine kent_i (cc := cX9_leastWithTail) (maxL := 4) (by decide) rfl (Nat.le_of_ble_eq_true rfl) ?_
  intro p e0 s m ar below meth c A Q ls ⟨hx, hb, hml, hr, hts, hown, hlocks, hnm⟩ hA hK hN hQ hP hD hS hl
  have hl : lv_has ls 4 [(0, .ref (qY 0)), (1, .int a1), (2, .int a2)] := hl
  have hown : s.vm.findClass RX9 = some m.cls := hown
  have huX9 : ∀ x ∈ u_ws RX9 TX9 7, x ∈ wsX9_leastWithTail := by decide +kernel
  have fk9 : (Cond.fieldLink RX9 9 "FigurePlay$Ways" "tails" "[I").before ar s = true := hts _ (by decide +kernel)
  unfold f_X9_leastWithTail_Y at hf
  have hL2 : ∀ (k : Nat) (x : Int32) (ex : (Int32) ⊕ (Unit)) (H : Heap) (locs : List Loc) (ls : Array Slot), lp (f_X9_leastWithTail_Y_B2 F a1 a2 y_tails) k x = some ex → (∀ r, ex = .inl r → r = res) → (∀ er, ex = .inr er → ∀ (H : Heap) (locs : List Loc) (ls : Array Slot), va_P D vwCl (gY cy qY (qG 0) (qP 0) (qC 0) y_step y_tails y_known y_version) H → va_D A (gY cy qY (qG 0) (qP 0) (qC 0) y_step y_tails y_known y_version) → va_S A s.heap H locs → lv_has ls 4 [] → W p l e0 rmX9_leastWithTail_Y s m ar below meth c H locs 0 0 Q (F0 m 34 ls [])) → va_P D vwCl (gY cy qY (qG 0) (qP 0) (qC 0) y_step y_tails y_known y_version) H → va_D A (gY cy qY (qG 0) (qP 0) (qC 0) y_step y_tails y_known y_version) → va_S A s.heap H locs → lv_has ls 4 [(0, .ref (qY 0)), (1, .int a1), (2, .int a2), (3, .int x)] → W p l e0 rmX9_leastWithTail_Y s m ar below meth c H locs 0 0 Q (F0 m 2 ls []) := by
    intro k
    induction k with
    | zero => intro x ex H locs ls hf; exact no_some hf
    | succ k ih =>
      intro x ex H locs ls hf hret hex hP hD hS hl
      have hf : f_X9_leastWithTail_Y_B2 F a1 a2 y_tails (lp (f_X9_leastWithTail_Y_B2 F a1 a2 y_tails) k) x = some ex := hf
      unfold f_X9_leastWithTail_Y_B2 at hf
      refine lv_iload_n hx hb dX9_leastWithTail_2 rfl (lv_at hl 3 rfl) ?_
      refine lv_iload_n hx hb dX9_leastWithTail_3 rfl (lv_at hl 2 rfl) ?_
      refine lv_icmp_gt (tgt := 34) hx hb dX9_leastWithTail_4 (by decide) (fun c1 => ?_) (fun c1 => ?_)
      · have hf := if_t hf c1
        obtain rfl := Option.some.inj hf
        exact hex _ rfl _ _ _ hP hD hS (lv_sub hl [] rfl)
      · have hf := if_f hf c1
        refine lv_iload_n hx hb dX9_leastWithTail_7 rfl (lv_at hl 3 rfl) ?_
        refine lv_aload_n hx hb dX9_leastWithTail_8 rfl (lv_at hl 0 rfl) ?_
        refine va_get (v := .ref (qY 1)) (D := D) (ci := 9) (C := RX9) (T := TX9) (N := 7) hx hb hts huX9 hown hK hP 0 rfl rfl 4 (by decide) fk9 (fun _ h9 => h9) rfl dX9_leastWithTail_9 ?_
        refine va_alen (v := (3001 : Int32)) hx hb hK hP 1 0 rfl rfl rfl dX9_leastWithTail_12 ?_
        refine lv_icmp_ge (tgt := 34) hx hb dX9_leastWithTail_13 (by decide) (fun c2 => ?_) (fun c2 => ?_)
        · have hf := if_t hf c2
          obtain rfl := Option.some.inj hf
          exact hex _ rfl _ _ _ hP hD hS (lv_sub hl [] rfl)
        · have hf := if_f hf c2
          refine lv_aload_n hx hb dX9_leastWithTail_16 rfl (lv_at hl 0 rfl) ?_
          refine va_get (v := .ref (qY 1)) (D := D) (ci := 9) (C := RX9) (T := TX9) (N := 7) hx hb hts huX9 hown hK hP 0 rfl rfl 4 (by decide) fk9 (fun _ h9 => h9) rfl dX9_leastWithTail_17 ?_
          refine lv_iload_n hx hb dX9_leastWithTail_20 rfl (lv_at hl 3 rfl) ?_
          obtain ⟨c3, hf⟩ := ck_some hf
          refine va_iald hx hb hK hP 1 0 rfl rfl c3 dX9_leastWithTail_21 ?_
          refine lv_iload_n hx hb dX9_leastWithTail_22 rfl (lv_at hl 1 rfl) ?_
          refine lv_icmp_ne (tgt := 28) hx hb dX9_leastWithTail_23 (by decide) (fun c4 => ?_) (fun c4 => ?_)
          · have hf := if_f hf c4
            refine lv_iinc (v := (x + (1 : Int32))) (lv' := [(3, .int (x + (1 : Int32))), (0, .ref (qY 0)), (1, .int a1), (2, .int a2)]) hx hb dX9_leastWithTail_28 hl (k := 3) rfl rfl (by decide) rfl (fun ls hl => ?_)
            refine lv_goto (tgt := 2) hx hb dX9_leastWithTail_31 (by decide) ?_
            exact ih (x + (1 : Int32)) ex _ _ _ hf hret hex hP hD hS (lv_sub hl [1, 2, 3, 0] rfl)
          · have hf := if_t hf c4
            refine lv_iload_n hx hb dX9_leastWithTail_26 rfl (lv_at hl 3 rfl) ?_
            obtain rfl := Option.some.inj hf
            obtain rfl := hret _ rfl
            exact hQ () 27 _ _ _ dX9_leastWithTail_27 hP hD hS
  refine lv_iconst (v := (0 : Int32)) hx hb dX9_leastWithTail_0 (by decide) ?_
  refine lv_istore_n (lv' := [(3, .int (0 : Int32)), (0, .ref (qY 0)), (1, .int a1), (2, .int a2)]) hx hb dX9_leastWithTail_1 rfl hl (by decide) rfl (fun ls hl => ?_)
  obtain ⟨ex5, hcl, hf⟩ := ob_some hf
  refine hL2 F (0 : Int32) ex5 _ _ _ hcl (fun r hr0 => ?_) (fun er6 hr0 H locs ls hP hD hS hl => ?_) hP hD hS (lv_sub hl [1, 2, 3, 0] rfl)
  · subst hr0; exact Option.some.inj (sm_inl hf)
  · subst hr0
    have hf := sm_inr hf
    refine lv_bipush (v := (-4 : Int32)) hx hb dX9_leastWithTail_34 (by decide) ?_
    obtain rfl := Option.some.inj hf
    exact hQ () 36 _ _ _ dX9_leastWithTail_36 hP hD hS
def f_X9_withLongestTail_Y_J45 (F : Nat) (rec : (Int32 × Int32 × Int32) → Option (Int32)) (x2 : Int32) (x3 : Int32) (x4 : Int32) : Option (Int32) := rec (x2, x3, (x4 + (1 : Int32)))
def f_X9_withLongestTail_Y_B7 (F : Nat) (a1 : Int32) (y_tails : Nat → Int32) (rec : Int32 × Int32 × Int32 → Option (Int32)) (x : Int32 × Int32 × Int32) : Option (Int32) := if a1 < x.2.2 then (some x.1) else (if (3001 : Int32) ≤ x.2.2 then (some x.1) else (ck (¬ (x.2.2 < 0 ∨ 3001 ≤ x.2.2.toNatClampNeg)) (if (y_tails x.2.2.toNatClampNeg) ≤ x.2.1 then (f_X9_withLongestTail_Y_J45 F rec x.1 x.2.1 x.2.2) else (ck (¬ (x.2.2 < 0 ∨ 3001 ≤ x.2.2.toNatClampNeg)) (f_X9_withLongestTail_Y_J45 F rec x.2.2 (y_tails x.2.2.toNatClampNeg) x.2.2)))))
def f_X9_withLongestTail_Y (F : Nat) (a1 : Int32) (y_tails : Nat → Int32) : Option (Int32) := (lp (f_X9_withLongestTail_Y_B7 F a1 y_tails) F ((-1 : Int32), (-1 : Int32), (0 : Int32))).bind (fun ex6 => some ex6)
abbrev rmX9_withLongestTail_Y : Room := { frames := 0, cells := 0, slots := 0, locals := 0 }
set_option maxHeartbeats 1000000 in
set_option maxRecDepth 100000 in
theorem c_X9_withLongestTail_Y {l : Launch} {D : va_G} {cy : Nat → ClassId} {qY : Nat → Nat} {qG : Nat → Nat} {qP : Nat → Nat} {qC : Nat → Nat} {y_step : Int32} {y_tails : Nat → Int32} {y_known : Int32} {y_version : Int32} {a1 : Int32} {F : Nat} {res : Int32} (hf : f_X9_withLongestTail_Y F a1 y_tails = some res) : kM l yX9_withLongestTail wsX9_withLongestTail rmX9_withLongestTail_Y D cy [.ref (qY 0), .int a1] (gY cy qY (qG 0) (qP 0) (qC 0) y_step y_tails y_known y_version) (kQi D cy (fun _ : Unit => gY cy qY (qG 0) (qP 0) (qC 0) y_step y_tails y_known y_version) res) := by
  refine kent_i (cc := cX9_withLongestTail) (maxL := 5) (by decide) rfl (Nat.le_of_ble_eq_true rfl) ?_
  intro p e0 s m ar below meth c A Q ls ⟨hx, hb, hml, hr, hts, hown, hlocks, hnm⟩ hA hK hN hQ hP hD hS hl
  have hl : lv_has ls 5 [(0, .ref (qY 0)), (1, .int a1)] := hl
  have hown : s.vm.findClass RX9 = some m.cls := hown
  have huX9 : ∀ x ∈ u_ws RX9 TX9 7, x ∈ wsX9_withLongestTail := by decide +kernel
  have fk9 : (Cond.fieldLink RX9 9 "FigurePlay$Ways" "tails" "[I").before ar s = true := hts _ (by decide +kernel)
  unfold f_X9_withLongestTail_Y at hf
  have hL7 : ∀ (k : Nat) (x : Int32 × Int32 × Int32) (ex : Int32) (H : Heap) (locs : List Loc) (ls : Array Slot), lp (f_X9_withLongestTail_Y_B7 F a1 y_tails) k x = some ex → (∀ (H : Heap) (locs : List Loc) (ls : Array Slot), va_P D vwCl (gY cy qY (qG 0) (qP 0) (qC 0) y_step y_tails y_known y_version) H → va_D A (gY cy qY (qG 0) (qP 0) (qC 0) y_step y_tails y_known y_version) → va_S A s.heap H locs → lv_has ls 5 [(2, .int ex)] → W p l e0 rmX9_withLongestTail_Y s m ar below meth c H locs 0 0 Q (F0 m 51 ls [])) → va_P D vwCl (gY cy qY (qG 0) (qP 0) (qC 0) y_step y_tails y_known y_version) H → va_D A (gY cy qY (qG 0) (qP 0) (qC 0) y_step y_tails y_known y_version) → va_S A s.heap H locs → lv_has ls 5 [(0, .ref (qY 0)), (1, .int a1), (2, .int x.1), (3, .int x.2.1), (4, .int x.2.2)] → W p l e0 rmX9_withLongestTail_Y s m ar below meth c H locs 0 0 Q (F0 m 7 ls []) := by
    intro k
    induction k with
    | zero => intro x ex H locs ls hf; exact no_some hf
    | succ k ih =>
      intro x ex H locs ls hf hex hP hD hS hl
      have hf : f_X9_withLongestTail_Y_B7 F a1 y_tails (lp (f_X9_withLongestTail_Y_B7 F a1 y_tails) k) x = some ex := hf
      unfold f_X9_withLongestTail_Y_B7 at hf
      have hJ45 : ∀ (x2 : Int32) (x3 : Int32) (x4 : Int32) (H : Heap) (locs : List Loc) (ls : Array Slot), f_X9_withLongestTail_Y_J45 F (lp (f_X9_withLongestTail_Y_B7 F a1 y_tails) k) x2 x3 x4 = some ex → va_P D vwCl (gY cy qY (qG 0) (qP 0) (qC 0) y_step y_tails y_known y_version) H → va_D A (gY cy qY (qG 0) (qP 0) (qC 0) y_step y_tails y_known y_version) → va_S A s.heap H locs → lv_has ls 5 [(0, .ref (qY 0)), (1, .int a1), (2, .int x2), (3, .int x3), (4, .int x4)] → W p l e0 rmX9_withLongestTail_Y s m ar below meth c H locs 0 0 Q (F0 m 45 ls []) := by
        intro x2 x3 x4 H locs ls hf hP hD hS hl
        unfold f_X9_withLongestTail_Y_J45 at hf
        refine lv_iinc (v := (x4 + (1 : Int32))) (lv' := [(4, .int (x4 + (1 : Int32))), (0, .ref (qY 0)), (1, .int a1), (2, .int x2), (3, .int x3)]) hx hb dX9_withLongestTail_45 hl (k := 4) rfl rfl (by decide) rfl (fun ls hl => ?_)
        refine lv_goto (tgt := 7) hx hb dX9_withLongestTail_48 (by decide) ?_
        exact ih (x2, x3, (x4 + (1 : Int32))) ex _ _ _ hf hex hP hD hS (lv_sub hl [1, 2, 3, 4, 0] rfl)
      refine lv_iload hx hb dX9_withLongestTail_7 (lv_at hl 4 rfl) ?_
      refine lv_iload_n hx hb dX9_withLongestTail_9 rfl (lv_at hl 1 rfl) ?_
      refine lv_icmp_gt (tgt := 51) hx hb dX9_withLongestTail_10 (by decide) (fun c1 => ?_) (fun c1 => ?_)
      · have hf := if_t hf c1
        obtain rfl := Option.some.inj hf
        exact hex _ _ _ hP hD hS (lv_sub hl [2] rfl)
      · have hf := if_f hf c1
        refine lv_iload hx hb dX9_withLongestTail_13 (lv_at hl 4 rfl) ?_
        refine lv_aload_n hx hb dX9_withLongestTail_15 rfl (lv_at hl 0 rfl) ?_
        refine va_get (v := .ref (qY 1)) (D := D) (ci := 9) (C := RX9) (T := TX9) (N := 7) hx hb hts huX9 hown hK hP 0 rfl rfl 4 (by decide) fk9 (fun _ h9 => h9) rfl dX9_withLongestTail_16 ?_
        refine va_alen (v := (3001 : Int32)) hx hb hK hP 1 0 rfl rfl rfl dX9_withLongestTail_19 ?_
        refine lv_icmp_ge (tgt := 51) hx hb dX9_withLongestTail_20 (by decide) (fun c2 => ?_) (fun c2 => ?_)
        · have hf := if_t hf c2
          obtain rfl := Option.some.inj hf
          exact hex _ _ _ hP hD hS (lv_sub hl [2] rfl)
        · have hf := if_f hf c2
          refine lv_aload_n hx hb dX9_withLongestTail_23 rfl (lv_at hl 0 rfl) ?_
          refine va_get (v := .ref (qY 1)) (D := D) (ci := 9) (C := RX9) (T := TX9) (N := 7) hx hb hts huX9 hown hK hP 0 rfl rfl 4 (by decide) fk9 (fun _ h9 => h9) rfl dX9_withLongestTail_24 ?_
          refine lv_iload hx hb dX9_withLongestTail_27 (lv_at hl 4 rfl) ?_
          obtain ⟨c3, hf⟩ := ck_some hf
          refine va_iald hx hb hK hP 1 0 rfl rfl c3 dX9_withLongestTail_29 ?_
          refine lv_iload_n hx hb dX9_withLongestTail_30 rfl (lv_at hl 3 rfl) ?_
          refine lv_icmp_le (tgt := 45) hx hb dX9_withLongestTail_31 (by decide) (fun c4 => ?_) (fun c4 => ?_)
          · have hf := if_t hf c4
            exact hJ45 x.1 x.2.1 x.2.2 _ _ _ hf hP hD hS (lv_sub hl [0, 1, 2, 3, 4] rfl)
          · have hf := if_f hf c4
            refine lv_aload_n hx hb dX9_withLongestTail_34 rfl (lv_at hl 0 rfl) ?_
            refine va_get (v := .ref (qY 1)) (D := D) (ci := 9) (C := RX9) (T := TX9) (N := 7) hx hb hts huX9 hown hK hP 0 rfl rfl 4 (by decide) fk9 (fun _ h9 => h9) rfl dX9_withLongestTail_35 ?_
            refine lv_iload hx hb dX9_withLongestTail_38 (lv_at hl 4 rfl) ?_
            obtain ⟨c5, hf⟩ := ck_some hf
            refine va_iald hx hb hK hP 1 0 rfl rfl c5 dX9_withLongestTail_40 ?_
            refine lv_istore_n (lv' := [(3, .int (y_tails x.2.2.toNatClampNeg)), (0, .ref (qY 0)), (1, .int a1), (2, .int x.1), (4, .int x.2.2)]) hx hb dX9_withLongestTail_41 rfl hl (by decide) rfl (fun ls hl => ?_)
            refine lv_iload hx hb dX9_withLongestTail_42 (lv_at hl 4 rfl) ?_
            refine lv_istore_n (lv' := [(2, .int x.2.2), (3, .int (y_tails x.2.2.toNatClampNeg)), (0, .ref (qY 0)), (1, .int a1), (4, .int x.2.2)]) hx hb dX9_withLongestTail_44 rfl hl (by decide) rfl (fun ls hl => ?_)
            exact hJ45 x.2.2 (y_tails x.2.2.toNatClampNeg) x.2.2 _ _ _ hf hP hD hS (lv_sub hl [2, 3, 0, 1, 4] rfl)
  refine lv_iconst (v := (-1 : Int32)) hx hb dX9_withLongestTail_0 (by decide) ?_
  refine lv_istore_n (lv' := [(2, .int (-1 : Int32)), (0, .ref (qY 0)), (1, .int a1)]) hx hb dX9_withLongestTail_1 rfl hl (by decide) rfl (fun ls hl => ?_)
  refine lv_iconst (v := (-1 : Int32)) hx hb dX9_withLongestTail_2 (by decide) ?_
  refine lv_istore_n (lv' := [(3, .int (-1 : Int32)), (2, .int (-1 : Int32)), (0, .ref (qY 0)), (1, .int a1)]) hx hb dX9_withLongestTail_3 rfl hl (by decide) rfl (fun ls hl => ?_)
  refine lv_iconst (v := (0 : Int32)) hx hb dX9_withLongestTail_4 (by decide) ?_
  refine lv_istore (lv' := [(4, .int (0 : Int32)), (3, .int (-1 : Int32)), (2, .int (-1 : Int32)), (0, .ref (qY 0)), (1, .int a1)]) hx hb dX9_withLongestTail_5 hl (by decide) rfl (fun ls hl => ?_)
  obtain ⟨ex6, hcl, hf⟩ := ob_some hf
  refine hL7 F ((-1 : Int32), (-1 : Int32), (0 : Int32)) ex6 _ _ _ hcl (fun H locs ls hP hD hS hl => ?_) hP hD hS (lv_sub hl [3, 4, 2, 1, 0] rfl)
  refine lv_iload_n hx hb dX9_withLongestTail_51 rfl (lv_at hl 0 rfl) ?_
  obtain rfl := Option.some.inj hf
  exact hQ () 52 _ _ _ dX9_withLongestTail_52 hP hD hS
def f_X9_lostAt_Y_J43 (F : Nat) (rec : (Int32 × Int32) → Option ((Int32) ⊕ (Int32))) (x3 : Int32) (x4 : Int32) : Option ((Int32) ⊕ (Int32)) := rec (x3, (x4 + (1 : Int32)))
def f_X9_lostAt_Y_B5 (F : Nat) (a1 : Int32) (a2 : Int32) (y_tails : Nat → Int32) (rec : Int32 × Int32 → Option ((Int32) ⊕ (Int32))) (x : Int32 × Int32) : Option ((Int32) ⊕ (Int32)) := if a1 < x.2 then (some (.inr x.1)) else (if (3001 : Int32) ≤ x.2 then (some (.inr x.1)) else (ck (¬ (x.2 < 0 ∨ 3001 ≤ x.2.toNatClampNeg)) (if (y_tails x.2.toNatClampNeg) = (-1 : Int32) then (if x.1 = a2 then (some (.inl x.2)) else (f_X9_lostAt_Y_J43 F rec (x.1 + (1 : Int32)) x.2)) else (f_X9_lostAt_Y_J43 F rec x.1 x.2))))
def f_X9_lostAt_Y (F : Nat) (a1 : Int32) (a2 : Int32) (y_tails : Nat → Int32) : Option (Int32) := (lp (f_X9_lostAt_Y_B5 F a1 a2 y_tails) F ((0 : Int32), (0 : Int32))).bind (fun ex6 => Sum.elim (fun r => some r) (fun er7 => (f_X10_countOrNone F a2 er7).bind (fun r8 => some r8)) ex6)
abbrev rmX9_lostAt_Y : Room := { frames := 1, cells := 0, slots := 0, locals := 21 }
set_option maxHeartbeats 1000000 in
set_option maxRecDepth 100000 in
theorem c_X9_lostAt_Y {l : Launch} {D : va_G} {cy : Nat → ClassId} {qY : Nat → Nat} {qG : Nat → Nat} {qP : Nat → Nat} {qC : Nat → Nat} {y_step : Int32} {y_tails : Nat → Int32} {y_known : Int32} {y_version : Int32} {a1 : Int32} {a2 : Int32} {F : Nat} {res : Int32} (hf : f_X9_lostAt_Y F a1 a2 y_tails = some res) : kM l yX9_lostAt wsX9_lostAt rmX9_lostAt_Y D cy [.ref (qY 0), .int a1, .int a2] (gY cy qY (qG 0) (qP 0) (qC 0) y_step y_tails y_known y_version) (kQi D cy (fun _ : Unit => gY cy qY (qG 0) (qP 0) (qC 0) y_step y_tails y_known y_version) res) := by
  refine kent_i (cc := cX9_lostAt) (maxL := 5) (by decide) rfl (Nat.le_of_ble_eq_true rfl) ?_
  intro p e0 s m ar below meth c A Q ls ⟨hx, hb, hml, hr, hts, hown, hlocks, hnm⟩ hA hK hN hQ hP hD hS hl
  have hl : lv_has ls 5 [(0, .ref (qY 0)), (1, .int a1), (2, .int a2)] := hl
  have hown : s.vm.findClass RX9 = some m.cls := hown
  have huX9 : ∀ x ∈ u_ws RX9 TX9 7, x ∈ wsX9_lostAt := by decide +kernel
  have fk9 : (Cond.fieldLink RX9 9 "FigurePlay$Ways" "tails" "[I").before ar s = true := hts _ (by decide +kernel)
  unfold f_X9_lostAt_Y at hf
  have hL5 : ∀ (k : Nat) (x : Int32 × Int32) (ex : (Int32) ⊕ (Int32)) (H : Heap) (locs : List Loc) (ls : Array Slot), lp (f_X9_lostAt_Y_B5 F a1 a2 y_tails) k x = some ex → (∀ r, ex = .inl r → r = res) → (∀ er, ex = .inr er → ∀ (H : Heap) (locs : List Loc) (ls : Array Slot), va_P D vwCl (gY cy qY (qG 0) (qP 0) (qC 0) y_step y_tails y_known y_version) H → va_D A (gY cy qY (qG 0) (qP 0) (qC 0) y_step y_tails y_known y_version) → va_S A s.heap H locs → lv_has ls 5 [(2, .int a2), (3, .int er)] → W p l e0 rmX9_lostAt_Y s m ar below meth c H locs 0 0 Q (F0 m 49 ls [])) → va_P D vwCl (gY cy qY (qG 0) (qP 0) (qC 0) y_step y_tails y_known y_version) H → va_D A (gY cy qY (qG 0) (qP 0) (qC 0) y_step y_tails y_known y_version) → va_S A s.heap H locs → lv_has ls 5 [(0, .ref (qY 0)), (1, .int a1), (2, .int a2), (3, .int x.1), (4, .int x.2)] → W p l e0 rmX9_lostAt_Y s m ar below meth c H locs 0 0 Q (F0 m 5 ls []) := by
    intro k
    induction k with
    | zero => intro x ex H locs ls hf; exact no_some hf
    | succ k ih =>
      intro x ex H locs ls hf hret hex hP hD hS hl
      have hf : f_X9_lostAt_Y_B5 F a1 a2 y_tails (lp (f_X9_lostAt_Y_B5 F a1 a2 y_tails) k) x = some ex := hf
      unfold f_X9_lostAt_Y_B5 at hf
      have hJ43 : ∀ (x3 : Int32) (x4 : Int32) (H : Heap) (locs : List Loc) (ls : Array Slot), f_X9_lostAt_Y_J43 F (lp (f_X9_lostAt_Y_B5 F a1 a2 y_tails) k) x3 x4 = some ex → va_P D vwCl (gY cy qY (qG 0) (qP 0) (qC 0) y_step y_tails y_known y_version) H → va_D A (gY cy qY (qG 0) (qP 0) (qC 0) y_step y_tails y_known y_version) → va_S A s.heap H locs → lv_has ls 5 [(0, .ref (qY 0)), (1, .int a1), (2, .int a2), (3, .int x3), (4, .int x4)] → W p l e0 rmX9_lostAt_Y s m ar below meth c H locs 0 0 Q (F0 m 43 ls []) := by
        intro x3 x4 H locs ls hf hP hD hS hl
        unfold f_X9_lostAt_Y_J43 at hf
        refine lv_iinc (v := (x4 + (1 : Int32))) (lv' := [(4, .int (x4 + (1 : Int32))), (0, .ref (qY 0)), (1, .int a1), (2, .int a2), (3, .int x3)]) hx hb dX9_lostAt_43 hl (k := 4) rfl rfl (by decide) rfl (fun ls hl => ?_)
        refine lv_goto (tgt := 5) hx hb dX9_lostAt_46 (by decide) ?_
        exact ih (x3, (x4 + (1 : Int32))) ex _ _ _ hf hret hex hP hD hS (lv_sub hl [1, 2, 3, 4, 0] rfl)
      refine lv_iload hx hb dX9_lostAt_5 (lv_at hl 4 rfl) ?_
      refine lv_iload_n hx hb dX9_lostAt_7 rfl (lv_at hl 1 rfl) ?_
      refine lv_icmp_gt (tgt := 49) hx hb dX9_lostAt_8 (by decide) (fun c1 => ?_) (fun c1 => ?_)
      · have hf := if_t hf c1
        obtain rfl := Option.some.inj hf
        exact hex _ rfl _ _ _ hP hD hS (lv_sub hl [2, 3] rfl)
      · have hf := if_f hf c1
        refine lv_iload hx hb dX9_lostAt_11 (lv_at hl 4 rfl) ?_
        refine lv_aload_n hx hb dX9_lostAt_13 rfl (lv_at hl 0 rfl) ?_
        refine va_get (v := .ref (qY 1)) (D := D) (ci := 9) (C := RX9) (T := TX9) (N := 7) hx hb hts huX9 hown hK hP 0 rfl rfl 4 (by decide) fk9 (fun _ h9 => h9) rfl dX9_lostAt_14 ?_
        refine va_alen (v := (3001 : Int32)) hx hb hK hP 1 0 rfl rfl rfl dX9_lostAt_17 ?_
        refine lv_icmp_ge (tgt := 49) hx hb dX9_lostAt_18 (by decide) (fun c2 => ?_) (fun c2 => ?_)
        · have hf := if_t hf c2
          obtain rfl := Option.some.inj hf
          exact hex _ rfl _ _ _ hP hD hS (lv_sub hl [2, 3] rfl)
        · have hf := if_f hf c2
          refine lv_aload_n hx hb dX9_lostAt_21 rfl (lv_at hl 0 rfl) ?_
          refine va_get (v := .ref (qY 1)) (D := D) (ci := 9) (C := RX9) (T := TX9) (N := 7) hx hb hts huX9 hown hK hP 0 rfl rfl 4 (by decide) fk9 (fun _ h9 => h9) rfl dX9_lostAt_22 ?_
          refine lv_iload hx hb dX9_lostAt_25 (lv_at hl 4 rfl) ?_
          obtain ⟨c3, hf⟩ := ck_some hf
          refine va_iald hx hb hK hP 1 0 rfl rfl c3 dX9_lostAt_27 ?_
          refine lv_iconst (v := (-1 : Int32)) hx hb dX9_lostAt_28 (by decide) ?_
          refine lv_icmp_ne (tgt := 43) hx hb dX9_lostAt_29 (by decide) (fun c4 => ?_) (fun c4 => ?_)
          · have hf := if_f hf c4
            exact hJ43 x.1 x.2 _ _ _ hf hP hD hS (lv_sub hl [0, 1, 2, 3, 4] rfl)
          · have hf := if_t hf c4
            refine lv_iload_n hx hb dX9_lostAt_32 rfl (lv_at hl 3 rfl) ?_
            refine lv_iload_n hx hb dX9_lostAt_33 rfl (lv_at hl 2 rfl) ?_
            refine lv_icmp_ne (tgt := 40) hx hb dX9_lostAt_34 (by decide) (fun c5 => ?_) (fun c5 => ?_)
            · have hf := if_f hf c5
              refine lv_iinc (v := (x.1 + (1 : Int32))) (lv' := [(3, .int (x.1 + (1 : Int32))), (0, .ref (qY 0)), (1, .int a1), (2, .int a2), (4, .int x.2)]) hx hb dX9_lostAt_40 hl (k := 3) rfl rfl (by decide) rfl (fun ls hl => ?_)
              exact hJ43 (x.1 + (1 : Int32)) x.2 _ _ _ hf hP hD hS (lv_sub hl [1, 2, 3, 0, 4] rfl)
            · have hf := if_t hf c5
              refine lv_iload hx hb dX9_lostAt_37 (lv_at hl 4 rfl) ?_
              obtain rfl := Option.some.inj hf
              obtain rfl := hret _ rfl
              exact hQ () 39 _ _ _ dX9_lostAt_39 hP hD hS
  refine lv_iconst (v := (0 : Int32)) hx hb dX9_lostAt_0 (by decide) ?_
  refine lv_istore_n (lv' := [(3, .int (0 : Int32)), (0, .ref (qY 0)), (1, .int a1), (2, .int a2)]) hx hb dX9_lostAt_1 rfl hl (by decide) rfl (fun ls hl => ?_)
  refine lv_iconst (v := (0 : Int32)) hx hb dX9_lostAt_2 (by decide) ?_
  refine lv_istore (lv' := [(4, .int (0 : Int32)), (3, .int (0 : Int32)), (0, .ref (qY 0)), (1, .int a1), (2, .int a2)]) hx hb dX9_lostAt_3 hl (by decide) rfl (fun ls hl => ?_)
  obtain ⟨ex6, hcl, hf⟩ := ob_some hf
  refine hL5 F ((0 : Int32), (0 : Int32)) ex6 _ _ _ hcl (fun r hr0 => ?_) (fun er7 hr0 H locs ls hP hD hS hl => ?_) hP hD hS (lv_sub hl [2, 3, 4, 1, 0] rfl)
  · subst hr0; exact Option.some.inj (sm_inl hf)
  · subst hr0
    have hf := sm_inr hf
    refine lv_iload_n hx hb dX9_lostAt_49 rfl (lv_at hl 0 rfl) ?_
    refine lv_iload_n hx hb dX9_lostAt_50 rfl (lv_at hl 1 rfl) ?_
    obtain ⟨r8, hc9, hf⟩ := ob_some hf
    refine kc_i (k_runSN ⟨hx, hb, hml, hown, hts⟩ (c_X10_countOrNone hc9) ⟨va_cnB 2 hts ggX9_lostAt_X10_countOrNone rfl rfl rfl hN.2.2.2.1 (hts (.initialized RX10) (by decide +kernel)) (by decide +kernel) ⟨Nat.le_of_ble_eq_true rfl, Nat.le_of_ble_eq_true rfl⟩, hts (.static yX10_countOrNone) (by decide +kernel), trivial⟩ hK hN hP hD kA_0 rfl hl.1 rfl (Nat.le_of_ble_eq_true rfl) dX9_lostAt_51 ⟨Nat.le_of_ble_eq_true rfl, Nat.le_of_ble_eq_true rfl⟩) hP hD hS hA kI_0 (fun _ H locs hP hD hS => ?_)
    obtain rfl := Option.some.inj hf
    exact hQ () 54 _ _ _ dX9_lostAt_54 hP hD hS
def f_X9_reach_Y_J118 (F : Nat) (rec : (Int32 × (Nat → Int32) × (Nat → Int32) × (Nat → Int64) × (Nat → Int32) × (Nat → Int32) × Int32 × (Nat → Int32) × Int32 × (Nat → Int32) × Int32 × Nat × (Nat → Int64) × Nat × (Nat → Int32) × Nat × (Nat → Int32) × Nat × (Nat → Int32) × List Nat) → Option ((Nat → Int32) × (Nat → Int32) × (Nat → Int64) × (Nat → Int32) × (Nat → Int32) × Int32 × (Nat → Int32) × Int32 × (Nat → Int32) × Int32 × Nat × (Nat → Int64) × Nat × (Nat → Int32) × Nat × (Nat → Int32) × Nat × (Nat → Int32))) (x2 : Int32) (g_row : Nat → Int32) (g_many : Nat → Int32) (s_keys : Nat → Int64) (s_tails : Nat → Int32) (s_homes : Nat → Int32) (s_stamp : Int32) (y_tails : Nat → Int32) (c_stamp : Int32) (c_homes : Nat → Int32) (c_size : Int32) (c_n_leasts : Nat) (c_leasts : Nat → Int64) (c_n_lengths : Nat) (c_lengths : Nat → Int32) (c_n_firstBy : Nat) (c_firstBy : Nat → Int32) (c_n_order : Nat) (c_order : Nat → Int32) (pl : List Nat) : Option ((Nat → Int32) × (Nat → Int32) × (Nat → Int64) × (Nat → Int32) × (Nat → Int32) × Int32 × (Nat → Int32) × Int32 × (Nat → Int32) × Int32 × Nat × (Nat → Int64) × Nat × (Nat → Int32) × Nat × (Nat → Int32) × Nat × (Nat → Int32)) := rec ((x2 + (1 : Int32)), g_row, g_many, s_keys, s_tails, s_homes, s_stamp, y_tails, c_stamp, c_homes, c_size, c_n_leasts, c_leasts, c_n_lengths, c_lengths, c_n_firstBy, c_firstBy, c_n_order, c_order, pl)
def f_X9_reach_Y_J74 (F : Nat) (c_step : Int32) (g_base : Int32) (g_worth : Nat → Int32) (pm : Nat) (rec : (Int32 × (Nat → Int32) × (Nat → Int32) × (Nat → Int64) × (Nat → Int32) × (Nat → Int32) × Int32 × (Nat → Int32) × Int32 × (Nat → Int32) × Int32 × Nat × (Nat → Int64) × Nat × (Nat → Int32) × Nat × (Nat → Int32) × Nat × (Nat → Int32) × List Nat) → Option ((Nat → Int32) × (Nat → Int32) × (Nat → Int64) × (Nat → Int32) × (Nat → Int32) × Int32 × (Nat → Int32) × Int32 × (Nat → Int32) × Int32 × Nat × (Nat → Int64) × Nat × (Nat → Int32) × Nat × (Nat → Int32) × Nat × (Nat → Int32))) (x2 : Int32) (s0 : Int32) (g_row : Nat → Int32) (g_many : Nat → Int32) (s_keys : Nat → Int64) (s_tails : Nat → Int32) (s_homes : Nat → Int32) (s_stamp : Int32) (y_tails : Nat → Int32) (c_stamp : Int32) (c_homes : Nat → Int32) (c_size : Int32) (c_n_leasts : Nat) (c_leasts : Nat → Int64) (c_n_lengths : Nat) (c_lengths : Nat → Int32) (c_n_firstBy : Nat) (c_firstBy : Nat → Int32) (c_n_order : Nat) (c_order : Nat → Int32) (pl : List Nat) : Option ((Nat → Int32) × (Nat → Int32) × (Nat → Int64) × (Nat → Int32) × (Nat → Int32) × Int32 × (Nat → Int32) × Int32 × (Nat → Int32) × Int32 × Nat × (Nat → Int64) × Nat × (Nat → Int32) × Nat × (Nat → Int32) × Nat × (Nat → Int32)) := (pl.head?).bind (fun pv1 => ck ((c_n_leasts + c_n_lengths + c_n_firstBy + c_n_order) ≤ pv1 ∧ pv1 ≤ pm) ((f_X0_tailFrom F pv1 s0 g_base g_worth g_row g_many s_keys s_tails s_homes s_stamp c_step c_stamp c_homes c_size c_n_leasts c_leasts c_n_lengths c_lengths c_n_firstBy c_firstBy c_n_order c_order).bind (fun r3 => ck ((r3.2.2.2.2.2.2.2.2.2.2.1 + r3.2.2.2.2.2.2.2.2.2.2.2.2.1 + r3.2.2.2.2.2.2.2.2.2.2.2.2.2.2.1 + r3.2.2.2.2.2.2.2.2.2.2.2.2.2.2.2.2.1) = pv1) (if (3001 : Int32) ≤ s0 then (f_X9_reach_Y_J118 F rec x2 r3.2.1 r3.2.2.1 r3.2.2.2.1 r3.2.2.2.2.1 r3.2.2.2.2.2.1 r3.2.2.2.2.2.2.1 y_tails r3.2.2.2.2.2.2.2.1 r3.2.2.2.2.2.2.2.2.1 r3.2.2.2.2.2.2.2.2.2.1 r3.2.2.2.2.2.2.2.2.2.2.1 r3.2.2.2.2.2.2.2.2.2.2.2.1 r3.2.2.2.2.2.2.2.2.2.2.2.2.1 r3.2.2.2.2.2.2.2.2.2.2.2.2.2.1 r3.2.2.2.2.2.2.2.2.2.2.2.2.2.2.1 r3.2.2.2.2.2.2.2.2.2.2.2.2.2.2.2.1 r3.2.2.2.2.2.2.2.2.2.2.2.2.2.2.2.2.1 r3.2.2.2.2.2.2.2.2.2.2.2.2.2.2.2.2.2 pl.tail) else (ck (¬ (s0 < 0 ∨ 3001 ≤ s0.toNatClampNeg)) (f_X9_reach_Y_J118 F rec x2 r3.2.1 r3.2.2.1 r3.2.2.2.1 r3.2.2.2.2.1 r3.2.2.2.2.2.1 r3.2.2.2.2.2.2.1 (upd y_tails s0.toNatClampNeg r3.1) r3.2.2.2.2.2.2.2.1 r3.2.2.2.2.2.2.2.2.1 r3.2.2.2.2.2.2.2.2.2.1 r3.2.2.2.2.2.2.2.2.2.2.1 r3.2.2.2.2.2.2.2.2.2.2.2.1 r3.2.2.2.2.2.2.2.2.2.2.2.2.1 r3.2.2.2.2.2.2.2.2.2.2.2.2.2.1 r3.2.2.2.2.2.2.2.2.2.2.2.2.2.2.1 r3.2.2.2.2.2.2.2.2.2.2.2.2.2.2.2.1 r3.2.2.2.2.2.2.2.2.2.2.2.2.2.2.2.2.1 r3.2.2.2.2.2.2.2.2.2.2.2.2.2.2.2.2.2 pl.tail))))))
def f_X9_reach_Y_B49 (F : Nat) (a1 : Int32) (y_step : Int32) (c_step : Int32) (g_base : Int32) (g_worth : Nat → Int32) (pm : Nat) (y_known : Int32) (y_version : Int32) (rec : Int32 × (Nat → Int32) × (Nat → Int32) × (Nat → Int64) × (Nat → Int32) × (Nat → Int32) × Int32 × (Nat → Int32) × Int32 × (Nat → Int32) × Int32 × Nat × (Nat → Int64) × Nat × (Nat → Int32) × Nat × (Nat → Int32) × Nat × (Nat → Int32) × List Nat → Option ((Nat → Int32) × (Nat → Int32) × (Nat → Int64) × (Nat → Int32) × (Nat → Int32) × Int32 × (Nat → Int32) × Int32 × (Nat → Int32) × Int32 × Nat × (Nat → Int64) × Nat × (Nat → Int32) × Nat × (Nat → Int32) × Nat × (Nat → Int32))) (x : Int32 × (Nat → Int32) × (Nat → Int32) × (Nat → Int64) × (Nat → Int32) × (Nat → Int32) × Int32 × (Nat → Int32) × Int32 × (Nat → Int32) × Int32 × Nat × (Nat → Int64) × Nat × (Nat → Int32) × Nat × (Nat → Int32) × Nat × (Nat → Int32) × List Nat) : Option ((Nat → Int32) × (Nat → Int32) × (Nat → Int64) × (Nat → Int32) × (Nat → Int32) × Int32 × (Nat → Int32) × Int32 × (Nat → Int32) × Int32 × Nat × (Nat → Int64) × Nat × (Nat → Int32) × Nat × (Nat → Int32) × Nat × (Nat → Int32)) := if a1 < x.1 then (some (x.2.1, x.2.2.1, x.2.2.2.1, x.2.2.2.2.1, x.2.2.2.2.2.1, x.2.2.2.2.2.2.1, x.2.2.2.2.2.2.2.1, x.2.2.2.2.2.2.2.2.1, x.2.2.2.2.2.2.2.2.2.1, x.2.2.2.2.2.2.2.2.2.2.1, x.2.2.2.2.2.2.2.2.2.2.2.1, x.2.2.2.2.2.2.2.2.2.2.2.2.1, x.2.2.2.2.2.2.2.2.2.2.2.2.2.1, x.2.2.2.2.2.2.2.2.2.2.2.2.2.2.1, x.2.2.2.2.2.2.2.2.2.2.2.2.2.2.2.1, x.2.2.2.2.2.2.2.2.2.2.2.2.2.2.2.2.1, x.2.2.2.2.2.2.2.2.2.2.2.2.2.2.2.2.2.1, x.2.2.2.2.2.2.2.2.2.2.2.2.2.2.2.2.2.2.1)) else (if y_step = (4 : Int32) then (f_X9_reach_Y_J74 F c_step g_base g_worth pm rec x.1 (a1 - (x.1 - y_known)) x.2.1 x.2.2.1 x.2.2.2.1 x.2.2.2.2.1 x.2.2.2.2.2.1 x.2.2.2.2.2.2.1 x.2.2.2.2.2.2.2.1 x.2.2.2.2.2.2.2.2.1 x.2.2.2.2.2.2.2.2.2.1 x.2.2.2.2.2.2.2.2.2.2.1 x.2.2.2.2.2.2.2.2.2.2.2.1 x.2.2.2.2.2.2.2.2.2.2.2.2.1 x.2.2.2.2.2.2.2.2.2.2.2.2.2.1 x.2.2.2.2.2.2.2.2.2.2.2.2.2.2.1 x.2.2.2.2.2.2.2.2.2.2.2.2.2.2.2.1 x.2.2.2.2.2.2.2.2.2.2.2.2.2.2.2.2.1 x.2.2.2.2.2.2.2.2.2.2.2.2.2.2.2.2.2.1 x.2.2.2.2.2.2.2.2.2.2.2.2.2.2.2.2.2.2.1 x.2.2.2.2.2.2.2.2.2.2.2.2.2.2.2.2.2.2.2) else (f_X9_reach_Y_J74 F c_step g_base g_worth pm rec x.1 x.1 x.2.1 x.2.2.1 x.2.2.2.1 x.2.2.2.2.1 x.2.2.2.2.2.1 x.2.2.2.2.2.2.1 x.2.2.2.2.2.2.2.1 x.2.2.2.2.2.2.2.2.1 x.2.2.2.2.2.2.2.2.2.1 x.2.2.2.2.2.2.2.2.2.2.1 x.2.2.2.2.2.2.2.2.2.2.2.1 x.2.2.2.2.2.2.2.2.2.2.2.2.1 x.2.2.2.2.2.2.2.2.2.2.2.2.2.1 x.2.2.2.2.2.2.2.2.2.2.2.2.2.2.1 x.2.2.2.2.2.2.2.2.2.2.2.2.2.2.2.1 x.2.2.2.2.2.2.2.2.2.2.2.2.2.2.2.2.1 x.2.2.2.2.2.2.2.2.2.2.2.2.2.2.2.2.2.1 x.2.2.2.2.2.2.2.2.2.2.2.2.2.2.2.2.2.2.1 x.2.2.2.2.2.2.2.2.2.2.2.2.2.2.2.2.2.2.2))
def f_X9_reach_Y_J44 (F : Nat) (a1 : Int32) (y_step : Int32) (c_step : Int32) (g_base : Int32) (g_worth : Nat → Int32) (pm : Nat) (g_row : Nat → Int32) (g_many : Nat → Int32) (s_keys : Nat → Int64) (s_tails : Nat → Int32) (s_homes : Nat → Int32) (s_stamp : Int32) (y_tails : Nat → Int32) (y_known : Int32) (y_version : Int32) (c_stamp : Int32) (c_homes : Nat → Int32) (c_size : Int32) (c_n_leasts : Nat) (c_leasts : Nat → Int64) (c_n_lengths : Nat) (c_lengths : Nat → Int32) (c_n_firstBy : Nat) (c_firstBy : Nat → Int32) (c_n_order : Nat) (c_order : Nat → Int32) (pl : List Nat) : Option ((Nat → Int32) × (Nat → Int32) × (Nat → Int64) × (Nat → Int32) × (Nat → Int32) × Int32 × (Nat → Int32) × Int32 × Int32 × Int32 × (Nat → Int32) × Int32 × Nat × (Nat → Int64) × Nat × (Nat → Int32) × Nat × (Nat → Int32) × Nat × (Nat → Int32)) := (lp (f_X9_reach_Y_B49 F a1 y_step c_step g_base g_worth pm y_known y_version) F (y_known, g_row, g_many, s_keys, s_tails, s_homes, s_stamp, y_tails, c_stamp, c_homes, c_size, c_n_leasts, c_leasts, c_n_lengths, c_lengths, c_n_firstBy, c_firstBy, c_n_order, c_order, pl)).bind (fun ex11 => ck ((ex11.2.2.2.2.2.2.2.2.2.2.1 + ex11.2.2.2.2.2.2.2.2.2.2.2.2.1 + ex11.2.2.2.2.2.2.2.2.2.2.2.2.2.2.1 + ex11.2.2.2.2.2.2.2.2.2.2.2.2.2.2.2.2.1) = pm) (some (ex11.1, ex11.2.1, ex11.2.2.1, ex11.2.2.2.1, ex11.2.2.2.2.1, ex11.2.2.2.2.2.1, ex11.2.2.2.2.2.2.1, (if y_known < (a1 + (1 : Int32)) then (a1 + (1 : Int32)) else y_known), y_version, ex11.2.2.2.2.2.2.2.1, ex11.2.2.2.2.2.2.2.2.1, ex11.2.2.2.2.2.2.2.2.2.1, ex11.2.2.2.2.2.2.2.2.2.2.1, ex11.2.2.2.2.2.2.2.2.2.2.2.1, ex11.2.2.2.2.2.2.2.2.2.2.2.2.1, ex11.2.2.2.2.2.2.2.2.2.2.2.2.2.1, ex11.2.2.2.2.2.2.2.2.2.2.2.2.2.2.1, ex11.2.2.2.2.2.2.2.2.2.2.2.2.2.2.2.1, ex11.2.2.2.2.2.2.2.2.2.2.2.2.2.2.2.2.1, ex11.2.2.2.2.2.2.2.2.2.2.2.2.2.2.2.2.2)))
def f_X9_reach_Y (F : Nat) (pm : Nat) (pl : List Nat) (a1 : Int32) (g_base : Int32) (g_worth : Nat → Int32) (g_row : Nat → Int32) (g_many : Nat → Int32) (g_version : Int32) (s_keys : Nat → Int64) (s_tails : Nat → Int32) (s_homes : Nat → Int32) (s_stamp : Int32) (y_step : Int32) (y_tails : Nat → Int32) (y_known : Int32) (y_version : Int32) (c_step : Int32) (c_stamp : Int32) (c_homes : Nat → Int32) (c_size : Int32) (c_n_leasts : Nat) (c_leasts : Nat → Int64) (c_n_lengths : Nat) (c_lengths : Nat → Int32) (c_n_firstBy : Nat) (c_firstBy : Nat → Int32) (c_n_order : Nat) (c_order : Nat → Int32) : Option ((Nat → Int32) × (Nat → Int32) × (Nat → Int64) × (Nat → Int32) × (Nat → Int32) × Int32 × (Nat → Int32) × Int32 × Int32 × Int32 × (Nat → Int32) × Int32 × Nat × (Nat → Int64) × Nat × (Nat → Int32) × Nat × (Nat → Int32) × Nat × (Nat → Int32)) := ck ((c_n_leasts + c_n_lengths + c_n_firstBy + c_n_order) ≤ pm) (if y_version = g_version then (f_X9_reach_Y_J44 F a1 y_step c_step g_base g_worth pm g_row g_many s_keys s_tails s_homes s_stamp y_tails y_known y_version c_stamp c_homes c_size c_n_leasts c_leasts c_n_lengths c_lengths c_n_firstBy c_firstBy c_n_order c_order pl) else ((f_X0_forget F c_stamp c_size).bind (fun r13 => f_X9_reach_Y_J44 F a1 y_step c_step g_base g_worth pm g_row g_many s_keys s_tails s_homes s_stamp y_tails (0 : Int32) g_version r13.1 c_homes r13.2 c_n_leasts c_leasts c_n_lengths c_lengths c_n_firstBy c_firstBy c_n_order c_order pl)))
abbrev rmX9_reach_Y (k : Nat) : Room := { frames := 6, cells := k, slots := 2 * k, locals := 205 }
set_option maxHeartbeats 1000000 in
set_option maxRecDepth 100000 in
theorem c_X9_reach_Y {l : Launch} {D : va_G} {cy : Nat → ClassId} {qY : Nat → Nat} {qG : Nat → Nat} {qP : Nat → Nat} {qC : Nat → Nat} {qS : Nat → Nat} {uC : Nat → Nat} {y_step : Int32} {y_tails : Nat → Int32} {y_known : Int32} {y_version : Int32} {c_step : Int32} {c_stamp : Int32} {c_homes : Nat → Int32} {c_size : Int32} {c_n_leasts : Nat} {c_leasts : Nat → Int64} {c_n_lengths : Nat} {c_lengths : Nat → Int32} {c_n_firstBy : Nat} {c_firstBy : Nat → Int32} {c_n_order : Nat} {c_order : Nat → Int32} {s_keys : Nat → Int64} {s_tails : Nat → Int32} {s_homes : Nat → Int32} {s_stamp : Int32} {g_base : Int32} {g_worth : Nat → Int32} {g_row : Nat → Int32} {g_many : Nat → Int32} {g_version : Int32} {a1 : Int32} {F : Nat} {pm pot0 : Nat} {pl : List Nat} {res : (Nat → Int32) × (Nat → Int32) × (Nat → Int64) × (Nat → Int32) × (Nat → Int32) × Int32 × (Nat → Int32) × Int32 × Int32 × Int32 × (Nat → Int32) × Int32 × Nat × (Nat → Int64) × Nat × (Nat → Int32) × Nat × (Nat → Int32) × Nat × (Nat → Int32)} (hf : f_X9_reach_Y F pm pl a1 g_base g_worth g_row g_many g_version s_keys s_tails s_homes s_stamp y_step y_tails y_known y_version c_step c_stamp c_homes c_size c_n_leasts c_leasts c_n_lengths c_lengths c_n_firstBy c_firstBy c_n_order c_order = some res) (hp0 : pot0 = (c_n_leasts + c_n_lengths + c_n_firstBy + c_n_order)) : kM l yX9_reach wsX9_reach (rmX9_reach_Y (pm - pot0)) D cy [.ref (qY 0), .int a1] (gY cy qY (qG 0) (qP 0) (qC 0) y_step y_tails y_known y_version ++ (gC cy qC uC (qG 0) (qS 0) c_step c_stamp c_homes c_size c_n_leasts c_leasts c_n_lengths c_lengths c_n_firstBy c_firstBy c_n_order c_order ++ (gS cy qS s_keys s_tails s_homes s_stamp ++ (gG cy qG g_base g_worth g_row g_many g_version)))) (kQv D cy (fun uC : Nat → Nat => gY cy qY (qG 0) (qP 0) (qC 0) y_step res.2.2.2.2.2.2.1 res.2.2.2.2.2.2.2.1 res.2.2.2.2.2.2.2.2.1 ++ (gC cy qC uC (qG 0) (qS 0) c_step res.2.2.2.2.2.2.2.2.2.1 res.2.2.2.2.2.2.2.2.2.2.1 res.2.2.2.2.2.2.2.2.2.2.2.1 res.2.2.2.2.2.2.2.2.2.2.2.2.1 res.2.2.2.2.2.2.2.2.2.2.2.2.2.1 res.2.2.2.2.2.2.2.2.2.2.2.2.2.2.1 res.2.2.2.2.2.2.2.2.2.2.2.2.2.2.2.1 res.2.2.2.2.2.2.2.2.2.2.2.2.2.2.2.2.1 res.2.2.2.2.2.2.2.2.2.2.2.2.2.2.2.2.2.1 res.2.2.2.2.2.2.2.2.2.2.2.2.2.2.2.2.2.2.1 res.2.2.2.2.2.2.2.2.2.2.2.2.2.2.2.2.2.2.2 ++ (gS cy qS res.2.2.1 res.2.2.2.1 res.2.2.2.2.1 res.2.2.2.2.2.1 ++ (gG cy qG g_base g_worth res.1 res.2.1 g_version))))) := by
  refine kent_v (cc := cX9_reach) (maxL := 5) (by decide) rfl (Nat.le_of_ble_eq_true rfl) ?_
  intro p e0 s m ar below meth c A Q ls ⟨hx, hb, hml, hr, hts, hown, hlocks, hnm⟩ hA hK hN hQ hP hD hS hl
  have hl : lv_has ls 5 [(0, .ref (qY 0)), (1, .int a1)] := hl
  have hown : s.vm.findClass RX9 = some m.cls := hown
  have huX9 : ∀ x ∈ u_ws RX9 TX9 7, x ∈ wsX9_reach := by decide +kernel
  have fk33 : (Cond.fieldLink RX9 33 "FigurePlay$Ways" "circles" "LFigurePlay$Circles;").before ar s = true := hts _ (by decide +kernel)
  have fk9 : (Cond.fieldLink RX9 9 "FigurePlay$Ways" "tails" "[I").before ar s = true := hts _ (by decide +kernel)
  have fk30 : (Cond.fieldLink RX9 30 "FigurePlay$Ways" "step" "I").before ar s = true := hts _ (by decide +kernel)
  have fk15 : (Cond.fieldLink RX9 15 "FigurePlay$Ways" "known" "I").before ar s = true := hts _ (by decide +kernel)
  have fk19 : (Cond.fieldLink RX9 19 "FigurePlay$Ways" "version" "I").before ar s = true := hts _ (by decide +kernel)
  have fk22 : (Cond.fieldLink RX9 22 "FigurePlay$Ways" "figures" "LFigurePlay$Figures;").before ar s = true := hts _ (by decide +kernel)
  have huX1 : ∀ x ∈ u_ws RX1 TX1 5, x ∈ wsX9_reach := by decide +kernel
  have fk37 : (Cond.fieldLink RX9 37 "FigurePlay$Figures" "version" "I").before ar s = true := hts _ (by decide +kernel)
  unfold f_X9_reach_Y at hf
  obtain ⟨cp0, hf⟩ := ck_some hf
  have hpt : pot0 ≤ (c_n_leasts + c_n_lengths + c_n_firstBy + c_n_order) ∧ (c_n_leasts + c_n_lengths + c_n_firstBy + c_n_order) ≤ pm := by omega
  refine W.widen (k := (c_n_leasts + c_n_lengths + c_n_firstBy + c_n_order) - pot0) (n := 2 * ((c_n_leasts + c_n_lengths + c_n_firstBy + c_n_order) - pot0)) (Nat.zero_le _) (Nat.zero_le _) ?_
  have hL49 : ∀ (y_known : Int32) (y_version : Int32) (k : Nat) (x : Int32 × (Nat → Int32) × (Nat → Int32) × (Nat → Int64) × (Nat → Int32) × (Nat → Int32) × Int32 × (Nat → Int32) × Int32 × (Nat → Int32) × Int32 × Nat × (Nat → Int64) × Nat × (Nat → Int32) × Nat × (Nat → Int32) × Nat × (Nat → Int32) × List Nat) (ex : (Nat → Int32) × (Nat → Int32) × (Nat → Int64) × (Nat → Int32) × (Nat → Int32) × Int32 × (Nat → Int32) × Int32 × (Nat → Int32) × Int32 × Nat × (Nat → Int64) × Nat × (Nat → Int32) × Nat × (Nat → Int32) × Nat × (Nat → Int32)) (uC : Nat → Nat) (H : Heap) (locs : List Loc) (ls : Array Slot), lp (f_X9_reach_Y_B49 F a1 y_step c_step g_base g_worth pm y_known y_version) k x = some ex → (∀ (uC : Nat → Nat) (H : Heap) (locs : List Loc) (ls : Array Slot), (pot0 ≤ (ex.2.2.2.2.2.2.2.2.2.2.1 + ex.2.2.2.2.2.2.2.2.2.2.2.2.1 + ex.2.2.2.2.2.2.2.2.2.2.2.2.2.2.1 + ex.2.2.2.2.2.2.2.2.2.2.2.2.2.2.2.2.1) ∧ (ex.2.2.2.2.2.2.2.2.2.2.1 + ex.2.2.2.2.2.2.2.2.2.2.2.2.1 + ex.2.2.2.2.2.2.2.2.2.2.2.2.2.2.1 + ex.2.2.2.2.2.2.2.2.2.2.2.2.2.2.2.2.1) ≤ pm) → va_P D vwCl (gY cy qY (qG 0) (qP 0) (qC 0) y_step ex.2.2.2.2.2.2.1 y_known y_version ++ (gC cy qC uC (qG 0) (qS 0) c_step ex.2.2.2.2.2.2.2.1 ex.2.2.2.2.2.2.2.2.1 ex.2.2.2.2.2.2.2.2.2.1 ex.2.2.2.2.2.2.2.2.2.2.1 ex.2.2.2.2.2.2.2.2.2.2.2.1 ex.2.2.2.2.2.2.2.2.2.2.2.2.1 ex.2.2.2.2.2.2.2.2.2.2.2.2.2.1 ex.2.2.2.2.2.2.2.2.2.2.2.2.2.2.1 ex.2.2.2.2.2.2.2.2.2.2.2.2.2.2.2.1 ex.2.2.2.2.2.2.2.2.2.2.2.2.2.2.2.2.1 ex.2.2.2.2.2.2.2.2.2.2.2.2.2.2.2.2.2 ++ (gS cy qS ex.2.2.1 ex.2.2.2.1 ex.2.2.2.2.1 ex.2.2.2.2.2.1 ++ (gG cy qG g_base g_worth ex.1 ex.2.1 g_version)))) H → va_D A (gY cy qY (qG 0) (qP 0) (qC 0) y_step ex.2.2.2.2.2.2.1 y_known y_version ++ (gC cy qC uC (qG 0) (qS 0) c_step ex.2.2.2.2.2.2.2.1 ex.2.2.2.2.2.2.2.2.1 ex.2.2.2.2.2.2.2.2.2.1 ex.2.2.2.2.2.2.2.2.2.2.1 ex.2.2.2.2.2.2.2.2.2.2.2.1 ex.2.2.2.2.2.2.2.2.2.2.2.2.1 ex.2.2.2.2.2.2.2.2.2.2.2.2.2.1 ex.2.2.2.2.2.2.2.2.2.2.2.2.2.2.1 ex.2.2.2.2.2.2.2.2.2.2.2.2.2.2.2.1 ex.2.2.2.2.2.2.2.2.2.2.2.2.2.2.2.2.1 ex.2.2.2.2.2.2.2.2.2.2.2.2.2.2.2.2.2 ++ (gS cy qS ex.2.2.1 ex.2.2.2.1 ex.2.2.2.2.1 ex.2.2.2.2.2.1 ++ (gG cy qG g_base g_worth ex.1 ex.2.1 g_version)))) → va_S A s.heap H locs → lv_has ls 5 [(0, .ref (qY 0)), (1, .int a1)] → W p l e0 (rmX9_reach_Y (pm - pot0)) s m ar below meth c H locs ((ex.2.2.2.2.2.2.2.2.2.2.1 + ex.2.2.2.2.2.2.2.2.2.2.2.2.1 + ex.2.2.2.2.2.2.2.2.2.2.2.2.2.2.1 + ex.2.2.2.2.2.2.2.2.2.2.2.2.2.2.2.2.1) - pot0) (2 * ((ex.2.2.2.2.2.2.2.2.2.2.1 + ex.2.2.2.2.2.2.2.2.2.2.2.2.1 + ex.2.2.2.2.2.2.2.2.2.2.2.2.2.2.1 + ex.2.2.2.2.2.2.2.2.2.2.2.2.2.2.2.2.1) - pot0)) Q (F0 m 124 ls [])) → (pot0 ≤ (x.2.2.2.2.2.2.2.2.2.2.2.1 + x.2.2.2.2.2.2.2.2.2.2.2.2.2.1 + x.2.2.2.2.2.2.2.2.2.2.2.2.2.2.2.1 + x.2.2.2.2.2.2.2.2.2.2.2.2.2.2.2.2.2.1) ∧ (x.2.2.2.2.2.2.2.2.2.2.2.1 + x.2.2.2.2.2.2.2.2.2.2.2.2.2.1 + x.2.2.2.2.2.2.2.2.2.2.2.2.2.2.2.1 + x.2.2.2.2.2.2.2.2.2.2.2.2.2.2.2.2.2.1) ≤ pm) → va_P D vwCl (gY cy qY (qG 0) (qP 0) (qC 0) y_step x.2.2.2.2.2.2.2.1 y_known y_version ++ (gC cy qC uC (qG 0) (qS 0) c_step x.2.2.2.2.2.2.2.2.1 x.2.2.2.2.2.2.2.2.2.1 x.2.2.2.2.2.2.2.2.2.2.1 x.2.2.2.2.2.2.2.2.2.2.2.1 x.2.2.2.2.2.2.2.2.2.2.2.2.1 x.2.2.2.2.2.2.2.2.2.2.2.2.2.1 x.2.2.2.2.2.2.2.2.2.2.2.2.2.2.1 x.2.2.2.2.2.2.2.2.2.2.2.2.2.2.2.1 x.2.2.2.2.2.2.2.2.2.2.2.2.2.2.2.2.1 x.2.2.2.2.2.2.2.2.2.2.2.2.2.2.2.2.2.1 x.2.2.2.2.2.2.2.2.2.2.2.2.2.2.2.2.2.2.1 ++ (gS cy qS x.2.2.2.1 x.2.2.2.2.1 x.2.2.2.2.2.1 x.2.2.2.2.2.2.1 ++ (gG cy qG g_base g_worth x.2.1 x.2.2.1 g_version)))) H → va_D A (gY cy qY (qG 0) (qP 0) (qC 0) y_step x.2.2.2.2.2.2.2.1 y_known y_version ++ (gC cy qC uC (qG 0) (qS 0) c_step x.2.2.2.2.2.2.2.2.1 x.2.2.2.2.2.2.2.2.2.1 x.2.2.2.2.2.2.2.2.2.2.1 x.2.2.2.2.2.2.2.2.2.2.2.1 x.2.2.2.2.2.2.2.2.2.2.2.2.1 x.2.2.2.2.2.2.2.2.2.2.2.2.2.1 x.2.2.2.2.2.2.2.2.2.2.2.2.2.2.1 x.2.2.2.2.2.2.2.2.2.2.2.2.2.2.2.1 x.2.2.2.2.2.2.2.2.2.2.2.2.2.2.2.2.1 x.2.2.2.2.2.2.2.2.2.2.2.2.2.2.2.2.2.1 x.2.2.2.2.2.2.2.2.2.2.2.2.2.2.2.2.2.2.1 ++ (gS cy qS x.2.2.2.1 x.2.2.2.2.1 x.2.2.2.2.2.1 x.2.2.2.2.2.2.1 ++ (gG cy qG g_base g_worth x.2.1 x.2.2.1 g_version)))) → va_S A s.heap H locs → lv_has ls 5 [(0, .ref (qY 0)), (1, .int a1), (2, .int x.1)] → W p l e0 (rmX9_reach_Y (pm - pot0)) s m ar below meth c H locs ((x.2.2.2.2.2.2.2.2.2.2.2.1 + x.2.2.2.2.2.2.2.2.2.2.2.2.2.1 + x.2.2.2.2.2.2.2.2.2.2.2.2.2.2.2.1 + x.2.2.2.2.2.2.2.2.2.2.2.2.2.2.2.2.2.1) - pot0) (2 * ((x.2.2.2.2.2.2.2.2.2.2.2.1 + x.2.2.2.2.2.2.2.2.2.2.2.2.2.1 + x.2.2.2.2.2.2.2.2.2.2.2.2.2.2.2.1 + x.2.2.2.2.2.2.2.2.2.2.2.2.2.2.2.2.2.1) - pot0)) Q (F0 m 49 ls []) := by
    intro y_known y_version k
    induction k with
    | zero => intro x ex uC H locs ls hf; exact no_some hf
    | succ k ih =>
      intro x ex uC H locs ls hf hex hpt hP hD hS hl
      have hf : f_X9_reach_Y_B49 F a1 y_step c_step g_base g_worth pm y_known y_version (lp (f_X9_reach_Y_B49 F a1 y_step c_step g_base g_worth pm y_known y_version) k) x = some ex := hf
      unfold f_X9_reach_Y_B49 at hf
      have hJ118 : ∀ (x2 : Int32) (g_row : Nat → Int32) (g_many : Nat → Int32) (s_keys : Nat → Int64) (s_tails : Nat → Int32) (s_homes : Nat → Int32) (s_stamp : Int32) (y_tails : Nat → Int32) (c_stamp : Int32) (c_homes : Nat → Int32) (c_size : Int32) (c_n_leasts : Nat) (c_leasts : Nat → Int64) (c_n_lengths : Nat) (c_lengths : Nat → Int32) (c_n_firstBy : Nat) (c_firstBy : Nat → Int32) (c_n_order : Nat) (c_order : Nat → Int32) (pl : List Nat) (uC : Nat → Nat) (H : Heap) (locs : List Loc) (ls : Array Slot), f_X9_reach_Y_J118 F (lp (f_X9_reach_Y_B49 F a1 y_step c_step g_base g_worth pm y_known y_version) k) x2 g_row g_many s_keys s_tails s_homes s_stamp y_tails c_stamp c_homes c_size c_n_leasts c_leasts c_n_lengths c_lengths c_n_firstBy c_firstBy c_n_order c_order pl = some ex → (pot0 ≤ (c_n_leasts + c_n_lengths + c_n_firstBy + c_n_order) ∧ (c_n_leasts + c_n_lengths + c_n_firstBy + c_n_order) ≤ pm) → va_P D vwCl (gY cy qY (qG 0) (qP 0) (qC 0) y_step y_tails y_known y_version ++ (gC cy qC uC (qG 0) (qS 0) c_step c_stamp c_homes c_size c_n_leasts c_leasts c_n_lengths c_lengths c_n_firstBy c_firstBy c_n_order c_order ++ (gS cy qS s_keys s_tails s_homes s_stamp ++ (gG cy qG g_base g_worth g_row g_many g_version)))) H → va_D A (gY cy qY (qG 0) (qP 0) (qC 0) y_step y_tails y_known y_version ++ (gC cy qC uC (qG 0) (qS 0) c_step c_stamp c_homes c_size c_n_leasts c_leasts c_n_lengths c_lengths c_n_firstBy c_firstBy c_n_order c_order ++ (gS cy qS s_keys s_tails s_homes s_stamp ++ (gG cy qG g_base g_worth g_row g_many g_version)))) → va_S A s.heap H locs → lv_has ls 5 [(0, .ref (qY 0)), (1, .int a1), (2, .int x2)] → W p l e0 (rmX9_reach_Y (pm - pot0)) s m ar below meth c H locs ((c_n_leasts + c_n_lengths + c_n_firstBy + c_n_order) - pot0) (2 * ((c_n_leasts + c_n_lengths + c_n_firstBy + c_n_order) - pot0)) Q (F0 m 118 ls []) := by
        intro x2 g_row g_many s_keys s_tails s_homes s_stamp y_tails c_stamp c_homes c_size c_n_leasts c_leasts c_n_lengths c_lengths c_n_firstBy c_firstBy c_n_order c_order pl uC H locs ls hf hpt hP hD hS hl
        unfold f_X9_reach_Y_J118 at hf
        refine lv_iinc (v := (x2 + (1 : Int32))) (lv' := [(2, .int (x2 + (1 : Int32))), (0, .ref (qY 0)), (1, .int a1)]) hx hb dX9_reach_118 hl (k := 2) rfl rfl (by decide) rfl (fun ls hl => ?_)
        refine lv_goto (tgt := 49) hx hb dX9_reach_121 (by decide) ?_
        exact ih ((x2 + (1 : Int32)), g_row, g_many, s_keys, s_tails, s_homes, s_stamp, y_tails, c_stamp, c_homes, c_size, c_n_leasts, c_leasts, c_n_lengths, c_lengths, c_n_firstBy, c_firstBy, c_n_order, c_order, pl) ex _ _ _ _ hf hex hpt hP hD hS (lv_sub hl [1, 2, 0] rfl)
      have hJ74 : ∀ (x2 : Int32) (s0 : Int32) (g_row : Nat → Int32) (g_many : Nat → Int32) (s_keys : Nat → Int64) (s_tails : Nat → Int32) (s_homes : Nat → Int32) (s_stamp : Int32) (y_tails : Nat → Int32) (c_stamp : Int32) (c_homes : Nat → Int32) (c_size : Int32) (c_n_leasts : Nat) (c_leasts : Nat → Int64) (c_n_lengths : Nat) (c_lengths : Nat → Int32) (c_n_firstBy : Nat) (c_firstBy : Nat → Int32) (c_n_order : Nat) (c_order : Nat → Int32) (pl : List Nat) (uC : Nat → Nat) (H : Heap) (locs : List Loc) (ls : Array Slot), f_X9_reach_Y_J74 F c_step g_base g_worth pm (lp (f_X9_reach_Y_B49 F a1 y_step c_step g_base g_worth pm y_known y_version) k) x2 s0 g_row g_many s_keys s_tails s_homes s_stamp y_tails c_stamp c_homes c_size c_n_leasts c_leasts c_n_lengths c_lengths c_n_firstBy c_firstBy c_n_order c_order pl = some ex → (pot0 ≤ (c_n_leasts + c_n_lengths + c_n_firstBy + c_n_order) ∧ (c_n_leasts + c_n_lengths + c_n_firstBy + c_n_order) ≤ pm) → va_P D vwCl (gY cy qY (qG 0) (qP 0) (qC 0) y_step y_tails y_known y_version ++ (gC cy qC uC (qG 0) (qS 0) c_step c_stamp c_homes c_size c_n_leasts c_leasts c_n_lengths c_lengths c_n_firstBy c_firstBy c_n_order c_order ++ (gS cy qS s_keys s_tails s_homes s_stamp ++ (gG cy qG g_base g_worth g_row g_many g_version)))) H → va_D A (gY cy qY (qG 0) (qP 0) (qC 0) y_step y_tails y_known y_version ++ (gC cy qC uC (qG 0) (qS 0) c_step c_stamp c_homes c_size c_n_leasts c_leasts c_n_lengths c_lengths c_n_firstBy c_firstBy c_n_order c_order ++ (gS cy qS s_keys s_tails s_homes s_stamp ++ (gG cy qG g_base g_worth g_row g_many g_version)))) → va_S A s.heap H locs → lv_has ls 5 [(0, .ref (qY 0)), (1, .int a1), (2, .int x2)] → W p l e0 (rmX9_reach_Y (pm - pot0)) s m ar below meth c H locs ((c_n_leasts + c_n_lengths + c_n_firstBy + c_n_order) - pot0) (2 * ((c_n_leasts + c_n_lengths + c_n_firstBy + c_n_order) - pot0)) Q (F0 m 74 ls [.int s0]) := by
        intro x2 s0 g_row g_many s_keys s_tails s_homes s_stamp y_tails c_stamp c_homes c_size c_n_leasts c_leasts c_n_lengths c_lengths c_n_firstBy c_firstBy c_n_order c_order pl uC H locs ls hf hpt hP hD hS hl
        unfold f_X9_reach_Y_J74 at hf
        refine lv_istore_n (lv' := [(3, .int s0), (0, .ref (qY 0)), (1, .int a1), (2, .int x2)]) hx hb dX9_reach_74 rfl hl (by decide) rfl (fun ls hl => ?_)
        refine lv_aload_n hx hb dX9_reach_75 rfl (lv_at hl 1 rfl) ?_
        refine va_get (v := .ref (qC 0)) (D := D) (ci := 9) (C := RX9) (T := TX9) (N := 7) hx hb hts huX9 hown hK hP 0 rfl rfl 3 (by decide) fk33 (fun _ h9 => h9) rfl dX9_reach_76 ?_
        refine lv_ifnull hx hb dX9_reach_79 ?_
        refine lv_aload_n hx hb dX9_reach_82 rfl (lv_at hl 1 rfl) ?_
        refine va_get (v := .ref (qC 0)) (D := D) (ci := 9) (C := RX9) (T := TX9) (N := 7) hx hb hts huX9 hown hK hP 0 rfl rfl 3 (by decide) fk33 (fun _ h9 => h9) rfl dX9_reach_83 ?_
        refine lv_iload_n hx hb dX9_reach_86 rfl (lv_at hl 0 rfl) ?_
        obtain ⟨pv1, hpv1, hf⟩ := ob_some hf
        obtain ⟨cg2, hf⟩ := ck_some hf
        obtain ⟨r3, hc4, hf⟩ := ob_some hf
        have hI5 : kIn (gY cy qY (qG 0) (qP 0) (qC 0) y_step y_tails y_known y_version ++ (gC cy qC uC (qG 0) (qS 0) c_step c_stamp c_homes c_size c_n_leasts c_leasts c_n_lengths c_lengths c_n_firstBy c_firstBy c_n_order c_order ++ (gS cy qS s_keys s_tails s_homes s_stamp ++ (gG cy qG g_base g_worth g_row g_many g_version)))) (gC cy qC uC (qG 0) (qS 0) c_step c_stamp c_homes c_size c_n_leasts c_leasts c_n_lengths c_lengths c_n_firstBy c_firstBy c_n_order c_order ++ (gS cy qS s_keys s_tails s_homes s_stamp ++ (gG cy qG g_base g_worth g_row g_many g_version))) (kpick (gY cy qY (qG 0) (qP 0) (qC 0) y_step y_tails y_known y_version ++ (gC cy qC uC (qG 0) (qS 0) c_step c_stamp c_homes c_size c_n_leasts c_leasts c_n_lengths c_lengths c_n_firstBy c_firstBy c_n_order c_order ++ (gS cy qS s_keys s_tails s_homes s_stamp ++ (gG cy qG g_base g_worth g_row g_many g_version)))) [0, 1]) (fun uC : Nat → Nat => gC cy qC uC (qG 0) (qS 0) c_step r3.2.2.2.2.2.2.2.1 r3.2.2.2.2.2.2.2.2.1 r3.2.2.2.2.2.2.2.2.2.1 r3.2.2.2.2.2.2.2.2.2.2.1 r3.2.2.2.2.2.2.2.2.2.2.2.1 r3.2.2.2.2.2.2.2.2.2.2.2.2.1 r3.2.2.2.2.2.2.2.2.2.2.2.2.2.1 r3.2.2.2.2.2.2.2.2.2.2.2.2.2.2.1 r3.2.2.2.2.2.2.2.2.2.2.2.2.2.2.2.1 r3.2.2.2.2.2.2.2.2.2.2.2.2.2.2.2.2.1 r3.2.2.2.2.2.2.2.2.2.2.2.2.2.2.2.2.2 ++ (gS cy qS r3.2.2.2.1 r3.2.2.2.2.1 r3.2.2.2.2.2.1 r3.2.2.2.2.2.2.1 ++ (gG cy qG g_base g_worth r3.2.1 r3.2.2.1 g_version))) (fun uC : Nat → Nat => gY cy qY (qG 0) (qP 0) (qC 0) y_step y_tails y_known y_version ++ (gC cy qC uC (qG 0) (qS 0) c_step r3.2.2.2.2.2.2.2.1 r3.2.2.2.2.2.2.2.2.1 r3.2.2.2.2.2.2.2.2.2.1 r3.2.2.2.2.2.2.2.2.2.2.1 r3.2.2.2.2.2.2.2.2.2.2.2.1 r3.2.2.2.2.2.2.2.2.2.2.2.2.1 r3.2.2.2.2.2.2.2.2.2.2.2.2.2.1 r3.2.2.2.2.2.2.2.2.2.2.2.2.2.2.1 r3.2.2.2.2.2.2.2.2.2.2.2.2.2.2.2.1 r3.2.2.2.2.2.2.2.2.2.2.2.2.2.2.2.2.1 r3.2.2.2.2.2.2.2.2.2.2.2.2.2.2.2.2.2 ++ (gS cy qS r3.2.2.2.1 r3.2.2.2.2.1 r3.2.2.2.2.2.1 r3.2.2.2.2.2.2.1 ++ (gG cy qG g_base g_worth r3.2.1 r3.2.2.1 g_version)))) [2, 3, 4, 5, 6, 7, 8, 9, 10, 11, 12, 13, 14, 15] [0, 1] [0, 1, 2, 3, 4, 5, 6, 7, 8, 9, 10, 11, 12, 13, 14, 15] := ⟨rfl, rfl, rfl, rfl, by decide, rfl, fun _ => rfl⟩
        refine kc_i (k_run ⟨hx, hb, hml, hown, hts⟩ (c_X0_tailFrom hc4 rfl) (cwV 1 hts gX9_reach_X0_tailFrom rfl rfl rfl (by decide +kernel) ⟨Nat.le_of_ble_eq_true rfl, Nat.le_of_ble_eq_true rfl⟩) hK hN hP hD ⟨hI5.1, hI5.2.2.1⟩ (ci := 0) (q0 := 0) rfl rfl rfl rfl hl.1 rfl (Nat.le_of_ble_eq_true rfl) dX9_reach_87 ⟨by show (c_n_leasts + c_n_lengths + c_n_firstBy + c_n_order) - pot0 + (pv1 - (c_n_leasts + c_n_lengths + c_n_firstBy + c_n_order)) ≤ pm - pot0; omega, by show 2 * ((c_n_leasts + c_n_lengths + c_n_firstBy + c_n_order) - pot0) + 2 * (pv1 - (c_n_leasts + c_n_lengths + c_n_firstBy + c_n_order)) ≤ 2 * (pm - pot0); omega⟩) hP hD hS hA hI5 (fun uC H locs hP hD hS => ?_)
        obtain ⟨cq6, hf⟩ := ck_some hf
        have hpt : pot0 ≤ (r3.2.2.2.2.2.2.2.2.2.2.1 + r3.2.2.2.2.2.2.2.2.2.2.2.2.1 + r3.2.2.2.2.2.2.2.2.2.2.2.2.2.2.1 + r3.2.2.2.2.2.2.2.2.2.2.2.2.2.2.2.2.1) ∧ (r3.2.2.2.2.2.2.2.2.2.2.1 + r3.2.2.2.2.2.2.2.2.2.2.2.2.1 + r3.2.2.2.2.2.2.2.2.2.2.2.2.2.2.1 + r3.2.2.2.2.2.2.2.2.2.2.2.2.2.2.2.2.1) ≤ pm := by omega
        refine W.widen (k := (r3.2.2.2.2.2.2.2.2.2.2.1 + r3.2.2.2.2.2.2.2.2.2.2.2.2.1 + r3.2.2.2.2.2.2.2.2.2.2.2.2.2.2.1 + r3.2.2.2.2.2.2.2.2.2.2.2.2.2.2.2.2.1) - pot0) (n := 2 * ((r3.2.2.2.2.2.2.2.2.2.2.1 + r3.2.2.2.2.2.2.2.2.2.2.2.2.1 + r3.2.2.2.2.2.2.2.2.2.2.2.2.2.2.1 + r3.2.2.2.2.2.2.2.2.2.2.2.2.2.2.2.2.1) - pot0)) (by show (c_n_leasts + c_n_lengths + c_n_firstBy + c_n_order) - pot0 + (pv1 - (c_n_leasts + c_n_lengths + c_n_firstBy + c_n_order)) ≤ (r3.2.2.2.2.2.2.2.2.2.2.1 + r3.2.2.2.2.2.2.2.2.2.2.2.2.1 + r3.2.2.2.2.2.2.2.2.2.2.2.2.2.2.1 + r3.2.2.2.2.2.2.2.2.2.2.2.2.2.2.2.2.1) - pot0; omega) (by show 2 * ((c_n_leasts + c_n_lengths + c_n_firstBy + c_n_order) - pot0) + 2 * (pv1 - (c_n_leasts + c_n_lengths + c_n_firstBy + c_n_order)) ≤ 2 * ((r3.2.2.2.2.2.2.2.2.2.2.1 + r3.2.2.2.2.2.2.2.2.2.2.2.2.1 + r3.2.2.2.2.2.2.2.2.2.2.2.2.2.2.1 + r3.2.2.2.2.2.2.2.2.2.2.2.2.2.2.2.2.1) - pot0); omega) ?_
        refine lv_goto (tgt := 99) hx hb dX9_reach_90 (by decide) ?_
        refine lv_istore (lv' := [(4, .int r3.1), (3, .int s0), (0, .ref (qY 0)), (1, .int a1), (2, .int x2)]) hx hb dX9_reach_99 hl (by decide) rfl (fun ls hl => ?_)
        refine lv_iload_n hx hb dX9_reach_101 rfl (lv_at hl 1 rfl) ?_
        refine lv_aload_n hx hb dX9_reach_102 rfl (lv_at hl 2 rfl) ?_
        refine va_get (v := .ref (qY 1)) (D := D) (ci := 9) (C := RX9) (T := TX9) (N := 7) hx hb hts huX9 hown hK hP 0 rfl rfl 4 (by decide) fk9 (fun _ h9 => h9) rfl dX9_reach_103 ?_
        refine va_alen (v := (3001 : Int32)) hx hb hK hP 1 0 rfl rfl rfl dX9_reach_106 ?_
        refine lv_icmp_ge (tgt := 118) hx hb dX9_reach_107 (by decide) (fun c7 => ?_) (fun c7 => ?_)
        · have hf := if_t hf c7
          exact hJ118 x2 r3.2.1 r3.2.2.1 r3.2.2.2.1 r3.2.2.2.2.1 r3.2.2.2.2.2.1 r3.2.2.2.2.2.2.1 y_tails r3.2.2.2.2.2.2.2.1 r3.2.2.2.2.2.2.2.2.1 r3.2.2.2.2.2.2.2.2.2.1 r3.2.2.2.2.2.2.2.2.2.2.1 r3.2.2.2.2.2.2.2.2.2.2.2.1 r3.2.2.2.2.2.2.2.2.2.2.2.2.1 r3.2.2.2.2.2.2.2.2.2.2.2.2.2.1 r3.2.2.2.2.2.2.2.2.2.2.2.2.2.2.1 r3.2.2.2.2.2.2.2.2.2.2.2.2.2.2.2.1 r3.2.2.2.2.2.2.2.2.2.2.2.2.2.2.2.2.1 r3.2.2.2.2.2.2.2.2.2.2.2.2.2.2.2.2.2 pl.tail _ _ _ _ hf hpt hP hD hS (lv_sub hl [2, 3, 4] rfl)
        · have hf := if_f hf c7
          refine lv_aload_n hx hb dX9_reach_110 rfl (lv_at hl 2 rfl) ?_
          refine va_get (v := .ref (qY 1)) (D := D) (ci := 9) (C := RX9) (T := TX9) (N := 7) hx hb hts huX9 hown hK hP 0 rfl rfl 4 (by decide) fk9 (fun _ h9 => h9) rfl dX9_reach_111 ?_
          refine lv_iload_n hx hb dX9_reach_114 rfl (lv_at hl 1 rfl) ?_
          refine lv_iload hx hb dX9_reach_115 (lv_at hl 0 rfl) ?_
          obtain ⟨c8, hf⟩ := ck_some hf
          refine va_iast hx hb hK hP hD hS 1 0 rfl rfl c8 dX9_reach_117 (fun H locs hP hD hS => ?_)
          have hP : va_P D vwCl (gY cy qY (qG 0) (qP 0) (qC 0) y_step (upd y_tails s0.toNatClampNeg r3.1) y_known y_version ++ (gC cy qC uC (qG 0) (qS 0) c_step r3.2.2.2.2.2.2.2.1 r3.2.2.2.2.2.2.2.2.1 r3.2.2.2.2.2.2.2.2.2.1 r3.2.2.2.2.2.2.2.2.2.2.1 r3.2.2.2.2.2.2.2.2.2.2.2.1 r3.2.2.2.2.2.2.2.2.2.2.2.2.1 r3.2.2.2.2.2.2.2.2.2.2.2.2.2.1 r3.2.2.2.2.2.2.2.2.2.2.2.2.2.2.1 r3.2.2.2.2.2.2.2.2.2.2.2.2.2.2.2.1 r3.2.2.2.2.2.2.2.2.2.2.2.2.2.2.2.2.1 r3.2.2.2.2.2.2.2.2.2.2.2.2.2.2.2.2.2 ++ (gS cy qS r3.2.2.2.1 r3.2.2.2.2.1 r3.2.2.2.2.2.1 r3.2.2.2.2.2.2.1 ++ (gG cy qG g_base g_worth r3.2.1 r3.2.2.1 g_version)))) H := hP
          have hD : va_D A (gY cy qY (qG 0) (qP 0) (qC 0) y_step (upd y_tails s0.toNatClampNeg r3.1) y_known y_version ++ (gC cy qC uC (qG 0) (qS 0) c_step r3.2.2.2.2.2.2.2.1 r3.2.2.2.2.2.2.2.2.1 r3.2.2.2.2.2.2.2.2.2.1 r3.2.2.2.2.2.2.2.2.2.2.1 r3.2.2.2.2.2.2.2.2.2.2.2.1 r3.2.2.2.2.2.2.2.2.2.2.2.2.1 r3.2.2.2.2.2.2.2.2.2.2.2.2.2.1 r3.2.2.2.2.2.2.2.2.2.2.2.2.2.2.1 r3.2.2.2.2.2.2.2.2.2.2.2.2.2.2.2.1 r3.2.2.2.2.2.2.2.2.2.2.2.2.2.2.2.2.1 r3.2.2.2.2.2.2.2.2.2.2.2.2.2.2.2.2.2 ++ (gS cy qS r3.2.2.2.1 r3.2.2.2.2.1 r3.2.2.2.2.2.1 r3.2.2.2.2.2.2.1 ++ (gG cy qG g_base g_worth r3.2.1 r3.2.2.1 g_version)))) := hD
          exact hJ118 x2 r3.2.1 r3.2.2.1 r3.2.2.2.1 r3.2.2.2.2.1 r3.2.2.2.2.2.1 r3.2.2.2.2.2.2.1 (upd y_tails s0.toNatClampNeg r3.1) r3.2.2.2.2.2.2.2.1 r3.2.2.2.2.2.2.2.2.1 r3.2.2.2.2.2.2.2.2.2.1 r3.2.2.2.2.2.2.2.2.2.2.1 r3.2.2.2.2.2.2.2.2.2.2.2.1 r3.2.2.2.2.2.2.2.2.2.2.2.2.1 r3.2.2.2.2.2.2.2.2.2.2.2.2.2.1 r3.2.2.2.2.2.2.2.2.2.2.2.2.2.2.1 r3.2.2.2.2.2.2.2.2.2.2.2.2.2.2.2.1 r3.2.2.2.2.2.2.2.2.2.2.2.2.2.2.2.2.1 r3.2.2.2.2.2.2.2.2.2.2.2.2.2.2.2.2.2 pl.tail _ _ _ _ hf hpt hP hD hS (lv_sub hl [2, 3, 4] rfl)
      refine lv_iload_n hx hb dX9_reach_49 rfl (lv_at hl 2 rfl) ?_
      refine lv_iload_n hx hb dX9_reach_50 rfl (lv_at hl 1 rfl) ?_
      refine lv_icmp_gt (tgt := 124) hx hb dX9_reach_51 (by decide) (fun c9 => ?_) (fun c9 => ?_)
      · have hf := if_t hf c9
        obtain rfl := Option.some.inj hf
        exact hex _ _ _ _ hpt hP hD hS (lv_sub hl [0, 1] rfl)
      · have hf := if_f hf c9
        refine lv_aload_n hx hb dX9_reach_54 rfl (lv_at hl 0 rfl) ?_
        refine va_get (D := D) (ci := 9) (C := RX9) (T := TX9) (N := 7) hx hb hts huX9 hown hK hP 0 rfl rfl 2 (by decide) fk30 (fun _ h9 => h9) rfl dX9_reach_55 ?_
        refine lv_iconst (v := (4 : Int32)) hx hb dX9_reach_58 (by decide) ?_
        refine lv_icmp_ne (tgt := 73) hx hb dX9_reach_59 (by decide) (fun c10 => ?_) (fun c10 => ?_)
        · have hf := if_f hf c10
          refine lv_iload_n hx hb dX9_reach_73 rfl (lv_at hl 2 rfl) ?_
          exact hJ74 x.1 x.1 x.2.1 x.2.2.1 x.2.2.2.1 x.2.2.2.2.1 x.2.2.2.2.2.1 x.2.2.2.2.2.2.1 x.2.2.2.2.2.2.2.1 x.2.2.2.2.2.2.2.2.1 x.2.2.2.2.2.2.2.2.2.1 x.2.2.2.2.2.2.2.2.2.2.1 x.2.2.2.2.2.2.2.2.2.2.2.1 x.2.2.2.2.2.2.2.2.2.2.2.2.1 x.2.2.2.2.2.2.2.2.2.2.2.2.2.1 x.2.2.2.2.2.2.2.2.2.2.2.2.2.2.1 x.2.2.2.2.2.2.2.2.2.2.2.2.2.2.2.1 x.2.2.2.2.2.2.2.2.2.2.2.2.2.2.2.2.1 x.2.2.2.2.2.2.2.2.2.2.2.2.2.2.2.2.2.1 x.2.2.2.2.2.2.2.2.2.2.2.2.2.2.2.2.2.2.1 x.2.2.2.2.2.2.2.2.2.2.2.2.2.2.2.2.2.2.2 _ _ _ _ hf hpt hP hD hS (lv_sub hl [0, 1, 2] rfl)
        · have hf := if_t hf c10
          refine lv_iload_n hx hb dX9_reach_62 rfl (lv_at hl 1 rfl) ?_
          refine lv_iload_n hx hb dX9_reach_63 rfl (lv_at hl 2 rfl) ?_
          refine lv_aload_n hx hb dX9_reach_64 rfl (lv_at hl 0 rfl) ?_
          refine va_get (D := D) (ci := 9) (C := RX9) (T := TX9) (N := 7) hx hb hts huX9 hown hK hP 0 rfl rfl 5 (by decide) fk15 (fun _ h9 => h9) rfl dX9_reach_65 ?_
          refine lv_isub hx hb dX9_reach_68 ?_
          refine lv_isub hx hb dX9_reach_69 ?_
          refine lv_goto (tgt := 74) hx hb dX9_reach_70 (by decide) ?_
          exact hJ74 x.1 (a1 - (x.1 - y_known)) x.2.1 x.2.2.1 x.2.2.2.1 x.2.2.2.2.1 x.2.2.2.2.2.1 x.2.2.2.2.2.2.1 x.2.2.2.2.2.2.2.1 x.2.2.2.2.2.2.2.2.1 x.2.2.2.2.2.2.2.2.2.1 x.2.2.2.2.2.2.2.2.2.2.1 x.2.2.2.2.2.2.2.2.2.2.2.1 x.2.2.2.2.2.2.2.2.2.2.2.2.1 x.2.2.2.2.2.2.2.2.2.2.2.2.2.1 x.2.2.2.2.2.2.2.2.2.2.2.2.2.2.1 x.2.2.2.2.2.2.2.2.2.2.2.2.2.2.2.1 x.2.2.2.2.2.2.2.2.2.2.2.2.2.2.2.2.1 x.2.2.2.2.2.2.2.2.2.2.2.2.2.2.2.2.2.1 x.2.2.2.2.2.2.2.2.2.2.2.2.2.2.2.2.2.2.1 x.2.2.2.2.2.2.2.2.2.2.2.2.2.2.2.2.2.2.2 _ _ _ _ hf hpt hP hD hS (lv_sub hl [0, 1, 2] rfl)
  have hJ44 : ∀ (g_row : Nat → Int32) (g_many : Nat → Int32) (s_keys : Nat → Int64) (s_tails : Nat → Int32) (s_homes : Nat → Int32) (s_stamp : Int32) (y_tails : Nat → Int32) (y_known : Int32) (y_version : Int32) (c_stamp : Int32) (c_homes : Nat → Int32) (c_size : Int32) (c_n_leasts : Nat) (c_leasts : Nat → Int64) (c_n_lengths : Nat) (c_lengths : Nat → Int32) (c_n_firstBy : Nat) (c_firstBy : Nat → Int32) (c_n_order : Nat) (c_order : Nat → Int32) (pl : List Nat) (uC : Nat → Nat) (H : Heap) (locs : List Loc) (ls : Array Slot), f_X9_reach_Y_J44 F a1 y_step c_step g_base g_worth pm g_row g_many s_keys s_tails s_homes s_stamp y_tails y_known y_version c_stamp c_homes c_size c_n_leasts c_leasts c_n_lengths c_lengths c_n_firstBy c_firstBy c_n_order c_order pl = some res → (pot0 ≤ (c_n_leasts + c_n_lengths + c_n_firstBy + c_n_order) ∧ (c_n_leasts + c_n_lengths + c_n_firstBy + c_n_order) ≤ pm) → va_P D vwCl (gY cy qY (qG 0) (qP 0) (qC 0) y_step y_tails y_known y_version ++ (gC cy qC uC (qG 0) (qS 0) c_step c_stamp c_homes c_size c_n_leasts c_leasts c_n_lengths c_lengths c_n_firstBy c_firstBy c_n_order c_order ++ (gS cy qS s_keys s_tails s_homes s_stamp ++ (gG cy qG g_base g_worth g_row g_many g_version)))) H → va_D A (gY cy qY (qG 0) (qP 0) (qC 0) y_step y_tails y_known y_version ++ (gC cy qC uC (qG 0) (qS 0) c_step c_stamp c_homes c_size c_n_leasts c_leasts c_n_lengths c_lengths c_n_firstBy c_firstBy c_n_order c_order ++ (gS cy qS s_keys s_tails s_homes s_stamp ++ (gG cy qG g_base g_worth g_row g_many g_version)))) → va_S A s.heap H locs → lv_has ls 5 [(0, .ref (qY 0)), (1, .int a1)] → W p l e0 (rmX9_reach_Y (pm - pot0)) s m ar below meth c H locs ((c_n_leasts + c_n_lengths + c_n_firstBy + c_n_order) - pot0) (2 * ((c_n_leasts + c_n_lengths + c_n_firstBy + c_n_order) - pot0)) Q (F0 m 44 ls []) := by
    intro g_row g_many s_keys s_tails s_homes s_stamp y_tails y_known y_version c_stamp c_homes c_size c_n_leasts c_leasts c_n_lengths c_lengths c_n_firstBy c_firstBy c_n_order c_order pl uC H locs ls hf hpt hP hD hS hl
    unfold f_X9_reach_Y_J44 at hf
    refine lv_aload_n hx hb dX9_reach_44 rfl (lv_at hl 0 rfl) ?_
    refine va_get (D := D) (ci := 9) (C := RX9) (T := TX9) (N := 7) hx hb hts huX9 hown hK hP 0 rfl rfl 5 (by decide) fk15 (fun _ h9 => h9) rfl dX9_reach_45 ?_
    refine lv_istore_n (lv' := [(2, .int y_known), (0, .ref (qY 0)), (1, .int a1)]) hx hb dX9_reach_48 rfl hl (by decide) rfl (fun ls hl => ?_)
    obtain ⟨ex11, hcl, hf⟩ := ob_some hf
    refine hL49 y_known y_version F (y_known, g_row, g_many, s_keys, s_tails, s_homes, s_stamp, y_tails, c_stamp, c_homes, c_size, c_n_leasts, c_leasts, c_n_lengths, c_lengths, c_n_firstBy, c_firstBy, c_n_order, c_order, pl) ex11 _ _ _ _ hcl (fun uC H locs ls hpt hP hD hS hl => ?_) hpt hP hD hS (lv_sub hl [1, 2, 0] rfl)
    refine lv_aload_n hx hb dX9_reach_124 rfl (lv_at hl 0 rfl) ?_
    refine lv_aload_n hx hb dX9_reach_125 rfl (lv_at hl 0 rfl) ?_
    refine va_get (D := D) (ci := 9) (C := RX9) (T := TX9) (N := 7) hx hb hts huX9 hown hK hP 0 rfl rfl 5 (by decide) fk15 (fun _ h9 => h9) rfl dX9_reach_126 ?_
    refine lv_iload_n hx hb dX9_reach_129 rfl (lv_at hl 1 rfl) ?_
    refine lv_iconst (v := (1 : Int32)) hx hb dX9_reach_130 (by decide) ?_
    refine lv_iadd hx hb dX9_reach_131 ?_
    refine va_mmax hx hb (hml.trans hl.1.symm) hown (hts (.methodLink RX9 52 Lib.Math.max.name) (by decide +kernel)) (hts (.static Lib.Math.max.name) (by decide +kernel)) (hts (.initialized "java/lang/Math") (by decide +kernel)) (hts (.code Lib.Math.max.name Lib.Math.max.code 2 (some .int)) (by decide +kernel)) (Nat.le_of_ble_eq_true rfl) (Nat.le_of_ble_eq_true rfl) (by show (ex11.2.2.2.2.2.2.2.2.2.2.1 + ex11.2.2.2.2.2.2.2.2.2.2.2.2.1 + ex11.2.2.2.2.2.2.2.2.2.2.2.2.2.2.1 + ex11.2.2.2.2.2.2.2.2.2.2.2.2.2.2.2.2.1) - pot0 ≤ pm - pot0; omega) (by show 2 * ((ex11.2.2.2.2.2.2.2.2.2.2.1 + ex11.2.2.2.2.2.2.2.2.2.2.2.2.1 + ex11.2.2.2.2.2.2.2.2.2.2.2.2.2.2.1 + ex11.2.2.2.2.2.2.2.2.2.2.2.2.2.2.2.2.1) - pot0) ≤ 2 * (pm - pot0); omega) dX9_reach_132 ?_
    refine va_put (D := D) (ci := 9) (v := .int (if y_known < (a1 + (1 : Int32)) then (a1 + (1 : Int32)) else y_known)) (ty := .int) (C := RX9) (T := TX9) (N := 7) hx hb hts huX9 tyX9 tyX9_ok nmX9 hown hK hP hD hS 0 rfl rfl 5 (by decide) fk15 (fun _ h9 => h9) rfl (tyX9_ok 5 (by decide)) rfl rfl (Nat.le_of_ble_eq_true rfl) dX9_reach_135 (fun H locs hP hD hS => ?_)
    have hP : va_P D vwCl (gY cy qY (qG 0) (qP 0) (qC 0) y_step ex11.2.2.2.2.2.2.1 (if y_known < (a1 + (1 : Int32)) then (a1 + (1 : Int32)) else y_known) y_version ++ (gC cy qC uC (qG 0) (qS 0) c_step ex11.2.2.2.2.2.2.2.1 ex11.2.2.2.2.2.2.2.2.1 ex11.2.2.2.2.2.2.2.2.2.1 ex11.2.2.2.2.2.2.2.2.2.2.1 ex11.2.2.2.2.2.2.2.2.2.2.2.1 ex11.2.2.2.2.2.2.2.2.2.2.2.2.1 ex11.2.2.2.2.2.2.2.2.2.2.2.2.2.1 ex11.2.2.2.2.2.2.2.2.2.2.2.2.2.2.1 ex11.2.2.2.2.2.2.2.2.2.2.2.2.2.2.2.1 ex11.2.2.2.2.2.2.2.2.2.2.2.2.2.2.2.2.1 ex11.2.2.2.2.2.2.2.2.2.2.2.2.2.2.2.2.2 ++ (gS cy qS ex11.2.2.1 ex11.2.2.2.1 ex11.2.2.2.2.1 ex11.2.2.2.2.2.1 ++ (gG cy qG g_base g_worth ex11.1 ex11.2.1 g_version)))) H := hP
    have hD : va_D A (gY cy qY (qG 0) (qP 0) (qC 0) y_step ex11.2.2.2.2.2.2.1 (if y_known < (a1 + (1 : Int32)) then (a1 + (1 : Int32)) else y_known) y_version ++ (gC cy qC uC (qG 0) (qS 0) c_step ex11.2.2.2.2.2.2.2.1 ex11.2.2.2.2.2.2.2.2.1 ex11.2.2.2.2.2.2.2.2.2.1 ex11.2.2.2.2.2.2.2.2.2.2.1 ex11.2.2.2.2.2.2.2.2.2.2.2.1 ex11.2.2.2.2.2.2.2.2.2.2.2.2.1 ex11.2.2.2.2.2.2.2.2.2.2.2.2.2.1 ex11.2.2.2.2.2.2.2.2.2.2.2.2.2.2.1 ex11.2.2.2.2.2.2.2.2.2.2.2.2.2.2.2.1 ex11.2.2.2.2.2.2.2.2.2.2.2.2.2.2.2.2.1 ex11.2.2.2.2.2.2.2.2.2.2.2.2.2.2.2.2.2 ++ (gS cy qS ex11.2.2.1 ex11.2.2.2.1 ex11.2.2.2.2.1 ex11.2.2.2.2.2.1 ++ (gG cy qG g_base g_worth ex11.1 ex11.2.1 g_version)))) := hD
    obtain ⟨cp, hf⟩ := ck_some hf
    refine W.widen (k := pm - pot0) (n := 2 * (pm - pot0)) (by omega) (by omega) ?_
    obtain rfl := Option.some.inj hf
    exact hQ uC 138 _ _ _ dX9_reach_138 hP hD hS
  refine lv_aload_n hx hb dX9_reach_0 rfl (lv_at hl 0 rfl) ?_
  refine va_get (D := D) (ci := 9) (C := RX9) (T := TX9) (N := 7) hx hb hts huX9 hown hK hP 0 rfl rfl 6 (by decide) fk19 (fun _ h9 => h9) rfl dX9_reach_1 ?_
  refine lv_aload_n hx hb dX9_reach_4 rfl (lv_at hl 0 rfl) ?_
  refine va_get (v := .ref (qG 0)) (D := D) (ci := 9) (C := RX9) (T := TX9) (N := 7) hx hb hts huX9 hown hK hP 0 rfl rfl 0 (by decide) fk22 (fun _ h9 => h9) rfl dX9_reach_5 ?_
  refine va_get (D := D) (ci := 1) (C := RX1) (T := TX1) (N := 5) hx hb hts huX1 hown hK hP 12 rfl rfl 4 (by decide) fk37 (fun _ h9 => h9) rfl dX9_reach_8 ?_
  refine lv_icmp_eq (tgt := 44) hx hb dX9_reach_11 (by decide) (fun c12 => ?_) (fun c12 => ?_)
  · have hf := if_t hf c12
    exact hJ44 g_row g_many s_keys s_tails s_homes s_stamp y_tails y_known y_version c_stamp c_homes c_size c_n_leasts c_leasts c_n_lengths c_lengths c_n_firstBy c_firstBy c_n_order c_order pl _ _ _ _ hf hpt hP hD hS (lv_sub hl [0, 1] rfl)
  · have hf := if_f hf c12
    refine lv_aload_n hx hb dX9_reach_14 rfl (lv_at hl 0 rfl) ?_
    refine lv_aload_n hx hb dX9_reach_15 rfl (lv_at hl 0 rfl) ?_
    refine va_get (v := .ref (qG 0)) (D := D) (ci := 9) (C := RX9) (T := TX9) (N := 7) hx hb hts huX9 hown hK hP 0 rfl rfl 0 (by decide) fk22 (fun _ h9 => h9) rfl dX9_reach_16 ?_
    refine va_get (D := D) (ci := 1) (C := RX1) (T := TX1) (N := 5) hx hb hts huX1 hown hK hP 12 rfl rfl 4 (by decide) fk37 (fun _ h9 => h9) rfl dX9_reach_19 ?_
    refine va_put (D := D) (ci := 9) (v := .int g_version) (ty := .int) (C := RX9) (T := TX9) (N := 7) hx hb hts huX9 tyX9 tyX9_ok nmX9 hown hK hP hD hS 0 rfl rfl 6 (by decide) fk19 (fun _ h9 => h9) rfl (tyX9_ok 6 (by decide)) rfl rfl (Nat.le_of_ble_eq_true rfl) dX9_reach_22 (fun H locs hP hD hS => ?_)
    have hP : va_P D vwCl (gY cy qY (qG 0) (qP 0) (qC 0) y_step y_tails y_known g_version ++ (gC cy qC uC (qG 0) (qS 0) c_step c_stamp c_homes c_size c_n_leasts c_leasts c_n_lengths c_lengths c_n_firstBy c_firstBy c_n_order c_order ++ (gS cy qS s_keys s_tails s_homes s_stamp ++ (gG cy qG g_base g_worth g_row g_many g_version)))) H := hP
    have hD : va_D A (gY cy qY (qG 0) (qP 0) (qC 0) y_step y_tails y_known g_version ++ (gC cy qC uC (qG 0) (qS 0) c_step c_stamp c_homes c_size c_n_leasts c_leasts c_n_lengths c_lengths c_n_firstBy c_firstBy c_n_order c_order ++ (gS cy qS s_keys s_tails s_homes s_stamp ++ (gG cy qG g_base g_worth g_row g_many g_version)))) := hD
    refine lv_aload_n hx hb dX9_reach_25 rfl (lv_at hl 0 rfl) ?_
    refine lv_iconst (v := (0 : Int32)) hx hb dX9_reach_26 (by decide) ?_
    refine va_put (D := D) (ci := 9) (v := .int (0 : Int32)) (ty := .int) (C := RX9) (T := TX9) (N := 7) hx hb hts huX9 tyX9 tyX9_ok nmX9 hown hK hP hD hS 0 rfl rfl 5 (by decide) fk15 (fun _ h9 => h9) rfl (tyX9_ok 5 (by decide)) rfl rfl (Nat.le_of_ble_eq_true rfl) dX9_reach_27 (fun H locs hP hD hS => ?_)
    have hP : va_P D vwCl (gY cy qY (qG 0) (qP 0) (qC 0) y_step y_tails (0 : Int32) g_version ++ (gC cy qC uC (qG 0) (qS 0) c_step c_stamp c_homes c_size c_n_leasts c_leasts c_n_lengths c_lengths c_n_firstBy c_firstBy c_n_order c_order ++ (gS cy qS s_keys s_tails s_homes s_stamp ++ (gG cy qG g_base g_worth g_row g_many g_version)))) H := hP
    have hD : va_D A (gY cy qY (qG 0) (qP 0) (qC 0) y_step y_tails (0 : Int32) g_version ++ (gC cy qC uC (qG 0) (qS 0) c_step c_stamp c_homes c_size c_n_leasts c_leasts c_n_lengths c_lengths c_n_firstBy c_firstBy c_n_order c_order ++ (gS cy qS s_keys s_tails s_homes s_stamp ++ (gG cy qG g_base g_worth g_row g_many g_version)))) := hD
    refine lv_aload_n hx hb dX9_reach_30 rfl (lv_at hl 0 rfl) ?_
    refine va_get (v := .ref (qC 0)) (D := D) (ci := 9) (C := RX9) (T := TX9) (N := 7) hx hb hts huX9 hown hK hP 0 rfl rfl 3 (by decide) fk33 (fun _ h9 => h9) rfl dX9_reach_31 ?_
    refine lv_ifnull hx hb dX9_reach_34 ?_
    refine lv_aload_n hx hb dX9_reach_37 rfl (lv_at hl 0 rfl) ?_
    refine va_get (v := .ref (qC 0)) (D := D) (ci := 9) (C := RX9) (T := TX9) (N := 7) hx hb hts huX9 hown hK hP 0 rfl rfl 3 (by decide) fk33 (fun _ h9 => h9) rfl dX9_reach_38 ?_
    obtain ⟨r13, hc14, hf⟩ := ob_some hf
    have hI15 : kIn (gY cy qY (qG 0) (qP 0) (qC 0) y_step y_tails (0 : Int32) g_version ++ (gC cy qC uC (qG 0) (qS 0) c_step c_stamp c_homes c_size c_n_leasts c_leasts c_n_lengths c_lengths c_n_firstBy c_firstBy c_n_order c_order ++ (gS cy qS s_keys s_tails s_homes s_stamp ++ (gG cy qG g_base g_worth g_row g_many g_version)))) (gC cy qC uC (qG 0) (qS 0) c_step c_stamp c_homes c_size c_n_leasts c_leasts c_n_lengths c_lengths c_n_firstBy c_firstBy c_n_order c_order) (kpick (gY cy qY (qG 0) (qP 0) (qC 0) y_step y_tails (0 : Int32) g_version ++ (gC cy qC uC (qG 0) (qS 0) c_step c_stamp c_homes c_size c_n_leasts c_leasts c_n_lengths c_lengths c_n_firstBy c_firstBy c_n_order c_order ++ (gS cy qS s_keys s_tails s_homes s_stamp ++ (gG cy qG g_base g_worth g_row g_many g_version)))) [0, 1, 8, 9, 10, 11, 12, 13, 14, 15]) (fun _ : Unit => gC cy qC uC (qG 0) (qS 0) c_step r13.1 c_homes r13.2 c_n_leasts c_leasts c_n_lengths c_lengths c_n_firstBy c_firstBy c_n_order c_order) (fun _ : Unit => gY cy qY (qG 0) (qP 0) (qC 0) y_step y_tails (0 : Int32) g_version ++ (gC cy qC uC (qG 0) (qS 0) c_step r13.1 c_homes r13.2 c_n_leasts c_leasts c_n_lengths c_lengths c_n_firstBy c_firstBy c_n_order c_order ++ (gS cy qS s_keys s_tails s_homes s_stamp ++ (gG cy qG g_base g_worth g_row g_many g_version)))) [2, 3, 4, 5, 6, 7] [0, 1, 8, 9, 10, 11, 12, 13, 14, 15] [0, 1, 10, 11, 12, 13, 14, 15, 2, 3, 4, 5, 6, 7, 8, 9] := ⟨rfl, rfl, rfl, rfl, by decide, rfl, fun _ => rfl⟩
    refine kc_v (k_run ⟨hx, hb, hml, hown, hts⟩ (c_X0_forget hc14) (cwV 0 hts gX9_reach_X0_forget rfl rfl rfl (by decide +kernel) ⟨Nat.le_of_ble_eq_true rfl, Nat.le_of_ble_eq_true rfl⟩) hK hN hP hD ⟨hI15.1, hI15.2.2.1⟩ (ci := 0) (q0 := 0) rfl rfl rfl rfl hl.1 rfl (Nat.le_of_ble_eq_true rfl) dX9_reach_41 ⟨by show (c_n_leasts + c_n_lengths + c_n_firstBy + c_n_order) - pot0 + 0 ≤ pm - pot0; omega, by show 2 * ((c_n_leasts + c_n_lengths + c_n_firstBy + c_n_order) - pot0) + 0 ≤ 2 * (pm - pot0); omega⟩) hP hD hS hA hI15 (fun _ H locs hP hD hS => ?_)
    refine W.widen (k := (c_n_leasts + c_n_lengths + c_n_firstBy + c_n_order) - pot0) (n := 2 * ((c_n_leasts + c_n_lengths + c_n_firstBy + c_n_order) - pot0)) (Nat.le_refl _) (Nat.le_refl _) ?_
    exact hJ44 g_row g_many s_keys s_tails s_homes s_stamp y_tails (0 : Int32) g_version r13.1 c_homes r13.2 c_n_leasts c_leasts c_n_lengths c_lengths c_n_firstBy c_firstBy c_n_order c_order pl _ _ _ _ hf hpt hP hD hS (lv_sub hl [0, 1] rfl)
