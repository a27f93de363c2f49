/-! the class: functions and contracts -/
def f_X9_tailAheadOf_J21 (F : Nat) (s0 : Int32) : Option (Int32) := some s0
def f_X9_tailAheadOf_J14 (F : Nat) : Option (Int32) := f_X9_tailAheadOf_J21 F (-1 : Int32)
def f_X9_tailAheadOf (F : Nat) (a0 : Int32) : Option (Int32) := if a0 = (-1 : Int32) then (f_X9_tailAheadOf_J14 F) else (if (a0 + (2 : Int32)) ≤ (300 : Int32) then (f_X9_tailAheadOf_J21 F (a0 + (1 : Int32))) else (f_X9_tailAheadOf_J14 F))
abbrev rmX9_tailAheadOf : Room := { frames := 0, cells := 0, slots := 0, locals := 0 }
set_option maxHeartbeats 1000000 in
set_option maxRecDepth 100000 in
theorem c_X9_tailAheadOf {l : Launch} {D : va_G} {cy : Nat → ClassId} {a0 : Int32} {F : Nat} {res : Int32} (hf : f_X9_tailAheadOf F a0 = some res) : kM l yX9_tailAheadOf wsX9_tailAheadOf rmX9_tailAheadOf D cy [.int a0] ([]) (kQi D cy (fun _ : Unit => []) res) := by
  refine kent_i (cc := cX9_tailAheadOf) (maxL := 1) (by decide) rfl (Nat.le_of_ble_eq_true rfl) ?_
  intro p e0 s m ar below meth c A Q ls ⟨hx, hb, hml, hr, hts, hown, hlocks, hnm⟩ hA hK hN hQ hP hD hS hl
  have hl : lv_has ls 1 [(0, .int a0)] := hl
  have hown : s.vm.findClass RX9 = some m.cls := hown
  unfold f_X9_tailAheadOf at hf
  have hJ21 : ∀ (s0 : Int32) (H : Heap) (locs : List Loc) (ls : Array Slot), f_X9_tailAheadOf_J21 F s0 = some res → va_P D vwCl ([]) H → va_D A ([]) → va_S A s.heap H locs → lv_has ls 1 [] → W p l e0 rmX9_tailAheadOf s m ar below meth c H locs 0 0 Q (F0 m 21 ls [.int s0]) := by
    intro s0 H locs ls hf hP hD hS hl
    unfold f_X9_tailAheadOf_J21 at hf
    obtain rfl := Option.some.inj hf
    exact hQ () 21 _ _ _ dX9_tailAheadOf_21 hP hD hS
  have hJ14 : ∀ (H : Heap) (locs : List Loc) (ls : Array Slot), f_X9_tailAheadOf_J14 F = some res → va_P D vwCl ([]) H → va_D A ([]) → va_S A s.heap H locs → lv_has ls 1 [] → W p l e0 rmX9_tailAheadOf s m ar below meth c H locs 0 0 Q (F0 m 14 ls []) := by
    intro H locs ls hf hP hD hS hl
    unfold f_X9_tailAheadOf_J14 at hf
    refine lv_iconst (v := (-1 : Int32)) hx hb dX9_tailAheadOf_14 (by decide) ?_
    refine lv_goto (tgt := 21) hx hb dX9_tailAheadOf_15 (by decide) ?_
    exact hJ21 (-1 : Int32) _ _ _ hf hP hD hS (lv_sub hl [] rfl)
  refine lv_iload_n hx hb dX9_tailAheadOf_0 rfl (lv_at hl 0 rfl) ?_
  refine lv_iconst (v := (-1 : Int32)) hx hb dX9_tailAheadOf_1 (by decide) ?_
  refine lv_icmp_eq (tgt := 14) hx hb dX9_tailAheadOf_2 (by decide) (fun c1 => ?_) (fun c1 => ?_)
  · have hf := if_t hf c1
    exact hJ14 _ _ _ hf hP hD hS (lv_sub hl [] rfl)
  · have hf := if_f hf c1
    refine lv_iload_n hx hb dX9_tailAheadOf_5 rfl (lv_at hl 0 rfl) ?_
    refine lv_iconst (v := (2 : Int32)) hx hb dX9_tailAheadOf_6 (by decide) ?_
    refine lv_iadd hx hb dX9_tailAheadOf_7 ?_
    refine lv_sipush (v := (300 : Int32)) hx hb dX9_tailAheadOf_8 (by decide) ?_
    refine lv_icmp_le (tgt := 18) hx hb dX9_tailAheadOf_11 (by decide) (fun c2 => ?_) (fun c2 => ?_)
    · have hf := if_t hf c2
      refine lv_iload_n hx hb dX9_tailAheadOf_18 rfl (lv_at hl 0 rfl) ?_
      refine lv_iconst (v := (1 : Int32)) hx hb dX9_tailAheadOf_19 (by decide) ?_
      refine lv_iadd hx hb dX9_tailAheadOf_20 ?_
      exact hJ21 (a0 + (1 : Int32)) _ _ _ hf hP hD hS (lv_sub hl [] rfl)
    · have hf := if_f hf c2
      exact hJ14 _ _ _ hf hP hD hS (lv_sub hl [] rfl)
def f_X9_leastWithTail_Z_B2 (F : Nat) (a1 : Int32) (a2 : Int32) (z_tails : Nat → Int32) (rec : Int32 → Option ((Int32) ⊕ (Unit))) (x : Int32) : Option ((Int32) ⊕ (Unit)) := if a2 < x then (some (.inr ())) else (if (3001 : Int32) ≤ x then (some (.inr ())) else (ck (¬ (x < 0 ∨ 3001 ≤ x.toNatClampNeg)) (if (z_tails x.toNatClampNeg) = a1 then (some (.inl x)) else (rec (x + (1 : Int32))))))
def f_X9_leastWithTail_Z (F : Nat) (a1 : Int32) (a2 : Int32) (z_tails : Nat → Int32) : Option (Int32) := (lp (f_X9_leastWithTail_Z_B2 F a1 a2 z_tails) F (0 : Int32)).bind (fun ex5 => Sum.elim (fun r => some r) (fun er6 => some (-4 : Int32)) ex5)
abbrev rmX9_leastWithTail_Z : Room := { frames := 0, cells := 0, slots := 0, locals := 0 }
set_option maxHeartbeats 1000000 in
set_option maxRecDepth 100000 in
theorem c_X9_leastWithTail_Z {l : Launch} {D : va_G} {cy : Nat → ClassId} {qZ : Nat → Nat} {qG : Nat → Nat} {qP : Nat → Nat} {z_step : Int32} {z_tails : Nat → Int32} {z_known : Int32} {z_version : Int32} {a1 : Int32} {a2 : Int32} {F : Nat} {res : Int32} (hf : f_X9_leastWithTail_Z F a1 a2 z_tails = some res) : kM l yX9_leastWithTail wsX9_leastWithTail rmX9_leastWithTail_Z D cy [.ref (qZ 0), .int a1, .int a2] (gZ cy qZ (qG 0) (qP 0) z_step z_tails z_known z_version) (kQi D cy (fun _ : Unit => gZ cy qZ (qG 0) (qP 0) z_step z_tails z_known z_version) res) := by
  refine kent_i (cc := cX9_leastWithTail) (maxL := 4) (by decide) rfl (Nat.le_of_ble_eq_true rfl) ?_
  intro p e0 s m ar below meth c A Q ls ⟨hx, hb, hml, hr, hts, hown, hlocks, hnm⟩ hA hK hN hQ hP hD hS hl
  have hl : lv_has ls 4 [(0, .ref (qZ 0)), (1, .int a1), (2, .int a2)] := hl
  have hown : s.vm.findClass RX9 = some m.cls := hown
  have huX9 : ∀ x ∈ u_ws RX9 TX9 7, x ∈ wsX9_leastWithTail := by decide +kernel
  have fk9 : (Cond.fieldLink RX9 9 "FigurePlay$Ways" "tails" "[I").before ar s = true := hts _ (by decide +kernel)
  unfold f_X9_leastWithTail_Z at hf
  have hL2 : ∀ (k : Nat) (x : Int32) (ex : (Int32) ⊕ (Unit)) (H : Heap) (locs : List Loc) (ls : Array Slot), lp (f_X9_leastWithTail_Z_B2 F a1 a2 z_tails) k x = some ex → (∀ r, ex = .inl r → r = res) → (∀ er, ex = .inr er → ∀ (H : Heap) (locs : List Loc) (ls : Array Slot), va_P D vwCl (gZ cy qZ (qG 0) (qP 0) z_step z_tails z_known z_version) H → va_D A (gZ cy qZ (qG 0) (qP 0) z_step z_tails z_known z_version) → va_S A s.heap H locs → lv_has ls 4 [] → W p l e0 rmX9_leastWithTail_Z s m ar below meth c H locs 0 0 Q (F0 m 34 ls [])) → va_P D vwCl (gZ cy qZ (qG 0) (qP 0) z_step z_tails z_known z_version) H → va_D A (gZ cy qZ (qG 0) (qP 0) z_step z_tails z_known z_version) → va_S A s.heap H locs → lv_has ls 4 [(0, .ref (qZ 0)), (1, .int a1), (2, .int a2), (3, .int x)] → W p l e0 rmX9_leastWithTail_Z s m ar below meth c H locs 0 0 Q (F0 m 2 ls []) := by
    intro k
    induction k with
    | zero => intro x ex H locs ls hf; exact no_some hf
    | succ k ih =>
      intro x ex H locs ls hf hret hex hP hD hS hl
      have hf : f_X9_leastWithTail_Z_B2 F a1 a2 z_tails (lp (f_X9_leastWithTail_Z_B2 F a1 a2 z_tails) k) x = some ex := hf
      unfold f_X9_leastWithTail_Z_B2 at hf
      refine lv_iload_n hx hb dX9_leastWithTail_2 rfl (lv_at hl 3 rfl) ?_
      refine lv_iload_n hx hb dX9_leastWithTail_3 rfl (lv_at hl 2 rfl) ?_
      refine lv_icmp_gt (tgt := 34) hx hb dX9_leastWithTail_4 (by decide) (fun c1 => ?_) (fun c1 => ?_)
      · have hf := if_t hf c1
        obtain rfl := Option.some.inj hf
        exact hex _ rfl _ _ _ hP hD hS (lv_sub hl [] rfl)
      · have hf := if_f hf c1
        refine lv_iload_n hx hb dX9_leastWithTail_7 rfl (lv_at hl 3 rfl) ?_
        refine lv_aload_n hx hb dX9_leastWithTail_8 rfl (lv_at hl 0 rfl) ?_
        refine va_get (v := .ref (qZ 1)) (D := D) (ci := 9) (C := RX9) (T := TX9) (N := 7) hx hb hts huX9 hown hK hP 0 rfl rfl 4 (by decide) fk9 (fun _ h9 => h9) rfl dX9_leastWithTail_9 ?_
        refine va_alen (v := (3001 : Int32)) hx hb hK hP 1 0 rfl rfl rfl dX9_leastWithTail_12 ?_
        refine lv_icmp_ge (tgt := 34) hx hb dX9_leastWithTail_13 (by decide) (fun c2 => ?_) (fun c2 => ?_)
        · have hf := if_t hf c2
          obtain rfl := Option.some.inj hf
          exact hex _ rfl _ _ _ hP hD hS (lv_sub hl [] rfl)
        · have hf := if_f hf c2
          refine lv_aload_n hx hb dX9_leastWithTail_16 rfl (lv_at hl 0 rfl) ?_
          refine va_get (v := .ref (qZ 1)) (D := D) (ci := 9) (C := RX9) (T := TX9) (N := 7) hx hb hts huX9 hown hK hP 0 rfl rfl 4 (by decide) fk9 (fun _ h9 => h9) rfl dX9_leastWithTail_17 ?_
          refine lv_iload_n hx hb dX9_leastWithTail_20 rfl (lv_at hl 3 rfl) ?_
          obtain ⟨c3, hf⟩ := ck_some hf
          refine va_iald hx hb hK hP 1 0 rfl rfl c3 dX9_leastWithTail_21 ?_
          refine lv_iload_n hx hb dX9_leastWithTail_22 rfl (lv_at hl 1 rfl) ?_
          refine lv_icmp_ne (tgt := 28) hx hb dX9_leastWithTail_23 (by decide) (fun c4 => ?_) (fun c4 => ?_)
          · have hf := if_f hf c4
            refine lv_iinc (v := (x + (1 : Int32))) (lv' := [(3, .int (x + (1 : Int32))), (0, .ref (qZ 0)), (1, .int a1), (2, .int a2)]) hx hb dX9_leastWithTail_28 hl (k := 3) rfl rfl (by decide) rfl (fun ls hl => ?_)
            refine lv_goto (tgt := 2) hx hb dX9_leastWithTail_31 (by decide) ?_
            exact ih (x + (1 : Int32)) ex _ _ _ hf hret hex hP hD hS (lv_sub hl [1, 2, 3, 0] rfl)
          · have hf := if_t hf c4
            refine lv_iload_n hx hb dX9_leastWithTail_26 rfl (lv_at hl 3 rfl) ?_
            obtain rfl := Option.some.inj hf
            obtain rfl := hret _ rfl
            exact hQ () 27 _ _ _ dX9_leastWithTail_27 hP hD hS
  refine lv_iconst (v := (0 : Int32)) hx hb dX9_leastWithTail_0 (by decide) ?_
  refine lv_istore_n (lv' := [(3, .int (0 : Int32)), (0, .ref (qZ 0)), (1, .int a1), (2, .int a2)]) hx hb dX9_leastWithTail_1 rfl hl (by decide) rfl (fun ls hl => ?_)
  obtain ⟨ex5, hcl, hf⟩ := ob_some hf
  refine hL2 F (0 : Int32) ex5 _ _ _ hcl (fun r hr0 => ?_) (fun er6 hr0 H locs ls hP hD hS hl => ?_) hP hD hS (lv_sub hl [1, 2, 3, 0] rfl)
  · subst hr0; exact Option.some.inj (sm_inl hf)
  · subst hr0
    have hf := sm_inr hf
    refine lv_bipush (v := (-4 : Int32)) hx hb dX9_leastWithTail_34 (by decide) ?_
    obtain rfl := Option.some.inj hf
    exact hQ () 36 _ _ _ dX9_leastWithTail_36 hP hD hS
def f_X9_withLongestTail_Z_J45 (F : Nat) (rec : (Int32 × Int32 × Int32) → Option (Int32)) (x2 : Int32) (x3 : Int32) (x4 : Int32) : Option (Int32) := rec (x2, x3, (x4 + (1 : Int32)))
def f_X9_withLongestTail_Z_B7 (F : Nat) (a1 : Int32) (z_tails : Nat → Int32) (rec : Int32 × Int32 × Int32 → Option (Int32)) (x : Int32 × Int32 × Int32) : Option (Int32) := if a1 < x.2.2 then (some x.1) else (if (3001 : Int32) ≤ x.2.2 then (some x.1) else (ck (¬ (x.2.2 < 0 ∨ 3001 ≤ x.2.2.toNatClampNeg)) (if (z_tails x.2.2.toNatClampNeg) ≤ x.2.1 then (f_X9_withLongestTail_Z_J45 F rec x.1 x.2.1 x.2.2) else (ck (¬ (x.2.2 < 0 ∨ 3001 ≤ x.2.2.toNatClampNeg)) (f_X9_withLongestTail_Z_J45 F rec x.2.2 (z_tails x.2.2.toNatClampNeg) x.2.2)))))
def f_X9_withLongestTail_Z (F : Nat) (a1 : Int32) (z_tails : Nat → Int32) : Option (Int32) := (lp (f_X9_withLongestTail_Z_B7 F a1 z_tails) F ((-1 : Int32), (-1 : Int32), (0 : Int32))).bind (fun ex6 => some ex6)
abbrev rmX9_withLongestTail_Z : Room := { frames := 0, cells := 0, slots := 0, locals := 0 }
set_option maxHeartbeats 1000000 in
set_option maxRecDepth 100000 in
theorem c_X9_withLongestTail_Z {l : Launch} {D : va_G} {cy : Nat → ClassId} {qZ : Nat → Nat} {qG : Nat → Nat} {qP : Nat → Nat} {z_step : Int32} {z_tails : Nat → Int32} {z_known : Int32} {z_version : Int32} {a1 : Int32} {F : Nat} {res : Int32} (hf : f_X9_withLongestTail_Z F a1 z_tails = some res) : kM l yX9_withLongestTail wsX9_withLongestTail rmX9_withLongestTail_Z D cy [.ref (qZ 0), .int a1] (gZ cy qZ (qG 0) (qP 0) z_step z_tails z_known z_version) (kQi D cy (fun _ : Unit => gZ cy qZ (qG 0) (qP 0) z_step z_tails z_known z_version) res) := by
  refine kent_i (cc := cX9_withLongestTail) (maxL := 5) (by decide) rfl (Nat.le_of_ble_eq_true rfl) ?_
  intro p e0 s m ar below meth c A Q ls ⟨hx, hb, hml, hr, hts, hown, hlocks, hnm⟩ hA hK hN hQ hP hD hS hl
  have hl : lv_has ls 5 [(0, .ref (qZ 0)), (1, .int a1)] := hl
  have hown : s.vm.findClass RX9 = some m.cls := hown
  have huX9 : ∀ x ∈ u_ws RX9 TX9 7, x ∈ wsX9_withLongestTail := by decide +kernel
  have fk9 : (Cond.fieldLink RX9 9 "FigurePlay$Ways" "tails" "[I").before ar s = true := hts _ (by decide +kernel)
  unfold f_X9_withLongestTail_Z at hf
  have hL7 : ∀ (k : Nat) (x : Int32 × Int32 × Int32) (ex : Int32) (H : Heap) (locs : List Loc) (ls : Array Slot), lp (f_X9_withLongestTail_Z_B7 F a1 z_tails) k x = some ex → (∀ (H : Heap) (locs : List Loc) (ls : Array Slot), va_P D vwCl (gZ cy qZ (qG 0) (qP 0) z_step z_tails z_known z_version) H → va_D A (gZ cy qZ (qG 0) (qP 0) z_step z_tails z_known z_version) → va_S A s.heap H locs → lv_has ls 5 [(2, .int ex)] → W p l e0 rmX9_withLongestTail_Z s m ar below meth c H locs 0 0 Q (F0 m 51 ls [])) → va_P D vwCl (gZ cy qZ (qG 0) (qP 0) z_step z_tails z_known z_version) H → va_D A (gZ cy qZ (qG 0) (qP 0) z_step z_tails z_known z_version) → va_S A s.heap H locs → lv_has ls 5 [(0, .ref (qZ 0)), (1, .int a1), (2, .int x.1), (3, .int x.2.1), (4, .int x.2.2)] → W p l e0 rmX9_withLongestTail_Z s m ar below meth c H locs 0 0 Q (F0 m 7 ls []) := by
    intro k
    induction k with
    | zero => intro x ex H locs ls hf; exact no_some hf
    | succ k ih =>
      intro x ex H locs ls hf hex hP hD hS hl
      have hf : f_X9_withLongestTail_Z_B7 F a1 z_tails (lp (f_X9_withLongestTail_Z_B7 F a1 z_tails) k) x = some ex := hf
      unfold f_X9_withLongestTail_Z_B7 at hf
      have hJ45 : ∀ (x2 : Int32) (x3 : Int32) (x4 : Int32) (H : Heap) (locs : List Loc) (ls : Array Slot), f_X9_withLongestTail_Z_J45 F (lp (f_X9_withLongestTail_Z_B7 F a1 z_tails) k) x2 x3 x4 = some ex → va_P D vwCl (gZ cy qZ (qG 0) (qP 0) z_step z_tails z_known z_version) H → va_D A (gZ cy qZ (qG 0) (qP 0) z_step z_tails z_known z_version) → va_S A s.heap H locs → lv_has ls 5 [(0, .ref (qZ 0)), (1, .int a1), (2, .int x2), (3, .int x3), (4, .int x4)] → W p l e0 rmX9_withLongestTail_Z s m ar below meth c H locs 0 0 Q (F0 m 45 ls []) := by
        intro x2 x3 x4 H locs ls hf hP hD hS hl
        unfold f_X9_withLongestTail_Z_J45 at hf
        refine lv_iinc (v := (x4 + (1 : Int32))) (lv' := [(4, .int (x4 + (1 : Int32))), (0, .ref (qZ 0)), (1, .int a1), (2, .int x2), (3, .int x3)]) hx hb dX9_withLongestTail_45 hl (k := 4) rfl rfl (by decide) rfl (fun ls hl => ?_)
        refine lv_goto (tgt := 7) hx hb dX9_withLongestTail_48 (by decide) ?_
        exact ih (x2, x3, (x4 + (1 : Int32))) ex _ _ _ hf hex hP hD hS (lv_sub hl [1, 2, 3, 4, 0] rfl)
      refine lv_iload hx hb dX9_withLongestTail_7 (lv_at hl 4 rfl) ?_
      refine lv_iload_n hx hb dX9_withLongestTail_9 rfl (lv_at hl 1 rfl) ?_
      refine lv_icmp_gt (tgt := 51) hx hb dX9_withLongestTail_10 (by decide) (fun c1 => ?_) (fun c1 => ?_)
      · have hf := if_t hf c1
        obtain rfl := Option.some.inj hf
        exact hex _ _ _ hP hD hS (lv_sub hl [2] rfl)
      · have hf := if_f hf c1
        refine lv_iload hx hb dX9_withLongestTail_13 (lv_at hl 4 rfl) ?_
        refine lv_aload_n hx hb dX9_withLongestTail_15 rfl (lv_at hl 0 rfl) ?_
        refine va_get (v := .ref (qZ 1)) (D := D) (ci := 9) (C := RX9) (T := TX9) (N := 7) hx hb hts huX9 hown hK hP 0 rfl rfl 4 (by decide) fk9 (fun _ h9 => h9) rfl dX9_withLongestTail_16 ?_
        refine va_alen (v := (3001 : Int32)) hx hb hK hP 1 0 rfl rfl rfl dX9_withLongestTail_19 ?_
        refine lv_icmp_ge (tgt := 51) hx hb dX9_withLongestTail_20 (by decide) (fun c2 => ?_) (fun c2 => ?_)
        · have hf := if_t hf c2
          obtain rfl := Option.some.inj hf
          exact hex _ _ _ hP hD hS (lv_sub hl [2] rfl)
        · have hf := if_f hf c2
          refine lv_aload_n hx hb dX9_withLongestTail_23 rfl (lv_at hl 0 rfl) ?_
          refine va_get (v := .ref (qZ 1)) (D := D) (ci := 9) (C := RX9) (T := TX9) (N := 7) hx hb hts huX9 hown hK hP 0 rfl rfl 4 (by decide) fk9 (fun _ h9 => h9) rfl dX9_withLongestTail_24 ?_
          refine lv_iload hx hb dX9_withLongestTail_27 (lv_at hl 4 rfl) ?_
          obtain ⟨c3, hf⟩ := ck_some hf
          refine va_iald hx hb hK hP 1 0 rfl rfl c3 dX9_withLongestTail_29 ?_
          refine lv_iload_n hx hb dX9_withLongestTail_30 rfl (lv_at hl 3 rfl) ?_
          refine lv_icmp_le (tgt := 45) hx hb dX9_withLongestTail_31 (by decide) (fun c4 => ?_) (fun c4 => ?_)
          · have hf := if_t hf c4
            exact hJ45 x.1 x.2.1 x.2.2 _ _ _ hf hP hD hS (lv_sub hl [0, 1, 2, 3, 4] rfl)
          · have hf := if_f hf c4
            refine lv_aload_n hx hb dX9_withLongestTail_34 rfl (lv_at hl 0 rfl) ?_
            refine va_get (v := .ref (qZ 1)) (D := D) (ci := 9) (C := RX9) (T := TX9) (N := 7) hx hb hts huX9 hown hK hP 0 rfl rfl 4 (by decide) fk9 (fun _ h9 => h9) rfl dX9_withLongestTail_35 ?_
            refine lv_iload hx hb dX9_withLongestTail_38 (lv_at hl 4 rfl) ?_
            obtain ⟨c5, hf⟩ := ck_some hf
            refine va_iald hx hb hK hP 1 0 rfl rfl c5 dX9_withLongestTail_40 ?_
            refine lv_istore_n (lv' := [(3, .int (z_tails x.2.2.toNatClampNeg)), (0, .ref (qZ 0)), (1, .int a1), (2, .int x.1), (4, .int x.2.2)]) hx hb dX9_withLongestTail_41 rfl hl (by decide) rfl (fun ls hl => ?_)
            refine lv_iload hx hb dX9_withLongestTail_42 (lv_at hl 4 rfl) ?_
            refine lv_istore_n (lv' := [(2, .int x.2.2), (3, .int (z_tails x.2.2.toNatClampNeg)), (0, .ref (qZ 0)), (1, .int a1), (4, .int x.2.2)]) hx hb dX9_withLongestTail_44 rfl hl (by decide) rfl (fun ls hl => ?_)
            exact hJ45 x.2.2 (z_tails x.2.2.toNatClampNeg) x.2.2 _ _ _ hf hP hD hS (lv_sub hl [2, 3, 0, 1, 4] rfl)
  refine lv_iconst (v := (-1 : Int32)) hx hb dX9_withLongestTail_0 (by decide) ?_
  refine lv_istore_n (lv' := [(2, .int (-1 : Int32)), (0, .ref (qZ 0)), (1, .int a1)]) hx hb dX9_withLongestTail_1 rfl hl (by decide) rfl (fun ls hl => ?_)
  refine lv_iconst (v := (-1 : Int32)) hx hb dX9_withLongestTail_2 (by decide) ?_
  refine lv_istore_n (lv' := [(3, .int (-1 : Int32)), (2, .int (-1 : Int32)), (0, .ref (qZ 0)), (1, .int a1)]) hx hb dX9_withLongestTail_3 rfl hl (by decide) rfl (fun ls hl => ?_)
  refine lv_iconst (v := (0 : Int32)) hx hb dX9_withLongestTail_4 (by decide) ?_
  refine lv_istore (lv' := [(4, .int (0 : Int32)), (3, .int (-1 : Int32)), (2, .int (-1 : Int32)), (0, .ref (qZ 0)), (1, .int a1)]) hx hb dX9_withLongestTail_5 hl (by decide) rfl (fun ls hl => ?_)
  obtain ⟨ex6, hcl, hf⟩ := ob_some hf
  refine hL7 F ((-1 : Int32), (-1 : Int32), (0 : Int32)) ex6 _ _ _ hcl (fun H locs ls hP hD hS hl => ?_) hP hD hS (lv_sub hl [3, 4, 2, 1, 0] rfl)
  refine lv_iload_n hx hb dX9_withLongestTail_51 rfl (lv_at hl 0 rfl) ?_
  obtain rfl := Option.some.inj hf
  exact hQ () 52 _ _ _ dX9_withLongestTail_52 hP hD hS
def f_X9_lostAt_Z_J43 (F : Nat) (rec : (Int32 × Int32) → Option ((Int32) ⊕ (Int32))) (x3 : Int32) (x4 : Int32) : Option ((Int32) ⊕ (Int32)) := rec (x3, (x4 + (1 : Int32)))
def f_X9_lostAt_Z_B5 (F : Nat) (a1 : Int32) (a2 : Int32) (z_tails : Nat → Int32) (rec : Int32 × Int32 → Option ((Int32) ⊕ (Int32))) (x : Int32 × Int32) : Option ((Int32) ⊕ (Int32)) := if a1 < x.2 then (some (.inr x.1)) else (if (3001 : Int32) ≤ x.2 then (some (.inr x.1)) else (ck (¬ (x.2 < 0 ∨ 3001 ≤ x.2.toNatClampNeg)) (if (z_tails x.2.toNatClampNeg) = (-1 : Int32) then (if x.1 = a2 then (some (.inl x.2)) else (f_X9_lostAt_Z_J43 F rec (x.1 + (1 : Int32)) x.2)) else (f_X9_lostAt_Z_J43 F rec x.1 x.2))))
def f_X9_lostAt_Z (F : Nat) (a1 : Int32) (a2 : Int32) (z_tails : Nat → Int32) : Option (Int32) := (lp (f_X9_lostAt_Z_B5 F a1 a2 z_tails) F ((0 : Int32), (0 : Int32))).bind (fun ex6 => Sum.elim (fun r => some r) (fun er7 => (f_X10_countOrNone F a2 er7).bind (fun r8 => some r8)) ex6)
abbrev rmX9_lostAt_Z : Room := { frames := 1, cells := 0, slots := 0, locals := 21 }
set_option maxHeartbeats 1000000 in
set_option maxRecDepth 100000 in
theorem c_X9_lostAt_Z {l : Launch} {D : va_G} {cy : Nat → ClassId} {qZ : Nat → Nat} {qG : Nat → Nat} {qP : Nat → Nat} {z_step : Int32} {z_tails : Nat → Int32} {z_known : Int32} {z_version : Int32} {a1 : Int32} {a2 : Int32} {F : Nat} {res : Int32} (hf : f_X9_lostAt_Z F a1 a2 z_tails = some res) : kM l yX9_lostAt wsX9_lostAt rmX9_lostAt_Z D cy [.ref (qZ 0), .int a1, .int a2] (gZ cy qZ (qG 0) (qP 0) z_step z_tails z_known z_version) (kQi D cy (fun _ : Unit => gZ cy qZ (qG 0) (qP 0) z_step z_tails z_known z_version) res) := by
  refine kent_i (cc := cX9_lostAt) (maxL := 5) (by decide) rfl (Nat.le_of_ble_eq_true rfl) ?_
  intro p e0 s m ar below meth c A Q ls ⟨hx, hb, hml, hr, hts, hown, hlocks, hnm⟩ hA hK hN hQ hP hD hS hl
  have hl : lv_has ls 5 [(0, .ref (qZ 0)), (1, .int a1), (2, .int a2)] := hl
  have hown : s.vm.findClass RX9 = some m.cls := hown
  have huX9 : ∀ x ∈ u_ws RX9 TX9 7, x ∈ wsX9_lostAt := by decide +kernel
  have fk9 : (Cond.fieldLink RX9 9 "FigurePlay$Ways" "tails" "[I").before ar s = true := hts _ (by decide +kernel)
  unfold f_X9_lostAt_Z at hf
  have hL5 : ∀ (k : Nat) (x : Int32 × Int32) (ex : (Int32) ⊕ (Int32)) (H : Heap) (locs : List Loc) (ls : Array Slot), lp (f_X9_lostAt_Z_B5 F a1 a2 z_tails) k x = some ex → (∀ r, ex = .inl r → r = res) → (∀ er, ex = .inr er → ∀ (H : Heap) (locs : List Loc) (ls : Array Slot), va_P D vwCl (gZ cy qZ (qG 0) (qP 0) z_step z_tails z_known z_version) H → va_D A (gZ cy qZ (qG 0) (qP 0) z_step z_tails z_known z_version) → va_S A s.heap H locs → lv_has ls 5 [(2, .int a2), (3, .int er)] → W p l e0 rmX9_lostAt_Z s m ar below meth c H locs 0 0 Q (F0 m 49 ls [])) → va_P D vwCl (gZ cy qZ (qG 0) (qP 0) z_step z_tails z_known z_version) H → va_D A (gZ cy qZ (qG 0) (qP 0) z_step z_tails z_known z_version) → va_S A s.heap H locs → lv_has ls 5 [(0, .ref (qZ 0)), (1, .int a1), (2, .int a2), (3, .int x.1), (4, .int x.2)] → W p l e0 rmX9_lostAt_Z s m ar below meth c H locs 0 0 Q (F0 m 5 ls []) := by
    intro k
    induction k with
    | zero => intro x ex H locs ls hf; exact no_some hf
    | succ k ih =>
      intro x ex H locs ls hf hret hex hP hD hS hl
      have hf : f_X9_lostAt_Z_B5 F a1 a2 z_tails (lp (f_X9_lostAt_Z_B5 F a1 a2 z_tails) k) x = some ex := hf
      unfold f_X9_lostAt_Z_B5 at hf
      have hJ43 : ∀ (x3 : Int32) (x4 : Int32) (H : Heap) (locs : List Loc) (ls : Array Slot), f_X9_lostAt_Z_J43 F (lp (f_X9_lostAt_Z_B5 F a1 a2 z_tails) k) x3 x4 = some ex → va_P D vwCl (gZ cy qZ (qG 0) (qP 0) z_step z_tails z_known z_version) H → va_D A (gZ cy qZ (qG 0) (qP 0) z_step z_tails z_known z_version) → va_S A s.heap H locs → lv_has ls 5 [(0, .ref (qZ 0)), (1, .int a1), (2, .int a2), (3, .int x3), (4, .int x4)] → W p l e0 rmX9_lostAt_Z s m ar below meth c H locs 0 0 Q (F0 m 43 ls []) := by
        intro x3 x4 H locs ls hf hP hD hS hl
        unfold f_X9_lostAt_Z_J43 at hf
        refine lv_iinc (v := (x4 + (1 : Int32))) (lv' := [(4, .int (x4 + (1 : Int32))), (0, .ref (qZ 0)), (1, .int a1), (2, .int a2), (3, .int x3)]) hx hb dX9_lostAt_43 hl (k := 4) rfl rfl (by decide) rfl (fun ls hl => ?_)
        refine lv_goto (tgt := 5) hx hb dX9_lostAt_46 (by decide) ?_
        exact ih (x3, (x4 + (1 : Int32))) ex _ _ _ hf hret hex hP hD hS (lv_sub hl [1, 2, 3, 4, 0] rfl)
      refine lv_iload hx hb dX9_lostAt_5 (lv_at hl 4 rfl) ?_
      refine lv_iload_n hx hb dX9_lostAt_7 rfl (lv_at hl 1 rfl) ?_
      refine lv_icmp_gt (tgt := 49) hx hb dX9_lostAt_8 (by decide) (fun c1 => ?_) (fun c1 => ?_)
      · have hf := if_t hf c1
        obtain rfl := Option.some.inj hf
        exact hex _ rfl _ _ _ hP hD hS (lv_sub hl [2, 3] rfl)
      · have hf := if_f hf c1
        refine lv_iload hx hb dX9_lostAt_11 (lv_at hl 4 rfl) ?_
        refine lv_aload_n hx hb dX9_lostAt_13 rfl (lv_at hl 0 rfl) ?_
        refine va_get (v := .ref (qZ 1)) (D := D) (ci := 9) (C := RX9) (T := TX9) (N := 7) hx hb hts huX9 hown hK hP 0 rfl rfl 4 (by decide) fk9 (fun _ h9 => h9) rfl dX9_lostAt_14 ?_
        refine va_alen (v := (3001 : Int32)) hx hb hK hP 1 0 rfl rfl rfl dX9_lostAt_17 ?_
        refine lv_icmp_ge (tgt := 49) hx hb dX9_lostAt_18 (by decide) (fun c2 => ?_) (fun c2 => ?_)
        · have hf := if_t hf c2
          obtain rfl := Option.some.inj hf
          exact hex _ rfl _ _ _ hP hD hS (lv_sub hl [2, 3] rfl)
        · have hf := if_f hf c2
          refine lv_aload_n hx hb dX9_lostAt_21 rfl (lv_at hl 0 rfl) ?_
          refine va_get (v := .ref (qZ 1)) (D := D) (ci := 9) (C := RX9) (T := TX9) (N := 7) hx hb hts huX9 hown hK hP 0 rfl rfl 4 (by decide) fk9 (fun _ h9 => h9) rfl dX9_lostAt_22 ?_
          refine lv_iload hx hb dX9_lostAt_25 (lv_at hl 4 rfl) ?_
          obtain ⟨c3, hf⟩ := ck_some hf
          refine va_iald hx hb hK hP 1 0 rfl rfl c3 dX9_lostAt_27 ?_
          refine lv_iconst (v := (-1 : Int32)) hx hb dX9_lostAt_28 (by decide) ?_
          refine lv_icmp_ne (tgt := 43) hx hb dX9_lostAt_29 (by decide) (fun c4 => ?_) (fun c4 => ?_)
          · have hf := if_f hf c4
            exact hJ43 x.1 x.2 _ _ _ hf hP hD hS (lv_sub hl [0, 1, 2, 3, 4] rfl)
          · have hf := if_t hf c4
            refine lv_iload_n hx hb dX9_lostAt_32 rfl (lv_at hl 3 rfl) ?_
            refine lv_iload_n hx hb dX9_lostAt_33 rfl (lv_at hl 2 rfl) ?_
            refine lv_icmp_ne (tgt := 40) hx hb dX9_lostAt_34 (by decide) (fun c5 => ?_) (fun c5 => ?_)
            · have hf := if_f hf c5
              refine lv_iinc (v := (x.1 + (1 : Int32))) (lv' := [(3, .int (x.1 + (1 : Int32))), (0, .ref (qZ 0)), (1, .int a1), (2, .int a2), (4, .int x.2)]) hx hb dX9_lostAt_40 hl (k := 3) rfl rfl (by decide) rfl (fun ls hl => ?_)
              exact hJ43 (x.1 + (1 : Int32)) x.2 _ _ _ hf hP hD hS (lv_sub hl [1, 2, 3, 0, 4] rfl)
            · have hf := if_t hf c5
              refine lv_iload hx hb dX9_lostAt_37 (lv_at hl 4 rfl) ?_
              obtain rfl := Option.some.inj hf
              obtain rfl := hret _ rfl
              exact hQ () 39 _ _ _ dX9_lostAt_39 hP hD hS
  refine lv_iconst (v := (0 : Int32)) hx hb dX9_lostAt_0 (by decide) ?_
  refine lv_istore_n (lv' := [(3, .int (0 : Int32)), (0, .ref (qZ 0)), (1, .int a1), (2, .int a2)]) hx hb dX9_lostAt_1 rfl hl (by decide) rfl (fun ls hl => ?_)
  refine lv_iconst (v := (0 : Int32)) hx hb dX9_lostAt_2 (by decide) ?_
  refine lv_istore (lv' := [(4, .int (0 : Int32)), (3, .int (0 : Int32)), (0, .ref (qZ 0)), (1, .int a1), (2, .int a2)]) hx hb dX9_lostAt_3 hl (by decide) rfl (fun ls hl => ?_)
  obtain ⟨ex6, hcl, hf⟩ := ob_some hf
  refine hL5 F ((0 : Int32), (0 : Int32)) ex6 _ _ _ hcl (fun r hr0 => ?_) (fun er7 hr0 H locs ls hP hD hS hl => ?_) hP hD hS (lv_sub hl [2, 3, 4, 1, 0] rfl)
  · subst hr0; exact Option.some.inj (sm_inl hf)
  · subst hr0
    have hf := sm_inr hf
    refine lv_iload_n hx hb dX9_lostAt_49 rfl (lv_at hl 0 rfl) ?_
    refine lv_iload_n hx hb dX9_lostAt_50 rfl (lv_at hl 1 rfl) ?_
    obtain ⟨r8, hc9, hf⟩ := ob_some hf
    refine kc_i (k_runSN ⟨hx, hb, hml, hown, hts⟩ (c_X10_countOrNone hc9) ⟨va_cnB 2 hts ggX9_lostAt_X10_countOrNone rfl rfl rfl hN.2.2.2.1 (hts (.initialized RX10) (by decide +kernel)) (by decide +kernel) ⟨Nat.le_of_ble_eq_true rfl, Nat.le_of_ble_eq_true rfl⟩, hts (.static yX10_countOrNone) (by decide +kernel), trivial⟩ hK hN hP hD kA_0 rfl hl.1 rfl (Nat.le_of_ble_eq_true rfl) dX9_lostAt_51 ⟨Nat.le_of_ble_eq_true rfl, Nat.le_of_ble_eq_true rfl⟩) hP hD hS hA kI_0 (fun _ H locs hP hD hS => ?_)
    obtain rfl := Option.some.inj hf
    exact hQ () 54 _ _ _ dX9_lostAt_54 hP hD hS
def f_X9_tailFrom_Z_J111 (F : Nat) (s0 : Int32) (g_row : Nat → Int32) (g_many : Nat → Int32) (p_told : Nat → Int64) (p_size : Int32) (p_tail : Int32) (p_round : Int32) : Option (Int32 × (Nat → Int32) × (Nat → Int32) × (Nat → Int64) × Int32 × Int32 × Int32) := some (s0, g_row, g_many, p_told, p_size, p_tail, p_round)
def f_X9_tailFrom_Z_J73 (F : Nat) (a1 : Int32) (z_step : Int32) (g_base : Int32) (g_worth : Nat → Int32) (g_row : Nat → Int32) (g_many : Nat → Int32) (p_told : Nat → Int64) (p_size : Int32) (p_tail : Int32) (p_round : Int32) : Option (Int32 × (Nat → Int32) × (Nat → Int32) × (Nat → Int64) × Int32 × Int32 × Int32) := (f_X6_follow F z_step a1.toInt64 g_base g_worth g_row g_many p_told p_size p_tail p_round).bind (fun r1 => if r1.2.2.2.2.2 = 0 then (f_X9_tailFrom_Z_J111 F (-1 : Int32) r1.1 r1.2.1 r1.2.2.1 r1.2.2.2.1 r1.2.2.2.2.1 r1.2.2.2.2.2) else (f_X9_tailFrom_Z_J111 F r1.2.2.2.2.1 r1.1 r1.2.1 r1.2.2.1 r1.2.2.2.1 r1.2.2.2.2.1 r1.2.2.2.2.2))
def f_X9_tailFrom_Z (F : Nat) (a1 : Int32) (a2 : Int32) (g_base : Int32) (g_worth : Nat → Int32) (g_row : Nat → Int32) (g_many : Nat → Int32) (p_told : Nat → Int64) (p_size : Int32) (p_tail : Int32) (p_round : Int32) (z_step : Int32) (z_tails : Nat → Int32) : Option (Int32 × (Nat → Int32) × (Nat → Int32) × (Nat → Int64) × Int32 × Int32 × Int32) := (f_X1_growsForEver F z_step a1.toInt64 g_base g_worth).bind (fun r5 => if r5 = 0 then (if z_step = (4 : Int32) then ((f_X1_make F (4 : Int32) a1.toInt64 g_base g_worth g_row g_many).bind (fun r10 => if r10.1 ≤ a1.toInt64 then (f_X9_tailFrom_Z_J73 F a1 z_step g_base g_worth r10.2.1 r10.2.2 p_told p_size p_tail p_round) else (if a2.toInt64 < r10.1 then (f_X9_tailFrom_Z_J73 F a1 z_step g_base g_worth r10.2.1 r10.2.2 p_told p_size p_tail p_round) else (if (3001 : Int32).toInt64 ≤ r10.1 then (f_X9_tailFrom_Z_J73 F a1 z_step g_base g_worth r10.2.1 r10.2.2 p_told p_size p_tail p_round) else (ck (¬ (r10.1.toInt32 < 0 ∨ 3001 ≤ r10.1.toInt32.toNatClampNeg)) ((f_X9_tailAheadOf F (z_tails r10.1.toInt32.toNatClampNeg)).bind (fun r17 => some (r17, r10.2.1, r10.2.2, p_told, p_size, p_tail, p_round)))))))) else (f_X9_tailFrom_Z_J73 F a1 z_step g_base g_worth g_row g_many p_told p_size p_tail p_round)) else (some ((-1 : Int32), g_row, g_many, p_told, p_size, p_tail, p_round)))
abbrev rmX9_tailFrom_Z : Room := { frames := 3, cells := 0, slots := 0, locals := 81 }
set_option maxHeartbeats 1000000 in
set_option maxRecDepth 100000 in
theorem c_X9_tailFrom_Z {l : Launch} {D : va_G} {cy : Nat → ClassId} {qZ : Nat → Nat} {qG : Nat → Nat} {qP : Nat → Nat} {z_step : Int32} {z_tails : Nat → Int32} {z_known : Int32} {z_version : Int32} {p_told : Nat → Int64} {p_size : Int32} {p_tail : Int32} {p_round : Int32} {g_base : Int32} {g_worth : Nat → Int32} {g_row : Nat → Int32} {g_many : Nat → Int32} {g_version : Int32} {a1 : Int32} {a2 : Int32} {F : Nat} {res : Int32 × (Nat → Int32) × (Nat → Int32) × (Nat → Int64) × Int32 × Int32 × Int32} (hf : f_X9_tailFrom_Z F a1 a2 g_base g_worth g_row g_many p_told p_size p_tail p_round z_step z_tails = some res) : kM l yX9_tailFrom wsX9_tailFrom rmX9_tailFrom_Z D cy [.ref (qZ 0), .int a1, .int a2] (gZ cy qZ (qG 0) (qP 0) z_step z_tails z_known z_version ++ (gP cy qP p_told p_size p_tail p_round ++ (gG cy qG g_base g_worth g_row g_many g_version))) (kQi D cy (fun _ : Unit => gZ cy qZ (qG 0) (qP 0) z_step z_tails z_known z_version ++ (gP cy qP res.2.2.2.1 res.2.2.2.2.1 res.2.2.2.2.2.1 res.2.2.2.2.2.2 ++ (gG cy qG g_base g_worth res.2.1 res.2.2.1 g_version))) res.1) := by
  refine kent_i (cc := cX9_tailFrom) (maxL := 5) (by decide) rfl (Nat.le_of_ble_eq_true rfl) ?_
  intro p e0 s m ar below meth c A Q ls ⟨hx, hb, hml, hr, hts, hown, hlocks, hnm⟩ hA hK hN hQ hP hD hS hl
  have hl : lv_has ls 5 [(0, .ref (qZ 0)), (1, .int a1), (2, .int a2)] := hl
  have hown : s.vm.findClass RX9 = some m.cls := hown
  have huX9 : ∀ x ∈ u_ws RX9 TX9 7, x ∈ wsX9_tailFrom := by decide +kernel
  have fk26 : (Cond.fieldLink RX9 26 "FigurePlay$Ways" "path" "LFigurePlay$Path;").before ar s = true := hts _ (by decide +kernel)
  have fk22 : (Cond.fieldLink RX9 22 "FigurePlay$Ways" "figures" "LFigurePlay$Figures;").before ar s = true := hts _ (by decide +kernel)
  have fk30 : (Cond.fieldLink RX9 30 "FigurePlay$Ways" "step" "I").before ar s = true := hts _ (by decide +kernel)
  have huX6 : ∀ x ∈ u_ws RX6 TX6 4, x ∈ wsX9_tailFrom := by decide +kernel
  have fk77 : (Cond.fieldLink RX9 77 "FigurePlay$Path" "round" "I").before ar s = true := hts _ (by decide +kernel)
  have fk80 : (Cond.fieldLink RX9 80 "FigurePlay$Path" "tail" "I").before ar s = true := hts _ (by decide +kernel)
  have fk9 : (Cond.fieldLink RX9 9 "FigurePlay$Ways" "tails" "[I").before ar s = true := hts _ (by decide +kernel)
  unfold f_X9_tailFrom_Z at hf
  have hJ111 : ∀ (s0 : Int32) (g_row : Nat → Int32) (g_many : Nat → Int32) (p_told : Nat → Int64) (p_size : Int32) (p_tail : Int32) (p_round : Int32) (H : Heap) (locs : List Loc) (ls : Array Slot), f_X9_tailFrom_Z_J111 F s0 g_row g_many p_told p_size p_tail p_round = some res → va_P D vwCl (gZ cy qZ (qG 0) (qP 0) z_step z_tails z_known z_version ++ (gP cy qP p_told p_size p_tail p_round ++ (gG cy qG g_base g_worth g_row g_many g_version))) H → va_D A (gZ cy qZ (qG 0) (qP 0) z_step z_tails z_known z_version ++ (gP cy qP p_told p_size p_tail p_round ++ (gG cy qG g_base g_worth g_row g_many g_version))) → va_S A s.heap H locs → lv_has ls 5 [] → W p l e0 rmX9_tailFrom_Z s m ar below meth c H locs 0 0 Q (F0 m 111 ls [.int s0]) := by
    intro s0 g_row g_many p_told p_size p_tail p_round H locs ls hf hP hD hS hl
    unfold f_X9_tailFrom_Z_J111 at hf
    obtain rfl := Option.some.inj hf
    exact hQ () 111 _ _ _ dX9_tailFrom_111 hP hD hS
  have hJ73 : ∀ (g_row : Nat → Int32) (g_many : Nat → Int32) (p_told : Nat → Int64) (p_size : Int32) (p_tail : Int32) (p_round : Int32) (H : Heap) (locs : List Loc) (ls : Array Slot), f_X9_tailFrom_Z_J73 F a1 z_step g_base g_worth g_row g_many p_told p_size p_tail p_round = some res → va_P D vwCl (gZ cy qZ (qG 0) (qP 0) z_step z_tails z_known z_version ++ (gP cy qP p_told p_size p_tail p_round ++ (gG cy qG g_base g_worth g_row g_many g_version))) H → va_D A (gZ cy qZ (qG 0) (qP 0) z_step z_tails z_known z_version ++ (gP cy qP p_told p_size p_tail p_round ++ (gG cy qG g_base g_worth g_row g_many g_version))) → va_S A s.heap H locs → lv_has ls 5 [(0, .ref (qZ 0)), (1, .int a1)] → W p l e0 rmX9_tailFrom_Z s m ar below meth c H locs 0 0 Q (F0 m 73 ls []) := by
    intro g_row g_many p_told p_size p_tail p_round H locs ls hf hP hD hS hl
    unfold f_X9_tailFrom_Z_J73 at hf
    refine lv_aload_n hx hb dX9_tailFrom_73 rfl (lv_at hl 0 rfl) ?_
    refine va_get (v := .ref (qP 0)) (D := D) (ci := 9) (C := RX9) (T := TX9) (N := 7) hx hb hts huX9 hown hK hP 0 rfl rfl 1 (by decide) fk26 (fun _ h9 => h9) rfl dX9_tailFrom_74 ?_
    refine lv_aload_n hx hb dX9_tailFrom_77 rfl (lv_at hl 0 rfl) ?_
    refine va_get (v := .ref (qG 0)) (D := D) (ci := 9) (C := RX9) (T := TX9) (N := 7) hx hb hts huX9 hown hK hP 0 rfl rfl 0 (by decide) fk22 (fun _ h9 => h9) rfl dX9_tailFrom_78 ?_
    refine lv_aload_n hx hb dX9_tailFrom_81 rfl (lv_at hl 0 rfl) ?_
    refine va_get (D := D) (ci := 9) (C := RX9) (T := TX9) (N := 7) hx hb hts huX9 hown hK hP 0 rfl rfl 2 (by decide) fk30 (fun _ h9 => h9) rfl dX9_tailFrom_82 ?_
    refine lv_iload_n hx hb dX9_tailFrom_85 rfl (lv_at hl 1 rfl) ?_
    refine lv_i2l hx hb dX9_tailFrom_86 rfl ?_
    obtain ⟨r1, hc2, hf⟩ := ob_some hf
    have hI3 : kIn (gZ cy qZ (qG 0) (qP 0) z_step z_tails z_known z_version ++ (gP cy qP p_told p_size p_tail p_round ++ (gG cy qG g_base g_worth g_row g_many g_version))) (gP cy qP p_told p_size p_tail p_round ++ (gG cy qG g_base g_worth g_row g_many g_version)) (kpick (gZ cy qZ (qG 0) (qP 0) z_step z_tails z_known z_version ++ (gP cy qP p_told p_size p_tail p_round ++ (gG cy qG g_base g_worth g_row g_many g_version))) [0, 1]) (fun _ : Unit => gP cy qP r1.2.2.1 r1.2.2.2.1 r1.2.2.2.2.1 r1.2.2.2.2.2 ++ (gG cy qG g_base g_worth r1.1 r1.2.1 g_version)) (fun _ : Unit => gZ cy qZ (qG 0) (qP 0) z_step z_tails z_known z_version ++ (gP cy qP r1.2.2.1 r1.2.2.2.1 r1.2.2.2.2.1 r1.2.2.2.2.2 ++ (gG cy qG g_base g_worth r1.1 r1.2.1 g_version))) [2, 3, 4, 5, 6, 7] [0, 1] [0, 1, 2, 3, 4, 5, 6, 7] := ⟨rfl, rfl, rfl, rfl, by decide, rfl, fun _ => rfl⟩
    refine kc_v (k_run ⟨hx, hb, hml, hown, hts⟩ (c_X6_follow hc2) (cwV 3 hts gX9_tailFrom_X6_follow rfl rfl rfl (by decide +kernel) ⟨Nat.le_of_ble_eq_true rfl, Nat.le_of_ble_eq_true rfl⟩) hK hN hP hD ⟨hI3.1, hI3.2.2.1⟩ (ci := 6) (q0 := 0) rfl rfl rfl rfl hl.1 rfl (Nat.le_of_ble_eq_true rfl) dX9_tailFrom_87 ⟨Nat.le_of_ble_eq_true rfl, Nat.le_of_ble_eq_true rfl⟩) hP hD hS hA hI3 (fun _ H locs hP hD hS => ?_)
    refine lv_aload_n hx hb dX9_tailFrom_90 rfl (lv_at hl 0 rfl) ?_
    refine va_get (v := .ref (qP 0)) (D := D) (ci := 9) (C := RX9) (T := TX9) (N := 7) hx hb hts huX9 hown hK hP 0 rfl rfl 1 (by decide) fk26 (fun _ h9 => h9) rfl dX9_tailFrom_91 ?_
    refine va_get (D := D) (ci := 6) (C := RX6) (T := TX6) (N := 4) hx hb hts huX6 hown hK hP 2 rfl rfl 3 (by decide) fk77 (fun _ h9 => h9) rfl dX9_tailFrom_94 ?_
    refine lv_if_ne (tgt := 104) hx hb dX9_tailFrom_97 (by decide) (fun c4 => ?_) (fun c4 => ?_)
    · have hf := if_f hf c4
      refine lv_aload_n hx hb dX9_tailFrom_104 rfl (lv_at hl 0 rfl) ?_
      refine va_get (v := .ref (qP 0)) (D := D) (ci := 9) (C := RX9) (T := TX9) (N := 7) hx hb hts huX9 hown hK hP 0 rfl rfl 1 (by decide) fk26 (fun _ h9 => h9) rfl dX9_tailFrom_105 ?_
      refine va_get (D := D) (ci := 6) (C := RX6) (T := TX6) (N := 4) hx hb hts huX6 hown hK hP 2 rfl rfl 2 (by decide) fk80 (fun _ h9 => h9) rfl dX9_tailFrom_108 ?_
      exact hJ111 r1.2.2.2.2.1 r1.1 r1.2.1 r1.2.2.1 r1.2.2.2.1 r1.2.2.2.2.1 r1.2.2.2.2.2 _ _ _ hf hP hD hS (lv_sub hl [] rfl)
    · have hf := if_t hf c4
      refine lv_iconst (v := (-1 : Int32)) hx hb dX9_tailFrom_100 (by decide) ?_
      refine lv_goto (tgt := 111) hx hb dX9_tailFrom_101 (by decide) ?_
      exact hJ111 (-1 : Int32) r1.1 r1.2.1 r1.2.2.1 r1.2.2.2.1 r1.2.2.2.2.1 r1.2.2.2.2.2 _ _ _ hf hP hD hS (lv_sub hl [] rfl)
  refine lv_aload_n hx hb dX9_tailFrom_0 rfl (lv_at hl 0 rfl) ?_
  refine va_get (v := .ref (qG 0)) (D := D) (ci := 9) (C := RX9) (T := TX9) (N := 7) hx hb hts huX9 hown hK hP 0 rfl rfl 0 (by decide) fk22 (fun _ h9 => h9) rfl dX9_tailFrom_1 ?_
  refine lv_aload_n hx hb dX9_tailFrom_4 rfl (lv_at hl 0 rfl) ?_
  refine va_get (D := D) (ci := 9) (C := RX9) (T := TX9) (N := 7) hx hb hts huX9 hown hK hP 0 rfl rfl 2 (by decide) fk30 (fun _ h9 => h9) rfl dX9_tailFrom_5 ?_
  refine lv_iload_n hx hb dX9_tailFrom_8 rfl (lv_at hl 1 rfl) ?_
  refine lv_i2l hx hb dX9_tailFrom_9 rfl ?_
  obtain ⟨r5, hc6, hf⟩ := ob_some hf
  have hI7 : kIn (gZ cy qZ (qG 0) (qP 0) z_step z_tails z_known z_version ++ (gP cy qP p_told p_size p_tail p_round ++ (gG cy qG g_base g_worth g_row g_many g_version))) (gG cy qG g_base g_worth g_row g_many g_version) (kpick (gZ cy qZ (qG 0) (qP 0) z_step z_tails z_known z_version ++ (gP cy qP p_told p_size p_tail p_round ++ (gG cy qG g_base g_worth g_row g_many g_version))) [0, 1, 2, 3]) (fun _ : Unit => gG cy qG g_base g_worth g_row g_many g_version) (fun _ : Unit => gZ cy qZ (qG 0) (qP 0) z_step z_tails z_known z_version ++ (gP cy qP p_told p_size p_tail p_round ++ (gG cy qG g_base g_worth g_row g_many g_version))) [4, 5, 6, 7] [0, 1, 2, 3] [0, 1, 2, 3, 4, 5, 6, 7] := ⟨rfl, rfl, rfl, rfl, by decide, rfl, fun _ => rfl⟩
  refine kc_i (k_run ⟨hx, hb, hml, hown, hts⟩ (c_X1_growsForEver hc6) (cwV 2 hts gX9_tailFrom_X1_growsForEver rfl rfl rfl (by decide +kernel) ⟨Nat.le_of_ble_eq_true rfl, Nat.le_of_ble_eq_true rfl⟩) hK hN hP hD ⟨hI7.1, hI7.2.2.1⟩ (ci := 1) (q0 := 0) rfl rfl rfl rfl hl.1 rfl (Nat.le_of_ble_eq_true rfl) dX9_tailFrom_10 ⟨Nat.le_of_ble_eq_true rfl, Nat.le_of_ble_eq_true rfl⟩) hP hD hS hA hI7 (fun _ H locs hP hD hS => ?_)
  refine lv_if_eq (tgt := 18) hx hb dX9_tailFrom_13 (by decide) (fun c8 => ?_) (fun c8 => ?_)
  · have hf := if_t hf c8
    refine lv_aload_n hx hb dX9_tailFrom_18 rfl (lv_at hl 0 rfl) ?_
    refine va_get (D := D) (ci := 9) (C := RX9) (T := TX9) (N := 7) hx hb hts huX9 hown hK hP 0 rfl rfl 2 (by decide) fk30 (fun _ h9 => h9) rfl dX9_tailFrom_19 ?_
    refine lv_iconst (v := (4 : Int32)) hx hb dX9_tailFrom_22 (by decide) ?_
    refine lv_icmp_ne (tgt := 73) hx hb dX9_tailFrom_23 (by decide) (fun c9 => ?_) (fun c9 => ?_)
    · have hf := if_f hf c9
      exact hJ73 g_row g_many p_told p_size p_tail p_round _ _ _ hf hP hD hS (lv_sub hl [0, 1] rfl)
    · have hf := if_t hf c9
      refine lv_aload_n hx hb dX9_tailFrom_26 rfl (lv_at hl 0 rfl) ?_
      refine va_get (v := .ref (qG 0)) (D := D) (ci := 9) (C := RX9) (T := TX9) (N := 7) hx hb hts huX9 hown hK hP 0 rfl rfl 0 (by decide) fk22 (fun _ h9 => h9) rfl dX9_tailFrom_27 ?_
      refine lv_iconst (v := (4 : Int32)) hx hb dX9_tailFrom_30 (by decide) ?_
      refine lv_iload_n hx hb dX9_tailFrom_31 rfl (lv_at hl 1 rfl) ?_
      refine lv_i2l hx hb dX9_tailFrom_32 rfl ?_
      obtain ⟨r10, hc11, hf⟩ := ob_some hf
      have hI12 : kIn (gZ cy qZ (qG 0) (qP 0) z_step z_tails z_known z_version ++ (gP cy qP p_told p_size p_tail p_round ++ (gG cy qG g_base g_worth g_row g_many g_version))) (gG cy qG g_base g_worth g_row g_many g_version) (kpick (gZ cy qZ (qG 0) (qP 0) z_step z_tails z_known z_version ++ (gP cy qP p_told p_size p_tail p_round ++ (gG cy qG g_base g_worth g_row g_many g_version))) [0, 1, 2, 3]) (fun _ : Unit => gG cy qG g_base g_worth r10.2.1 r10.2.2 g_version) (fun _ : Unit => gZ cy qZ (qG 0) (qP 0) z_step z_tails z_known z_version ++ (gP cy qP p_told p_size p_tail p_round ++ (gG cy qG g_base g_worth r10.2.1 r10.2.2 g_version))) [4, 5, 6, 7] [0, 1, 2, 3] [0, 1, 2, 3, 4, 5, 6, 7] := ⟨rfl, rfl, rfl, rfl, by decide, rfl, fun _ => rfl⟩
      refine kc_l (k_run ⟨hx, hb, hml, hown, hts⟩ (c_X1_make hc11) (cwV 2 hts gX9_tailFrom_X1_make rfl rfl rfl (by decide +kernel) ⟨Nat.le_of_ble_eq_true rfl, Nat.le_of_ble_eq_true rfl⟩) hK hN hP hD ⟨hI12.1, hI12.2.2.1⟩ (ci := 1) (q0 := 0) rfl rfl rfl rfl hl.1 rfl (Nat.le_of_ble_eq_true rfl) dX9_tailFrom_33 ⟨Nat.le_of_ble_eq_true rfl, Nat.le_of_ble_eq_true rfl⟩) hP hD hS hA hI12 (fun _ H locs hP hD hS => ?_)
      refine lv_lstore_n (lv' := [(3, .long r10.1), (0, .ref (qZ 0)), (1, .int a1), (2, .int a2)]) hx hb dX9_tailFrom_36 rfl hl (by decide) rfl (fun ls hl => ?_)
      refine lv_lload_n hx hb dX9_tailFrom_37 rfl (lv_at hl 0 rfl) ?_
      refine lv_iload_n hx hb dX9_tailFrom_38 rfl (lv_at hl 2 rfl) ?_
      refine lv_i2l hx hb dX9_tailFrom_39 rfl ?_
      refine kl_le (tgt := 73) hx hb dX9_tailFrom_40 dX9_tailFrom_41 (by decide) (fun c13 => ?_) (fun c13 => ?_)
      · have hf := if_t hf c13
        exact hJ73 r10.2.1 r10.2.2 p_told p_size p_tail p_round _ _ _ hf hP hD hS (lv_sub hl [1, 2] rfl)
      · have hf := if_f hf c13
        refine lv_lload_n hx hb dX9_tailFrom_44 rfl (lv_at hl 0 rfl) ?_
        refine lv_iload_n hx hb dX9_tailFrom_45 rfl (lv_at hl 3 rfl) ?_
        refine lv_i2l hx hb dX9_tailFrom_46 rfl ?_
        refine kl_gt (tgt := 73) hx hb dX9_tailFrom_47 dX9_tailFrom_48 (by decide) (fun c14 => ?_) (fun c14 => ?_)
        · have hf := if_t hf c14
          exact hJ73 r10.2.1 r10.2.2 p_told p_size p_tail p_round _ _ _ hf hP hD hS (lv_sub hl [1, 2] rfl)
        · have hf := if_f hf c14
          refine lv_lload_n hx hb dX9_tailFrom_51 rfl (lv_at hl 0 rfl) ?_
          refine lv_aload_n hx hb dX9_tailFrom_52 rfl (lv_at hl 1 rfl) ?_
          refine va_get (v := .ref (qZ 1)) (D := D) (ci := 9) (C := RX9) (T := TX9) (N := 7) hx hb hts huX9 hown hK hP 0 rfl rfl 4 (by decide) fk9 (fun _ h9 => h9) rfl dX9_tailFrom_53 ?_
          refine va_alen (v := (3001 : Int32)) hx hb hK hP 1 0 rfl rfl rfl dX9_tailFrom_56 ?_
          refine lv_i2l hx hb dX9_tailFrom_57 rfl ?_
          refine kl_ge (tgt := 73) hx hb dX9_tailFrom_58 dX9_tailFrom_59 (by decide) (fun c15 => ?_) (fun c15 => ?_)
          · have hf := if_t hf c15
            exact hJ73 r10.2.1 r10.2.2 p_told p_size p_tail p_round _ _ _ hf hP hD hS (lv_sub hl [1, 2] rfl)
          · have hf := if_f hf c15
            refine lv_aload_n hx hb dX9_tailFrom_62 rfl (lv_at hl 1 rfl) ?_
            refine va_get (v := .ref (qZ 1)) (D := D) (ci := 9) (C := RX9) (T := TX9) (N := 7) hx hb hts huX9 hown hK hP 0 rfl rfl 4 (by decide) fk9 (fun _ h9 => h9) rfl dX9_tailFrom_63 ?_
            refine lv_lload_n hx hb dX9_tailFrom_66 rfl (lv_at hl 0 rfl) ?_
            refine lv_l2i hx hb dX9_tailFrom_67 rfl ?_
            obtain ⟨c16, hf⟩ := ck_some hf
            refine va_iald hx hb hK hP 1 0 rfl rfl c16 dX9_tailFrom_68 ?_
            obtain ⟨r17, hc18, hf⟩ := ob_some hf
            refine kc_i (k_runS ⟨hx, hb, hml, hown, hts⟩ (c_X9_tailAheadOf hc18) (va_cwS 1 hts gX9_tailFrom_X9_tailAheadOf rfl rfl rfl (by decide +kernel) ⟨Nat.le_of_ble_eq_true rfl, Nat.le_of_ble_eq_true rfl⟩) hK hN hP hD kA_0 rfl hl.1 rfl (Nat.le_of_ble_eq_true rfl) dX9_tailFrom_69 ⟨Nat.le_of_ble_eq_true rfl, Nat.le_of_ble_eq_true rfl⟩) hP hD hS hA kI_0 (fun _ H locs hP hD hS => ?_)
            obtain rfl := Option.some.inj hf
            exact hQ () 72 _ _ _ dX9_tailFrom_72 hP hD hS
  · have hf := if_f hf c8
    refine lv_iconst (v := (-1 : Int32)) hx hb dX9_tailFrom_16 (by decide) ?_
    obtain rfl := Option.some.inj hf
    exact hQ () 17 _ _ _ dX9_tailFrom_17 hP hD hS
def f_X9_reach_Z_J118 (F : Nat) (rec : (Int32 × (Nat → Int32) × (Nat → Int32) × (Nat → Int64) × Int32 × Int32 × Int32 × (Nat → Int32)) → Option ((Nat → Int32) × (Nat → Int32) × (Nat → Int64) × Int32 × Int32 × Int32 × (Nat → Int32))) (x2 : Int32) (g_row : Nat → Int32) (g_many : Nat → Int32) (p_told : Nat → Int64) (p_size : Int32) (p_tail : Int32) (p_round : Int32) (z_tails : Nat → Int32) : Option ((Nat → Int32) × (Nat → Int32) × (Nat → Int64) × Int32 × Int32 × Int32 × (Nat → Int32)) := rec ((x2 + (1 : Int32)), g_row, g_many, p_told, p_size, p_tail, p_round, z_tails)
def f_X9_reach_Z_J74 (F : Nat) (a1 : Int32) (z_step : Int32) (g_base : Int32) (g_worth : Nat → Int32) (rec : (Int32 × (Nat → Int32) × (Nat → Int32) × (Nat → Int64) × Int32 × Int32 × Int32 × (Nat → Int32)) → Option ((Nat → Int32) × (Nat → Int32) × (Nat → Int64) × Int32 × Int32 × Int32 × (Nat → Int32))) (x2 : Int32) (s0 : Int32) (g_row : Nat → Int32) (g_many : Nat → Int32) (p_told : Nat → Int64) (p_size : Int32) (p_tail : Int32) (p_round : Int32) (z_tails : Nat → Int32) : Option ((Nat → Int32) × (Nat → Int32) × (Nat → Int64) × Int32 × Int32 × Int32 × (Nat → Int32)) := (f_X9_tailFrom_Z F s0 a1 g_base g_worth g_row g_many p_told p_size p_tail p_round z_step z_tails).bind (fun r1 => if (3001 : Int32) ≤ s0 then (f_X9_reach_Z_J118 F rec x2 r1.2.1 r1.2.2.1 r1.2.2.2.1 r1.2.2.2.2.1 r1.2.2.2.2.2.1 r1.2.2.2.2.2.2 z_tails) else (ck (¬ (s0 < 0 ∨ 3001 ≤ s0.toNatClampNeg)) (f_X9_reach_Z_J118 F rec x2 r1.2.1 r1.2.2.1 r1.2.2.2.1 r1.2.2.2.2.1 r1.2.2.2.2.2.1 r1.2.2.2.2.2.2 (upd z_tails s0.toNatClampNeg r1.1))))
def f_X9_reach_Z_B49 (F : Nat) (a1 : Int32) (z_step : Int32) (g_base : Int32) (g_worth : Nat → Int32) (z_known : Int32) (z_version : Int32) (rec : Int32 × (Nat → Int32) × (Nat → Int32) × (Nat → Int64) × Int32 × Int32 × Int32 × (Nat → Int32) → Option ((Nat → Int32) × (Nat → Int32) × (Nat → Int64) × Int32 × Int32 × Int32 × (Nat → Int32))) (x : Int32 × (Nat → Int32) × (Nat → Int32) × (Nat → Int64) × Int32 × Int32 × Int32 × (Nat → Int32)) : Option ((Nat → Int32) × (Nat → Int32) × (Nat → Int64) × Int32 × Int32 × Int32 × (Nat → Int32)) := if a1 < x.1 then (some (x.2.1, x.2.2.1, x.2.2.2.1, x.2.2.2.2.1, x.2.2.2.2.2.1, x.2.2.2.2.2.2.1, x.2.2.2.2.2.2.2)) else (if z_step = (4 : Int32) then (f_X9_reach_Z_J74 F a1 z_step g_base g_worth rec x.1 (a1 - (x.1 - z_known)) x.2.1 x.2.2.1 x.2.2.2.1 x.2.2.2.2.1 x.2.2.2.2.2.1 x.2.2.2.2.2.2.1 x.2.2.2.2.2.2.2) else (f_X9_reach_Z_J74 F a1 z_step g_base g_worth rec x.1 x.1 x.2.1 x.2.2.1 x.2.2.2.1 x.2.2.2.2.1 x.2.2.2.2.2.1 x.2.2.2.2.2.2.1 x.2.2.2.2.2.2.2))
def f_X9_reach_Z_J44 (F : Nat) (a1 : Int32) (z_step : Int32) (g_base : Int32) (g_worth : Nat → Int32) (g_row : Nat → Int32) (g_many : Nat → Int32) (p_told : Nat → Int64) (p_size : Int32) (p_tail : Int32) (p_round : Int32) (z_tails : Nat → Int32) (z_known : Int32) (z_version : Int32) : Option ((Nat → Int32) × (Nat → Int32) × (Nat → Int64) × Int32 × Int32 × Int32 × (Nat → Int32) × Int32 × Int32) := (lp (f_X9_reach_Z_B49 F a1 z_step g_base g_worth z_known z_version) F (z_known, g_row, g_many, p_told, p_size, p_tail, p_round, z_tails)).bind (fun ex7 => some (ex7.1, ex7.2.1, ex7.2.2.1, ex7.2.2.2.1, ex7.2.2.2.2.1, ex7.2.2.2.2.2.1, ex7.2.2.2.2.2.2, (if z_known < (a1 + (1 : Int32)) then (a1 + (1 : Int32)) else z_known), z_version))
def f_X9_reach_Z (F : Nat) (a1 : Int32) (g_base : Int32) (g_worth : Nat → Int32) (g_row : Nat → Int32) (g_many : Nat → Int32) (g_version : Int32) (p_told : Nat → Int64) (p_size : Int32) (p_tail : Int32) (p_round : Int32) (z_step : Int32) (z_tails : Nat → Int32) (z_known : Int32) (z_version : Int32) : Option ((Nat → Int32) × (Nat → Int32) × (Nat → Int64) × Int32 × Int32 × Int32 × (Nat → Int32) × Int32 × Int32) := if z_version = g_version then (f_X9_reach_Z_J44 F a1 z_step g_base g_worth g_row g_many p_told p_size p_tail p_round z_tails z_known z_version) else (f_X9_reach_Z_J44 F a1 z_step g_base g_worth g_row g_many p_told p_size p_tail p_round z_tails (0 : Int32) g_version)
abbrev rmX9_reach_Z : Room := { frames := 4, cells := 0, slots := 0, locals := 105 }
set_option maxHeartbeats 1000000 in
set_option maxRecDepth 100000 in
theorem c_X9_reach_Z {l : Launch} {D : va_G} {cy : Nat → ClassId} {qZ : Nat → Nat} {qG : Nat → Nat} {qP : Nat → Nat} {z_step : Int32} {z_tails : Nat → Int32} {z_known : Int32} {z_version : Int32} {p_told : Nat → Int64} {p_size : Int32} {p_tail : Int32} {p_round : Int32} {g_base : Int32} {g_worth : Nat → Int32} {g_row : Nat → Int32} {g_many : Nat → Int32} {g_version : Int32} {a1 : Int32} {F : Nat} {res : (Nat → Int32) × (Nat → Int32) × (Nat → Int64) × Int32 × Int32 × Int32 × (Nat → Int32) × Int32 × Int32} (hf : f_X9_reach_Z F a1 g_base g_worth g_row g_many g_version p_told p_size p_tail p_round z_step z_tails z_known z_version = some res) : kM l yX9_reach wsX9_reach rmX9_reach_Z D cy [.ref (qZ 0), .int a1] (gZ cy qZ (qG 0) (qP 0) z_step z_tails z_known z_version ++ (gP cy qP p_told p_size p_tail p_round ++ (gG cy qG g_base g_worth g_row g_many g_version))) (kQv D cy (fun _ : Unit => gZ cy qZ (qG 0) (qP 0) z_step res.2.2.2.2.2.2.1 res.2.2.2.2.2.2.2.1 res.2.2.2.2.2.2.2.2 ++ (gP cy qP res.2.2.1 res.2.2.2.1 res.2.2.2.2.1 res.2.2.2.2.2.1 ++ (gG cy qG g_base g_worth res.1 res.2.1 g_version)))) := by
  refine kent_v (cc := cX9_reach) (maxL := 5) (by decide) rfl (Nat.le_of_ble_eq_true rfl) ?_
  intro p e0 s m ar below meth c A Q ls ⟨hx, hb, hml, hr, hts, hown, hlocks, hnm⟩ hA hK hN hQ hP hD hS hl
  have hl : lv_has ls 5 [(0, .ref (qZ 0)), (1, .int a1)] := hl
  have hown : s.vm.findClass RX9 = some m.cls := hown
  have huX9 : ∀ x ∈ u_ws RX9 TX9 7, x ∈ wsX9_reach := by decide +kernel
  have fk33 : (Cond.fieldLink RX9 33 "FigurePlay$Ways" "circles" "LFigurePlay$Circles;").before ar s = true := hts _ (by decide +kernel)
  have fk9 : (Cond.fieldLink RX9 9 "FigurePlay$Ways" "tails" "[I").before ar s = true := hts _ (by decide +kernel)
  have fk30 : (Cond.fieldLink RX9 30 "FigurePlay$Ways" "step" "I").before ar s = true := hts _ (by decide +kernel)
  have fk15 : (Cond.fieldLink RX9 15 "FigurePlay$Ways" "known" "I").before ar s = true := hts _ (by decide +kernel)
  have fk19 : (Cond.fieldLink RX9 19 "FigurePlay$Ways" "version" "I").before ar s = true := hts _ (by decide +kernel)
  have fk22 : (Cond.fieldLink RX9 22 "FigurePlay$Ways" "figures" "LFigurePlay$Figures;").before ar s = true := hts _ (by decide +kernel)
  have huX1 : ∀ x ∈ u_ws RX1 TX1 5, x ∈ wsX9_reach := by decide +kernel
  have fk37 : (Cond.fieldLink RX9 37 "FigurePlay$Figures" "version" "I").before ar s = true := hts _ (by decide +kernel)
  unfold f_X9_reach_Z at hf
  have hL49 : ∀ (z_known : Int32) (z_version : Int32) (k : Nat) (x : Int32 × (Nat → Int32) × (Nat → Int32) × (Nat → Int64) × Int32 × Int32 × Int32 × (Nat → Int32)) (ex : (Nat → Int32) × (Nat → Int32) × (Nat → Int64) × Int32 × Int32 × Int32 × (Nat → Int32)) (H : Heap) (locs : List Loc) (ls : Array Slot), lp (f_X9_reach_Z_B49 F a1 z_step g_base g_worth z_known z_version) k x = some ex → (∀ (H : Heap) (locs : List Loc) (ls : Array Slot), va_P D vwCl (gZ cy qZ (qG 0) (qP 0) z_step ex.2.2.2.2.2.2 z_known z_version ++ (gP cy qP ex.2.2.1 ex.2.2.2.1 ex.2.2.2.2.1 ex.2.2.2.2.2.1 ++ (gG cy qG g_base g_worth ex.1 ex.2.1 g_version))) H → va_D A (gZ cy qZ (qG 0) (qP 0) z_step ex.2.2.2.2.2.2 z_known z_version ++ (gP cy qP ex.2.2.1 ex.2.2.2.1 ex.2.2.2.2.1 ex.2.2.2.2.2.1 ++ (gG cy qG g_base g_worth ex.1 ex.2.1 g_version))) → va_S A s.heap H locs → lv_has ls 5 [(0, .ref (qZ 0)), (1, .int a1)] → W p l e0 rmX9_reach_Z s m ar below meth c H locs 0 0 Q (F0 m 124 ls [])) → va_P D vwCl (gZ cy qZ (qG 0) (qP 0) z_step x.2.2.2.2.2.2.2 z_known z_version ++ (gP cy qP x.2.2.2.1 x.2.2.2.2.1 x.2.2.2.2.2.1 x.2.2.2.2.2.2.1 ++ (gG cy qG g_base g_worth x.2.1 x.2.2.1 g_version))) H → va_D A (gZ cy qZ (qG 0) (qP 0) z_step x.2.2.2.2.2.2.2 z_known z_version ++ (gP cy qP x.2.2.2.1 x.2.2.2.2.1 x.2.2.2.2.2.1 x.2.2.2.2.2.2.1 ++ (gG cy qG g_base g_worth x.2.1 x.2.2.1 g_version))) → va_S A s.heap H locs → lv_has ls 5 [(0, .ref (qZ 0)), (1, .int a1), (2, .int x.1)] → W p l e0 rmX9_reach_Z s m ar below meth c H locs 0 0 Q (F0 m 49 ls []) := by
    intro z_known z_version k
    induction k with
    | zero => intro x ex H locs ls hf; exact no_some hf
    | succ k ih =>
      intro x ex H locs ls hf hex hP hD hS hl
      have hf : f_X9_reach_Z_B49 F a1 z_step g_base g_worth z_known z_version (lp (f_X9_reach_Z_B49 F a1 z_step g_base g_worth z_known z_version) k) x = some ex := hf
      unfold f_X9_reach_Z_B49 at hf
      have hJ118 : ∀ (x2 : Int32) (g_row : Nat → Int32) (g_many : Nat → Int32) (p_told : Nat → Int64) (p_size : Int32) (p_tail : Int32) (p_round : Int32) (z_tails : Nat → Int32) (H : Heap) (locs : List Loc) (ls : Array Slot), f_X9_reach_Z_J118 F (lp (f_X9_reach_Z_B49 F a1 z_step g_base g_worth z_known z_version) k) x2 g_row g_many p_told p_size p_tail p_round z_tails = some ex → va_P D vwCl (gZ cy qZ (qG 0) (qP 0) z_step z_tails z_known z_version ++ (gP cy qP p_told p_size p_tail p_round ++ (gG cy qG g_base g_worth g_row g_many g_version))) H → va_D A (gZ cy qZ (qG 0) (qP 0) z_step z_tails z_known z_version ++ (gP cy qP p_told p_size p_tail p_round ++ (gG cy qG g_base g_worth g_row g_many g_version))) → va_S A s.heap H locs → lv_has ls 5 [(0, .ref (qZ 0)), (1, .int a1), (2, .int x2)] → W p l e0 rmX9_reach_Z s m ar below meth c H locs 0 0 Q (F0 m 118 ls []) := by
        intro x2 g_row g_many p_told p_size p_tail p_round z_tails H locs ls hf hP hD hS hl
        unfold f_X9_reach_Z_J118 at hf
        refine lv_iinc (v := (x2 + (1 : Int32))) (lv' := [(2, .int (x2 + (1 : Int32))), (0, .ref (qZ 0)), (1, .int a1)]) hx hb dX9_reach_118 hl (k := 2) rfl rfl (by decide) rfl (fun ls hl => ?_)
        refine lv_goto (tgt := 49) hx hb dX9_reach_121 (by decide) ?_
        exact ih ((x2 + (1 : Int32)), g_row, g_many, p_told, p_size, p_tail, p_round, z_tails) ex _ _ _ hf hex hP hD hS (lv_sub hl [1, 2, 0] rfl)
      have hJ74 : ∀ (x2 : Int32) (s0 : Int32) (g_row : Nat → Int32) (g_many : Nat → Int32) (p_told : Nat → Int64) (p_size : Int32) (p_tail : Int32) (p_round : Int32) (z_tails : Nat → Int32) (H : Heap) (locs : List Loc) (ls : Array Slot), f_X9_reach_Z_J74 F a1 z_step g_base g_worth (lp (f_X9_reach_Z_B49 F a1 z_step g_base g_worth z_known z_version) k) x2 s0 g_row g_many p_told p_size p_tail p_round z_tails = some ex → va_P D vwCl (gZ cy qZ (qG 0) (qP 0) z_step z_tails z_known z_version ++ (gP cy qP p_told p_size p_tail p_round ++ (gG cy qG g_base g_worth g_row g_many g_version))) H → va_D A (gZ cy qZ (qG 0) (qP 0) z_step z_tails z_known z_version ++ (gP cy qP p_told p_size p_tail p_round ++ (gG cy qG g_base g_worth g_row g_many g_version))) → va_S A s.heap H locs → lv_has ls 5 [(0, .ref (qZ 0)), (1, .int a1), (2, .int x2)] → W p l e0 rmX9_reach_Z s m ar below meth c H locs 0 0 Q (F0 m 74 ls [.int s0]) := by
        intro x2 s0 g_row g_many p_told p_size p_tail p_round z_tails H locs ls hf hP hD hS hl
        unfold f_X9_reach_Z_J74 at hf
        refine lv_istore_n (lv' := [(3, .int s0), (0, .ref (qZ 0)), (1, .int a1), (2, .int x2)]) hx hb dX9_reach_74 rfl hl (by decide) rfl (fun ls hl => ?_)
        refine lv_aload_n hx hb dX9_reach_75 rfl (lv_at hl 1 rfl) ?_
        refine va_get (v := .null) (D := D) (ci := 9) (C := RX9) (T := TX9) (N := 7) hx hb hts huX9 hown hK hP 0 rfl rfl 3 (by decide) fk33 (fun _ h9 => h9) rfl dX9_reach_76 ?_
        refine lv_ifnullN (tgt := 93) hx hb dX9_reach_79 (by decide) ?_
        refine lv_aload_n hx hb dX9_reach_93 rfl (lv_at hl 1 rfl) ?_
        refine lv_iload_n hx hb dX9_reach_94 rfl (lv_at hl 0 rfl) ?_
        refine lv_iload_n hx hb dX9_reach_95 rfl (lv_at hl 2 rfl) ?_
        obtain ⟨r1, hc2, hf⟩ := ob_some hf
        refine kc_i (k_run ⟨hx, hb, hml, hown, hts⟩ (c_X9_tailFrom_Z hc2) (cwV 2 hts gX9_reach_X9_tailFrom rfl rfl rfl (by decide +kernel) ⟨Nat.le_of_ble_eq_true rfl, Nat.le_of_ble_eq_true rfl⟩) hK hN hP hD kA_s (ci := 9) (q0 := 0) rfl rfl rfl rfl hl.1 rfl (Nat.le_of_ble_eq_true rfl) dX9_reach_96 ⟨Nat.le_of_ble_eq_true rfl, Nat.le_of_ble_eq_true rfl⟩) hP hD hS hA kI_s (fun _ H locs hP hD hS => ?_)
        refine lv_istore (lv' := [(4, .int r1.1), (3, .int s0), (0, .ref (qZ 0)), (1, .int a1), (2, .int x2)]) hx hb dX9_reach_99 hl (by decide) rfl (fun ls hl => ?_)
        refine lv_iload_n hx hb dX9_reach_101 rfl (lv_at hl 1 rfl) ?_
        refine lv_aload_n hx hb dX9_reach_102 rfl (lv_at hl 2 rfl) ?_
        refine va_get (v := .ref (qZ 1)) (D := D) (ci := 9) (C := RX9) (T := TX9) (N := 7) hx hb hts huX9 hown hK hP 0 rfl rfl 4 (by decide) fk9 (fun _ h9 => h9) rfl dX9_reach_103 ?_
        refine va_alen (v := (3001 : Int32)) hx hb hK hP 1 0 rfl rfl rfl dX9_reach_106 ?_
        refine lv_icmp_ge (tgt := 118) hx hb dX9_reach_107 (by decide) (fun c3 => ?_) (fun c3 => ?_)
        · have hf := if_t hf c3
          exact hJ118 x2 r1.2.1 r1.2.2.1 r1.2.2.2.1 r1.2.2.2.2.1 r1.2.2.2.2.2.1 r1.2.2.2.2.2.2 z_tails _ _ _ hf hP hD hS (lv_sub hl [2, 3, 4] rfl)
        · have hf := if_f hf c3
          refine lv_aload_n hx hb dX9_reach_110 rfl (lv_at hl 2 rfl) ?_
          refine va_get (v := .ref (qZ 1)) (D := D) (ci := 9) (C := RX9) (T := TX9) (N := 7) hx hb hts huX9 hown hK hP 0 rfl rfl 4 (by decide) fk9 (fun _ h9 => h9) rfl dX9_reach_111 ?_
          refine lv_iload_n hx hb dX9_reach_114 rfl (lv_at hl 1 rfl) ?_
          refine lv_iload hx hb dX9_reach_115 (lv_at hl 0 rfl) ?_
          obtain ⟨c4, hf⟩ := ck_some hf
          refine va_iast hx hb hK hP hD hS 1 0 rfl rfl c4 dX9_reach_117 (fun H locs hP hD hS => ?_)
          have hP : va_P D vwCl (gZ cy qZ (qG 0) (qP 0) z_step (upd z_tails s0.toNatClampNeg r1.1) z_known z_version ++ (gP cy qP r1.2.2.2.1 r1.2.2.2.2.1 r1.2.2.2.2.2.1 r1.2.2.2.2.2.2 ++ (gG cy qG g_base g_worth r1.2.1 r1.2.2.1 g_version))) H := hP
          have hD : va_D A (gZ cy qZ (qG 0) (qP 0) z_step (upd z_tails s0.toNatClampNeg r1.1) z_known z_version ++ (gP cy qP r1.2.2.2.1 r1.2.2.2.2.1 r1.2.2.2.2.2.1 r1.2.2.2.2.2.2 ++ (gG cy qG g_base g_worth r1.2.1 r1.2.2.1 g_version))) := hD
          exact hJ118 x2 r1.2.1 r1.2.2.1 r1.2.2.2.1 r1.2.2.2.2.1 r1.2.2.2.2.2.1 r1.2.2.2.2.2.2 (upd z_tails s0.toNatClampNeg r1.1) _ _ _ hf hP hD hS (lv_sub hl [2, 3, 4] rfl)
      refine lv_iload_n hx hb dX9_reach_49 rfl (lv_at hl 2 rfl) ?_
      refine lv_iload_n hx hb dX9_reach_50 rfl (lv_at hl 1 rfl) ?_
      refine lv_icmp_gt (tgt := 124) hx hb dX9_reach_51 (by decide) (fun c5 => ?_) (fun c5 => ?_)
      · have hf := if_t hf c5
        obtain rfl := Option.some.inj hf
        exact hex _ _ _ hP hD hS (lv_sub hl [0, 1] rfl)
      · have hf := if_f hf c5
        refine lv_aload_n hx hb dX9_reach_54 rfl (lv_at hl 0 rfl) ?_
        refine va_get (D := D) (ci := 9) (C := RX9) (T := TX9) (N := 7) hx hb hts huX9 hown hK hP 0 rfl rfl 2 (by decide) fk30 (fun _ h9 => h9) rfl dX9_reach_55 ?_
        refine lv_iconst (v := (4 : Int32)) hx hb dX9_reach_58 (by decide) ?_
        refine lv_icmp_ne (tgt := 73) hx hb dX9_reach_59 (by decide) (fun c6 => ?_) (fun c6 => ?_)
        · have hf := if_f hf c6
          refine lv_iload_n hx hb dX9_reach_73 rfl (lv_at hl 2 rfl) ?_
          exact hJ74 x.1 x.1 x.2.1 x.2.2.1 x.2.2.2.1 x.2.2.2.2.1 x.2.2.2.2.2.1 x.2.2.2.2.2.2.1 x.2.2.2.2.2.2.2 _ _ _ hf hP hD hS (lv_sub hl [0, 1, 2] rfl)
        · have hf := if_t hf c6
          refine lv_iload_n hx hb dX9_reach_62 rfl (lv_at hl 1 rfl) ?_
          refine lv_iload_n hx hb dX9_reach_63 rfl (lv_at hl 2 rfl) ?_
          refine lv_aload_n hx hb dX9_reach_64 rfl (lv_at hl 0 rfl) ?_
          refine va_get (D := D) (ci := 9) (C := RX9) (T := TX9) (N := 7) hx hb hts huX9 hown hK hP 0 rfl rfl 5 (by decide) fk15 (fun _ h9 => h9) rfl dX9_reach_65 ?_
          refine lv_isub hx hb dX9_reach_68 ?_
          refine lv_isub hx hb dX9_reach_69 ?_
          refine lv_goto (tgt := 74) hx hb dX9_reach_70 (by decide) ?_
          exact hJ74 x.1 (a1 - (x.1 - z_known)) x.2.1 x.2.2.1 x.2.2.2.1 x.2.2.2.2.1 x.2.2.2.2.2.1 x.2.2.2.2.2.2.1 x.2.2.2.2.2.2.2 _ _ _ hf hP hD hS (lv_sub hl [0, 1, 2] rfl)
  have hJ44 : ∀ (g_row : Nat → Int32) (g_many : Nat → Int32) (p_told : Nat → Int64) (p_size : Int32) (p_tail : Int32) (p_round : Int32) (z_tails : Nat → Int32) (z_known : Int32) (z_version : Int32) (H : Heap) (locs : List Loc) (ls : Array Slot), f_X9_reach_Z_J44 F a1 z_step g_base g_worth g_row g_many p_told p_size p_tail p_round z_tails z_known z_version = some res → va_P D vwCl (gZ cy qZ (qG 0) (qP 0) z_step z_tails z_known z_version ++ (gP cy qP p_told p_size p_tail p_round ++ (gG cy qG g_base g_worth g_row g_many g_version))) H → va_D A (gZ cy qZ (qG 0) (qP 0) z_step z_tails z_known z_version ++ (gP cy qP p_told p_size p_tail p_round ++ (gG cy qG g_base g_worth g_row g_many g_version))) → va_S A s.heap H locs → lv_has ls 5 [(0, .ref (qZ 0)), (1, .int a1)] → W p l e0 rmX9_reach_Z s m ar below meth c H locs 0 0 Q (F0 m 44 ls []) := by
    intro g_row g_many p_told p_size p_tail p_round z_tails z_known z_version H locs ls hf hP hD hS hl
    unfold f_X9_reach_Z_J44 at hf
    refine lv_aload_n hx hb dX9_reach_44 rfl (lv_at hl 0 rfl) ?_
    refine va_get (D := D) (ci := 9) (C := RX9) (T := TX9) (N := 7) hx hb hts huX9 hown hK hP 0 rfl rfl 5 (by decide) fk15 (fun _ h9 => h9) rfl dX9_reach_45 ?_
    refine lv_istore_n (lv' := [(2, .int z_known), (0, .ref (qZ 0)), (1, .int a1)]) hx hb dX9_reach_48 rfl hl (by decide) rfl (fun ls hl => ?_)
    obtain ⟨ex7, hcl, hf⟩ := ob_some hf
    refine hL49 z_known z_version F (z_known, g_row, g_many, p_told, p_size, p_tail, p_round, z_tails) ex7 _ _ _ hcl (fun H locs ls hP hD hS hl => ?_) hP hD hS (lv_sub hl [1, 2, 0] rfl)
    refine lv_aload_n hx hb dX9_reach_124 rfl (lv_at hl 0 rfl) ?_
    refine lv_aload_n hx hb dX9_reach_125 rfl (lv_at hl 0 rfl) ?_
    refine va_get (D := D) (ci := 9) (C := RX9) (T := TX9) (N := 7) hx hb hts huX9 hown hK hP 0 rfl rfl 5 (by decide) fk15 (fun _ h9 => h9) rfl dX9_reach_126 ?_
    refine lv_iload_n hx hb dX9_reach_129 rfl (lv_at hl 1 rfl) ?_
    refine lv_iconst (v := (1 : Int32)) hx hb dX9_reach_130 (by decide) ?_
    refine lv_iadd hx hb dX9_reach_131 ?_
    refine va_mmax hx hb (hml.trans hl.1.symm) hown (hts (.methodLink RX9 52 Lib.Math.max.name) (by decide +kernel)) (hts (.static Lib.Math.max.name) (by decide +kernel)) (hts (.initialized "java/lang/Math") (by decide +kernel)) (hts (.code Lib.Math.max.name Lib.Math.max.code 2 (some .int)) (by decide +kernel)) (Nat.le_of_ble_eq_true rfl) (Nat.le_of_ble_eq_true rfl) (Nat.le_of_ble_eq_true rfl) (Nat.le_of_ble_eq_true rfl) dX9_reach_132 ?_
    refine va_put (D := D) (ci := 9) (v := .int (if z_known < (a1 + (1 : Int32)) then (a1 + (1 : Int32)) else z_known)) (ty := .int) (C := RX9) (T := TX9) (N := 7) hx hb hts huX9 tyX9 tyX9_ok nmX9 hown hK hP hD hS 0 rfl rfl 5 (by decide) fk15 (fun _ h9 => h9) rfl (tyX9_ok 5 (by decide)) rfl rfl (Nat.le_of_ble_eq_true rfl) dX9_reach_135 (fun H locs hP hD hS => ?_)
    have hP : va_P D vwCl (gZ cy qZ (qG 0) (qP 0) z_step ex7.2.2.2.2.2.2 (if z_known < (a1 + (1 : Int32)) then (a1 + (1 : Int32)) else z_known) z_version ++ (gP cy qP ex7.2.2.1 ex7.2.2.2.1 ex7.2.2.2.2.1 ex7.2.2.2.2.2.1 ++ (gG cy qG g_base g_worth ex7.1 ex7.2.1 g_version))) H := hP
    have hD : va_D A (gZ cy qZ (qG 0) (qP 0) z_step ex7.2.2.2.2.2.2 (if z_known < (a1 + (1 : Int32)) then (a1 + (1 : Int32)) else z_known) z_version ++ (gP cy qP ex7.2.2.1 ex7.2.2.2.1 ex7.2.2.2.2.1 ex7.2.2.2.2.2.1 ++ (gG cy qG g_base g_worth ex7.1 ex7.2.1 g_version))) := hD
    obtain rfl := Option.some.inj hf
    exact hQ () 138 _ _ _ dX9_reach_138 hP hD hS
  refine lv_aload_n hx hb dX9_reach_0 rfl (lv_at hl 0 rfl) ?_
  refine va_get (D := D) (ci := 9) (C := RX9) (T := TX9) (N := 7) hx hb hts huX9 hown hK hP 0 rfl rfl 6 (by decide) fk19 (fun _ h9 => h9) rfl dX9_reach_1 ?_
  refine lv_aload_n hx hb dX9_reach_4 rfl (lv_at hl 0 rfl) ?_
  refine va_get (v := .ref (qG 0)) (D := D) (ci := 9) (C := RX9) (T := TX9) (N := 7) hx hb hts huX9 hown hK hP 0 rfl rfl 0 (by decide) fk22 (fun _ h9 => h9) rfl dX9_reach_5 ?_
  refine va_get (D := D) (ci := 1) (C := RX1) (T := TX1) (N := 5) hx hb hts huX1 hown hK hP 4 rfl rfl 4 (by decide) fk37 (fun _ h9 => h9) rfl dX9_reach_8 ?_
  refine lv_icmp_eq (tgt := 44) hx hb dX9_reach_11 (by decide) (fun c8 => ?_) (fun c8 => ?_)
  · have hf := if_t hf c8
    exact hJ44 g_row g_many p_told p_size p_tail p_round z_tails z_known z_version _ _ _ hf hP hD hS (lv_sub hl [0, 1] rfl)
  · have hf := if_f hf c8
    refine lv_aload_n hx hb dX9_reach_14 rfl (lv_at hl 0 rfl) ?_
    refine lv_aload_n hx hb dX9_reach_15 rfl (lv_at hl 0 rfl) ?_
    refine va_get (v := .ref (qG 0)) (D := D) (ci := 9) (C := RX9) (T := TX9) (N := 7) hx hb hts huX9 hown hK hP 0 rfl rfl 0 (by decide) fk22 (fun _ h9 => h9) rfl dX9_reach_16 ?_
    refine va_get (D := D) (ci := 1) (C := RX1) (T := TX1) (N := 5) hx hb hts huX1 hown hK hP 4 rfl rfl 4 (by decide) fk37 (fun _ h9 => h9) rfl dX9_reach_19 ?_
    refine va_put (D := D) (ci := 9) (v := .int g_version) (ty := .int) (C := RX9) (T := TX9) (N := 7) hx hb hts huX9 tyX9 tyX9_ok nmX9 hown hK hP hD hS 0 rfl rfl 6 (by decide) fk19 (fun _ h9 => h9) rfl (tyX9_ok 6 (by decide)) rfl rfl (Nat.le_of_ble_eq_true rfl) dX9_reach_22 (fun H locs hP hD hS => ?_)
    have hP : va_P D vwCl (gZ cy qZ (qG 0) (qP 0) z_step z_tails z_known g_version ++ (gP cy qP p_told p_size p_tail p_round ++ (gG cy qG g_base g_worth g_row g_many g_version))) H := hP
    have hD : va_D A (gZ cy qZ (qG 0) (qP 0) z_step z_tails z_known g_version ++ (gP cy qP p_told p_size p_tail p_round ++ (gG cy qG g_base g_worth g_row g_many g_version))) := hD
    refine lv_aload_n hx hb dX9_reach_25 rfl (lv_at hl 0 rfl) ?_
    refine lv_iconst (v := (0 : Int32)) hx hb dX9_reach_26 (by decide) ?_
    refine va_put (D := D) (ci := 9) (v := .int (0 : Int32)) (ty := .int) (C := RX9) (T := TX9) (N := 7) hx hb hts huX9 tyX9 tyX9_ok nmX9 hown hK hP hD hS 0 rfl rfl 5 (by decide) fk15 (fun _ h9 => h9) rfl (tyX9_ok 5 (by decide)) rfl rfl (Nat.le_of_ble_eq_true rfl) dX9_reach_27 (fun H locs hP hD hS => ?_)
    have hP : va_P D vwCl (gZ cy qZ (qG 0) (qP 0) z_step z_tails (0 : Int32) g_version ++ (gP cy qP p_told p_size p_tail p_round ++ (gG cy qG g_base g_worth g_row g_many g_version))) H := hP
    have hD : va_D A (gZ cy qZ (qG 0) (qP 0) z_step z_tails (0 : Int32) g_version ++ (gP cy qP p_told p_size p_tail p_round ++ (gG cy qG g_base g_worth g_row g_many g_version))) := hD
    refine lv_aload_n hx hb dX9_reach_30 rfl (lv_at hl 0 rfl) ?_
    refine va_get (v := .null) (D := D) (ci := 9) (C := RX9) (T := TX9) (N := 7) hx hb hts huX9 hown hK hP 0 rfl rfl 3 (by decide) fk33 (fun _ h9 => h9) rfl dX9_reach_31 ?_
    refine lv_ifnullN (tgt := 44) hx hb dX9_reach_34 (by decide) ?_
    exact hJ44 g_row g_many p_told p_size p_tail p_round z_tails (0 : Int32) g_version _ _ _ hf hP hD hS (lv_sub hl [0, 1] rfl)
