/-! the class: functions and contracts -/
def f_X7_allow_J53 (F : Nat) (rec : (Int32 × (Nat → Int32) × Int32) → Option ((Nat → Int32) × Int32)) (x2 : Int32) (e_allowed : Nat → Int32) (e_allowedSize : Int32) : Option ((Nat → Int32) × Int32) := rec ((x2 + (1 : Int32)), e_allowed, e_allowedSize)
def f_X7_allow_B7 (F : Nat) (a1 : Int32) (e_base : Int32) (rec : Int32 × (Nat → Int32) × Int32 → Option ((Nat → Int32) × Int32)) (x : Int32 × (Nat → Int32) × Int32) : Option ((Nat → Int32) × Int32) := if e_base ≤ x.1 then (some (x.2.1, x.2.2)) else (if (16 : Int32) ≤ x.1 then (some (x.2.1, x.2.2)) else (if ((a1 >>> (x.1 &&& 31)) &&& (1 : Int32)) = (1 : Int32) then (ck (¬ (x.2.2 < 0 ∨ 16 ≤ x.2.2.toNatClampNeg)) (f_X7_allow_J53 F rec x.1 (upd x.2.1 x.2.2.toNatClampNeg x.1) (x.2.2 + (1 : Int32)))) else (f_X7_allow_J53 F rec x.1 x.2.1 x.2.2)))
def f_X7_allow (F : Nat) (a1 : Int32) (e_allowed : Nat → Int32) (e_allowedSize : Int32) (e_base : Int32) : Option ((Nat → Int32) × Int32) := (lp (f_X7_allow_B7 F a1 e_base) F ((0 : Int32), e_allowed, (0 : Int32))).bind (fun ex5 => some (ex5.1, ex5.2))
abbrev rmX7_allow : Room := { frames := 0, cells := 0, slots := 0, locals := 0 }
set_option maxHeartbeats 1000000 in
set_option maxRecDepth 100000 in
theorem c_X7_allow {l : Launch} {D : va_G} {cy : Nat → ClassId} {qE : Nat → Nat} {e_queue : Nat → Int32} {e_from : Nat → Int32} {e_allowed : Nat → Int32} {e_allowedSize : Int32} {e_kind : Int32} {e_base : Int32} {e_n : Int32} {e_want : Int32} {e_rules : Int32} {e_queued : Int32} {e_goal : Int32} {e_length : Int32} {a1 : Int32} {F : Nat} {res : (Nat → Int32) × Int32} (hf : f_X7_allow F a1 e_allowed e_allowedSize e_base = some res) : kM l yX7_allow wsX7_allow rmX7_allow D cy [.ref (qE 0), .int a1] (gE cy qE e_queue e_from e_allowed e_allowedSize e_kind e_base e_n e_want e_rules e_queued e_goal e_length) (kQv D cy (fun _ : Unit => gE cy qE e_queue e_from res.1 res.2 e_kind e_base e_n e_want e_rules e_queued e_goal e_length)) := by
  refine kent_v (cc := cX7_allow) (maxL := 3) (by decide) rfl (Nat.le_of_ble_eq_true rfl) ?_
  intro p e0 s m ar below meth c A Q ls ⟨hx, hb, hml, hr, hts, hown, hlocks, hnm⟩ hA hK hN hQ hP hD hS hl
  have hl : lv_has ls 3 [(0, .ref (qE 0)), (1, .int a1)] := hl
  have hown : s.vm.findClass RX7 = some m.cls := hown
  have huX7 : ∀ x ∈ u_ws RX7 TX7 12, x ∈ wsX7_allow := by decide +kernel
  have fk29 : (Cond.fieldLink RX7 29 "FigurePlay$Search" "base" "I").before ar s = true := hts _ (by decide +kernel)
  have fk19 : (Cond.fieldLink RX7 19 "FigurePlay$Search" "allowed" "[I").before ar s = true := hts _ (by decide +kernel)
  have fk22 : (Cond.fieldLink RX7 22 "FigurePlay$Search" "allowedSize" "I").before ar s = true := hts _ (by decide +kernel)
  unfold f_X7_allow at hf
  have hL7 : ∀ (k : Nat) (x : Int32 × (Nat → Int32) × Int32) (ex : (Nat → Int32) × Int32) (H : Heap) (locs : List Loc) (ls : Array Slot), lp (f_X7_allow_B7 F a1 e_base) k x = some ex → (∀ (H : Heap) (locs : List Loc) (ls : Array Slot), va_P D vwCl (gE cy qE e_queue e_from ex.1 ex.2 e_kind e_base e_n e_want e_rules e_queued e_goal e_length) H → va_D A (gE cy qE e_queue e_from ex.1 ex.2 e_kind e_base e_n e_want e_rules e_queued e_goal e_length) → va_S A s.heap H locs → lv_has ls 3 [] → W p l e0 rmX7_allow s m ar below meth c H locs 0 0 Q (F0 m 59 ls [])) → va_P D vwCl (gE cy qE e_queue e_from x.2.1 x.2.2 e_kind e_base e_n e_want e_rules e_queued e_goal e_length) H → va_D A (gE cy qE e_queue e_from x.2.1 x.2.2 e_kind e_base e_n e_want e_rules e_queued e_goal e_length) → va_S A s.heap H locs → lv_has ls 3 [(0, .ref (qE 0)), (1, .int a1), (2, .int x.1)] → W p l e0 rmX7_allow s m ar below meth c H locs 0 0 Q (F0 m 7 ls []) := by
    intro k
    induction k with
    | zero => intro x ex H locs ls hf; exact no_some hf
    | succ k ih =>
      intro x ex H locs ls hf hex hP hD hS hl
      have hf : f_X7_allow_B7 F a1 e_base (lp (f_X7_allow_B7 F a1 e_base) k) x = some ex := hf
      unfold f_X7_allow_B7 at hf
      have hJ53 : ∀ (x2 : Int32) (e_allowed : Nat → Int32) (e_allowedSize : Int32) (H : Heap) (locs : List Loc) (ls : Array Slot), f_X7_allow_J53 F (lp (f_X7_allow_B7 F a1 e_base) k) x2 e_allowed e_allowedSize = some ex → va_P D vwCl (gE cy qE e_queue e_from e_allowed e_allowedSize e_kind e_base e_n e_want e_rules e_queued e_goal e_length) H → va_D A (gE cy qE e_queue e_from e_allowed e_allowedSize e_kind e_base e_n e_want e_rules e_queued e_goal e_length) → va_S A s.heap H locs → lv_has ls 3 [(0, .ref (qE 0)), (1, .int a1), (2, .int x2)] → W p l e0 rmX7_allow s m ar below meth c H locs 0 0 Q (F0 m 53 ls []) := by
        intro x2 e_allowed e_allowedSize H locs ls hf hP hD hS hl
        unfold f_X7_allow_J53 at hf
        refine lv_iinc (v := (x2 + (1 : Int32))) (lv' := [(2, .int (x2 + (1 : Int32))), (0, .ref (qE 0)), (1, .int a1)]) hx hb dX7_allow_53 hl (k := 2) rfl rfl (by decide) rfl (fun ls hl => ?_)
        refine lv_goto (tgt := 7) hx hb dX7_allow_56 (by decide) ?_
        exact ih ((x2 + (1 : Int32)), e_allowed, e_allowedSize) ex _ _ _ hf hex hP hD hS (lv_sub hl [1, 2, 0] rfl)
      refine lv_iload_n hx hb dX7_allow_7 rfl (lv_at hl 2 rfl) ?_
      refine lv_aload_n hx hb dX7_allow_8 rfl (lv_at hl 0 rfl) ?_
      refine va_get (D := D) (ci := 7) (C := RX7) (T := TX7) (N := 12) hx hb hts huX7 hown hK hP 0 rfl rfl 5 (by decide) fk29 (fun _ h9 => h9) rfl dX7_allow_9 ?_
      refine lv_icmp_ge (tgt := 59) hx hb dX7_allow_12 (by decide) (fun c1 => ?_) (fun c1 => ?_)
      · have hf := if_t hf c1
        obtain rfl := Option.some.inj hf
        exact hex _ _ _ hP hD hS (lv_sub hl [] rfl)
      · have hf := if_f hf c1
        refine lv_iload_n hx hb dX7_allow_15 rfl (lv_at hl 2 rfl) ?_
        refine lv_aload_n hx hb dX7_allow_16 rfl (lv_at hl 0 rfl) ?_
        refine va_get (v := .ref (qE 3)) (D := D) (ci := 7) (C := RX7) (T := TX7) (N := 12) hx hb hts huX7 hown hK hP 0 rfl rfl 2 (by decide) fk19 (fun _ h9 => h9) rfl dX7_allow_17 ?_
        refine va_alen (v := (16 : Int32)) hx hb hK hP 3 0 rfl rfl rfl dX7_allow_20 ?_
        refine lv_icmp_ge (tgt := 59) hx hb dX7_allow_21 (by decide) (fun c2 => ?_) (fun c2 => ?_)
        · have hf := if_t hf c2
          obtain rfl := Option.some.inj hf
          exact hex _ _ _ hP hD hS (lv_sub hl [] rfl)
        · have hf := if_f hf c2
          refine lv_iload_n hx hb dX7_allow_24 rfl (lv_at hl 1 rfl) ?_
          refine lv_iload_n hx hb dX7_allow_25 rfl (lv_at hl 2 rfl) ?_
          refine lv_ishr hx hb dX7_allow_26 ?_
          refine lv_iconst (v := (1 : Int32)) hx hb dX7_allow_27 (by decide) ?_
          refine lv_iand hx hb dX7_allow_28 ?_
          refine lv_iconst (v := (1 : Int32)) hx hb dX7_allow_29 (by decide) ?_
          refine lv_icmp_ne (tgt := 53) hx hb dX7_allow_30 (by decide) (fun c3 => ?_) (fun c3 => ?_)
          · have hf := if_f hf c3
            exact hJ53 x.1 x.2.1 x.2.2 _ _ _ hf hP hD hS (lv_sub hl [0, 1, 2] rfl)
          · have hf := if_t hf c3
            refine lv_aload_n hx hb dX7_allow_33 rfl (lv_at hl 0 rfl) ?_
            refine va_get (v := .ref (qE 3)) (D := D) (ci := 7) (C := RX7) (T := TX7) (N := 12) hx hb hts huX7 hown hK hP 0 rfl rfl 2 (by decide) fk19 (fun _ h9 => h9) rfl dX7_allow_34 ?_
            refine lv_aload_n hx hb dX7_allow_37 rfl (lv_at hl 0 rfl) ?_
            refine va_get (D := D) (ci := 7) (C := RX7) (T := TX7) (N := 12) hx hb hts huX7 hown hK hP 0 rfl rfl 3 (by decide) fk22 (fun _ h9 => h9) rfl dX7_allow_38 ?_
            refine lv_iload_n hx hb dX7_allow_41 rfl (lv_at hl 2 rfl) ?_
            obtain ⟨c4, hf⟩ := ck_some hf
            refine va_iast hx hb hK hP hD hS 3 0 rfl rfl c4 dX7_allow_42 (fun H locs hP hD hS => ?_)
            have hP : va_P D vwCl (gE cy qE e_queue e_from (upd x.2.1 x.2.2.toNatClampNeg x.1) x.2.2 e_kind e_base e_n e_want e_rules e_queued e_goal e_length) H := hP
            have hD : va_D A (gE cy qE e_queue e_from (upd x.2.1 x.2.2.toNatClampNeg x.1) x.2.2 e_kind e_base e_n e_want e_rules e_queued e_goal e_length) := hD
            refine lv_aload_n hx hb dX7_allow_43 rfl (lv_at hl 0 rfl) ?_
            refine lv_dup hx hb dX7_allow_44 rfl ?_
            refine va_get (D := D) (ci := 7) (C := RX7) (T := TX7) (N := 12) hx hb hts huX7 hown hK hP 0 rfl rfl 3 (by decide) fk22 (fun _ h9 => h9) rfl dX7_allow_45 ?_
            refine lv_iconst (v := (1 : Int32)) hx hb dX7_allow_48 (by decide) ?_
            refine lv_iadd hx hb dX7_allow_49 ?_
            refine va_put (D := D) (ci := 7) (v := .int (x.2.2 + (1 : Int32))) (ty := .int) (C := RX7) (T := TX7) (N := 12) hx hb hts huX7 tyX7 tyX7_ok nmX7 hown hK hP hD hS 0 rfl rfl 3 (by decide) fk22 (fun _ h9 => h9) rfl (tyX7_ok 3 (by decide)) rfl rfl (Nat.le_of_ble_eq_true rfl) dX7_allow_50 (fun H locs hP hD hS => ?_)
            have hP : va_P D vwCl (gE cy qE e_queue e_from (upd x.2.1 x.2.2.toNatClampNeg x.1) (x.2.2 + (1 : Int32)) e_kind e_base e_n e_want e_rules e_queued e_goal e_length) H := hP
            have hD : va_D A (gE cy qE e_queue e_from (upd x.2.1 x.2.2.toNatClampNeg x.1) (x.2.2 + (1 : Int32)) e_kind e_base e_n e_want e_rules e_queued e_goal e_length) := hD
            exact hJ53 x.1 (upd x.2.1 x.2.2.toNatClampNeg x.1) (x.2.2 + (1 : Int32)) _ _ _ hf hP hD hS (lv_sub hl [0, 1, 2] rfl)
  refine lv_aload_n hx hb dX7_allow_0 rfl (lv_at hl 0 rfl) ?_
  refine lv_iconst (v := (0 : Int32)) hx hb dX7_allow_1 (by decide) ?_
  refine va_put (D := D) (ci := 7) (v := .int (0 : Int32)) (ty := .int) (C := RX7) (T := TX7) (N := 12) hx hb hts huX7 tyX7 tyX7_ok nmX7 hown hK hP hD hS 0 rfl rfl 3 (by decide) fk22 (fun _ h9 => h9) rfl (tyX7_ok 3 (by decide)) rfl rfl (Nat.le_of_ble_eq_true rfl) dX7_allow_2 (fun H locs hP hD hS => ?_)
  have hP : va_P D vwCl (gE cy qE e_queue e_from e_allowed (0 : Int32) e_kind e_base e_n e_want e_rules e_queued e_goal e_length) H := hP
  have hD : va_D A (gE cy qE e_queue e_from e_allowed (0 : Int32) e_kind e_base e_n e_want e_rules e_queued e_goal e_length) := hD
  refine lv_iconst (v := (0 : Int32)) hx hb dX7_allow_5 (by decide) ?_
  refine lv_istore_n (lv' := [(2, .int (0 : Int32)), (0, .ref (qE 0)), (1, .int a1)]) hx hb dX7_allow_6 rfl hl (by decide) rfl (fun ls hl => ?_)
  obtain ⟨ex5, hcl, hf⟩ := ob_some hf
  refine hL7 F ((0 : Int32), e_allowed, (0 : Int32)) ex5 _ _ _ hcl (fun H locs ls hP hD hS hl => ?_) hP hD hS (lv_sub hl [1, 2, 0] rfl)
  obtain rfl := Option.some.inj hf
  exact hQ () 59 _ _ _ dX7_allow_59 hP hD hS
def f_X7_ruleAfter_J31 (F : Nat) (s0 : Int32) : Option (Int32) := some s0
def f_X7_ruleAfter (F : Nat) (a1 : Int32) (a2 : Int32) (a3 : Int32) (e_kind : Int32) : Option (Int32) := if e_kind = (1 : Int32) then (f_X7_ruleAfter_J31 F (a1 ||| ((1 : Int32) <<< (a2 &&& 31)))) else (if e_kind = (2 : Int32) then (f_X7_ruleAfter_J31 F (a1 + a3)) else (f_X7_ruleAfter_J31 F (0 : Int32)))
abbrev rmX7_ruleAfter : Room := { frames := 0, cells := 0, slots := 0, locals := 0 }
set_option maxHeartbeats 1000000 in
set_option maxRecDepth 100000 in
theorem c_X7_ruleAfter {l : Launch} {D : va_G} {cy : Nat → ClassId} {qE : Nat → Nat} {e_queue : Nat → Int32} {e_from : Nat → Int32} {e_allowed : Nat → Int32} {e_allowedSize : Int32} {e_kind : Int32} {e_base : Int32} {e_n : Int32} {e_want : Int32} {e_rules : Int32} {e_queued : Int32} {e_goal : Int32} {e_length : Int32} {a1 : Int32} {a2 : Int32} {a3 : Int32} {F : Nat} {res : Int32} (hf : f_X7_ruleAfter F a1 a2 a3 e_kind = some res) : kM l yX7_ruleAfter wsX7_ruleAfter rmX7_ruleAfter D cy [.ref (qE 0), .int a1, .int a2, .int a3] (gE cy qE e_queue e_from e_allowed e_allowedSize e_kind e_base e_n e_want e_rules e_queued e_goal e_length) (kQi D cy (fun _ : Unit => gE cy qE e_queue e_from e_allowed e_allowedSize e_kind e_base e_n e_want e_rules e_queued e_goal e_length) res) := by
  refine kent_i (cc := cX7_ruleAfter) (maxL := 4) (by decide) rfl (Nat.le_of_ble_eq_true rfl) ?_
  intro p e0 s m ar below meth c A Q ls ⟨hx, hb, hml, hr, hts, hown, hlocks, hnm⟩ hA hK hN hQ hP hD hS hl
  have hl : lv_has ls 4 [(0, .ref (qE 0)), (1, .int a1), (2, .int a2), (3, .int a3)] := hl
  have hown : s.vm.findClass RX7 = some m.cls := hown
  have huX7 : ∀ x ∈ u_ws RX7 TX7 12, x ∈ wsX7_ruleAfter := by decide +kernel
  have fk26 : (Cond.fieldLink RX7 26 "FigurePlay$Search" "kind" "I").before ar s = true := hts _ (by decide +kernel)
  unfold f_X7_ruleAfter at hf
  have hJ31 : ∀ (s0 : Int32) (H : Heap) (locs : List Loc) (ls : Array Slot), f_X7_ruleAfter_J31 F s0 = some res → va_P D vwCl (gE cy qE e_queue e_from e_allowed e_allowedSize e_kind e_base e_n e_want e_rules e_queued e_goal e_length) H → va_D A (gE cy qE e_queue e_from e_allowed e_allowedSize e_kind e_base e_n e_want e_rules e_queued e_goal e_length) → va_S A s.heap H locs → lv_has ls 4 [] → W p l e0 rmX7_ruleAfter s m ar below meth c H locs 0 0 Q (F0 m 31 ls [.int s0]) := by
    intro s0 H locs ls hf hP hD hS hl
    unfold f_X7_ruleAfter_J31 at hf
    obtain rfl := Option.some.inj hf
    exact hQ () 31 _ _ _ dX7_ruleAfter_31 hP hD hS
  refine lv_aload_n hx hb dX7_ruleAfter_0 rfl (lv_at hl 0 rfl) ?_
  refine va_get (D := D) (ci := 7) (C := RX7) (T := TX7) (N := 12) hx hb hts huX7 hown hK hP 0 rfl rfl 4 (by decide) fk26 (fun _ h9 => h9) rfl dX7_ruleAfter_1 ?_
  refine lv_iconst (v := (1 : Int32)) hx hb dX7_ruleAfter_4 (by decide) ?_
  refine lv_icmp_ne (tgt := 16) hx hb dX7_ruleAfter_5 (by decide) (fun c1 => ?_) (fun c1 => ?_)
  · have hf := if_f hf c1
    refine lv_aload_n hx hb dX7_ruleAfter_16 rfl (lv_at hl 0 rfl) ?_
    refine va_get (D := D) (ci := 7) (C := RX7) (T := TX7) (N := 12) hx hb hts huX7 hown hK hP 0 rfl rfl 4 (by decide) fk26 (fun _ h9 => h9) rfl dX7_ruleAfter_17 ?_
    refine lv_iconst (v := (2 : Int32)) hx hb dX7_ruleAfter_20 (by decide) ?_
    refine lv_icmp_ne (tgt := 30) hx hb dX7_ruleAfter_21 (by decide) (fun c2 => ?_) (fun c2 => ?_)
    · have hf := if_f hf c2
      refine lv_iconst (v := (0 : Int32)) hx hb dX7_ruleAfter_30 (by decide) ?_
      exact hJ31 (0 : Int32) _ _ _ hf hP hD hS (lv_sub hl [] rfl)
    · have hf := if_t hf c2
      refine lv_iload_n hx hb dX7_ruleAfter_24 rfl (lv_at hl 1 rfl) ?_
      refine lv_iload_n hx hb dX7_ruleAfter_25 rfl (lv_at hl 3 rfl) ?_
      refine lv_iadd hx hb dX7_ruleAfter_26 ?_
      refine lv_goto (tgt := 31) hx hb dX7_ruleAfter_27 (by decide) ?_
      exact hJ31 (a1 + a3) _ _ _ hf hP hD hS (lv_sub hl [] rfl)
  · have hf := if_t hf c1
    refine lv_iload_n hx hb dX7_ruleAfter_8 rfl (lv_at hl 1 rfl) ?_
    refine lv_iconst (v := (1 : Int32)) hx hb dX7_ruleAfter_9 (by decide) ?_
    refine lv_iload_n hx hb dX7_ruleAfter_10 rfl (lv_at hl 2 rfl) ?_
    refine lv_ishl hx hb dX7_ruleAfter_11 ?_
    refine lv_ior hx hb dX7_ruleAfter_12 ?_
    refine lv_goto (tgt := 31) hx hb dX7_ruleAfter_13 (by decide) ?_
    exact hJ31 (a1 ||| ((1 : Int32) <<< (a2 &&& 31))) _ _ _ hf hP hD hS (lv_sub hl [] rfl)
def f_X7_spread_J171 (F : Nat) (rec : (Int32 × (Nat → Int32) × (Nat → Int32) × Int32) → Option ((Nat → Int32) × (Nat → Int32) × Int32)) (x4 : Int32) (e_queue : Nat → Int32) (e_from : Nat → Int32) (e_queued : Int32) : Option ((Nat → Int32) × (Nat → Int32) × Int32) := rec ((x4 + (1 : Int32)), e_queue, e_from, e_queued)
def f_X7_spread_J89 (F : Nat) (a1 : Int32) (e_base : Int32) (e_n : Int32) (x2 : Int32) (rec : (Int32 × (Nat → Int32) × (Nat → Int32) × Int32) → Option ((Nat → Int32) × (Nat → Int32) × Int32)) (x4 : Int32) (x5 : Int32) (x6 : Int32) (e_queue : Nat → Int32) (e_from : Nat → Int32) (e_queued : Int32) : Option ((Nat → Int32) × (Nat → Int32) × Int32) := ck (¬ e_n = 0) (ck (¬ (((x6 * e_n) + (((x2 * e_base) + x5) - ((x2 * e_base) + x5) / e_n * e_n)) < 0 ∨ 51200 ≤ ((x6 * e_n) + (((x2 * e_base) + x5) - ((x2 * e_base) + x5) / e_n * e_n)).toNatClampNeg)) (if (e_from ((x6 * e_n) + (((x2 * e_base) + x5) - ((x2 * e_base) + x5) / e_n * e_n)).toNatClampNeg) = (-1 : Int32) then (if (51200 : Int32) ≤ e_queued then (f_X7_spread_J171 F rec x4 e_queue e_from e_queued) else (ck (¬ (((x6 * e_n) + (((x2 * e_base) + x5) - ((x2 * e_base) + x5) / e_n * e_n)) < 0 ∨ 51200 ≤ ((x6 * e_n) + (((x2 * e_base) + x5) - ((x2 * e_base) + x5) / e_n * e_n)).toNatClampNeg)) (ck (¬ (e_queued < 0 ∨ 51200 ≤ e_queued.toNatClampNeg)) (f_X7_spread_J171 F rec x4 (upd e_queue e_queued.toNatClampNeg ((x6 * e_n) + (((x2 * e_base) + x5) - ((x2 * e_base) + x5) / e_n * e_n))) (upd e_from ((x6 * e_n) + (((x2 * e_base) + x5) - ((x2 * e_base) + x5) / e_n * e_n)).toNatClampNeg (((16 : Int32) * a1) + x5)) (e_queued + (1 : Int32)))))) else (f_X7_spread_J171 F rec x4 e_queue e_from e_queued)))
def f_X7_spread_B37 (F : Nat) (a1 : Int32) (e_allowed : Nat → Int32) (e_allowedSize : Int32) (e_kind : Int32) (e_base : Int32) (e_n : Int32) (e_rules : Int32) (x2 : Int32) (x3 : Int32) (rec : Int32 × (Nat → Int32) × (Nat → Int32) × Int32 → Option ((Nat → Int32) × (Nat → Int32) × Int32)) (x : Int32 × (Nat → Int32) × (Nat → Int32) × Int32) : Option ((Nat → Int32) × (Nat → Int32) × Int32) := if e_allowedSize ≤ x.1 then (some (x.2.1, x.2.2.1, x.2.2.2)) else (ck (¬ (x.1 < 0 ∨ 16 ≤ x.1.toNatClampNeg)) ((f_X7_ruleAfter F x3 x.1 (e_allowed x.1.toNatClampNeg) e_kind).bind (fun r9 => if e_rules ≤ r9 then (f_X7_spread_J171 F rec x.1 x.2.1 x.2.2.1 x.2.2.2) else (if a1 = (51200 : Int32) then (if (e_allowed x.1.toNatClampNeg) = 0 then (f_X7_spread_J171 F rec x.1 x.2.1 x.2.2.1 x.2.2.2) else (f_X7_spread_J89 F a1 e_base e_n x2 rec x.1 (e_allowed x.1.toNatClampNeg) r9 x.2.1 x.2.2.1 x.2.2.2)) else (f_X7_spread_J89 F a1 e_base e_n x2 rec x.1 (e_allowed x.1.toNatClampNeg) r9 x.2.1 x.2.2.1 x.2.2.2)))))
def f_X7_spread_J33 (F : Nat) (a1 : Int32) (e_allowed : Nat → Int32) (e_allowedSize : Int32) (e_kind : Int32) (e_base : Int32) (e_n : Int32) (e_rules : Int32) (x2 : Int32) (s0 : Int32) (e_queue : Nat → Int32) (e_from : Nat → Int32) (e_queued : Int32) : Option ((Nat → Int32) × (Nat → Int32) × Int32) := (lp (f_X7_spread_B37 F a1 e_allowed e_allowedSize e_kind e_base e_n e_rules x2 s0) F ((0 : Int32), e_queue, e_from, e_queued)).bind (fun ex14 => some (ex14.1, ex14.2.1, ex14.2.2))
def f_X7_spread_J16 (F : Nat) (a1 : Int32) (e_allowed : Nat → Int32) (e_allowedSize : Int32) (e_kind : Int32) (e_base : Int32) (e_n : Int32) (e_rules : Int32) (s0 : Int32) (e_queue : Nat → Int32) (e_from : Nat → Int32) (e_queued : Int32) : Option ((Nat → Int32) × (Nat → Int32) × Int32) := if a1 = (51200 : Int32) then (f_X7_spread_J33 F a1 e_allowed e_allowedSize e_kind e_base e_n e_rules s0 (0 : Int32) e_queue e_from e_queued) else (ck (¬ e_n = 0) (f_X7_spread_J33 F a1 e_allowed e_allowedSize e_kind e_base e_n e_rules s0 (a1 / e_n) e_queue e_from e_queued))
def f_X7_spread (F : Nat) (a1 : Int32) (e_queue : Nat → Int32) (e_from : Nat → Int32) (e_allowed : Nat → Int32) (e_allowedSize : Int32) (e_kind : Int32) (e_base : Int32) (e_n : Int32) (e_rules : Int32) (e_queued : Int32) : Option ((Nat → Int32) × (Nat → Int32) × Int32) := if a1 = (51200 : Int32) then (f_X7_spread_J16 F a1 e_allowed e_allowedSize e_kind e_base e_n e_rules (0 : Int32) e_queue e_from e_queued) else (ck (¬ e_n = 0) (f_X7_spread_J16 F a1 e_allowed e_allowedSize e_kind e_base e_n e_rules (a1 - a1 / e_n * e_n) e_queue e_from e_queued))
abbrev rmX7_spread : Room := { frames := 1, cells := 0, slots := 0, locals := 23 }
set_option maxHeartbeats 1000000 in
set_option maxRecDepth 100000 in
theorem c_X7_spread {l : Launch} {D : va_G} {cy : Nat → ClassId} {qE : Nat → Nat} {e_queue : Nat → Int32} {e_from : Nat → Int32} {e_allowed : Nat → Int32} {e_allowedSize : Int32} {e_kind : Int32} {e_base : Int32} {e_n : Int32} {e_want : Int32} {e_rules : Int32} {e_queued : Int32} {e_goal : Int32} {e_length : Int32} {a1 : Int32} {F : Nat} {res : (Nat → Int32) × (Nat → Int32) × Int32} (hf : f_X7_spread F a1 e_queue e_from e_allowed e_allowedSize e_kind e_base e_n e_rules e_queued = some res) : kM l yX7_spread wsX7_spread rmX7_spread D cy [.ref (qE 0), .int a1] (gE cy qE e_queue e_from e_allowed e_allowedSize e_kind e_base e_n e_want e_rules e_queued e_goal e_length) (kQv D cy (fun _ : Unit => gE cy qE res.1 res.2.1 e_allowed e_allowedSize e_kind e_base e_n e_want e_rules res.2.2 e_goal e_length)) := by
  refine kent_v (cc := cX7_spread) (maxL := 8) (by decide) rfl (Nat.le_of_ble_eq_true rfl) ?_
  intro p e0 s m ar below meth c A Q ls ⟨hx, hb, hml, hr, hts, hown, hlocks, hnm⟩ hA hK hN hQ hP hD hS hl
  have hl : lv_has ls 8 [(0, .ref (qE 0)), (1, .int a1)] := hl
  have hown : s.vm.findClass RX7 = some m.cls := hown
  have huX7 : ∀ x ∈ u_ws RX7 TX7 12, x ∈ wsX7_spread := by decide +kernel
  have fk32 : (Cond.fieldLink RX7 32 "FigurePlay$Search" "n" "I").before ar s = true := hts _ (by decide +kernel)
  have fk29 : (Cond.fieldLink RX7 29 "FigurePlay$Search" "base" "I").before ar s = true := hts _ (by decide +kernel)
  have fk16 : (Cond.fieldLink RX7 16 "FigurePlay$Search" "from" "[I").before ar s = true := hts _ (by decide +kernel)
  have fk41 : (Cond.fieldLink RX7 41 "FigurePlay$Search" "queued" "I").before ar s = true := hts _ (by decide +kernel)
  have fk12 : (Cond.fieldLink RX7 12 "FigurePlay$Search" "queue" "[I").before ar s = true := hts _ (by decide +kernel)
  have fk22 : (Cond.fieldLink RX7 22 "FigurePlay$Search" "allowedSize" "I").before ar s = true := hts _ (by decide +kernel)
  have fk19 : (Cond.fieldLink RX7 19 "FigurePlay$Search" "allowed" "[I").before ar s = true := hts _ (by decide +kernel)
  have fk38 : (Cond.fieldLink RX7 38 "FigurePlay$Search" "rules" "I").before ar s = true := hts _ (by decide +kernel)
  have fk11 : (Cond.constant RX7 11 (51200)).before ar s = true := hts _ (by decide +kernel)
  unfold f_X7_spread at hf
  have hL37 : ∀ (x2 : Int32) (x3 : Int32) (k : Nat) (x : Int32 × (Nat → Int32) × (Nat → Int32) × Int32) (ex : (Nat → Int32) × (Nat → Int32) × Int32) (H : Heap) (locs : List Loc) (ls : Array Slot), lp (f_X7_spread_B37 F a1 e_allowed e_allowedSize e_kind e_base e_n e_rules x2 x3) k x = some ex → (∀ (H : Heap) (locs : List Loc) (ls : Array Slot), va_P D vwCl (gE cy qE ex.1 ex.2.1 e_allowed e_allowedSize e_kind e_base e_n e_want e_rules ex.2.2 e_goal e_length) H → va_D A (gE cy qE ex.1 ex.2.1 e_allowed e_allowedSize e_kind e_base e_n e_want e_rules ex.2.2 e_goal e_length) → va_S A s.heap H locs → lv_has ls 8 [] → W p l e0 rmX7_spread s m ar below meth c H locs 0 0 Q (F0 m 177 ls [])) → va_P D vwCl (gE cy qE x.2.1 x.2.2.1 e_allowed e_allowedSize e_kind e_base e_n e_want e_rules x.2.2.2 e_goal e_length) H → va_D A (gE cy qE x.2.1 x.2.2.1 e_allowed e_allowedSize e_kind e_base e_n e_want e_rules x.2.2.2 e_goal e_length) → va_S A s.heap H locs → lv_has ls 8 [(0, .ref (qE 0)), (1, .int a1), (2, .int x2), (3, .int x3), (4, .int x.1)] → W p l e0 rmX7_spread s m ar below meth c H locs 0 0 Q (F0 m 37 ls []) := by
    intro x2 x3 k
    induction k with
    | zero => intro x ex H locs ls hf; exact no_some hf
    | succ k ih =>
      intro x ex H locs ls hf hex hP hD hS hl
      have hf : f_X7_spread_B37 F a1 e_allowed e_allowedSize e_kind e_base e_n e_rules x2 x3 (lp (f_X7_spread_B37 F a1 e_allowed e_allowedSize e_kind e_base e_n e_rules x2 x3) k) x = some ex := hf
      unfold f_X7_spread_B37 at hf
      have hJ171 : ∀ (x4 : Int32) (e_queue : Nat → Int32) (e_from : Nat → Int32) (e_queued : Int32) (H : Heap) (locs : List Loc) (ls : Array Slot), f_X7_spread_J171 F (lp (f_X7_spread_B37 F a1 e_allowed e_allowedSize e_kind e_base e_n e_rules x2 x3) k) x4 e_queue e_from e_queued = some ex → va_P D vwCl (gE cy qE e_queue e_from e_allowed e_allowedSize e_kind e_base e_n e_want e_rules e_queued e_goal e_length) H → va_D A (gE cy qE e_queue e_from e_allowed e_allowedSize e_kind e_base e_n e_want e_rules e_queued e_goal e_length) → va_S A s.heap H locs → lv_has ls 8 [(0, .ref (qE 0)), (1, .int a1), (2, .int x2), (3, .int x3), (4, .int x4)] → W p l e0 rmX7_spread s m ar below meth c H locs 0 0 Q (F0 m 171 ls []) := by
        intro x4 e_queue e_from e_queued H locs ls hf hP hD hS hl
        unfold f_X7_spread_J171 at hf
        refine lv_iinc (v := (x4 + (1 : Int32))) (lv' := [(4, .int (x4 + (1 : Int32))), (0, .ref (qE 0)), (1, .int a1), (2, .int x2), (3, .int x3)]) hx hb dX7_spread_171 hl (k := 4) rfl rfl (by decide) rfl (fun ls hl => ?_)
        refine lv_goto (tgt := 37) hx hb dX7_spread_174 (by decide) ?_
        exact ih ((x4 + (1 : Int32)), e_queue, e_from, e_queued) ex _ _ _ hf hex hP hD hS (lv_sub hl [1, 2, 3, 4, 0] rfl)
      have hJ89 : ∀ (x4 : Int32) (x5 : Int32) (x6 : Int32) (e_queue : Nat → Int32) (e_from : Nat → Int32) (e_queued : Int32) (H : Heap) (locs : List Loc) (ls : Array Slot), f_X7_spread_J89 F a1 e_base e_n x2 (lp (f_X7_spread_B37 F a1 e_allowed e_allowedSize e_kind e_base e_n e_rules x2 x3) k) x4 x5 x6 e_queue e_from e_queued = some ex → va_P D vwCl (gE cy qE e_queue e_from e_allowed e_allowedSize e_kind e_base e_n e_want e_rules e_queued e_goal e_length) H → va_D A (gE cy qE e_queue e_from e_allowed e_allowedSize e_kind e_base e_n e_want e_rules e_queued e_goal e_length) → va_S A s.heap H locs → lv_has ls 8 [(0, .ref (qE 0)), (1, .int a1), (2, .int x2), (3, .int x3), (4, .int x4), (5, .int x5), (6, .int x6)] → W p l e0 rmX7_spread s m ar below meth c H locs 0 0 Q (F0 m 89 ls []) := by
        intro x4 x5 x6 e_queue e_from e_queued H locs ls hf hP hD hS hl
        unfold f_X7_spread_J89 at hf
        refine lv_iload hx hb dX7_spread_89 (lv_at hl 6 rfl) ?_
        refine lv_aload_n hx hb dX7_spread_91 rfl (lv_at hl 0 rfl) ?_
        refine va_get (D := D) (ci := 7) (C := RX7) (T := TX7) (N := 12) hx hb hts huX7 hown hK hP 0 rfl rfl 6 (by decide) fk32 (fun _ h9 => h9) rfl dX7_spread_92 ?_
        refine lv_imul hx hb dX7_spread_95 ?_
        refine lv_iload_n hx hb dX7_spread_96 rfl (lv_at hl 2 rfl) ?_
        refine lv_aload_n hx hb dX7_spread_97 rfl (lv_at hl 0 rfl) ?_
        refine va_get (D := D) (ci := 7) (C := RX7) (T := TX7) (N := 12) hx hb hts huX7 hown hK hP 0 rfl rfl 5 (by decide) fk29 (fun _ h9 => h9) rfl dX7_spread_98 ?_
        refine lv_imul hx hb dX7_spread_101 ?_
        refine lv_iload hx hb dX7_spread_102 (lv_at hl 5 rfl) ?_
        refine lv_iadd hx hb dX7_spread_104 ?_
        refine lv_aload_n hx hb dX7_spread_105 rfl (lv_at hl 0 rfl) ?_
        refine va_get (D := D) (ci := 7) (C := RX7) (T := TX7) (N := 12) hx hb hts huX7 hown hK hP 0 rfl rfl 6 (by decide) fk32 (fun _ h9 => h9) rfl dX7_spread_106 ?_
        obtain ⟨c1, hf⟩ := ck_some hf
        refine lv_irem hx hb dX7_spread_109 c1 ?_
        refine lv_iadd hx hb dX7_spread_110 ?_
        refine lv_istore (lv' := [(7, .int ((x6 * e_n) + (((x2 * e_base) + x5) - ((x2 * e_base) + x5) / e_n * e_n))), (0, .ref (qE 0)), (1, .int a1), (2, .int x2), (3, .int x3), (4, .int x4), (5, .int x5), (6, .int x6)]) hx hb dX7_spread_111 hl (by decide) rfl (fun ls hl => ?_)
        refine lv_aload_n hx hb dX7_spread_113 rfl (lv_at hl 1 rfl) ?_
        refine va_get (v := .ref (qE 2)) (D := D) (ci := 7) (C := RX7) (T := TX7) (N := 12) hx hb hts huX7 hown hK hP 0 rfl rfl 1 (by decide) fk16 (fun _ h9 => h9) rfl dX7_spread_114 ?_
        refine lv_iload hx hb dX7_spread_117 (lv_at hl 0 rfl) ?_
        obtain ⟨c2, hf⟩ := ck_some hf
        refine va_iald hx hb hK hP 2 0 rfl rfl c2 dX7_spread_119 ?_
        refine lv_iconst (v := (-1 : Int32)) hx hb dX7_spread_120 (by decide) ?_
        refine lv_icmp_ne (tgt := 171) hx hb dX7_spread_121 (by decide) (fun c3 => ?_) (fun c3 => ?_)
        · have hf := if_f hf c3
          exact hJ171 x4 e_queue e_from e_queued _ _ _ hf hP hD hS (lv_sub hl [1, 2, 3, 4, 5] rfl)
        · have hf := if_t hf c3
          refine lv_aload_n hx hb dX7_spread_124 rfl (lv_at hl 1 rfl) ?_
          refine va_get (D := D) (ci := 7) (C := RX7) (T := TX7) (N := 12) hx hb hts huX7 hown hK hP 0 rfl rfl 9 (by decide) fk41 (fun _ h9 => h9) rfl dX7_spread_125 ?_
          refine lv_aload_n hx hb dX7_spread_128 rfl (lv_at hl 1 rfl) ?_
          refine va_get (v := .ref (qE 1)) (D := D) (ci := 7) (C := RX7) (T := TX7) (N := 12) hx hb hts huX7 hown hK hP 0 rfl rfl 0 (by decide) fk12 (fun _ h9 => h9) rfl dX7_spread_129 ?_
          refine va_alen (v := (51200 : Int32)) hx hb hK hP 1 0 rfl rfl rfl dX7_spread_132 ?_
          refine lv_icmp_ge (tgt := 171) hx hb dX7_spread_133 (by decide) (fun c4 => ?_) (fun c4 => ?_)
          · have hf := if_t hf c4
            exact hJ171 x4 e_queue e_from e_queued _ _ _ hf hP hD hS (lv_sub hl [1, 2, 3, 4, 5] rfl)
          · have hf := if_f hf c4
            refine lv_aload_n hx hb dX7_spread_136 rfl (lv_at hl 1 rfl) ?_
            refine va_get (v := .ref (qE 2)) (D := D) (ci := 7) (C := RX7) (T := TX7) (N := 12) hx hb hts huX7 hown hK hP 0 rfl rfl 1 (by decide) fk16 (fun _ h9 => h9) rfl dX7_spread_137 ?_
            refine lv_iload hx hb dX7_spread_140 (lv_at hl 0 rfl) ?_
            refine lv_bipush (v := (16 : Int32)) hx hb dX7_spread_142 (by decide) ?_
            refine lv_iload_n hx hb dX7_spread_144 rfl (lv_at hl 2 rfl) ?_
            refine lv_imul hx hb dX7_spread_145 ?_
            refine lv_iload hx hb dX7_spread_146 (lv_at hl 6 rfl) ?_
            refine lv_iadd hx hb dX7_spread_148 ?_
            obtain ⟨c5, hf⟩ := ck_some hf
            refine va_iast hx hb hK hP hD hS 2 0 rfl rfl c5 dX7_spread_149 (fun H locs hP hD hS => ?_)
            have hP : va_P D vwCl (gE cy qE e_queue (upd e_from ((x6 * e_n) + (((x2 * e_base) + x5) - ((x2 * e_base) + x5) / e_n * e_n)).toNatClampNeg (((16 : Int32) * a1) + x5)) e_allowed e_allowedSize e_kind e_base e_n e_want e_rules e_queued e_goal e_length) H := hP
            have hD : va_D A (gE cy qE e_queue (upd e_from ((x6 * e_n) + (((x2 * e_base) + x5) - ((x2 * e_base) + x5) / e_n * e_n)).toNatClampNeg (((16 : Int32) * a1) + x5)) e_allowed e_allowedSize e_kind e_base e_n e_want e_rules e_queued e_goal e_length) := hD
            refine lv_aload_n hx hb dX7_spread_150 rfl (lv_at hl 1 rfl) ?_
            refine va_get (v := .ref (qE 1)) (D := D) (ci := 7) (C := RX7) (T := TX7) (N := 12) hx hb hts huX7 hown hK hP 0 rfl rfl 0 (by decide) fk12 (fun _ h9 => h9) rfl dX7_spread_151 ?_
            refine lv_aload_n hx hb dX7_spread_154 rfl (lv_at hl 1 rfl) ?_
            refine va_get (D := D) (ci := 7) (C := RX7) (T := TX7) (N := 12) hx hb hts huX7 hown hK hP 0 rfl rfl 9 (by decide) fk41 (fun _ h9 => h9) rfl dX7_spread_155 ?_
            refine lv_iload hx hb dX7_spread_158 (lv_at hl 0 rfl) ?_
            obtain ⟨c6, hf⟩ := ck_some hf
            refine va_iast hx hb hK hP hD hS 1 0 rfl rfl c6 dX7_spread_160 (fun H locs hP hD hS => ?_)
            have hP : va_P D vwCl (gE cy qE (upd e_queue e_queued.toNatClampNeg ((x6 * e_n) + (((x2 * e_base) + x5) - ((x2 * e_base) + x5) / e_n * e_n))) (upd e_from ((x6 * e_n) + (((x2 * e_base) + x5) - ((x2 * e_base) + x5) / e_n * e_n)).toNatClampNeg (((16 : Int32) * a1) + x5)) e_allowed e_allowedSize e_kind e_base e_n e_want e_rules e_queued e_goal e_length) H := hP
            have hD : va_D A (gE cy qE (upd e_queue e_queued.toNatClampNeg ((x6 * e_n) + (((x2 * e_base) + x5) - ((x2 * e_base) + x5) / e_n * e_n))) (upd e_from ((x6 * e_n) + (((x2 * e_base) + x5) - ((x2 * e_base) + x5) / e_n * e_n)).toNatClampNeg (((16 : Int32) * a1) + x5)) e_allowed e_allowedSize e_kind e_base e_n e_want e_rules e_queued e_goal e_length) := hD
            refine lv_aload_n hx hb dX7_spread_161 rfl (lv_at hl 1 rfl) ?_
            refine lv_dup hx hb dX7_spread_162 rfl ?_
            refine va_get (D := D) (ci := 7) (C := RX7) (T := TX7) (N := 12) hx hb hts huX7 hown hK hP 0 rfl rfl 9 (by decide) fk41 (fun _ h9 => h9) rfl dX7_spread_163 ?_
            refine lv_iconst (v := (1 : Int32)) hx hb dX7_spread_166 (by decide) ?_
            refine lv_iadd hx hb dX7_spread_167 ?_
            refine va_put (D := D) (ci := 7) (v := .int (e_queued + (1 : Int32))) (ty := .int) (C := RX7) (T := TX7) (N := 12) hx hb hts huX7 tyX7 tyX7_ok nmX7 hown hK hP hD hS 0 rfl rfl 9 (by decide) fk41 (fun _ h9 => h9) rfl (tyX7_ok 9 (by decide)) rfl rfl (Nat.le_of_ble_eq_true rfl) dX7_spread_168 (fun H locs hP hD hS => ?_)
            have hP : va_P D vwCl (gE cy qE (upd e_queue e_queued.toNatClampNeg ((x6 * e_n) + (((x2 * e_base) + x5) - ((x2 * e_base) + x5) / e_n * e_n))) (upd e_from ((x6 * e_n) + (((x2 * e_base) + x5) - ((x2 * e_base) + x5) / e_n * e_n)).toNatClampNeg (((16 : Int32) * a1) + x5)) e_allowed e_allowedSize e_kind e_base e_n e_want e_rules (e_queued + (1 : Int32)) e_goal e_length) H := hP
            have hD : va_D A (gE cy qE (upd e_queue e_queued.toNatClampNeg ((x6 * e_n) + (((x2 * e_base) + x5) - ((x2 * e_base) + x5) / e_n * e_n))) (upd e_from ((x6 * e_n) + (((x2 * e_base) + x5) - ((x2 * e_base) + x5) / e_n * e_n)).toNatClampNeg (((16 : Int32) * a1) + x5)) e_allowed e_allowedSize e_kind e_base e_n e_want e_rules (e_queued + (1 : Int32)) e_goal e_length) := hD
            exact hJ171 x4 (upd e_queue e_queued.toNatClampNeg ((x6 * e_n) + (((x2 * e_base) + x5) - ((x2 * e_base) + x5) / e_n * e_n))) (upd e_from ((x6 * e_n) + (((x2 * e_base) + x5) - ((x2 * e_base) + x5) / e_n * e_n)).toNatClampNeg (((16 : Int32) * a1) + x5)) (e_queued + (1 : Int32)) _ _ _ hf hP hD hS (lv_sub hl [1, 2, 3, 4, 5] rfl)
      refine lv_iload hx hb dX7_spread_37 (lv_at hl 4 rfl) ?_
      refine lv_aload_n hx hb dX7_spread_39 rfl (lv_at hl 0 rfl) ?_
      refine va_get (D := D) (ci := 7) (C := RX7) (T := TX7) (N := 12) hx hb hts huX7 hown hK hP 0 rfl rfl 3 (by decide) fk22 (fun _ h9 => h9) rfl dX7_spread_40 ?_
      refine lv_icmp_ge (tgt := 177) hx hb dX7_spread_43 (by decide) (fun c7 => ?_) (fun c7 => ?_)
      · have hf := if_t hf c7
        obtain rfl := Option.some.inj hf
        exact hex _ _ _ hP hD hS (lv_sub hl [] rfl)
      · have hf := if_f hf c7
        refine lv_aload_n hx hb dX7_spread_46 rfl (lv_at hl 0 rfl) ?_
        refine va_get (v := .ref (qE 3)) (D := D) (ci := 7) (C := RX7) (T := TX7) (N := 12) hx hb hts huX7 hown hK hP 0 rfl rfl 2 (by decide) fk19 (fun _ h9 => h9) rfl dX7_spread_47 ?_
        refine lv_iload hx hb dX7_spread_50 (lv_at hl 4 rfl) ?_
        obtain ⟨c8, hf⟩ := ck_some hf
        refine va_iald hx hb hK hP 3 0 rfl rfl c8 dX7_spread_52 ?_
        refine lv_istore (lv' := [(5, .int (e_allowed x.1.toNatClampNeg)), (0, .ref (qE 0)), (1, .int a1), (2, .int x2), (3, .int x3), (4, .int x.1)]) hx hb dX7_spread_53 hl (by decide) rfl (fun ls hl => ?_)
        refine lv_aload_n hx hb dX7_spread_55 rfl (lv_at hl 1 rfl) ?_
        refine lv_iload_n hx hb dX7_spread_56 rfl (lv_at hl 4 rfl) ?_
        refine lv_iload hx hb dX7_spread_57 (lv_at hl 5 rfl) ?_
        refine lv_iload hx hb dX7_spread_59 (lv_at hl 0 rfl) ?_
        obtain ⟨r9, hc10, hf⟩ := ob_some hf
        refine kc_i (k_run ⟨hx, hb, hml, hown, hts⟩ (c_X7_ruleAfter hc10) (cwV 3 hts gX7_spread_X7_ruleAfter rfl rfl rfl (by decide +kernel) ⟨Nat.le_of_ble_eq_true rfl, Nat.le_of_ble_eq_true rfl⟩) hK hN hP hD kA_s (ci := 7) (q0 := 0) rfl rfl rfl rfl hl.1 rfl (Nat.le_of_ble_eq_true rfl) dX7_spread_61 ⟨Nat.le_of_ble_eq_true rfl, Nat.le_of_ble_eq_true rfl⟩) hP hD hS hA kI_s (fun _ H locs hP hD hS => ?_)
        refine lv_istore (lv' := [(6, .int r9), (5, .int (e_allowed x.1.toNatClampNeg)), (0, .ref (qE 0)), (1, .int a1), (2, .int x2), (3, .int x3), (4, .int x.1)]) hx hb dX7_spread_64 hl (by decide) rfl (fun ls hl => ?_)
        refine lv_iload hx hb dX7_spread_66 (lv_at hl 0 rfl) ?_
        refine lv_aload_n hx hb dX7_spread_68 rfl (lv_at hl 2 rfl) ?_
        refine va_get (D := D) (ci := 7) (C := RX7) (T := TX7) (N := 12) hx hb hts huX7 hown hK hP 0 rfl rfl 8 (by decide) fk38 (fun _ h9 => h9) rfl dX7_spread_69 ?_
        refine lv_icmp_ge (tgt := 171) hx hb dX7_spread_72 (by decide) (fun c11 => ?_) (fun c11 => ?_)
        · have hf := if_t hf c11
          exact hJ171 x.1 x.2.1 x.2.2.1 x.2.2.2 _ _ _ hf hP hD hS (lv_sub hl [2, 3, 4, 5, 6] rfl)
        · have hf := if_f hf c11
          refine lv_iload_n hx hb dX7_spread_75 rfl (lv_at hl 3 rfl) ?_
          refine lv_ldc (v := (51200 : Int32)) hx hb hown fk11 dX7_spread_76 ?_
          refine lv_icmp_ne (tgt := 89) hx hb dX7_spread_78 (by decide) (fun c12 => ?_) (fun c12 => ?_)
          · have hf := if_f hf c12
            exact hJ89 x.1 (e_allowed x.1.toNatClampNeg) r9 x.2.1 x.2.2.1 x.2.2.2 _ _ _ hf hP hD hS (lv_sub hl [2, 3, 4, 5, 6, 1, 0] rfl)
          · have hf := if_t hf c12
            refine lv_iload hx hb dX7_spread_81 (lv_at hl 1 rfl) ?_
            refine lv_if_ne (tgt := 89) hx hb dX7_spread_83 (by decide) (fun c13 => ?_) (fun c13 => ?_)
            · have hf := if_f hf c13
              exact hJ89 x.1 (e_allowed x.1.toNatClampNeg) r9 x.2.1 x.2.2.1 x.2.2.2 _ _ _ hf hP hD hS (lv_sub hl [2, 3, 4, 5, 6, 1, 0] rfl)
            · have hf := if_t hf c13
              refine lv_goto (tgt := 171) hx hb dX7_spread_86 (by decide) ?_
              exact hJ171 x.1 x.2.1 x.2.2.1 x.2.2.2 _ _ _ hf hP hD hS (lv_sub hl [2, 3, 4, 5, 6] rfl)
  have hJ33 : ∀ (x2 : Int32) (s0 : Int32) (e_queue : Nat → Int32) (e_from : Nat → Int32) (e_queued : Int32) (H : Heap) (locs : List Loc) (ls : Array Slot), f_X7_spread_J33 F a1 e_allowed e_allowedSize e_kind e_base e_n e_rules x2 s0 e_queue e_from e_queued = some res → va_P D vwCl (gE cy qE e_queue e_from e_allowed e_allowedSize e_kind e_base e_n e_want e_rules e_queued e_goal e_length) H → va_D A (gE cy qE e_queue e_from e_allowed e_allowedSize e_kind e_base e_n e_want e_rules e_queued e_goal e_length) → va_S A s.heap H locs → lv_has ls 8 [(0, .ref (qE 0)), (1, .int a1), (2, .int x2)] → W p l e0 rmX7_spread s m ar below meth c H locs 0 0 Q (F0 m 33 ls [.int s0]) := by
    intro x2 s0 e_queue e_from e_queued H locs ls hf hP hD hS hl
    unfold f_X7_spread_J33 at hf
    refine lv_istore_n (lv' := [(3, .int s0), (0, .ref (qE 0)), (1, .int a1), (2, .int x2)]) hx hb dX7_spread_33 rfl hl (by decide) rfl (fun ls hl => ?_)
    refine lv_iconst (v := (0 : Int32)) hx hb dX7_spread_34 (by decide) ?_
    refine lv_istore (lv' := [(4, .int (0 : Int32)), (3, .int s0), (0, .ref (qE 0)), (1, .int a1), (2, .int x2)]) hx hb dX7_spread_35 hl (by decide) rfl (fun ls hl => ?_)
    obtain ⟨ex14, hcl, hf⟩ := ob_some hf
    refine hL37 x2 s0 F ((0 : Int32), e_queue, e_from, e_queued) ex14 _ _ _ hcl (fun H locs ls hP hD hS hl => ?_) hP hD hS (lv_sub hl [2, 3, 4, 1, 0] rfl)
    obtain rfl := Option.some.inj hf
    exact hQ () 177 _ _ _ dX7_spread_177 hP hD hS
  have hJ16 : ∀ (s0 : Int32) (e_queue : Nat → Int32) (e_from : Nat → Int32) (e_queued : Int32) (H : Heap) (locs : List Loc) (ls : Array Slot), f_X7_spread_J16 F a1 e_allowed e_allowedSize e_kind e_base e_n e_rules s0 e_queue e_from e_queued = some res → va_P D vwCl (gE cy qE e_queue e_from e_allowed e_allowedSize e_kind e_base e_n e_want e_rules e_queued e_goal e_length) H → va_D A (gE cy qE e_queue e_from e_allowed e_allowedSize e_kind e_base e_n e_want e_rules e_queued e_goal e_length) → va_S A s.heap H locs → lv_has ls 8 [(0, .ref (qE 0)), (1, .int a1)] → W p l e0 rmX7_spread s m ar below meth c H locs 0 0 Q (F0 m 16 ls [.int s0]) := by
    intro s0 e_queue e_from e_queued H locs ls hf hP hD hS hl
    unfold f_X7_spread_J16 at hf
    refine lv_istore_n (lv' := [(2, .int s0), (0, .ref (qE 0)), (1, .int a1)]) hx hb dX7_spread_16 rfl hl (by decide) rfl (fun ls hl => ?_)
    refine lv_iload_n hx hb dX7_spread_17 rfl (lv_at hl 2 rfl) ?_
    refine lv_ldc (v := (51200 : Int32)) hx hb hown fk11 dX7_spread_18 ?_
    refine lv_icmp_ne (tgt := 27) hx hb dX7_spread_20 (by decide) (fun c15 => ?_) (fun c15 => ?_)
    · have hf := if_f hf c15
      refine lv_iload_n hx hb dX7_spread_27 rfl (lv_at hl 2 rfl) ?_
      refine lv_aload_n hx hb dX7_spread_28 rfl (lv_at hl 1 rfl) ?_
      refine va_get (D := D) (ci := 7) (C := RX7) (T := TX7) (N := 12) hx hb hts huX7 hown hK hP 0 rfl rfl 6 (by decide) fk32 (fun _ h9 => h9) rfl dX7_spread_29 ?_
      obtain ⟨c16, hf⟩ := ck_some hf
      refine lv_idiv hx hb dX7_spread_32 c16 ?_
      exact hJ33 s0 (a1 / e_n) e_queue e_from e_queued _ _ _ hf hP hD hS (lv_sub hl [1, 2, 0] rfl)
    · have hf := if_t hf c15
      refine lv_iconst (v := (0 : Int32)) hx hb dX7_spread_23 (by decide) ?_
      refine lv_goto (tgt := 33) hx hb dX7_spread_24 (by decide) ?_
      exact hJ33 s0 (0 : Int32) e_queue e_from e_queued _ _ _ hf hP hD hS (lv_sub hl [1, 2, 0] rfl)
  refine lv_iload_n hx hb dX7_spread_0 rfl (lv_at hl 1 rfl) ?_
  refine lv_ldc (v := (51200 : Int32)) hx hb hown fk11 dX7_spread_1 ?_
  refine lv_icmp_ne (tgt := 10) hx hb dX7_spread_3 (by decide) (fun c17 => ?_) (fun c17 => ?_)
  · have hf := if_f hf c17
    refine lv_iload_n hx hb dX7_spread_10 rfl (lv_at hl 1 rfl) ?_
    refine lv_aload_n hx hb dX7_spread_11 rfl (lv_at hl 0 rfl) ?_
    refine va_get (D := D) (ci := 7) (C := RX7) (T := TX7) (N := 12) hx hb hts huX7 hown hK hP 0 rfl rfl 6 (by decide) fk32 (fun _ h9 => h9) rfl dX7_spread_12 ?_
    obtain ⟨c18, hf⟩ := ck_some hf
    refine lv_irem hx hb dX7_spread_15 c18 ?_
    exact hJ16 (a1 - a1 / e_n * e_n) e_queue e_from e_queued _ _ _ hf hP hD hS (lv_sub hl [0, 1] rfl)
  · have hf := if_t hf c17
    refine lv_iconst (v := (0 : Int32)) hx hb dX7_spread_6 (by decide) ?_
    refine lv_goto (tgt := 16) hx hb dX7_spread_7 (by decide) ?_
    exact hJ16 (0 : Int32) e_queue e_from e_queued _ _ _ hf hP hD hS (lv_sub hl [0, 1] rfl)
def f_X7_walk_B47 (F : Nat) (e_allowed : Nat → Int32) (e_allowedSize : Int32) (e_kind : Int32) (e_base : Int32) (e_n : Int32) (e_rules : Int32) (e_goal : Int32) (rec : Int32 × (Nat → Int32) × (Nat → Int32) × Int32 → Option ((Nat → Int32) × (Nat → Int32) × Int32)) (x : Int32 × (Nat → Int32) × (Nat → Int32) × Int32) : Option ((Nat → Int32) × (Nat → Int32) × Int32) := if (51200 : Int32) ≤ x.1 then (some (x.2.1, x.2.2.1, x.2.2.2)) else (if x.2.2.2 ≤ x.1 then (some (x.2.1, x.2.2.1, x.2.2.2)) else (ck (¬ (e_goal < 0 ∨ 51200 ≤ e_goal.toNatClampNeg)) (if (x.2.2.1 e_goal.toNatClampNeg) = (-1 : Int32) then (ck (¬ (x.1 < 0 ∨ 51200 ≤ x.1.toNatClampNeg)) ((f_X7_spread F (x.2.1 x.1.toNatClampNeg) x.2.1 x.2.2.1 e_allowed e_allowedSize e_kind e_base e_n e_rules x.2.2.2).bind (fun r6 => rec ((x.1 + (1 : Int32)), r6.1, r6.2.1, r6.2.2)))) else (some (x.2.1, x.2.2.1, x.2.2.2)))))
def f_X7_walk_B2 (F : Nat) (e_n : Int32) (e_rules : Int32) (e_queue : Nat → Int32) (e_queued : Int32) (rec : Int32 × (Nat → Int32) → Option ((Nat → Int32))) (x : Int32 × (Nat → Int32)) : Option ((Nat → Int32)) := if (e_rules * e_n) ≤ x.1 then (some x.2) else (if (51200 : Int32) ≤ x.1 then (some x.2) else (ck (¬ (x.1 < 0 ∨ 51200 ≤ x.1.toNatClampNeg)) (rec ((x.1 + (1 : Int32)), (upd x.2 x.1.toNatClampNeg (-1 : Int32))))))
def f_X7_walk (F : Nat) (e_queue : Nat → Int32) (e_from : Nat → Int32) (e_allowed : Nat → Int32) (e_allowedSize : Int32) (e_kind : Int32) (e_base : Int32) (e_n : Int32) (e_rules : Int32) (e_queued : Int32) (e_goal : Int32) : Option ((Nat → Int32) × (Nat → Int32) × Int32) := (lp (f_X7_walk_B2 F e_n e_rules e_queue e_queued) F ((0 : Int32), e_from)).bind (fun ex11 => (f_X7_spread F (51200 : Int32) e_queue ex11 e_allowed e_allowedSize e_kind e_base e_n e_rules (0 : Int32)).bind (fun r12 => (lp (f_X7_walk_B47 F e_allowed e_allowedSize e_kind e_base e_n e_rules e_goal) F ((0 : Int32), r12.1, r12.2.1, r12.2.2)).bind (fun ex14 => some (ex14.1, ex14.2.1, ex14.2.2))))
abbrev rmX7_walk : Room := { frames := 2, cells := 0, slots := 0, locals := 50 }
set_option maxHeartbeats 1000000 in
set_option maxRecDepth 100000 in
theorem c_X7_walk {l : Launch} {D : va_G} {cy : Nat → ClassId} {qE : Nat → Nat} {e_queue : Nat → Int32} {e_from : Nat → Int32} {e_allowed : Nat → Int32} {e_allowedSize : Int32} {e_kind : Int32} {e_base : Int32} {e_n : Int32} {e_want : Int32} {e_rules : Int32} {e_queued : Int32} {e_goal : Int32} {e_length : Int32} {F : Nat} {res : (Nat → Int32) × (Nat → Int32) × Int32} (hf : f_X7_walk F e_queue e_from e_allowed e_allowedSize e_kind e_base e_n e_rules e_queued e_goal = some res) : kM l yX7_walk wsX7_walk rmX7_walk D cy [.ref (qE 0)] (gE cy qE e_queue e_from e_allowed e_allowedSize e_kind e_base e_n e_want e_rules e_queued e_goal e_length) (kQv D cy (fun _ : Unit => gE cy qE res.1 res.2.1 e_allowed e_allowedSize e_kind e_base e_n e_want e_rules res.2.2 e_goal e_length)) := by
  refine kent_v (cc := cX7_walk) (maxL := 2) (by decide) rfl (Nat.le_of_ble_eq_true rfl) ?_
  intro p e0 s m ar below meth c A Q ls ⟨hx, hb, hml, hr, hts, hown, hlocks, hnm⟩ hA hK hN hQ hP hD hS hl
  have hl : lv_has ls 2 [(0, .ref (qE 0))] := hl
  have hown : s.vm.findClass RX7 = some m.cls := hown
  have huX7 : ∀ x ∈ u_ws RX7 TX7 12, x ∈ wsX7_walk := by decide +kernel
  have fk12 : (Cond.fieldLink RX7 12 "FigurePlay$Search" "queue" "[I").before ar s = true := hts _ (by decide +kernel)
  have fk41 : (Cond.fieldLink RX7 41 "FigurePlay$Search" "queued" "I").before ar s = true := hts _ (by decide +kernel)
  have fk16 : (Cond.fieldLink RX7 16 "FigurePlay$Search" "from" "[I").before ar s = true := hts _ (by decide +kernel)
  have fk44 : (Cond.fieldLink RX7 44 "FigurePlay$Search" "goal" "I").before ar s = true := hts _ (by decide +kernel)
  have fk38 : (Cond.fieldLink RX7 38 "FigurePlay$Search" "rules" "I").before ar s = true := hts _ (by decide +kernel)
  have fk32 : (Cond.fieldLink RX7 32 "FigurePlay$Search" "n" "I").before ar s = true := hts _ (by decide +kernel)
  have fk11 : (Cond.constant RX7 11 (51200)).before ar s = true := hts _ (by decide +kernel)
  unfold f_X7_walk at hf
  have hL47 : ∀ (k : Nat) (x : Int32 × (Nat → Int32) × (Nat → Int32) × Int32) (ex : (Nat → Int32) × (Nat → Int32) × Int32) (H : Heap) (locs : List Loc) (ls : Array Slot), lp (f_X7_walk_B47 F e_allowed e_allowedSize e_kind e_base e_n e_rules e_goal) k x = some ex → (∀ (H : Heap) (locs : List Loc) (ls : Array Slot), va_P D vwCl (gE cy qE ex.1 ex.2.1 e_allowed e_allowedSize e_kind e_base e_n e_want e_rules ex.2.2 e_goal e_length) H → va_D A (gE cy qE ex.1 ex.2.1 e_allowed e_allowedSize e_kind e_base e_n e_want e_rules ex.2.2 e_goal e_length) → va_S A s.heap H locs → lv_has ls 2 [] → W p l e0 rmX7_walk s m ar below meth c H locs 0 0 Q (F0 m 93 ls [])) → va_P D vwCl (gE cy qE x.2.1 x.2.2.1 e_allowed e_allowedSize e_kind e_base e_n e_want e_rules x.2.2.2 e_goal e_length) H → va_D A (gE cy qE x.2.1 x.2.2.1 e_allowed e_allowedSize e_kind e_base e_n e_want e_rules x.2.2.2 e_goal e_length) → va_S A s.heap H locs → lv_has ls 2 [(0, .ref (qE 0)), (1, .int x.1)] → W p l e0 rmX7_walk s m ar below meth c H locs 0 0 Q (F0 m 47 ls []) := by
    intro k
    induction k with
    | zero => intro x ex H locs ls hf; exact no_some hf
    | succ k ih =>
      intro x ex H locs ls hf hex hP hD hS hl
      have hf : f_X7_walk_B47 F e_allowed e_allowedSize e_kind e_base e_n e_rules e_goal (lp (f_X7_walk_B47 F e_allowed e_allowedSize e_kind e_base e_n e_rules e_goal) k) x = some ex := hf
      unfold f_X7_walk_B47 at hf
      refine lv_iload_n hx hb dX7_walk_47 rfl (lv_at hl 1 rfl) ?_
      refine lv_aload_n hx hb dX7_walk_48 rfl (lv_at hl 0 rfl) ?_
      refine va_get (v := .ref (qE 1)) (D := D) (ci := 7) (C := RX7) (T := TX7) (N := 12) hx hb hts huX7 hown hK hP 0 rfl rfl 0 (by decide) fk12 (fun _ h9 => h9) rfl dX7_walk_49 ?_
      refine va_alen (v := (51200 : Int32)) hx hb hK hP 1 0 rfl rfl rfl dX7_walk_52 ?_
      refine lv_icmp_ge (tgt := 93) hx hb dX7_walk_53 (by decide) (fun c1 => ?_) (fun c1 => ?_)
      · have hf := if_t hf c1
        obtain rfl := Option.some.inj hf
        exact hex _ _ _ hP hD hS (lv_sub hl [] rfl)
      · have hf := if_f hf c1
        refine lv_iload_n hx hb dX7_walk_56 rfl (lv_at hl 1 rfl) ?_
        refine lv_aload_n hx hb dX7_walk_57 rfl (lv_at hl 0 rfl) ?_
        refine va_get (D := D) (ci := 7) (C := RX7) (T := TX7) (N := 12) hx hb hts huX7 hown hK hP 0 rfl rfl 9 (by decide) fk41 (fun _ h9 => h9) rfl dX7_walk_58 ?_
        refine lv_icmp_ge (tgt := 93) hx hb dX7_walk_61 (by decide) (fun c2 => ?_) (fun c2 => ?_)
        · have hf := if_t hf c2
          obtain rfl := Option.some.inj hf
          exact hex _ _ _ hP hD hS (lv_sub hl [] rfl)
        · have hf := if_f hf c2
          refine lv_aload_n hx hb dX7_walk_64 rfl (lv_at hl 0 rfl) ?_
          refine va_get (v := .ref (qE 2)) (D := D) (ci := 7) (C := RX7) (T := TX7) (N := 12) hx hb hts huX7 hown hK hP 0 rfl rfl 1 (by decide) fk16 (fun _ h9 => h9) rfl dX7_walk_65 ?_
          refine lv_aload_n hx hb dX7_walk_68 rfl (lv_at hl 0 rfl) ?_
          refine va_get (D := D) (ci := 7) (C := RX7) (T := TX7) (N := 12) hx hb hts huX7 hown hK hP 0 rfl rfl 10 (by decide) fk44 (fun _ h9 => h9) rfl dX7_walk_69 ?_
          obtain ⟨c3, hf⟩ := ck_some hf
          refine va_iald hx hb hK hP 2 0 rfl rfl c3 dX7_walk_72 ?_
          refine lv_iconst (v := (-1 : Int32)) hx hb dX7_walk_73 (by decide) ?_
          refine lv_icmp_ne (tgt := 93) hx hb dX7_walk_74 (by decide) (fun c4 => ?_) (fun c4 => ?_)
          · have hf := if_f hf c4
            obtain rfl := Option.some.inj hf
            exact hex _ _ _ hP hD hS (lv_sub hl [] rfl)
          · have hf := if_t hf c4
            refine lv_aload_n hx hb dX7_walk_77 rfl (lv_at hl 0 rfl) ?_
            refine lv_aload_n hx hb dX7_walk_78 rfl (lv_at hl 0 rfl) ?_
            refine va_get (v := .ref (qE 1)) (D := D) (ci := 7) (C := RX7) (T := TX7) (N := 12) hx hb hts huX7 hown hK hP 0 rfl rfl 0 (by decide) fk12 (fun _ h9 => h9) rfl dX7_walk_79 ?_
            refine lv_iload_n hx hb dX7_walk_82 rfl (lv_at hl 1 rfl) ?_
            obtain ⟨c5, hf⟩ := ck_some hf
            refine va_iald hx hb hK hP 1 0 rfl rfl c5 dX7_walk_83 ?_
            obtain ⟨r6, hc7, hf⟩ := ob_some hf
            refine kc_v (k_run ⟨hx, hb, hml, hown, hts⟩ (c_X7_spread hc7) (cwV 1 hts gX7_walk_X7_spread rfl rfl rfl (by decide +kernel) ⟨Nat.le_of_ble_eq_true rfl, Nat.le_of_ble_eq_true rfl⟩) hK hN hP hD kA_s (ci := 7) (q0 := 0) rfl rfl rfl rfl hl.1 rfl (Nat.le_of_ble_eq_true rfl) dX7_walk_84 ⟨Nat.le_of_ble_eq_true rfl, Nat.le_of_ble_eq_true rfl⟩) hP hD hS hA kI_s (fun _ H locs hP hD hS => ?_)
            refine lv_iinc (v := (x.1 + (1 : Int32))) (lv' := [(1, .int (x.1 + (1 : Int32))), (0, .ref (qE 0))]) hx hb dX7_walk_87 hl (k := 1) rfl rfl (by decide) rfl (fun ls hl => ?_)
            refine lv_goto (tgt := 47) hx hb dX7_walk_90 (by decide) ?_
            exact ih ((x.1 + (1 : Int32)), r6.1, r6.2.1, r6.2.2) ex _ _ _ hf hex hP hD hS (lv_sub hl [1, 0] rfl)
  have hL2 : ∀ (e_queue : Nat → Int32) (e_queued : Int32) (k : Nat) (x : Int32 × (Nat → Int32)) (ex : (Nat → Int32)) (H : Heap) (locs : List Loc) (ls : Array Slot), lp (f_X7_walk_B2 F e_n e_rules e_queue e_queued) k x = some ex → (∀ (H : Heap) (locs : List Loc) (ls : Array Slot), va_P D vwCl (gE cy qE e_queue ex e_allowed e_allowedSize e_kind e_base e_n e_want e_rules e_queued e_goal e_length) H → va_D A (gE cy qE e_queue ex e_allowed e_allowedSize e_kind e_base e_n e_want e_rules e_queued e_goal e_length) → va_S A s.heap H locs → lv_has ls 2 [(0, .ref (qE 0))] → W p l e0 rmX7_walk s m ar below meth c H locs 0 0 Q (F0 m 34 ls [])) → va_P D vwCl (gE cy qE e_queue x.2 e_allowed e_allowedSize e_kind e_base e_n e_want e_rules e_queued e_goal e_length) H → va_D A (gE cy qE e_queue x.2 e_allowed e_allowedSize e_kind e_base e_n e_want e_rules e_queued e_goal e_length) → va_S A s.heap H locs → lv_has ls 2 [(0, .ref (qE 0)), (1, .int x.1)] → W p l e0 rmX7_walk s m ar below meth c H locs 0 0 Q (F0 m 2 ls []) := by
    intro e_queue e_queued k
    induction k with
    | zero => intro x ex H locs ls hf; exact no_some hf
    | succ k ih =>
      intro x ex H locs ls hf hex hP hD hS hl
      have hf : f_X7_walk_B2 F e_n e_rules e_queue e_queued (lp (f_X7_walk_B2 F e_n e_rules e_queue e_queued) k) x = some ex := hf
      unfold f_X7_walk_B2 at hf
      refine lv_iload_n hx hb dX7_walk_2 rfl (lv_at hl 1 rfl) ?_
      refine lv_aload_n hx hb dX7_walk_3 rfl (lv_at hl 0 rfl) ?_
      refine va_get (D := D) (ci := 7) (C := RX7) (T := TX7) (N := 12) hx hb hts huX7 hown hK hP 0 rfl rfl 8 (by decide) fk38 (fun _ h9 => h9) rfl dX7_walk_4 ?_
      refine lv_aload_n hx hb dX7_walk_7 rfl (lv_at hl 0 rfl) ?_
      refine va_get (D := D) (ci := 7) (C := RX7) (T := TX7) (N := 12) hx hb hts huX7 hown hK hP 0 rfl rfl 6 (by decide) fk32 (fun _ h9 => h9) rfl dX7_walk_8 ?_
      refine lv_imul hx hb dX7_walk_11 ?_
      refine lv_icmp_ge (tgt := 34) hx hb dX7_walk_12 (by decide) (fun c8 => ?_) (fun c8 => ?_)
      · have hf := if_t hf c8
        obtain rfl := Option.some.inj hf
        exact hex _ _ _ hP hD hS (lv_sub hl [0] rfl)
      · have hf := if_f hf c8
        refine lv_iload_n hx hb dX7_walk_15 rfl (lv_at hl 1 rfl) ?_
        refine lv_ldc (v := (51200 : Int32)) hx hb hown fk11 dX7_walk_16 ?_
        refine lv_icmp_ge (tgt := 34) hx hb dX7_walk_18 (by decide) (fun c9 => ?_) (fun c9 => ?_)
        · have hf := if_t hf c9
          obtain rfl := Option.some.inj hf
          exact hex _ _ _ hP hD hS (lv_sub hl [0] rfl)
        · have hf := if_f hf c9
          refine lv_aload_n hx hb dX7_walk_21 rfl (lv_at hl 0 rfl) ?_
          refine va_get (v := .ref (qE 2)) (D := D) (ci := 7) (C := RX7) (T := TX7) (N := 12) hx hb hts huX7 hown hK hP 0 rfl rfl 1 (by decide) fk16 (fun _ h9 => h9) rfl dX7_walk_22 ?_
          refine lv_iload_n hx hb dX7_walk_25 rfl (lv_at hl 1 rfl) ?_
          refine lv_iconst (v := (-1 : Int32)) hx hb dX7_walk_26 (by decide) ?_
          obtain ⟨c10, hf⟩ := ck_some hf
          refine va_iast hx hb hK hP hD hS 2 0 rfl rfl c10 dX7_walk_27 (fun H locs hP hD hS => ?_)
          have hP : va_P D vwCl (gE cy qE e_queue (upd x.2 x.1.toNatClampNeg (-1 : Int32)) e_allowed e_allowedSize e_kind e_base e_n e_want e_rules e_queued e_goal e_length) H := hP
          have hD : va_D A (gE cy qE e_queue (upd x.2 x.1.toNatClampNeg (-1 : Int32)) e_allowed e_allowedSize e_kind e_base e_n e_want e_rules e_queued e_goal e_length) := hD
          refine lv_iinc (v := (x.1 + (1 : Int32))) (lv' := [(1, .int (x.1 + (1 : Int32))), (0, .ref (qE 0))]) hx hb dX7_walk_28 hl (k := 1) rfl rfl (by decide) rfl (fun ls hl => ?_)
          refine lv_goto (tgt := 2) hx hb dX7_walk_31 (by decide) ?_
          exact ih ((x.1 + (1 : Int32)), (upd x.2 x.1.toNatClampNeg (-1 : Int32))) ex _ _ _ hf hex hP hD hS (lv_sub hl [1, 0] rfl)
  refine lv_iconst (v := (0 : Int32)) hx hb dX7_walk_0 (by decide) ?_
  refine lv_istore_n (lv' := [(1, .int (0 : Int32)), (0, .ref (qE 0))]) hx hb dX7_walk_1 rfl hl (by decide) rfl (fun ls hl => ?_)
  obtain ⟨ex11, hcl, hf⟩ := ob_some hf
  refine hL2 e_queue e_queued F ((0 : Int32), e_from) ex11 _ _ _ hcl (fun H locs ls hP hD hS hl => ?_) hP hD hS (lv_sub hl [1, 0] rfl)
  refine lv_aload_n hx hb dX7_walk_34 rfl (lv_at hl 0 rfl) ?_
  refine lv_iconst (v := (0 : Int32)) hx hb dX7_walk_35 (by decide) ?_
  refine va_put (D := D) (ci := 7) (v := .int (0 : Int32)) (ty := .int) (C := RX7) (T := TX7) (N := 12) hx hb hts huX7 tyX7 tyX7_ok nmX7 hown hK hP hD hS 0 rfl rfl 9 (by decide) fk41 (fun _ h9 => h9) rfl (tyX7_ok 9 (by decide)) rfl rfl (Nat.le_of_ble_eq_true rfl) dX7_walk_36 (fun H locs hP hD hS => ?_)
  have hP : va_P D vwCl (gE cy qE e_queue ex11 e_allowed e_allowedSize e_kind e_base e_n e_want e_rules (0 : Int32) e_goal e_length) H := hP
  have hD : va_D A (gE cy qE e_queue ex11 e_allowed e_allowedSize e_kind e_base e_n e_want e_rules (0 : Int32) e_goal e_length) := hD
  refine lv_aload_n hx hb dX7_walk_39 rfl (lv_at hl 0 rfl) ?_
  refine lv_ldc (v := (51200 : Int32)) hx hb hown fk11 dX7_walk_40 ?_
  obtain ⟨r12, hc13, hf⟩ := ob_some hf
  refine kc_v (k_run ⟨hx, hb, hml, hown, hts⟩ (c_X7_spread hc13) (cwV 1 hts gX7_walk_X7_spread rfl rfl rfl (by decide +kernel) ⟨Nat.le_of_ble_eq_true rfl, Nat.le_of_ble_eq_true rfl⟩) hK hN hP hD kA_s (ci := 7) (q0 := 0) rfl rfl rfl rfl hl.1 rfl (Nat.le_of_ble_eq_true rfl) dX7_walk_42 ⟨Nat.le_of_ble_eq_true rfl, Nat.le_of_ble_eq_true rfl⟩) hP hD hS hA kI_s (fun _ H locs hP hD hS => ?_)
  refine lv_iconst (v := (0 : Int32)) hx hb dX7_walk_45 (by decide) ?_
  refine lv_istore_n (lv' := [(1, .int (0 : Int32)), (0, .ref (qE 0))]) hx hb dX7_walk_46 rfl hl (by decide) rfl (fun ls hl => ?_)
  obtain ⟨ex14, hcl, hf⟩ := ob_some hf
  refine hL47 F ((0 : Int32), r12.1, r12.2.1, r12.2.2) ex14 _ _ _ hcl (fun H locs ls hP hD hS hl => ?_) hP hD hS (lv_sub hl [1, 0] rfl)
  obtain rfl := Option.some.inj hf
  exact hQ () 93 _ _ _ dX7_walk_93 hP hD hS
def f_X7_measure_B24 (F : Nat) (e_from : Nat → Int32) (rec : Int32 × Int32 → Option (Int32)) (x : Int32 × Int32) : Option (Int32) := if x.1 = (51200 : Int32) then (some x.2) else (if (51200 : Int32) ≤ x.2 then (some x.2) else (ck (¬ (x.1 < 0 ∨ 51200 ≤ x.1.toNatClampNeg)) (ck (¬ (16 : Int32) = 0) (rec (((e_from x.1.toNatClampNeg) / (16 : Int32)), (x.2 + (1 : Int32)))))))
def f_X7_measure (F : Nat) (e_from : Nat → Int32) (e_goal : Int32) (e_length : Int32) : Option (Int32) := ck (¬ (e_goal < 0 ∨ 51200 ≤ e_goal.toNatClampNeg)) (if (e_from e_goal.toNatClampNeg) = (-1 : Int32) then (some (0 : Int32)) else ((lp (f_X7_measure_B24 F e_from) F (e_goal, (0 : Int32))).bind (fun ex7 => some ex7)))
abbrev rmX7_measure : Room := { frames := 0, cells := 0, slots := 0, locals := 0 }
set_option maxHeartbeats 1000000 in
set_option maxRecDepth 100000 in
theorem c_X7_measure {l : Launch} {D : va_G} {cy : Nat → ClassId} {qE : Nat → Nat} {e_queue : Nat → Int32} {e_from : Nat → Int32} {e_allowed : Nat → Int32} {e_allowedSize : Int32} {e_kind : Int32} {e_base : Int32} {e_n : Int32} {e_want : Int32} {e_rules : Int32} {e_queued : Int32} {e_goal : Int32} {e_length : Int32} {F : Nat} {res : Int32} (hf : f_X7_measure F e_from e_goal e_length = some res) : kM l yX7_measure wsX7_measure rmX7_measure D cy [.ref (qE 0)] (gE cy qE e_queue e_from e_allowed e_allowedSize e_kind e_base e_n e_want e_rules e_queued e_goal e_length) (kQv D cy (fun _ : Unit => gE cy qE e_queue e_from e_allowed e_allowedSize e_kind e_base e_n e_want e_rules e_queued e_goal res)) := by
  refine kent_v (cc := cX7_measure) (maxL := 2) (by decide) rfl (Nat.le_of_ble_eq_true rfl) ?_
  intro p e0 s m ar below meth c A Q ls ⟨hx, hb, hml, hr, hts, hown, hlocks, hnm⟩ hA hK hN hQ hP hD hS hl
  have hl : lv_has ls 2 [(0, .ref (qE 0))] := hl
  have hown : s.vm.findClass RX7 = some m.cls := hown
  have fk11 : (Cond.constant RX7 11 (51200)).before ar s = true := hts _ (by decide +kernel)
  have huX7 : ∀ x ∈ u_ws RX7 TX7 12, x ∈ wsX7_measure := by decide +kernel
  have fk47 : (Cond.fieldLink RX7 47 "FigurePlay$Search" "length" "I").before ar s = true := hts _ (by decide +kernel)
  have fk16 : (Cond.fieldLink RX7 16 "FigurePlay$Search" "from" "[I").before ar s = true := hts _ (by decide +kernel)
  have fk44 : (Cond.fieldLink RX7 44 "FigurePlay$Search" "goal" "I").before ar s = true := hts _ (by decide +kernel)
  unfold f_X7_measure at hf
  have hL24 : ∀ (k : Nat) (x : Int32 × Int32) (ex : Int32) (H : Heap) (locs : List Loc) (ls : Array Slot), lp (f_X7_measure_B24 F e_from) k x = some ex → (∀ (H : Heap) (locs : List Loc) (ls : Array Slot), va_P D vwCl (gE cy qE e_queue e_from e_allowed e_allowedSize e_kind e_base e_n e_want e_rules e_queued e_goal ex) H → va_D A (gE cy qE e_queue e_from e_allowed e_allowedSize e_kind e_base e_n e_want e_rules e_queued e_goal ex) → va_S A s.heap H locs → lv_has ls 2 [] → W p l e0 rmX7_measure s m ar below meth c H locs 0 0 Q (F0 m 62 ls [])) → va_P D vwCl (gE cy qE e_queue e_from e_allowed e_allowedSize e_kind e_base e_n e_want e_rules e_queued e_goal x.2) H → va_D A (gE cy qE e_queue e_from e_allowed e_allowedSize e_kind e_base e_n e_want e_rules e_queued e_goal x.2) → va_S A s.heap H locs → lv_has ls 2 [(0, .ref (qE 0)), (1, .int x.1)] → W p l e0 rmX7_measure s m ar below meth c H locs 0 0 Q (F0 m 24 ls []) := by
    intro k
    induction k with
    | zero => intro x ex H locs ls hf; exact no_some hf
    | succ k ih =>
      intro x ex H locs ls hf hex hP hD hS hl
      have hf : f_X7_measure_B24 F e_from (lp (f_X7_measure_B24 F e_from) k) x = some ex := hf
      unfold f_X7_measure_B24 at hf
      refine lv_iload_n hx hb dX7_measure_24 rfl (lv_at hl 1 rfl) ?_
      refine lv_ldc (v := (51200 : Int32)) hx hb hown fk11 dX7_measure_25 ?_
      refine lv_icmp_eq (tgt := 62) hx hb dX7_measure_27 (by decide) (fun c1 => ?_) (fun c1 => ?_)
      · have hf := if_t hf c1
        obtain rfl := Option.some.inj hf
        exact hex _ _ _ hP hD hS (lv_sub hl [] rfl)
      · have hf := if_f hf c1
        refine lv_aload_n hx hb dX7_measure_30 rfl (lv_at hl 0 rfl) ?_
        refine va_get (D := D) (ci := 7) (C := RX7) (T := TX7) (N := 12) hx hb hts huX7 hown hK hP 0 rfl rfl 11 (by decide) fk47 (fun _ h9 => h9) rfl dX7_measure_31 ?_
        refine lv_ldc (v := (51200 : Int32)) hx hb hown fk11 dX7_measure_34 ?_
        refine lv_icmp_ge (tgt := 62) hx hb dX7_measure_36 (by decide) (fun c2 => ?_) (fun c2 => ?_)
        · have hf := if_t hf c2
          obtain rfl := Option.some.inj hf
          exact hex _ _ _ hP hD hS (lv_sub hl [] rfl)
        · have hf := if_f hf c2
          refine lv_aload_n hx hb dX7_measure_39 rfl (lv_at hl 0 rfl) ?_
          refine lv_dup hx hb dX7_measure_40 rfl ?_
          refine va_get (D := D) (ci := 7) (C := RX7) (T := TX7) (N := 12) hx hb hts huX7 hown hK hP 0 rfl rfl 11 (by decide) fk47 (fun _ h9 => h9) rfl dX7_measure_41 ?_
          refine lv_iconst (v := (1 : Int32)) hx hb dX7_measure_44 (by decide) ?_
          refine lv_iadd hx hb dX7_measure_45 ?_
          refine va_put (D := D) (ci := 7) (v := .int (x.2 + (1 : Int32))) (ty := .int) (C := RX7) (T := TX7) (N := 12) hx hb hts huX7 tyX7 tyX7_ok nmX7 hown hK hP hD hS 0 rfl rfl 11 (by decide) fk47 (fun _ h9 => h9) rfl (tyX7_ok 11 (by decide)) rfl rfl (Nat.le_of_ble_eq_true rfl) dX7_measure_46 (fun H locs hP hD hS => ?_)
          have hP : va_P D vwCl (gE cy qE e_queue e_from e_allowed e_allowedSize e_kind e_base e_n e_want e_rules e_queued e_goal (x.2 + (1 : Int32))) H := hP
          have hD : va_D A (gE cy qE e_queue e_from e_allowed e_allowedSize e_kind e_base e_n e_want e_rules e_queued e_goal (x.2 + (1 : Int32))) := hD
          refine lv_aload_n hx hb dX7_measure_49 rfl (lv_at hl 0 rfl) ?_
          refine va_get (v := .ref (qE 2)) (D := D) (ci := 7) (C := RX7) (T := TX7) (N := 12) hx hb hts huX7 hown hK hP 0 rfl rfl 1 (by decide) fk16 (fun _ h9 => h9) rfl dX7_measure_50 ?_
          refine lv_iload_n hx hb dX7_measure_53 rfl (lv_at hl 1 rfl) ?_
          obtain ⟨c3, hf⟩ := ck_some hf
          refine va_iald hx hb hK hP 2 0 rfl rfl c3 dX7_measure_54 ?_
          refine lv_bipush (v := (16 : Int32)) hx hb dX7_measure_55 (by decide) ?_
          obtain ⟨c4, hf⟩ := ck_some hf
          refine lv_idiv hx hb dX7_measure_57 c4 ?_
          refine lv_istore_n (lv' := [(1, .int ((e_from x.1.toNatClampNeg) / (16 : Int32))), (0, .ref (qE 0))]) hx hb dX7_measure_58 rfl hl (by decide) rfl (fun ls hl => ?_)
          refine lv_goto (tgt := 24) hx hb dX7_measure_59 (by decide) ?_
          exact ih (((e_from x.1.toNatClampNeg) / (16 : Int32)), (x.2 + (1 : Int32))) ex _ _ _ hf hex hP hD hS (lv_sub hl [1, 0] rfl)
  refine lv_aload_n hx hb dX7_measure_0 rfl (lv_at hl 0 rfl) ?_
  refine lv_iconst (v := (0 : Int32)) hx hb dX7_measure_1 (by decide) ?_
  refine va_put (D := D) (ci := 7) (v := .int (0 : Int32)) (ty := .int) (C := RX7) (T := TX7) (N := 12) hx hb hts huX7 tyX7 tyX7_ok nmX7 hown hK hP hD hS 0 rfl rfl 11 (by decide) fk47 (fun _ h9 => h9) rfl (tyX7_ok 11 (by decide)) rfl rfl (Nat.le_of_ble_eq_true rfl) dX7_measure_2 (fun H locs hP hD hS => ?_)
  have hP : va_P D vwCl (gE cy qE e_queue e_from e_allowed e_allowedSize e_kind e_base e_n e_want e_rules e_queued e_goal (0 : Int32)) H := hP
  have hD : va_D A (gE cy qE e_queue e_from e_allowed e_allowedSize e_kind e_base e_n e_want e_rules e_queued e_goal (0 : Int32)) := hD
  refine lv_aload_n hx hb dX7_measure_5 rfl (lv_at hl 0 rfl) ?_
  refine va_get (v := .ref (qE 2)) (D := D) (ci := 7) (C := RX7) (T := TX7) (N := 12) hx hb hts huX7 hown hK hP 0 rfl rfl 1 (by decide) fk16 (fun _ h9 => h9) rfl dX7_measure_6 ?_
  refine lv_aload_n hx hb dX7_measure_9 rfl (lv_at hl 0 rfl) ?_
  refine va_get (D := D) (ci := 7) (C := RX7) (T := TX7) (N := 12) hx hb hts huX7 hown hK hP 0 rfl rfl 10 (by decide) fk44 (fun _ h9 => h9) rfl dX7_measure_10 ?_
  obtain ⟨c5, hf⟩ := ck_some hf
  refine va_iald hx hb hK hP 2 0 rfl rfl c5 dX7_measure_13 ?_
  refine lv_iconst (v := (-1 : Int32)) hx hb dX7_measure_14 (by decide) ?_
  refine lv_icmp_ne (tgt := 19) hx hb dX7_measure_15 (by decide) (fun c6 => ?_) (fun c6 => ?_)
  · have hf := if_f hf c6
    refine lv_aload_n hx hb dX7_measure_19 rfl (lv_at hl 0 rfl) ?_
    refine va_get (D := D) (ci := 7) (C := RX7) (T := TX7) (N := 12) hx hb hts huX7 hown hK hP 0 rfl rfl 10 (by decide) fk44 (fun _ h9 => h9) rfl dX7_measure_20 ?_
    refine lv_istore_n (lv' := [(1, .int e_goal), (0, .ref (qE 0))]) hx hb dX7_measure_23 rfl hl (by decide) rfl (fun ls hl => ?_)
    obtain ⟨ex7, hcl, hf⟩ := ob_some hf
    refine hL24 F (e_goal, (0 : Int32)) ex7 _ _ _ hcl (fun H locs ls hP hD hS hl => ?_) hP hD hS (lv_sub hl [1, 0] rfl)
    obtain rfl := Option.some.inj hf
    exact hQ () 62 _ _ _ dX7_measure_62 hP hD hS
  · have hf := if_t hf c6
    obtain rfl := Option.some.inj hf
    exact hQ () 18 _ _ _ dX7_measure_18 hP hD hS
def f_X7_seek_J98 (F : Nat) (a3 : Int32) (s1 : Int32) (e_queue : Nat → Int32) (e_from : Nat → Int32) (e_allowed : Nat → Int32) (e_allowedSize : Int32) (e_kind : Int32) (e_base : Int32) (e_n : Int32) (e_want : Int32) (e_rules : Int32) (e_queued : Int32) (e_goal : Int32) (e_length : Int32) : Option ((Nat → Int32) × (Nat → Int32) × (Nat → Int32) × Int32 × Int32 × Int32 × Int32 × Int32 × Int32 × Int32 × Int32 × Int32) := (f_X7_walk F e_queue e_from e_allowed e_allowedSize e_kind e_base e_n s1 e_queued ((s1 - (1 : Int32)) * a3)).bind (fun r1 => (f_X7_measure F r1.2.1 ((s1 - (1 : Int32)) * a3) e_length).bind (fun r3 => some (r1.1, r1.2.1, e_allowed, e_allowedSize, e_kind, e_base, e_n, e_want, s1, r1.2.2, ((s1 - (1 : Int32)) * a3), r3)))
def f_X7_seek_J67 (F : Nat) (a1 : Int32) (a3 : Int32) (a4 : Int32) (s1 : Int32) (e_queue : Nat → Int32) (e_from : Nat → Int32) (e_allowed : Nat → Int32) (e_allowedSize : Int32) (e_kind : Int32) (e_base : Int32) (e_n : Int32) (e_want : Int32) (e_rules : Int32) (e_queued : Int32) (e_goal : Int32) (e_length : Int32) : Option ((Nat → Int32) × (Nat → Int32) × (Nat → Int32) × Int32 × Int32 × Int32 × Int32 × Int32 × Int32 × Int32 × Int32 × Int32) := (f_X7_allow F s1 e_allowed e_allowedSize e_base).bind (fun r5 => if a1 = (1 : Int32) then (f_X7_seek_J98 F a3 ((1 : Int32) <<< (r5.2 &&& 31)) e_queue e_from r5.1 r5.2 e_kind e_base e_n e_want e_rules e_queued e_goal e_length) else (if a1 = (2 : Int32) then (f_X7_seek_J98 F a3 (a4 + (1 : Int32)) e_queue e_from r5.1 r5.2 e_kind e_base e_n e_want e_rules e_queued e_goal e_length) else (f_X7_seek_J98 F a3 (1 : Int32) e_queue e_from r5.1 r5.2 e_kind e_base e_n e_want e_rules e_queued e_goal e_length)))
def f_X7_seek_J34 (F : Nat) (a1 : Int32) (a2 : Int32) (a3 : Int32) (a4 : Int32) (e_queue : Nat → Int32) (e_from : Nat → Int32) (e_allowed : Nat → Int32) (e_allowedSize : Int32) (e_kind : Int32) (e_base : Int32) (e_n : Int32) (e_want : Int32) (e_rules : Int32) (e_queued : Int32) (e_goal : Int32) (e_length : Int32) : Option ((Nat → Int32) × (Nat → Int32) × (Nat → Int32) × Int32 × Int32 × Int32 × Int32 × Int32 × Int32 × Int32 × Int32 × Int32) := if a1 = (2 : Int32) then (f_X7_seek_J67 F a1 a3 a4 (-1 : Int32) e_queue e_from e_allowed e_allowedSize a1 a2 a3 a4 e_rules e_queued e_goal e_length) else (f_X7_seek_J67 F a1 a3 a4 a4 e_queue e_from e_allowed e_allowedSize a1 a2 a3 a4 e_rules e_queued e_goal e_length)
def f_X7_seek (F : Nat) (a1 : Int32) (a2 : Int32) (a3 : Int32) (a4 : Int32) (e_queue : Nat → Int32) (e_from : Nat → Int32) (e_allowed : Nat → Int32) (e_allowedSize : Int32) (e_kind : Int32) (e_base : Int32) (e_n : Int32) (e_want : Int32) (e_rules : Int32) (e_queued : Int32) (e_goal : Int32) (e_length : Int32) : Option ((Nat → Int32) × (Nat → Int32) × (Nat → Int32) × Int32 × Int32 × Int32 × Int32 × Int32 × Int32 × Int32 × Int32 × Int32) := if e_kind = a1 then (if e_base = a2 then (if e_n = a3 then (if e_want = a4 then (some (e_queue, e_from, e_allowed, e_allowedSize, e_kind, e_base, e_n, e_want, e_rules, e_queued, e_goal, e_length)) else (f_X7_seek_J34 F a1 a2 a3 a4 e_queue e_from e_allowed e_allowedSize e_kind e_base e_n e_want e_rules e_queued e_goal e_length)) else (f_X7_seek_J34 F a1 a2 a3 a4 e_queue e_from e_allowed e_allowedSize e_kind e_base e_n e_want e_rules e_queued e_goal e_length)) else (f_X7_seek_J34 F a1 a2 a3 a4 e_queue e_from e_allowed e_allowedSize e_kind e_base e_n e_want e_rules e_queued e_goal e_length)) else (f_X7_seek_J34 F a1 a2 a3 a4 e_queue e_from e_allowed e_allowedSize e_kind e_base e_n e_want e_rules e_queued e_goal e_length)
abbrev rmX7_seek : Room := { frames := 3, cells := 0, slots := 0, locals := 71 }
set_option maxHeartbeats 1000000 in
set_option maxRecDepth 100000 in
theorem c_X7_seek {l : Launch} {D : va_G} {cy : Nat → ClassId} {qE : Nat → Nat} {e_queue : Nat → Int32} {e_from : Nat → Int32} {e_allowed : Nat → Int32} {e_allowedSize : Int32} {e_kind : Int32} {e_base : Int32} {e_n : Int32} {e_want : Int32} {e_rules : Int32} {e_queued : Int32} {e_goal : Int32} {e_length : Int32} {a1 : Int32} {a2 : Int32} {a3 : Int32} {a4 : Int32} {F : Nat} {res : (Nat → Int32) × (Nat → Int32) × (Nat → Int32) × Int32 × Int32 × Int32 × Int32 × Int32 × Int32 × Int32 × Int32 × Int32} (hf : f_X7_seek F a1 a2 a3 a4 e_queue e_from e_allowed e_allowedSize e_kind e_base e_n e_want e_rules e_queued e_goal e_length = some res) : kM l yX7_seek wsX7_seek rmX7_seek D cy [.ref (qE 0), .int a1, .int a2, .int a3, .int a4] (gE cy qE e_queue e_from e_allowed e_allowedSize e_kind e_base e_n e_want e_rules e_queued e_goal e_length) (kQv D cy (fun _ : Unit => gE cy qE res.1 res.2.1 res.2.2.1 res.2.2.2.1 res.2.2.2.2.1 res.2.2.2.2.2.1 res.2.2.2.2.2.2.1 res.2.2.2.2.2.2.2.1 res.2.2.2.2.2.2.2.2.1 res.2.2.2.2.2.2.2.2.2.1 res.2.2.2.2.2.2.2.2.2.2.1 res.2.2.2.2.2.2.2.2.2.2.2)) := by
  refine kent_v (cc := cX7_seek) (maxL := 5) (by decide) rfl (Nat.le_of_ble_eq_true rfl) ?_
  intro p e0 s m ar below meth c A Q ls ⟨hx, hb, hml, hr, hts, hown, hlocks, hnm⟩ hA hK hN hQ hP hD hS hl
  have hl : lv_has ls 5 [(0, .ref (qE 0)), (1, .int a1), (2, .int a2), (3, .int a3), (4, .int a4)] := hl
  have hown : s.vm.findClass RX7 = some m.cls := hown
  have huX7 : ∀ x ∈ u_ws RX7 TX7 12, x ∈ wsX7_seek := by decide +kernel
  have fk38 : (Cond.fieldLink RX7 38 "FigurePlay$Search" "rules" "I").before ar s = true := hts _ (by decide +kernel)
  have fk44 : (Cond.fieldLink RX7 44 "FigurePlay$Search" "goal" "I").before ar s = true := hts _ (by decide +kernel)
  have fk22 : (Cond.fieldLink RX7 22 "FigurePlay$Search" "allowedSize" "I").before ar s = true := hts _ (by decide +kernel)
  have fk26 : (Cond.fieldLink RX7 26 "FigurePlay$Search" "kind" "I").before ar s = true := hts _ (by decide +kernel)
  have fk29 : (Cond.fieldLink RX7 29 "FigurePlay$Search" "base" "I").before ar s = true := hts _ (by decide +kernel)
  have fk32 : (Cond.fieldLink RX7 32 "FigurePlay$Search" "n" "I").before ar s = true := hts _ (by decide +kernel)
  have fk35 : (Cond.fieldLink RX7 35 "FigurePlay$Search" "want" "I").before ar s = true := hts _ (by decide +kernel)
  unfold f_X7_seek at hf
  have hJ98 : ∀ (s1 : Int32) (e_queue : Nat → Int32) (e_from : Nat → Int32) (e_allowed : Nat → Int32) (e_allowedSize : Int32) (e_kind : Int32) (e_base : Int32) (e_n : Int32) (e_want : Int32) (e_rules : Int32) (e_queued : Int32) (e_goal : Int32) (e_length : Int32) (H : Heap) (locs : List Loc) (ls : Array Slot), f_X7_seek_J98 F a3 s1 e_queue e_from e_allowed e_allowedSize e_kind e_base e_n e_want e_rules e_queued e_goal e_length = some res → va_P D vwCl (gE cy qE e_queue e_from e_allowed e_allowedSize e_kind e_base e_n e_want e_rules e_queued e_goal e_length) H → va_D A (gE cy qE e_queue e_from e_allowed e_allowedSize e_kind e_base e_n e_want e_rules e_queued e_goal e_length) → va_S A s.heap H locs → lv_has ls 5 [(0, .ref (qE 0)), (3, .int a3)] → W p l e0 rmX7_seek s m ar below meth c H locs 0 0 Q (F0 m 98 ls [.int s1, .ref (qE 0)]) := by
    intro s1 e_queue e_from e_allowed e_allowedSize e_kind e_base e_n e_want e_rules e_queued e_goal e_length H locs ls hf hP hD hS hl
    unfold f_X7_seek_J98 at hf
    refine va_put (D := D) (ci := 7) (v := .int s1) (ty := .int) (C := RX7) (T := TX7) (N := 12) hx hb hts huX7 tyX7 tyX7_ok nmX7 hown hK hP hD hS 0 rfl rfl 8 (by decide) fk38 (fun _ h9 => h9) rfl (tyX7_ok 8 (by decide)) rfl rfl (Nat.le_of_ble_eq_true rfl) dX7_seek_98 (fun H locs hP hD hS => ?_)
    have hP : va_P D vwCl (gE cy qE e_queue e_from e_allowed e_allowedSize e_kind e_base e_n e_want s1 e_queued e_goal e_length) H := hP
    have hD : va_D A (gE cy qE e_queue e_from e_allowed e_allowedSize e_kind e_base e_n e_want s1 e_queued e_goal e_length) := hD
    refine lv_aload_n hx hb dX7_seek_101 rfl (lv_at hl 0 rfl) ?_
    refine lv_aload_n hx hb dX7_seek_102 rfl (lv_at hl 0 rfl) ?_
    refine va_get (D := D) (ci := 7) (C := RX7) (T := TX7) (N := 12) hx hb hts huX7 hown hK hP 0 rfl rfl 8 (by decide) fk38 (fun _ h9 => h9) rfl dX7_seek_103 ?_
    refine lv_iconst (v := (1 : Int32)) hx hb dX7_seek_106 (by decide) ?_
    refine lv_isub hx hb dX7_seek_107 ?_
    refine lv_iload_n hx hb dX7_seek_108 rfl (lv_at hl 1 rfl) ?_
    refine lv_imul hx hb dX7_seek_109 ?_
    refine va_put (D := D) (ci := 7) (v := .int ((s1 - (1 : Int32)) * a3)) (ty := .int) (C := RX7) (T := TX7) (N := 12) hx hb hts huX7 tyX7 tyX7_ok nmX7 hown hK hP hD hS 0 rfl rfl 10 (by decide) fk44 (fun _ h9 => h9) rfl (tyX7_ok 10 (by decide)) rfl rfl (Nat.le_of_ble_eq_true rfl) dX7_seek_110 (fun H locs hP hD hS => ?_)
    have hP : va_P D vwCl (gE cy qE e_queue e_from e_allowed e_allowedSize e_kind e_base e_n e_want s1 e_queued ((s1 - (1 : Int32)) * a3) e_length) H := hP
    have hD : va_D A (gE cy qE e_queue e_from e_allowed e_allowedSize e_kind e_base e_n e_want s1 e_queued ((s1 - (1 : Int32)) * a3) e_length) := hD
    refine lv_aload_n hx hb dX7_seek_113 rfl (lv_at hl 0 rfl) ?_
    obtain ⟨r1, hc2, hf⟩ := ob_some hf
    refine kc_v (k_run ⟨hx, hb, hml, hown, hts⟩ (c_X7_walk hc2) (cwV 0 hts gX7_seek_X7_walk rfl rfl rfl (by decide +kernel) ⟨Nat.le_of_ble_eq_true rfl, Nat.le_of_ble_eq_true rfl⟩) hK hN hP hD kA_s (ci := 7) (q0 := 0) rfl rfl rfl rfl hl.1 rfl (Nat.le_of_ble_eq_true rfl) dX7_seek_114 ⟨Nat.le_of_ble_eq_true rfl, Nat.le_of_ble_eq_true rfl⟩) hP hD hS hA kI_s (fun _ H locs hP hD hS => ?_)
    refine lv_aload_n hx hb dX7_seek_117 rfl (lv_at hl 0 rfl) ?_
    obtain ⟨r3, hc4, hf⟩ := ob_some hf
    refine kc_v (k_run ⟨hx, hb, hml, hown, hts⟩ (c_X7_measure hc4) (cwV 0 hts gX7_seek_X7_measure rfl rfl rfl (by decide +kernel) ⟨Nat.le_of_ble_eq_true rfl, Nat.le_of_ble_eq_true rfl⟩) hK hN hP hD kA_s (ci := 7) (q0 := 0) rfl rfl rfl rfl hl.1 rfl (Nat.le_of_ble_eq_true rfl) dX7_seek_118 ⟨Nat.le_of_ble_eq_true rfl, Nat.le_of_ble_eq_true rfl⟩) hP hD hS hA kI_s (fun _ H locs hP hD hS => ?_)
    obtain rfl := Option.some.inj hf
    exact hQ () 121 _ _ _ dX7_seek_121 hP hD hS
  have hJ67 : ∀ (s1 : Int32) (e_queue : Nat → Int32) (e_from : Nat → Int32) (e_allowed : Nat → Int32) (e_allowedSize : Int32) (e_kind : Int32) (e_base : Int32) (e_n : Int32) (e_want : Int32) (e_rules : Int32) (e_queued : Int32) (e_goal : Int32) (e_length : Int32) (H : Heap) (locs : List Loc) (ls : Array Slot), f_X7_seek_J67 F a1 a3 a4 s1 e_queue e_from e_allowed e_allowedSize e_kind e_base e_n e_want e_rules e_queued e_goal e_length = some res → va_P D vwCl (gE cy qE e_queue e_from e_allowed e_allowedSize e_kind e_base e_n e_want e_rules e_queued e_goal e_length) H → va_D A (gE cy qE e_queue e_from e_allowed e_allowedSize e_kind e_base e_n e_want e_rules e_queued e_goal e_length) → va_S A s.heap H locs → lv_has ls 5 [(0, .ref (qE 0)), (1, .int a1), (3, .int a3), (4, .int a4)] → W p l e0 rmX7_seek s m ar below meth c H locs 0 0 Q (F0 m 67 ls [.int s1, .ref (qE 0)]) := by
    intro s1 e_queue e_from e_allowed e_allowedSize e_kind e_base e_n e_want e_rules e_queued e_goal e_length H locs ls hf hP hD hS hl
    unfold f_X7_seek_J67 at hf
    obtain ⟨r5, hc6, hf⟩ := ob_some hf
    refine kc_v (k_run ⟨hx, hb, hml, hown, hts⟩ (c_X7_allow hc6) (cwV 1 hts gX7_seek_X7_allow rfl rfl rfl (by decide +kernel) ⟨Nat.le_of_ble_eq_true rfl, Nat.le_of_ble_eq_true rfl⟩) hK hN hP hD kA_s (ci := 7) (q0 := 0) rfl rfl rfl rfl hl.1 rfl (Nat.le_of_ble_eq_true rfl) dX7_seek_67 ⟨Nat.le_of_ble_eq_true rfl, Nat.le_of_ble_eq_true rfl⟩) hP hD hS hA kI_s (fun _ H locs hP hD hS => ?_)
    refine lv_aload_n hx hb dX7_seek_70 rfl (lv_at hl 0 rfl) ?_
    refine lv_iload_n hx hb dX7_seek_71 rfl (lv_at hl 1 rfl) ?_
    refine lv_iconst (v := (1 : Int32)) hx hb dX7_seek_72 (by decide) ?_
    refine lv_icmp_ne (tgt := 85) hx hb dX7_seek_73 (by decide) (fun c7 => ?_) (fun c7 => ?_)
    · have hf := if_f hf c7
      refine lv_iload_n hx hb dX7_seek_85 rfl (lv_at hl 1 rfl) ?_
      refine lv_iconst (v := (2 : Int32)) hx hb dX7_seek_86 (by decide) ?_
      refine lv_icmp_ne (tgt := 97) hx hb dX7_seek_87 (by decide) (fun c8 => ?_) (fun c8 => ?_)
      · have hf := if_f hf c8
        refine lv_iconst (v := (1 : Int32)) hx hb dX7_seek_97 (by decide) ?_
        exact hJ98 (1 : Int32) e_queue e_from r5.1 r5.2 e_kind e_base e_n e_want e_rules e_queued e_goal e_length _ _ _ hf hP hD hS (lv_sub hl [0, 2] rfl)
      · have hf := if_t hf c8
        refine lv_iload hx hb dX7_seek_90 (lv_at hl 3 rfl) ?_
        refine lv_iconst (v := (1 : Int32)) hx hb dX7_seek_92 (by decide) ?_
        refine lv_iadd hx hb dX7_seek_93 ?_
        refine lv_goto (tgt := 98) hx hb dX7_seek_94 (by decide) ?_
        exact hJ98 (a4 + (1 : Int32)) e_queue e_from r5.1 r5.2 e_kind e_base e_n e_want e_rules e_queued e_goal e_length _ _ _ hf hP hD hS (lv_sub hl [0, 2] rfl)
    · have hf := if_t hf c7
      refine lv_iconst (v := (1 : Int32)) hx hb dX7_seek_76 (by decide) ?_
      refine lv_aload_n hx hb dX7_seek_77 rfl (lv_at hl 0 rfl) ?_
      refine va_get (D := D) (ci := 7) (C := RX7) (T := TX7) (N := 12) hx hb hts huX7 hown hK hP 0 rfl rfl 3 (by decide) fk22 (fun _ h9 => h9) rfl dX7_seek_78 ?_
      refine lv_ishl hx hb dX7_seek_81 ?_
      refine lv_goto (tgt := 98) hx hb dX7_seek_82 (by decide) ?_
      exact hJ98 ((1 : Int32) <<< (r5.2 &&& 31)) e_queue e_from r5.1 r5.2 e_kind e_base e_n e_want e_rules e_queued e_goal e_length _ _ _ hf hP hD hS (lv_sub hl [0, 2] rfl)
  have hJ34 : ∀ (e_queue : Nat → Int32) (e_from : Nat → Int32) (e_allowed : Nat → Int32) (e_allowedSize : Int32) (e_kind : Int32) (e_base : Int32) (e_n : Int32) (e_want : Int32) (e_rules : Int32) (e_queued : Int32) (e_goal : Int32) (e_length : Int32) (H : Heap) (locs : List Loc) (ls : Array Slot), f_X7_seek_J34 F a1 a2 a3 a4 e_queue e_from e_allowed e_allowedSize e_kind e_base e_n e_want e_rules e_queued e_goal e_length = some res → va_P D vwCl (gE cy qE e_queue e_from e_allowed e_allowedSize e_kind e_base e_n e_want e_rules e_queued e_goal e_length) H → va_D A (gE cy qE e_queue e_from e_allowed e_allowedSize e_kind e_base e_n e_want e_rules e_queued e_goal e_length) → va_S A s.heap H locs → lv_has ls 5 [(0, .ref (qE 0)), (1, .int a1), (2, .int a2), (3, .int a3), (4, .int a4)] → W p l e0 rmX7_seek s m ar below meth c H locs 0 0 Q (F0 m 34 ls []) := by
    intro e_queue e_from e_allowed e_allowedSize e_kind e_base e_n e_want e_rules e_queued e_goal e_length H locs ls hf hP hD hS hl
    unfold f_X7_seek_J34 at hf
    refine lv_aload_n hx hb dX7_seek_34 rfl (lv_at hl 0 rfl) ?_
    refine lv_iload_n hx hb dX7_seek_35 rfl (lv_at hl 1 rfl) ?_
    refine va_put (D := D) (ci := 7) (v := .int a1) (ty := .int) (C := RX7) (T := TX7) (N := 12) hx hb hts huX7 tyX7 tyX7_ok nmX7 hown hK hP hD hS 0 rfl rfl 4 (by decide) fk26 (fun _ h9 => h9) rfl (tyX7_ok 4 (by decide)) rfl rfl (Nat.le_of_ble_eq_true rfl) dX7_seek_36 (fun H locs hP hD hS => ?_)
    have hP : va_P D vwCl (gE cy qE e_queue e_from e_allowed e_allowedSize a1 e_base e_n e_want e_rules e_queued e_goal e_length) H := hP
    have hD : va_D A (gE cy qE e_queue e_from e_allowed e_allowedSize a1 e_base e_n e_want e_rules e_queued e_goal e_length) := hD
    refine lv_aload_n hx hb dX7_seek_39 rfl (lv_at hl 0 rfl) ?_
    refine lv_iload_n hx hb dX7_seek_40 rfl (lv_at hl 2 rfl) ?_
    refine va_put (D := D) (ci := 7) (v := .int a2) (ty := .int) (C := RX7) (T := TX7) (N := 12) hx hb hts huX7 tyX7 tyX7_ok nmX7 hown hK hP hD hS 0 rfl rfl 5 (by decide) fk29 (fun _ h9 => h9) rfl (tyX7_ok 5 (by decide)) rfl rfl (Nat.le_of_ble_eq_true rfl) dX7_seek_41 (fun H locs hP hD hS => ?_)
    have hP : va_P D vwCl (gE cy qE e_queue e_from e_allowed e_allowedSize a1 a2 e_n e_want e_rules e_queued e_goal e_length) H := hP
    have hD : va_D A (gE cy qE e_queue e_from e_allowed e_allowedSize a1 a2 e_n e_want e_rules e_queued e_goal e_length) := hD
    refine lv_aload_n hx hb dX7_seek_44 rfl (lv_at hl 0 rfl) ?_
    refine lv_iload_n hx hb dX7_seek_45 rfl (lv_at hl 3 rfl) ?_
    refine va_put (D := D) (ci := 7) (v := .int a3) (ty := .int) (C := RX7) (T := TX7) (N := 12) hx hb hts huX7 tyX7 tyX7_ok nmX7 hown hK hP hD hS 0 rfl rfl 6 (by decide) fk32 (fun _ h9 => h9) rfl (tyX7_ok 6 (by decide)) rfl rfl (Nat.le_of_ble_eq_true rfl) dX7_seek_46 (fun H locs hP hD hS => ?_)
    have hP : va_P D vwCl (gE cy qE e_queue e_from e_allowed e_allowedSize a1 a2 a3 e_want e_rules e_queued e_goal e_length) H := hP
    have hD : va_D A (gE cy qE e_queue e_from e_allowed e_allowedSize a1 a2 a3 e_want e_rules e_queued e_goal e_length) := hD
    refine lv_aload_n hx hb dX7_seek_49 rfl (lv_at hl 0 rfl) ?_
    refine lv_iload hx hb dX7_seek_50 (lv_at hl 4 rfl) ?_
    refine va_put (D := D) (ci := 7) (v := .int a4) (ty := .int) (C := RX7) (T := TX7) (N := 12) hx hb hts huX7 tyX7 tyX7_ok nmX7 hown hK hP hD hS 0 rfl rfl 7 (by decide) fk35 (fun _ h9 => h9) rfl (tyX7_ok 7 (by decide)) rfl rfl (Nat.le_of_ble_eq_true rfl) dX7_seek_52 (fun H locs hP hD hS => ?_)
    have hP : va_P D vwCl (gE cy qE e_queue e_from e_allowed e_allowedSize a1 a2 a3 a4 e_rules e_queued e_goal e_length) H := hP
    have hD : va_D A (gE cy qE e_queue e_from e_allowed e_allowedSize a1 a2 a3 a4 e_rules e_queued e_goal e_length) := hD
    refine lv_aload_n hx hb dX7_seek_55 rfl (lv_at hl 0 rfl) ?_
    refine lv_iload_n hx hb dX7_seek_56 rfl (lv_at hl 1 rfl) ?_
    refine lv_iconst (v := (2 : Int32)) hx hb dX7_seek_57 (by decide) ?_
    refine lv_icmp_ne (tgt := 65) hx hb dX7_seek_58 (by decide) (fun c9 => ?_) (fun c9 => ?_)
    · have hf := if_f hf c9
      refine lv_iload hx hb dX7_seek_65 (lv_at hl 4 rfl) ?_
      exact hJ67 a4 e_queue e_from e_allowed e_allowedSize a1 a2 a3 a4 e_rules e_queued e_goal e_length _ _ _ hf hP hD hS (lv_sub hl [0, 1, 3, 4] rfl)
    · have hf := if_t hf c9
      refine lv_iconst (v := (-1 : Int32)) hx hb dX7_seek_61 (by decide) ?_
      refine lv_goto (tgt := 67) hx hb dX7_seek_62 (by decide) ?_
      exact hJ67 (-1 : Int32) e_queue e_from e_allowed e_allowedSize a1 a2 a3 a4 e_rules e_queued e_goal e_length _ _ _ hf hP hD hS (lv_sub hl [0, 1, 3, 4] rfl)
  refine lv_aload_n hx hb dX7_seek_0 rfl (lv_at hl 0 rfl) ?_
  refine va_get (D := D) (ci := 7) (C := RX7) (T := TX7) (N := 12) hx hb hts huX7 hown hK hP 0 rfl rfl 4 (by decide) fk26 (fun _ h9 => h9) rfl dX7_seek_1 ?_
  refine lv_iload_n hx hb dX7_seek_4 rfl (lv_at hl 1 rfl) ?_
  refine lv_icmp_ne (tgt := 34) hx hb dX7_seek_5 (by decide) (fun c10 => ?_) (fun c10 => ?_)
  · have hf := if_f hf c10
    exact hJ34 e_queue e_from e_allowed e_allowedSize e_kind e_base e_n e_want e_rules e_queued e_goal e_length _ _ _ hf hP hD hS (lv_sub hl [0, 1, 2, 3, 4] rfl)
  · have hf := if_t hf c10
    refine lv_aload_n hx hb dX7_seek_8 rfl (lv_at hl 0 rfl) ?_
    refine va_get (D := D) (ci := 7) (C := RX7) (T := TX7) (N := 12) hx hb hts huX7 hown hK hP 0 rfl rfl 5 (by decide) fk29 (fun _ h9 => h9) rfl dX7_seek_9 ?_
    refine lv_iload_n hx hb dX7_seek_12 rfl (lv_at hl 2 rfl) ?_
    refine lv_icmp_ne (tgt := 34) hx hb dX7_seek_13 (by decide) (fun c11 => ?_) (fun c11 => ?_)
    · have hf := if_f hf c11
      exact hJ34 e_queue e_from e_allowed e_allowedSize e_kind e_base e_n e_want e_rules e_queued e_goal e_length _ _ _ hf hP hD hS (lv_sub hl [0, 1, 2, 3, 4] rfl)
    · have hf := if_t hf c11
      refine lv_aload_n hx hb dX7_seek_16 rfl (lv_at hl 0 rfl) ?_
      refine va_get (D := D) (ci := 7) (C := RX7) (T := TX7) (N := 12) hx hb hts huX7 hown hK hP 0 rfl rfl 6 (by decide) fk32 (fun _ h9 => h9) rfl dX7_seek_17 ?_
      refine lv_iload_n hx hb dX7_seek_20 rfl (lv_at hl 3 rfl) ?_
      refine lv_icmp_ne (tgt := 34) hx hb dX7_seek_21 (by decide) (fun c12 => ?_) (fun c12 => ?_)
      · have hf := if_f hf c12
        exact hJ34 e_queue e_from e_allowed e_allowedSize e_kind e_base e_n e_want e_rules e_queued e_goal e_length _ _ _ hf hP hD hS (lv_sub hl [0, 1, 2, 3, 4] rfl)
      · have hf := if_t hf c12
        refine lv_aload_n hx hb dX7_seek_24 rfl (lv_at hl 0 rfl) ?_
        refine va_get (D := D) (ci := 7) (C := RX7) (T := TX7) (N := 12) hx hb hts huX7 hown hK hP 0 rfl rfl 7 (by decide) fk35 (fun _ h9 => h9) rfl dX7_seek_25 ?_
        refine lv_iload hx hb dX7_seek_28 (lv_at hl 4 rfl) ?_
        refine lv_icmp_ne (tgt := 34) hx hb dX7_seek_30 (by decide) (fun c13 => ?_) (fun c13 => ?_)
        · have hf := if_f hf c13
          exact hJ34 e_queue e_from e_allowed e_allowedSize e_kind e_base e_n e_want e_rules e_queued e_goal e_length _ _ _ hf hP hD hS (lv_sub hl [0, 1, 2, 3, 4] rfl)
        · have hf := if_t hf c13
          obtain rfl := Option.some.inj hf
          exact hQ () 33 _ _ _ dX7_seek_33 hP hD hS
def f_X7_figureAt_B47 (F : Nat) (a1 : Int32) (e_from : Nat → Int32) (rec : Int32 × Int32 → Option (Int32)) (x : Int32 × Int32) : Option (Int32) := if x.2 ≤ a1 then (some x.1) else (ck (¬ (x.1 < 0 ∨ 51200 ≤ x.1.toNatClampNeg)) (ck (¬ (16 : Int32) = 0) (rec (((e_from x.1.toNatClampNeg) / (16 : Int32)), (x.2 + (-1 : Int32))))))
def f_X7_figureAt_J32 (F : Nat) : Option (Int32) := some (-4 : Int32)
def f_X7_figureAt (F : Nat) (a1 : Int32) (e_from : Nat → Int32) (e_goal : Int32) (e_length : Int32) : Option (Int32) := if e_length = 0 then (some (-4 : Int32)) else (if a1 = (-1 : Int32) then (some e_length) else (if a1 < 0 then (f_X7_figureAt_J32 F) else (if a1 < e_length then ((lp (f_X7_figureAt_B47 F a1 e_from) F (e_goal, (e_length - (1 : Int32)))).bind (fun ex8 => ck (¬ (ex8 < 0 ∨ 51200 ≤ ex8.toNatClampNeg)) (ck (¬ (16 : Int32) = 0) (some ((e_from ex8.toNatClampNeg) - (e_from ex8.toNatClampNeg) / (16 : Int32) * (16 : Int32)))))) else (f_X7_figureAt_J32 F))))
abbrev rmX7_figureAt : Room := { frames := 0, cells := 0, slots := 0, locals := 0 }
set_option maxHeartbeats 1000000 in
set_option maxRecDepth 100000 in
theorem c_X7_figureAt {l : Launch} {D : va_G} {cy : Nat → ClassId} {qE : Nat → Nat} {e_queue : Nat → Int32} {e_from : Nat → Int32} {e_allowed : Nat → Int32} {e_allowedSize : Int32} {e_kind : Int32} {e_base : Int32} {e_n : Int32} {e_want : Int32} {e_rules : Int32} {e_queued : Int32} {e_goal : Int32} {e_length : Int32} {a1 : Int32} {F : Nat} {res : Int32} (hf : f_X7_figureAt F a1 e_from e_goal e_length = some res) : kM l yX7_figureAt wsX7_figureAt rmX7_figureAt D cy [.ref (qE 0), .int a1] (gE cy qE e_queue e_from e_allowed e_allowedSize e_kind e_base e_n e_want e_rules e_queued e_goal e_length) (kQi D cy (fun _ : Unit => gE cy qE e_queue e_from e_allowed e_allowedSize e_kind e_base e_n e_want e_rules e_queued e_goal e_length) res) := by
  refine kent_i (cc := cX7_figureAt) (maxL := 4) (by decide) rfl (Nat.le_of_ble_eq_true rfl) ?_
  intro p e0 s m ar below meth c A Q ls ⟨hx, hb, hml, hr, hts, hown, hlocks, hnm⟩ hA hK hN hQ hP hD hS hl
  have hl : lv_has ls 4 [(0, .ref (qE 0)), (1, .int a1)] := hl
  have hown : s.vm.findClass RX7 = some m.cls := hown
  have huX7 : ∀ x ∈ u_ws RX7 TX7 12, x ∈ wsX7_figureAt := by decide +kernel
  have fk16 : (Cond.fieldLink RX7 16 "FigurePlay$Search" "from" "[I").before ar s = true := hts _ (by decide +kernel)
  have fk47 : (Cond.fieldLink RX7 47 "FigurePlay$Search" "length" "I").before ar s = true := hts _ (by decide +kernel)
  have fk44 : (Cond.fieldLink RX7 44 "FigurePlay$Search" "goal" "I").before ar s = true := hts _ (by decide +kernel)
  unfold f_X7_figureAt at hf
  have hL47 : ∀ (k : Nat) (x : Int32 × Int32) (ex : Int32) (H : Heap) (locs : List Loc) (ls : Array Slot), lp (f_X7_figureAt_B47 F a1 e_from) k x = some ex → (∀ (H : Heap) (locs : List Loc) (ls : Array Slot), va_P D vwCl (gE cy qE e_queue e_from e_allowed e_allowedSize e_kind e_base e_n e_want e_rules e_queued e_goal e_length) H → va_D A (gE cy qE e_queue e_from e_allowed e_allowedSize e_kind e_base e_n e_want e_rules e_queued e_goal e_length) → va_S A s.heap H locs → lv_has ls 4 [(0, .ref (qE 0)), (2, .int ex)] → W p l e0 rmX7_figureAt s m ar below meth c H locs 0 0 Q (F0 m 68 ls [])) → va_P D vwCl (gE cy qE e_queue e_from e_allowed e_allowedSize e_kind e_base e_n e_want e_rules e_queued e_goal e_length) H → va_D A (gE cy qE e_queue e_from e_allowed e_allowedSize e_kind e_base e_n e_want e_rules e_queued e_goal e_length) → va_S A s.heap H locs → lv_has ls 4 [(0, .ref (qE 0)), (1, .int a1), (2, .int x.1), (3, .int x.2)] → W p l e0 rmX7_figureAt s m ar below meth c H locs 0 0 Q (F0 m 47 ls []) := by
    intro k
    induction k with
    | zero => intro x ex H locs ls hf; exact no_some hf
    | succ k ih =>
      intro x ex H locs ls hf hex hP hD hS hl
      have hf : f_X7_figureAt_B47 F a1 e_from (lp (f_X7_figureAt_B47 F a1 e_from) k) x = some ex := hf
      unfold f_X7_figureAt_B47 at hf
      refine lv_iload_n hx hb dX7_figureAt_47 rfl (lv_at hl 3 rfl) ?_
      refine lv_iload_n hx hb dX7_figureAt_48 rfl (lv_at hl 1 rfl) ?_
      refine lv_icmp_le (tgt := 68) hx hb dX7_figureAt_49 (by decide) (fun c1 => ?_) (fun c1 => ?_)
      · have hf := if_t hf c1
        obtain rfl := Option.some.inj hf
        exact hex _ _ _ hP hD hS (lv_sub hl [0, 2] rfl)
      · have hf := if_f hf c1
        refine lv_aload_n hx hb dX7_figureAt_52 rfl (lv_at hl 0 rfl) ?_
        refine va_get (v := .ref (qE 2)) (D := D) (ci := 7) (C := RX7) (T := TX7) (N := 12) hx hb hts huX7 hown hK hP 0 rfl rfl 1 (by decide) fk16 (fun _ h9 => h9) rfl dX7_figureAt_53 ?_
        refine lv_iload_n hx hb dX7_figureAt_56 rfl (lv_at hl 2 rfl) ?_
        obtain ⟨c2, hf⟩ := ck_some hf
        refine va_iald hx hb hK hP 2 0 rfl rfl c2 dX7_figureAt_57 ?_
        refine lv_bipush (v := (16 : Int32)) hx hb dX7_figureAt_58 (by decide) ?_
        obtain ⟨c3, hf⟩ := ck_some hf
        refine lv_idiv hx hb dX7_figureAt_60 c3 ?_
        refine lv_istore_n (lv' := [(2, .int ((e_from x.1.toNatClampNeg) / (16 : Int32))), (0, .ref (qE 0)), (1, .int a1), (3, .int x.2)]) hx hb dX7_figureAt_61 rfl hl (by decide) rfl (fun ls hl => ?_)
        refine lv_iinc (v := (x.2 + (-1 : Int32))) (lv' := [(3, .int (x.2 + (-1 : Int32))), (2, .int ((e_from x.1.toNatClampNeg) / (16 : Int32))), (0, .ref (qE 0)), (1, .int a1)]) hx hb dX7_figureAt_62 hl (k := 3) rfl rfl (by decide) rfl (fun ls hl => ?_)
        refine lv_goto (tgt := 47) hx hb dX7_figureAt_65 (by decide) ?_
        exact ih (((e_from x.1.toNatClampNeg) / (16 : Int32)), (x.2 + (-1 : Int32))) ex _ _ _ hf hex hP hD hS (lv_sub hl [2, 3, 1, 0] rfl)
  have hJ32 : ∀ (H : Heap) (locs : List Loc) (ls : Array Slot), f_X7_figureAt_J32 F = some res → va_P D vwCl (gE cy qE e_queue e_from e_allowed e_allowedSize e_kind e_base e_n e_want e_rules e_queued e_goal e_length) H → va_D A (gE cy qE e_queue e_from e_allowed e_allowedSize e_kind e_base e_n e_want e_rules e_queued e_goal e_length) → va_S A s.heap H locs → lv_has ls 4 [] → W p l e0 rmX7_figureAt s m ar below meth c H locs 0 0 Q (F0 m 32 ls []) := by
    intro H locs ls hf hP hD hS hl
    unfold f_X7_figureAt_J32 at hf
    refine lv_bipush (v := (-4 : Int32)) hx hb dX7_figureAt_32 (by decide) ?_
    obtain rfl := Option.some.inj hf
    exact hQ () 34 _ _ _ dX7_figureAt_34 hP hD hS
  refine lv_aload_n hx hb dX7_figureAt_0 rfl (lv_at hl 0 rfl) ?_
  refine va_get (D := D) (ci := 7) (C := RX7) (T := TX7) (N := 12) hx hb hts huX7 hown hK hP 0 rfl rfl 11 (by decide) fk47 (fun _ h9 => h9) rfl dX7_figureAt_1 ?_
  refine lv_if_ne (tgt := 10) hx hb dX7_figureAt_4 (by decide) (fun c4 => ?_) (fun c4 => ?_)
  · have hf := if_f hf c4
    refine lv_iload_n hx hb dX7_figureAt_10 rfl (lv_at hl 1 rfl) ?_
    refine lv_iconst (v := (-1 : Int32)) hx hb dX7_figureAt_11 (by decide) ?_
    refine lv_icmp_ne (tgt := 20) hx hb dX7_figureAt_12 (by decide) (fun c5 => ?_) (fun c5 => ?_)
    · have hf := if_f hf c5
      refine lv_iload_n hx hb dX7_figureAt_20 rfl (lv_at hl 1 rfl) ?_
      refine lv_if_lt (tgt := 32) hx hb dX7_figureAt_21 (by decide) (fun c6 => ?_) (fun c6 => ?_)
      · have hf := if_t hf c6
        exact hJ32 _ _ _ hf hP hD hS (lv_sub hl [] rfl)
      · have hf := if_f hf c6
        refine lv_iload_n hx hb dX7_figureAt_24 rfl (lv_at hl 1 rfl) ?_
        refine lv_aload_n hx hb dX7_figureAt_25 rfl (lv_at hl 0 rfl) ?_
        refine va_get (D := D) (ci := 7) (C := RX7) (T := TX7) (N := 12) hx hb hts huX7 hown hK hP 0 rfl rfl 11 (by decide) fk47 (fun _ h9 => h9) rfl dX7_figureAt_26 ?_
        refine lv_icmp_lt (tgt := 35) hx hb dX7_figureAt_29 (by decide) (fun c7 => ?_) (fun c7 => ?_)
        · have hf := if_t hf c7
          refine lv_aload_n hx hb dX7_figureAt_35 rfl (lv_at hl 0 rfl) ?_
          refine va_get (D := D) (ci := 7) (C := RX7) (T := TX7) (N := 12) hx hb hts huX7 hown hK hP 0 rfl rfl 10 (by decide) fk44 (fun _ h9 => h9) rfl dX7_figureAt_36 ?_
          refine lv_istore_n (lv' := [(2, .int e_goal), (0, .ref (qE 0)), (1, .int a1)]) hx hb dX7_figureAt_39 rfl hl (by decide) rfl (fun ls hl => ?_)
          refine lv_aload_n hx hb dX7_figureAt_40 rfl (lv_at hl 1 rfl) ?_
          refine va_get (D := D) (ci := 7) (C := RX7) (T := TX7) (N := 12) hx hb hts huX7 hown hK hP 0 rfl rfl 11 (by decide) fk47 (fun _ h9 => h9) rfl dX7_figureAt_41 ?_
          refine lv_iconst (v := (1 : Int32)) hx hb dX7_figureAt_44 (by decide) ?_
          refine lv_isub hx hb dX7_figureAt_45 ?_
          refine lv_istore_n (lv' := [(3, .int (e_length - (1 : Int32))), (2, .int e_goal), (0, .ref (qE 0)), (1, .int a1)]) hx hb dX7_figureAt_46 rfl hl (by decide) rfl (fun ls hl => ?_)
          obtain ⟨ex8, hcl, hf⟩ := ob_some hf
          refine hL47 F (e_goal, (e_length - (1 : Int32))) ex8 _ _ _ hcl (fun H locs ls hP hD hS hl => ?_) hP hD hS (lv_sub hl [2, 3, 1, 0] rfl)
          refine lv_aload_n hx hb dX7_figureAt_68 rfl (lv_at hl 0 rfl) ?_
          refine va_get (v := .ref (qE 2)) (D := D) (ci := 7) (C := RX7) (T := TX7) (N := 12) hx hb hts huX7 hown hK hP 0 rfl rfl 1 (by decide) fk16 (fun _ h9 => h9) rfl dX7_figureAt_69 ?_
          refine lv_iload_n hx hb dX7_figureAt_72 rfl (lv_at hl 1 rfl) ?_
          obtain ⟨c9, hf⟩ := ck_some hf
          refine va_iald hx hb hK hP 2 0 rfl rfl c9 dX7_figureAt_73 ?_
          refine lv_bipush (v := (16 : Int32)) hx hb dX7_figureAt_74 (by decide) ?_
          obtain ⟨c10, hf⟩ := ck_some hf
          refine lv_irem hx hb dX7_figureAt_76 c10 ?_
          obtain rfl := Option.some.inj hf
          exact hQ () 77 _ _ _ dX7_figureAt_77 hP hD hS
        · have hf := if_f hf c7
          exact hJ32 _ _ _ hf hP hD hS (lv_sub hl [] rfl)
    · have hf := if_t hf c5
      refine lv_aload_n hx hb dX7_figureAt_15 rfl (lv_at hl 0 rfl) ?_
      refine va_get (D := D) (ci := 7) (C := RX7) (T := TX7) (N := 12) hx hb hts huX7 hown hK hP 0 rfl rfl 11 (by decide) fk47 (fun _ h9 => h9) rfl dX7_figureAt_16 ?_
      obtain rfl := Option.some.inj hf
      exact hQ () 19 _ _ _ dX7_figureAt_19 hP hD hS
  · have hf := if_t hf c4
    refine lv_bipush (v := (-4 : Int32)) hx hb dX7_figureAt_7 (by decide) ?_
    obtain rfl := Option.some.inj hf
    exact hQ () 9 _ _ _ dX7_figureAt_9 hP hD hS
