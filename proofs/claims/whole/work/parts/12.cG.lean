/-! the class: functions and contracts -/
def f_X10_countOrNone_J11 (F : Nat) (s0 : Int32) : Option (Int32) := some s0
def f_X10_countOrNone (F : Nat) (a0 : Int32) (a1 : Int32) : Option (Int32) := if a0 = (-1 : Int32) then (f_X10_countOrNone_J11 F a1) else (f_X10_countOrNone_J11 F (-4 : Int32))
abbrev rmX10_countOrNone : Room := { frames := 0, cells := 0, slots := 0, locals := 0 }
set_option maxHeartbeats 1000000 in
set_option maxRecDepth 100000 in
theorem c_X10_countOrNone {l : Launch} {D : va_G} {cy : Nat → ClassId} {a0 : Int32} {a1 : Int32} {F : Nat} {res : Int32} (hf : f_X10_countOrNone F a0 a1 = some res) : kM l yX10_countOrNone wsX10_countOrNone rmX10_countOrNone D cy [.int a0, .int a1] ([]) (kQi D cy (fun _ : Unit => []) res) := by
  refine kent_i (cc := cX10_countOrNone) (maxL := 2) (by decide) rfl (Nat.le_of_ble_eq_true rfl) ?_
  intro p e0 s m ar below meth c A Q ls ⟨hx, hb, hml, hr, hts, hown, hlocks, hnm⟩ hA hK hN hQ hP hD hS hl
  have hl : lv_has ls 2 [(0, .int a0), (1, .int a1)] := hl
  have hown : s.vm.findClass RX10 = some m.cls := hown
  unfold f_X10_countOrNone at hf
  have hJ11 : ∀ (s0 : Int32) (H : Heap) (locs : List Loc) (ls : Array Slot), f_X10_countOrNone_J11 F s0 = some res → va_P D vwCl ([]) H → va_D A ([]) → va_S A s.heap H locs → lv_has ls 2 [] → W p l e0 rmX10_countOrNone s m ar below meth c H locs 0 0 Q (F0 m 11 ls [.int s0]) := by
    intro s0 H locs ls hf hP hD hS hl
    unfold f_X10_countOrNone_J11 at hf
    obtain rfl := Option.some.inj hf
    exact hQ () 11 _ _ _ dX10_countOrNone_11 hP hD hS
  refine lv_iload_n hx hb dX10_countOrNone_0 rfl (lv_at hl 0 rfl) ?_
  refine lv_iconst (v := (-1 : Int32)) hx hb dX10_countOrNone_1 (by decide) ?_
  refine lv_icmp_ne (tgt := 9) hx hb dX10_countOrNone_2 (by decide) (fun c1 => ?_) (fun c1 => ?_)
  · have hf := if_f hf c1
    refine lv_bipush (v := (-4 : Int32)) hx hb dX10_countOrNone_9 (by decide) ?_
    exact hJ11 (-4 : Int32) _ _ _ hf hP hD hS (lv_sub hl [] rfl)
  · have hf := if_t hf c1
    refine lv_iload_n hx hb dX10_countOrNone_5 rfl (lv_at hl 1 rfl) ?_
    refine lv_goto (tgt := 11) hx hb dX10_countOrNone_6 (by decide) ?_
    exact hJ11 a1 _ _ _ hf hP hD hS (lv_sub hl [] rfl)
def f_X1_setBase_J23 (F : Nat) (g_base : Int32) (g_version : Int32) : Option (Int32 × Int32) := some (g_base, g_version)
def f_X1_setBase (F : Nat) (a1 : Int32) (g_base : Int32) (g_version : Int32) : Option (Int32 × Int32) := if g_base = a1 then (f_X1_setBase_J23 F g_base g_version) else (f_X1_setBase_J23 F a1 (g_version + (1 : Int32)))
abbrev rmX1_setBase : Room := { frames := 0, cells := 0, slots := 0, locals := 0 }
set_option maxHeartbeats 1000000 in
set_option maxRecDepth 100000 in
theorem c_X1_setBase {l : Launch} {D : va_G} {cy : Nat → ClassId} {qG : Nat → Nat} {g_base : Int32} {g_worth : Nat → Int32} {g_row : Nat → Int32} {g_many : Nat → Int32} {g_version : Int32} {a1 : Int32} {F : Nat} {res : Int32 × Int32} (hf : f_X1_setBase F a1 g_base g_version = some res) : kM l yX1_setBase wsX1_setBase rmX1_setBase D cy [.ref (qG 0), .int a1] (gG cy qG g_base g_worth g_row g_many g_version) (kQv D cy (fun _ : Unit => gG cy qG res.1 g_worth g_row g_many res.2)) := by
  refine kent_v (cc := cX1_setBase) (maxL := 2) (by decide) rfl (Nat.le_of_ble_eq_true rfl) ?_
  intro p e0 s m ar below meth c A Q ls ⟨hx, hb, hml, hr, hts, hown, hlocks, hnm⟩ hA hK hN hQ hP hD hS hl
  have hl : lv_has ls 2 [(0, .ref (qG 0)), (1, .int a1)] := hl
  have hown : s.vm.findClass RX1 = some m.cls := hown
  have huX1 : ∀ x ∈ u_ws RX1 TX1 5, x ∈ wsX1_setBase := by decide +kernel
  have fk9 : (Cond.fieldLink RX1 9 "FigurePlay$Figures" "base" "I").before ar s = true := hts _ (by decide +kernel)
  have fk25 : (Cond.fieldLink RX1 25 "FigurePlay$Figures" "version" "I").before ar s = true := hts _ (by decide +kernel)
  unfold f_X1_setBase at hf
  have hJ23 : ∀ (g_base : Int32) (g_version : Int32) (H : Heap) (locs : List Loc) (ls : Array Slot), f_X1_setBase_J23 F g_base g_version = some res → va_P D vwCl (gG cy qG g_base g_worth g_row g_many g_version) H → va_D A (gG cy qG g_base g_worth g_row g_many g_version) → va_S A s.heap H locs → lv_has ls 2 [] → W p l e0 rmX1_setBase s m ar below meth c H locs 0 0 Q (F0 m 23 ls []) := by
    intro g_base g_version H locs ls hf hP hD hS hl
    unfold f_X1_setBase_J23 at hf
    obtain rfl := Option.some.inj hf
    exact hQ () 23 _ _ _ dX1_setBase_23 hP hD hS
  refine lv_aload_n hx hb dX1_setBase_0 rfl (lv_at hl 0 rfl) ?_
  refine va_get (D := D) (ci := 1) (C := RX1) (T := TX1) (N := 5) hx hb hts huX1 hown hK hP 0 rfl rfl 0 (by decide) fk9 (fun _ h9 => h9) rfl dX1_setBase_1 ?_
  refine lv_iload_n hx hb dX1_setBase_4 rfl (lv_at hl 1 rfl) ?_
  refine lv_icmp_eq (tgt := 23) hx hb dX1_setBase_5 (by decide) (fun c1 => ?_) (fun c1 => ?_)
  · have hf := if_t hf c1
    exact hJ23 g_base g_version _ _ _ hf hP hD hS (lv_sub hl [] rfl)
  · have hf := if_f hf c1
    refine lv_aload_n hx hb dX1_setBase_8 rfl (lv_at hl 0 rfl) ?_
    refine lv_iload_n hx hb dX1_setBase_9 rfl (lv_at hl 1 rfl) ?_
    refine va_put (D := D) (ci := 1) (v := .int a1) (ty := .int) (C := RX1) (T := TX1) (N := 5) hx hb hts huX1 tyX1 tyX1_ok nmX1 hown hK hP hD hS 0 rfl rfl 0 (by decide) fk9 (fun _ h9 => h9) rfl (tyX1_ok 0 (by decide)) rfl rfl (Nat.le_of_ble_eq_true rfl) dX1_setBase_10 (fun H locs hP hD hS => ?_)
    have hP : va_P D vwCl (gG cy qG a1 g_worth g_row g_many g_version) H := hP
    have hD : va_D A (gG cy qG a1 g_worth g_row g_many g_version) := hD
    refine lv_aload_n hx hb dX1_setBase_13 rfl (lv_at hl 0 rfl) ?_
    refine lv_dup hx hb dX1_setBase_14 rfl ?_
    refine va_get (D := D) (ci := 1) (C := RX1) (T := TX1) (N := 5) hx hb hts huX1 hown hK hP 0 rfl rfl 4 (by decide) fk25 (fun _ h9 => h9) rfl dX1_setBase_15 ?_
    refine lv_iconst (v := (1 : Int32)) hx hb dX1_setBase_18 (by decide) ?_
    refine lv_iadd hx hb dX1_setBase_19 ?_
    refine va_put (D := D) (ci := 1) (v := .int (g_version + (1 : Int32))) (ty := .int) (C := RX1) (T := TX1) (N := 5) hx hb hts huX1 tyX1 tyX1_ok nmX1 hown hK hP hD hS 0 rfl rfl 4 (by decide) fk25 (fun _ h9 => h9) rfl (tyX1_ok 4 (by decide)) rfl rfl (Nat.le_of_ble_eq_true rfl) dX1_setBase_20 (fun H locs hP hD hS => ?_)
    have hP : va_P D vwCl (gG cy qG a1 g_worth g_row g_many (g_version + (1 : Int32))) H := hP
    have hD : va_D A (gG cy qG a1 g_worth g_row g_many (g_version + (1 : Int32))) := hD
    exact hJ23 a1 (g_version + (1 : Int32)) _ _ _ hf hP hD hS (lv_sub hl [] rfl)
def f_X1_setWorth_J40 (F : Nat) (g_worth : Nat → Int32) (g_version : Int32) : Option ((Nat → Int32) × Int32) := some (g_worth, g_version)
def f_X1_setWorth (F : Nat) (a1 : Int32) (a2 : Int32) (g_worth : Nat → Int32) (g_version : Int32) : Option ((Nat → Int32) × Int32) := if a1 < 0 then (f_X1_setWorth_J40 F g_worth g_version) else (if (16 : Int32) ≤ a1 then (f_X1_setWorth_J40 F g_worth g_version) else (ck (¬ (a1 < 0 ∨ 16 ≤ a1.toNatClampNeg)) (if (g_worth a1.toNatClampNeg) = a2 then (f_X1_setWorth_J40 F g_worth g_version) else (ck (¬ (a1 < 0 ∨ 16 ≤ a1.toNatClampNeg)) (f_X1_setWorth_J40 F (upd g_worth a1.toNatClampNeg a2) (g_version + (1 : Int32)))))))
abbrev rmX1_setWorth : Room := { frames := 0, cells := 0, slots := 0, locals := 0 }
set_option maxHeartbeats 1000000 in
set_option maxRecDepth 100000 in
theorem c_X1_setWorth {l : Launch} {D : va_G} {cy : Nat → ClassId} {qG : Nat → Nat} {g_base : Int32} {g_worth : Nat → Int32} {g_row : Nat → Int32} {g_many : Nat → Int32} {g_version : Int32} {a1 : Int32} {a2 : Int32} {F : Nat} {res : (Nat → Int32) × Int32} (hf : f_X1_setWorth F a1 a2 g_worth g_version = some res) : kM l yX1_setWorth wsX1_setWorth rmX1_setWorth D cy [.ref (qG 0), .int a1, .int a2] (gG cy qG g_base g_worth g_row g_many g_version) (kQv D cy (fun _ : Unit => gG cy qG g_base res.1 g_row g_many res.2)) := by
  refine kent_v (cc := cX1_setWorth) (maxL := 3) (by decide) rfl (Nat.le_of_ble_eq_true rfl) ?_
  intro p e0 s m ar below meth c A Q ls ⟨hx, hb, hml, hr, hts, hown, hlocks, hnm⟩ hA hK hN hQ hP hD hS hl
  have hl : lv_has ls 3 [(0, .ref (qG 0)), (1, .int a1), (2, .int a2)] := hl
  have hown : s.vm.findClass RX1 = some m.cls := hown
  have huX1 : ∀ x ∈ u_ws RX1 TX1 5, x ∈ wsX1_setWorth := by decide +kernel
  have fk15 : (Cond.fieldLink RX1 15 "FigurePlay$Figures" "worth" "[I").before ar s = true := hts _ (by decide +kernel)
  have fk25 : (Cond.fieldLink RX1 25 "FigurePlay$Figures" "version" "I").before ar s = true := hts _ (by decide +kernel)
  unfold f_X1_setWorth at hf
  have hJ40 : ∀ (g_worth : Nat → Int32) (g_version : Int32) (H : Heap) (locs : List Loc) (ls : Array Slot), f_X1_setWorth_J40 F g_worth g_version = some res → va_P D vwCl (gG cy qG g_base g_worth g_row g_many g_version) H → va_D A (gG cy qG g_base g_worth g_row g_many g_version) → va_S A s.heap H locs → lv_has ls 3 [] → W p l e0 rmX1_setWorth s m ar below meth c H locs 0 0 Q (F0 m 40 ls []) := by
    intro g_worth g_version H locs ls hf hP hD hS hl
    unfold f_X1_setWorth_J40 at hf
    obtain rfl := Option.some.inj hf
    exact hQ () 40 _ _ _ dX1_setWorth_40 hP hD hS
  refine lv_iload_n hx hb dX1_setWorth_0 rfl (lv_at hl 1 rfl) ?_
  refine lv_if_lt (tgt := 40) hx hb dX1_setWorth_1 (by decide) (fun c1 => ?_) (fun c1 => ?_)
  · have hf := if_t hf c1
    exact hJ40 g_worth g_version _ _ _ hf hP hD hS (lv_sub hl [] rfl)
  · have hf := if_f hf c1
    refine lv_iload_n hx hb dX1_setWorth_4 rfl (lv_at hl 1 rfl) ?_
    refine lv_aload_n hx hb dX1_setWorth_5 rfl (lv_at hl 0 rfl) ?_
    refine va_get (v := .ref (qG 1)) (D := D) (ci := 1) (C := RX1) (T := TX1) (N := 5) hx hb hts huX1 hown hK hP 0 rfl rfl 1 (by decide) fk15 (fun _ h9 => h9) rfl dX1_setWorth_6 ?_
    refine va_alen (v := (16 : Int32)) hx hb hK hP 1 0 rfl rfl rfl dX1_setWorth_9 ?_
    refine lv_icmp_ge (tgt := 40) hx hb dX1_setWorth_10 (by decide) (fun c2 => ?_) (fun c2 => ?_)
    · have hf := if_t hf c2
      exact hJ40 g_worth g_version _ _ _ hf hP hD hS (lv_sub hl [] rfl)
    · have hf := if_f hf c2
      refine lv_aload_n hx hb dX1_setWorth_13 rfl (lv_at hl 0 rfl) ?_
      refine va_get (v := .ref (qG 1)) (D := D) (ci := 1) (C := RX1) (T := TX1) (N := 5) hx hb hts huX1 hown hK hP 0 rfl rfl 1 (by decide) fk15 (fun _ h9 => h9) rfl dX1_setWorth_14 ?_
      refine lv_iload_n hx hb dX1_setWorth_17 rfl (lv_at hl 1 rfl) ?_
      obtain ⟨c3, hf⟩ := ck_some hf
      refine va_iald hx hb hK hP 1 0 rfl rfl c3 dX1_setWorth_18 ?_
      refine lv_iload_n hx hb dX1_setWorth_19 rfl (lv_at hl 2 rfl) ?_
      refine lv_icmp_eq (tgt := 40) hx hb dX1_setWorth_20 (by decide) (fun c4 => ?_) (fun c4 => ?_)
      · have hf := if_t hf c4
        exact hJ40 g_worth g_version _ _ _ hf hP hD hS (lv_sub hl [] rfl)
      · have hf := if_f hf c4
        refine lv_aload_n hx hb dX1_setWorth_23 rfl (lv_at hl 0 rfl) ?_
        refine va_get (v := .ref (qG 1)) (D := D) (ci := 1) (C := RX1) (T := TX1) (N := 5) hx hb hts huX1 hown hK hP 0 rfl rfl 1 (by decide) fk15 (fun _ h9 => h9) rfl dX1_setWorth_24 ?_
        refine lv_iload_n hx hb dX1_setWorth_27 rfl (lv_at hl 1 rfl) ?_
        refine lv_iload_n hx hb dX1_setWorth_28 rfl (lv_at hl 2 rfl) ?_
        obtain ⟨c5, hf⟩ := ck_some hf
        refine va_iast hx hb hK hP hD hS 1 0 rfl rfl c5 dX1_setWorth_29 (fun H locs hP hD hS => ?_)
        have hP : va_P D vwCl (gG cy qG g_base (upd g_worth a1.toNatClampNeg a2) g_row g_many g_version) H := hP
        have hD : va_D A (gG cy qG g_base (upd g_worth a1.toNatClampNeg a2) g_row g_many g_version) := hD
        refine lv_aload_n hx hb dX1_setWorth_30 rfl (lv_at hl 0 rfl) ?_
        refine lv_dup hx hb dX1_setWorth_31 rfl ?_
        refine va_get (D := D) (ci := 1) (C := RX1) (T := TX1) (N := 5) hx hb hts huX1 hown hK hP 0 rfl rfl 4 (by decide) fk25 (fun _ h9 => h9) rfl dX1_setWorth_32 ?_
        refine lv_iconst (v := (1 : Int32)) hx hb dX1_setWorth_35 (by decide) ?_
        refine lv_iadd hx hb dX1_setWorth_36 ?_
        refine va_put (D := D) (ci := 1) (v := .int (g_version + (1 : Int32))) (ty := .int) (C := RX1) (T := TX1) (N := 5) hx hb hts huX1 tyX1 tyX1_ok nmX1 hown hK hP hD hS 0 rfl rfl 4 (by decide) fk25 (fun _ h9 => h9) rfl (tyX1_ok 4 (by decide)) rfl rfl (Nat.le_of_ble_eq_true rfl) dX1_setWorth_37 (fun H locs hP hD hS => ?_)
        have hP : va_P D vwCl (gG cy qG g_base (upd g_worth a1.toNatClampNeg a2) g_row g_many (g_version + (1 : Int32))) H := hP
        have hD : va_D A (gG cy qG g_base (upd g_worth a1.toNatClampNeg a2) g_row g_many (g_version + (1 : Int32))) := hD
        exact hJ40 (upd g_worth a1.toNatClampNeg a2) (g_version + (1 : Int32)) _ _ _ hf hP hD hS (lv_sub hl [] rfl)
def f_X1_worthOfAll_B4 (F : Nat) (g_worth : Nat → Int32) (rec : Int32 × Int32 → Option (Int32)) (x : Int32 × Int32) : Option (Int32) := if (16 : Int32) ≤ x.2 then (some x.1) else (ck (¬ (x.2 < 0 ∨ 16 ≤ x.2.toNatClampNeg)) (rec ((x.1 + (g_worth x.2.toNatClampNeg)), (x.2 + (1 : Int32)))))
def f_X1_worthOfAll (F : Nat) (g_worth : Nat → Int32) : Option (Int32) := (lp (f_X1_worthOfAll_B4 F g_worth) F ((0 : Int32), (0 : Int32))).bind (fun ex3 => some ex3)
abbrev rmX1_worthOfAll : Room := { frames := 0, cells := 0, slots := 0, locals := 0 }
set_option maxHeartbeats 1000000 in
set_option maxRecDepth 100000 in
theorem c_X1_worthOfAll {l : Launch} {D : va_G} {cy : Nat → ClassId} {qG : Nat → Nat} {g_base : Int32} {g_worth : Nat → Int32} {g_row : Nat → Int32} {g_many : Nat → Int32} {g_version : Int32} {F : Nat} {res : Int32} (hf : f_X1_worthOfAll F g_worth = some res) : kM l yX1_worthOfAll wsX1_worthOfAll rmX1_worthOfAll D cy [.ref (qG 0)] (gG cy qG g_base g_worth g_row g_many g_version) (kQi D cy (fun _ : Unit => gG cy qG g_base g_worth g_row g_many g_version) res) := by
  refine kent_i (cc := cX1_worthOfAll) (maxL := 3) (by decide) rfl (Nat.le_of_ble_eq_true rfl) ?_
  intro p e0 s m ar below meth c A Q ls ⟨hx, hb, hml, hr, hts, hown, hlocks, hnm⟩ hA hK hN hQ hP hD hS hl
  have hl : lv_has ls 3 [(0, .ref (qG 0))] := hl
  have hown : s.vm.findClass RX1 = some m.cls := hown
  have huX1 : ∀ x ∈ u_ws RX1 TX1 5, x ∈ wsX1_worthOfAll := by decide +kernel
  have fk15 : (Cond.fieldLink RX1 15 "FigurePlay$Figures" "worth" "[I").before ar s = true := hts _ (by decide +kernel)
  unfold f_X1_worthOfAll at hf
  have hL4 : ∀ (k : Nat) (x : Int32 × Int32) (ex : Int32) (H : Heap) (locs : List Loc) (ls : Array Slot), lp (f_X1_worthOfAll_B4 F g_worth) k x = some ex → (∀ (H : Heap) (locs : List Loc) (ls : Array Slot), va_P D vwCl (gG cy qG g_base g_worth g_row g_many g_version) H → va_D A (gG cy qG g_base g_worth g_row g_many g_version) → va_S A s.heap H locs → lv_has ls 3 [(1, .int ex)] → W p l e0 rmX1_worthOfAll s m ar below meth c H locs 0 0 Q (F0 m 28 ls [])) → va_P D vwCl (gG cy qG g_base g_worth g_row g_many g_version) H → va_D A (gG cy qG g_base g_worth g_row g_many g_version) → va_S A s.heap H locs → lv_has ls 3 [(0, .ref (qG 0)), (1, .int x.1), (2, .int x.2)] → W p l e0 rmX1_worthOfAll s m ar below meth c H locs 0 0 Q (F0 m 4 ls []) := by
    intro k
    induction k with
    | zero => intro x ex H locs ls hf; exact no_some hf
    | succ k ih =>
      intro x ex H locs ls hf hex hP hD hS hl
      have hf : f_X1_worthOfAll_B4 F g_worth (lp (f_X1_worthOfAll_B4 F g_worth) k) x = some ex := hf
      unfold f_X1_worthOfAll_B4 at hf
      refine lv_iload_n hx hb dX1_worthOfAll_4 rfl (lv_at hl 2 rfl) ?_
      refine lv_aload_n hx hb dX1_worthOfAll_5 rfl (lv_at hl 0 rfl) ?_
      refine va_get (v := .ref (qG 1)) (D := D) (ci := 1) (C := RX1) (T := TX1) (N := 5) hx hb hts huX1 hown hK hP 0 rfl rfl 1 (by decide) fk15 (fun _ h9 => h9) rfl dX1_worthOfAll_6 ?_
      refine va_alen (v := (16 : Int32)) hx hb hK hP 1 0 rfl rfl rfl dX1_worthOfAll_9 ?_
      refine lv_icmp_ge (tgt := 28) hx hb dX1_worthOfAll_10 (by decide) (fun c1 => ?_) (fun c1 => ?_)
      · have hf := if_t hf c1
        obtain rfl := Option.some.inj hf
        exact hex _ _ _ hP hD hS (lv_sub hl [1] rfl)
      · have hf := if_f hf c1
        refine lv_iload_n hx hb dX1_worthOfAll_13 rfl (lv_at hl 1 rfl) ?_
        refine lv_aload_n hx hb dX1_worthOfAll_14 rfl (lv_at hl 0 rfl) ?_
        refine va_get (v := .ref (qG 1)) (D := D) (ci := 1) (C := RX1) (T := TX1) (N := 5) hx hb hts huX1 hown hK hP 0 rfl rfl 1 (by decide) fk15 (fun _ h9 => h9) rfl dX1_worthOfAll_15 ?_
        refine lv_iload_n hx hb dX1_worthOfAll_18 rfl (lv_at hl 2 rfl) ?_
        obtain ⟨c2, hf⟩ := ck_some hf
        refine va_iald hx hb hK hP 1 0 rfl rfl c2 dX1_worthOfAll_19 ?_
        refine lv_iadd hx hb dX1_worthOfAll_20 ?_
        refine lv_istore_n (lv' := [(1, .int (x.1 + (g_worth x.2.toNatClampNeg))), (0, .ref (qG 0)), (2, .int x.2)]) hx hb dX1_worthOfAll_21 rfl hl (by decide) rfl (fun ls hl => ?_)
        refine lv_iinc (v := (x.2 + (1 : Int32))) (lv' := [(2, .int (x.2 + (1 : Int32))), (1, .int (x.1 + (g_worth x.2.toNatClampNeg))), (0, .ref (qG 0))]) hx hb dX1_worthOfAll_22 hl (k := 2) rfl rfl (by decide) rfl (fun ls hl => ?_)
        refine lv_goto (tgt := 4) hx hb dX1_worthOfAll_25 (by decide) ?_
        exact ih ((x.1 + (g_worth x.2.toNatClampNeg)), (x.2 + (1 : Int32))) ex _ _ _ hf hex hP hD hS (lv_sub hl [2, 1, 0] rfl)
  refine lv_iconst (v := (0 : Int32)) hx hb dX1_worthOfAll_0 (by decide) ?_
  refine lv_istore_n (lv' := [(1, .int (0 : Int32)), (0, .ref (qG 0))]) hx hb dX1_worthOfAll_1 rfl hl (by decide) rfl (fun ls hl => ?_)
  refine lv_iconst (v := (0 : Int32)) hx hb dX1_worthOfAll_2 (by decide) ?_
  refine lv_istore_n (lv' := [(2, .int (0 : Int32)), (1, .int (0 : Int32)), (0, .ref (qG 0))]) hx hb dX1_worthOfAll_3 rfl hl (by decide) rfl (fun ls hl => ?_)
  obtain ⟨ex3, hcl, hf⟩ := ob_some hf
  refine hL4 F ((0 : Int32), (0 : Int32)) ex3 _ _ _ hcl (fun H locs ls hP hD hS hl => ?_) hP hD hS (lv_sub hl [2, 1, 0] rfl)
  refine lv_iload_n hx hb dX1_worthOfAll_28 rfl (lv_at hl 0 rfl) ?_
  obtain rfl := Option.some.inj hf
  exact hQ () 29 _ _ _ dX1_worthOfAll_29 hP hD hS
def f_X1_split_B5 (F : Nat) (g_base : Int32) (rec : Int32 × Int64 × (Nat → Int32) → Option (Int32 × (Nat → Int32))) (x : Int32 × Int64 × (Nat → Int32)) : Option (Int32 × (Nat → Int32)) := ck (¬ g_base.toInt64 = 0) (ck (¬ (x.1 < 0 ∨ 64 ≤ x.1.toNatClampNeg)) (ck (¬ g_base.toInt64 = 0) (if (x.2.1 / g_base.toInt64) ≤ (0 : Int64) then (some ((x.1 + (1 : Int32)), (upd x.2.2 x.1.toNatClampNeg (x.2.1 - x.2.1 / g_base.toInt64 * g_base.toInt64).toInt32))) else (if (x.1 + (1 : Int32)) < (64 : Int32) then (rec ((x.1 + (1 : Int32)), (x.2.1 / g_base.toInt64), (upd x.2.2 x.1.toNatClampNeg (x.2.1 - x.2.1 / g_base.toInt64 * g_base.toInt64).toInt32))) else (some ((x.1 + (1 : Int32)), (upd x.2.2 x.1.toNatClampNeg (x.2.1 - x.2.1 / g_base.toInt64 * g_base.toInt64).toInt32)))))))
def f_X1_split (F : Nat) (a1 : Int64) (g_base : Int32) (g_row : Nat → Int32) : Option (Int32 × (Nat → Int32)) := (lp (f_X1_split_B5 F g_base) F ((0 : Int32), a1, g_row)).bind (fun ex6 => some (ex6.1, ex6.2))
abbrev rmX1_split : Room := { frames := 0, cells := 0, slots := 0, locals := 0 }
set_option maxHeartbeats 1000000 in
set_option maxRecDepth 100000 in
theorem c_X1_split {l : Launch} {D : va_G} {cy : Nat → ClassId} {qG : Nat → Nat} {g_base : Int32} {g_worth : Nat → Int32} {g_row : Nat → Int32} {g_many : Nat → Int32} {g_version : Int32} {a1 : Int64} {F : Nat} {res : Int32 × (Nat → Int32)} (hf : f_X1_split F a1 g_base g_row = some res) : kM l yX1_split wsX1_split rmX1_split D cy [.ref (qG 0), .long a1] (gG cy qG g_base g_worth g_row g_many g_version) (kQi D cy (fun _ : Unit => gG cy qG g_base g_worth res.2 g_many g_version) res.1) := by
  refine kent_i (cc := cX1_split) (maxL := 6) (by decide) rfl (Nat.le_of_ble_eq_true rfl) ?_
  intro p e0 s m ar below meth c A Q ls ⟨hx, hb, hml, hr, hts, hown, hlocks, hnm⟩ hA hK hN hQ hP hD hS hl
  have hl : lv_has ls 6 [(0, .ref (qG 0)), (1, .long a1)] := hl
  have hown : s.vm.findClass RX1 = some m.cls := hown
  have huX1 : ∀ x ∈ u_ws RX1 TX1 5, x ∈ wsX1_split := by decide +kernel
  have fk19 : (Cond.fieldLink RX1 19 "FigurePlay$Figures" "row" "[I").before ar s = true := hts _ (by decide +kernel)
  have fk9 : (Cond.fieldLink RX1 9 "FigurePlay$Figures" "base" "I").before ar s = true := hts _ (by decide +kernel)
  unfold f_X1_split at hf
  have hL5 : ∀ (k : Nat) (x : Int32 × Int64 × (Nat → Int32)) (ex : Int32 × (Nat → Int32)) (H : Heap) (locs : List Loc) (ls : Array Slot), lp (f_X1_split_B5 F g_base) k x = some ex → (∀ (H : Heap) (locs : List Loc) (ls : Array Slot), va_P D vwCl (gG cy qG g_base g_worth ex.2 g_many g_version) H → va_D A (gG cy qG g_base g_worth ex.2 g_many g_version) → va_S A s.heap H locs → lv_has ls 6 [(3, .int ex.1)] → W p l e0 rmX1_split s m ar below meth c H locs 0 0 Q (F0 m 49 ls [])) → va_P D vwCl (gG cy qG g_base g_worth x.2.2 g_many g_version) H → va_D A (gG cy qG g_base g_worth x.2.2 g_many g_version) → va_S A s.heap H locs → lv_has ls 6 [(0, .ref (qG 0)), (3, .int x.1), (4, .long x.2.1)] → W p l e0 rmX1_split s m ar below meth c H locs 0 0 Q (F0 m 5 ls []) := by
    intro k
    induction k with
    | zero => intro x ex H locs ls hf; exact no_some hf
    | succ k ih =>
      intro x ex H locs ls hf hex hP hD hS hl
      have hf : f_X1_split_B5 F g_base (lp (f_X1_split_B5 F g_base) k) x = some ex := hf
      unfold f_X1_split_B5 at hf
      refine lv_aload_n hx hb dX1_split_5 rfl (lv_at hl 0 rfl) ?_
      refine va_get (v := .ref (qG 2)) (D := D) (ci := 1) (C := RX1) (T := TX1) (N := 5) hx hb hts huX1 hown hK hP 0 rfl rfl 2 (by decide) fk19 (fun _ h9 => h9) rfl dX1_split_6 ?_
      refine lv_iload_n hx hb dX1_split_9 rfl (lv_at hl 1 rfl) ?_
      refine lv_lload hx hb dX1_split_10 (lv_at hl 2 rfl) ?_
      refine lv_aload_n hx hb dX1_split_12 rfl (lv_at hl 0 rfl) ?_
      refine va_get (D := D) (ci := 1) (C := RX1) (T := TX1) (N := 5) hx hb hts huX1 hown hK hP 0 rfl rfl 0 (by decide) fk9 (fun _ h9 => h9) rfl dX1_split_13 ?_
      refine lv_i2l hx hb dX1_split_16 rfl ?_
      obtain ⟨c1, hf⟩ := ck_some hf
      refine lv_lrem hx hb dX1_split_17 c1 ?_
      refine lv_l2i hx hb dX1_split_18 rfl ?_
      obtain ⟨c2, hf⟩ := ck_some hf
      refine va_iast hx hb hK hP hD hS 2 0 rfl rfl c2 dX1_split_19 (fun H locs hP hD hS => ?_)
      have hP : va_P D vwCl (gG cy qG g_base g_worth (upd x.2.2 x.1.toNatClampNeg (x.2.1 - x.2.1 / g_base.toInt64 * g_base.toInt64).toInt32) g_many g_version) H := hP
      have hD : va_D A (gG cy qG g_base g_worth (upd x.2.2 x.1.toNatClampNeg (x.2.1 - x.2.1 / g_base.toInt64 * g_base.toInt64).toInt32) g_many g_version) := hD
      refine lv_lload hx hb dX1_split_20 (lv_at hl 2 rfl) ?_
      refine lv_aload_n hx hb dX1_split_22 rfl (lv_at hl 0 rfl) ?_
      refine va_get (D := D) (ci := 1) (C := RX1) (T := TX1) (N := 5) hx hb hts huX1 hown hK hP 0 rfl rfl 0 (by decide) fk9 (fun _ h9 => h9) rfl dX1_split_23 ?_
      refine lv_i2l hx hb dX1_split_26 rfl ?_
      obtain ⟨c3, hf⟩ := ck_some hf
      refine lv_ldiv hx hb dX1_split_27 c3 ?_
      refine lv_lstore (lv' := [(4, .long (x.2.1 / g_base.toInt64)), (0, .ref (qG 0)), (3, .int x.1)]) hx hb dX1_split_28 hl (by decide) rfl (fun ls hl => ?_)
      refine lv_iinc (v := (x.1 + (1 : Int32))) (lv' := [(3, .int (x.1 + (1 : Int32))), (4, .long (x.2.1 / g_base.toInt64)), (0, .ref (qG 0))]) hx hb dX1_split_30 hl (k := 2) rfl rfl (by decide) rfl (fun ls hl => ?_)
      refine lv_lload hx hb dX1_split_33 (lv_at hl 1 rfl) ?_
      refine lv_lconst (v := (0 : Int64)) hx hb dX1_split_35 (by decide) ?_
      refine kl_le (tgt := 49) hx hb dX1_split_36 dX1_split_37 (by decide) (fun c4 => ?_) (fun c4 => ?_)
      · have hf := if_t hf c4
        obtain rfl := Option.some.inj hf
        exact hex _ _ _ hP hD hS (lv_sub hl [0] rfl)
      · have hf := if_f hf c4
        refine lv_iload_n hx hb dX1_split_40 rfl (lv_at hl 0 rfl) ?_
        refine lv_aload_n hx hb dX1_split_41 rfl (lv_at hl 2 rfl) ?_
        refine va_get (v := .ref (qG 2)) (D := D) (ci := 1) (C := RX1) (T := TX1) (N := 5) hx hb hts huX1 hown hK hP 0 rfl rfl 2 (by decide) fk19 (fun _ h9 => h9) rfl dX1_split_42 ?_
        refine va_alen (v := (64 : Int32)) hx hb hK hP 2 0 rfl rfl rfl dX1_split_45 ?_
        refine lv_icmp_lt (tgt := 5) hx hb dX1_split_46 (by decide) (fun c5 => ?_) (fun c5 => ?_)
        · have hf := if_t hf c5
          exact ih ((x.1 + (1 : Int32)), (x.2.1 / g_base.toInt64), (upd x.2.2 x.1.toNatClampNeg (x.2.1 - x.2.1 / g_base.toInt64 * g_base.toInt64).toInt32)) ex _ _ _ hf hex hP hD hS (lv_sub hl [2, 0, 1] rfl)
        · have hf := if_f hf c5
          obtain rfl := Option.some.inj hf
          exact hex _ _ _ hP hD hS (lv_sub hl [0] rfl)
  refine lv_iconst (v := (0 : Int32)) hx hb dX1_split_0 (by decide) ?_
  refine lv_istore_n (lv' := [(3, .int (0 : Int32)), (0, .ref (qG 0)), (1, .long a1)]) hx hb dX1_split_1 rfl hl (by decide) rfl (fun ls hl => ?_)
  refine lv_lload_n hx hb dX1_split_2 rfl (lv_at hl 2 rfl) ?_
  refine lv_lstore (lv' := [(4, .long a1), (3, .int (0 : Int32)), (0, .ref (qG 0)), (1, .long a1)]) hx hb dX1_split_3 hl (by decide) rfl (fun ls hl => ?_)
  obtain ⟨ex6, hcl, hf⟩ := ob_some hf
  refine hL5 F ((0 : Int32), a1, g_row) ex6 _ _ _ hcl (fun H locs ls hP hD hS hl => ?_) hP hD hS (lv_sub hl [2, 1, 0] rfl)
  refine lv_iload_n hx hb dX1_split_49 rfl (lv_at hl 0 rfl) ?_
  obtain rfl := Option.some.inj hf
  exact hQ () 50 _ _ _ dX1_split_50 hP hD hS
def f_X1_power_B5 (F : Nat) (a1 : Int32) (g_base : Int32) (rec : Int64 × Int32 → Option (Int64)) (x : Int64 × Int32) : Option (Int64) := if a1 ≤ x.2 then (some x.1) else (rec ((x.1 * g_base.toInt64), (x.2 + (1 : Int32))))
def f_X1_power (F : Nat) (a1 : Int32) (g_base : Int32) : Option (Int64) := (lp (f_X1_power_B5 F a1 g_base) F ((1 : Int64), (0 : Int32))).bind (fun ex2 => some ex2)
abbrev rmX1_power : Room := { frames := 0, cells := 0, slots := 0, locals := 0 }
set_option maxHeartbeats 1000000 in
set_option maxRecDepth 100000 in
theorem c_X1_power {l : Launch} {D : va_G} {cy : Nat → ClassId} {qG : Nat → Nat} {g_base : Int32} {g_worth : Nat → Int32} {g_row : Nat → Int32} {g_many : Nat → Int32} {g_version : Int32} {a1 : Int32} {F : Nat} {res : Int64} (hf : f_X1_power F a1 g_base = some res) : kM l yX1_power wsX1_power rmX1_power D cy [.ref (qG 0), .int a1] (gG cy qG g_base g_worth g_row g_many g_version) (kQl D cy (fun _ : Unit => gG cy qG g_base g_worth g_row g_many g_version) res) := by
  refine kent_l (cc := cX1_power) (maxL := 5) (by decide) rfl (Nat.le_of_ble_eq_true rfl) ?_
  intro p e0 s m ar below meth c A Q ls ⟨hx, hb, hml, hr, hts, hown, hlocks, hnm⟩ hA hK hN hQ hP hD hS hl
  have hl : lv_has ls 5 [(0, .ref (qG 0)), (1, .int a1)] := hl
  have hown : s.vm.findClass RX1 = some m.cls := hown
  have huX1 : ∀ x ∈ u_ws RX1 TX1 5, x ∈ wsX1_power := by decide +kernel
  have fk9 : (Cond.fieldLink RX1 9 "FigurePlay$Figures" "base" "I").before ar s = true := hts _ (by decide +kernel)
  unfold f_X1_power at hf
  have hL5 : ∀ (k : Nat) (x : Int64 × Int32) (ex : Int64) (H : Heap) (locs : List Loc) (ls : Array Slot), lp (f_X1_power_B5 F a1 g_base) k x = some ex → (∀ (H : Heap) (locs : List Loc) (ls : Array Slot), va_P D vwCl (gG cy qG g_base g_worth g_row g_many g_version) H → va_D A (gG cy qG g_base g_worth g_row g_many g_version) → va_S A s.heap H locs → lv_has ls 5 [(2, .long ex)] → W p l e0 rmX1_power s m ar below meth c H locs 0 0 Q (F0 m 25 ls [])) → va_P D vwCl (gG cy qG g_base g_worth g_row g_many g_version) H → va_D A (gG cy qG g_base g_worth g_row g_many g_version) → va_S A s.heap H locs → lv_has ls 5 [(0, .ref (qG 0)), (1, .int a1), (2, .long x.1), (4, .int x.2)] → W p l e0 rmX1_power s m ar below meth c H locs 0 0 Q (F0 m 5 ls []) := by
    intro k
    induction k with
    | zero => intro x ex H locs ls hf; exact no_some hf
    | succ k ih =>
      intro x ex H locs ls hf hex hP hD hS hl
      have hf : f_X1_power_B5 F a1 g_base (lp (f_X1_power_B5 F a1 g_base) k) x = some ex := hf
      unfold f_X1_power_B5 at hf
      refine lv_iload hx hb dX1_power_5 (lv_at hl 3 rfl) ?_
      refine lv_iload_n hx hb dX1_power_7 rfl (lv_at hl 1 rfl) ?_
      refine lv_icmp_ge (tgt := 25) hx hb dX1_power_8 (by decide) (fun c1 => ?_) (fun c1 => ?_)
      · have hf := if_t hf c1
        obtain rfl := Option.some.inj hf
        exact hex _ _ _ hP hD hS (lv_sub hl [2] rfl)
      · have hf := if_f hf c1
        refine lv_lload_n hx hb dX1_power_11 rfl (lv_at hl 2 rfl) ?_
        refine lv_aload_n hx hb dX1_power_12 rfl (lv_at hl 0 rfl) ?_
        refine va_get (D := D) (ci := 1) (C := RX1) (T := TX1) (N := 5) hx hb hts huX1 hown hK hP 0 rfl rfl 0 (by decide) fk9 (fun _ h9 => h9) rfl dX1_power_13 ?_
        refine lv_i2l hx hb dX1_power_16 rfl ?_
        refine lv_lmul hx hb dX1_power_17 ?_
        refine lv_lstore_n (lv' := [(2, .long (x.1 * g_base.toInt64)), (0, .ref (qG 0)), (1, .int a1), (4, .int x.2)]) hx hb dX1_power_18 rfl hl (by decide) rfl (fun ls hl => ?_)
        refine lv_iinc (v := (x.2 + (1 : Int32))) (lv' := [(4, .int (x.2 + (1 : Int32))), (2, .long (x.1 * g_base.toInt64)), (0, .ref (qG 0)), (1, .int a1)]) hx hb dX1_power_19 hl (k := 3) rfl rfl (by decide) rfl (fun ls hl => ?_)
        refine lv_goto (tgt := 5) hx hb dX1_power_22 (by decide) ?_
        exact ih ((x.1 * g_base.toInt64), (x.2 + (1 : Int32))) ex _ _ _ hf hex hP hD hS (lv_sub hl [2, 3, 1, 0] rfl)
  refine lv_lconst (v := (1 : Int64)) hx hb dX1_power_0 (by decide) ?_
  refine lv_lstore_n (lv' := [(2, .long (1 : Int64)), (0, .ref (qG 0)), (1, .int a1)]) hx hb dX1_power_1 rfl hl (by decide) rfl (fun ls hl => ?_)
  refine lv_iconst (v := (0 : Int32)) hx hb dX1_power_2 (by decide) ?_
  refine lv_istore (lv' := [(4, .int (0 : Int32)), (2, .long (1 : Int64)), (0, .ref (qG 0)), (1, .int a1)]) hx hb dX1_power_3 hl (by decide) rfl (fun ls hl => ?_)
  obtain ⟨ex2, hcl, hf⟩ := ob_some hf
  refine hL5 F ((1 : Int64), (0 : Int32)) ex2 _ _ _ hcl (fun H locs ls hP hD hS hl => ?_) hP hD hS (lv_sub hl [2, 3, 1, 0] rfl)
  refine lv_lload_n hx hb dX1_power_25 rfl (lv_at hl 0 rfl) ?_
  obtain rfl := Option.some.inj hf
  exact hQ () 26 _ _ _ dX1_power_26 hP hD hS
def f_X1_sumOf_B5 (F : Nat) (a1 : Int32) (g_worth : Nat → Int32) (g_row : Nat → Int32) (rec : Int64 × Int32 → Option (Int64)) (x : Int64 × Int32) : Option (Int64) := if a1 ≤ x.2 then (some x.1) else (ck (¬ (x.2 < 0 ∨ 64 ≤ x.2.toNatClampNeg)) (ck (¬ ((g_row x.2.toNatClampNeg) < 0 ∨ 16 ≤ (g_row x.2.toNatClampNeg).toNatClampNeg)) (rec ((x.1 + (g_worth (g_row x.2.toNatClampNeg).toNatClampNeg).toInt64), (x.2 + (1 : Int32))))))
def f_X1_sumOf (F : Nat) (a1 : Int32) (g_worth : Nat → Int32) (g_row : Nat → Int32) : Option (Int64) := (lp (f_X1_sumOf_B5 F a1 g_worth g_row) F ((0 : Int64), (0 : Int32))).bind (fun ex4 => some ex4)
abbrev rmX1_sumOf : Room := { frames := 0, cells := 0, slots := 0, locals := 0 }
set_option maxHeartbeats 1000000 in
set_option maxRecDepth 100000 in
theorem c_X1_sumOf {l : Launch} {D : va_G} {cy : Nat → ClassId} {qG : Nat → Nat} {g_base : Int32} {g_worth : Nat → Int32} {g_row : Nat → Int32} {g_many : Nat → Int32} {g_version : Int32} {a1 : Int32} {F : Nat} {res : Int64} (hf : f_X1_sumOf F a1 g_worth g_row = some res) : kM l yX1_sumOf wsX1_sumOf rmX1_sumOf D cy [.ref (qG 0), .int a1] (gG cy qG g_base g_worth g_row g_many g_version) (kQl D cy (fun _ : Unit => gG cy qG g_base g_worth g_row g_many g_version) res) := by
  refine kent_l (cc := cX1_sumOf) (maxL := 5) (by decide) rfl (Nat.le_of_ble_eq_true rfl) ?_
  intro p e0 s m ar below meth c A Q ls ⟨hx, hb, hml, hr, hts, hown, hlocks, hnm⟩ hA hK hN hQ hP hD hS hl
  have hl : lv_has ls 5 [(0, .ref (qG 0)), (1, .int a1)] := hl
  have hown : s.vm.findClass RX1 = some m.cls := hown
  have huX1 : ∀ x ∈ u_ws RX1 TX1 5, x ∈ wsX1_sumOf := by decide +kernel
  have fk15 : (Cond.fieldLink RX1 15 "FigurePlay$Figures" "worth" "[I").before ar s = true := hts _ (by decide +kernel)
  have fk19 : (Cond.fieldLink RX1 19 "FigurePlay$Figures" "row" "[I").before ar s = true := hts _ (by decide +kernel)
  unfold f_X1_sumOf at hf
  have hL5 : ∀ (k : Nat) (x : Int64 × Int32) (ex : Int64) (H : Heap) (locs : List Loc) (ls : Array Slot), lp (f_X1_sumOf_B5 F a1 g_worth g_row) k x = some ex → (∀ (H : Heap) (locs : List Loc) (ls : Array Slot), va_P D vwCl (gG cy qG g_base g_worth g_row g_many g_version) H → va_D A (gG cy qG g_base g_worth g_row g_many g_version) → va_S A s.heap H locs → lv_has ls 5 [(2, .long ex)] → W p l e0 rmX1_sumOf s m ar below meth c H locs 0 0 Q (F0 m 33 ls [])) → va_P D vwCl (gG cy qG g_base g_worth g_row g_many g_version) H → va_D A (gG cy qG g_base g_worth g_row g_many g_version) → va_S A s.heap H locs → lv_has ls 5 [(0, .ref (qG 0)), (1, .int a1), (2, .long x.1), (4, .int x.2)] → W p l e0 rmX1_sumOf s m ar below meth c H locs 0 0 Q (F0 m 5 ls []) := by
    intro k
    induction k with
    | zero => intro x ex H locs ls hf; exact no_some hf
    | succ k ih =>
      intro x ex H locs ls hf hex hP hD hS hl
      have hf : f_X1_sumOf_B5 F a1 g_worth g_row (lp (f_X1_sumOf_B5 F a1 g_worth g_row) k) x = some ex := hf
      unfold f_X1_sumOf_B5 at hf
      refine lv_iload hx hb dX1_sumOf_5 (lv_at hl 3 rfl) ?_
      refine lv_iload_n hx hb dX1_sumOf_7 rfl (lv_at hl 1 rfl) ?_
      refine lv_icmp_ge (tgt := 33) hx hb dX1_sumOf_8 (by decide) (fun c1 => ?_) (fun c1 => ?_)
      · have hf := if_t hf c1
        obtain rfl := Option.some.inj hf
        exact hex _ _ _ hP hD hS (lv_sub hl [2] rfl)
      · have hf := if_f hf c1
        refine lv_lload_n hx hb dX1_sumOf_11 rfl (lv_at hl 2 rfl) ?_
        refine lv_aload_n hx hb dX1_sumOf_12 rfl (lv_at hl 0 rfl) ?_
        refine va_get (v := .ref (qG 1)) (D := D) (ci := 1) (C := RX1) (T := TX1) (N := 5) hx hb hts huX1 hown hK hP 0 rfl rfl 1 (by decide) fk15 (fun _ h9 => h9) rfl dX1_sumOf_13 ?_
        refine lv_aload_n hx hb dX1_sumOf_16 rfl (lv_at hl 0 rfl) ?_
        refine va_get (v := .ref (qG 2)) (D := D) (ci := 1) (C := RX1) (T := TX1) (N := 5) hx hb hts huX1 hown hK hP 0 rfl rfl 2 (by decide) fk19 (fun _ h9 => h9) rfl dX1_sumOf_17 ?_
        refine lv_iload hx hb dX1_sumOf_20 (lv_at hl 3 rfl) ?_
        obtain ⟨c2, hf⟩ := ck_some hf
        refine va_iald hx hb hK hP 2 0 rfl rfl c2 dX1_sumOf_22 ?_
        obtain ⟨c3, hf⟩ := ck_some hf
        refine va_iald hx hb hK hP 1 0 rfl rfl c3 dX1_sumOf_23 ?_
        refine lv_i2l hx hb dX1_sumOf_24 rfl ?_
        refine lv_ladd hx hb dX1_sumOf_25 ?_
        refine lv_lstore_n (lv' := [(2, .long (x.1 + (g_worth (g_row x.2.toNatClampNeg).toNatClampNeg).toInt64)), (0, .ref (qG 0)), (1, .int a1), (4, .int x.2)]) hx hb dX1_sumOf_26 rfl hl (by decide) rfl (fun ls hl => ?_)
        refine lv_iinc (v := (x.2 + (1 : Int32))) (lv' := [(4, .int (x.2 + (1 : Int32))), (2, .long (x.1 + (g_worth (g_row x.2.toNatClampNeg).toNatClampNeg).toInt64)), (0, .ref (qG 0)), (1, .int a1)]) hx hb dX1_sumOf_27 hl (k := 3) rfl rfl (by decide) rfl (fun ls hl => ?_)
        refine lv_goto (tgt := 5) hx hb dX1_sumOf_30 (by decide) ?_
        exact ih ((x.1 + (g_worth (g_row x.2.toNatClampNeg).toNatClampNeg).toInt64), (x.2 + (1 : Int32))) ex _ _ _ hf hex hP hD hS (lv_sub hl [2, 3, 1, 0] rfl)
  refine lv_lconst (v := (0 : Int64)) hx hb dX1_sumOf_0 (by decide) ?_
  refine lv_lstore_n (lv' := [(2, .long (0 : Int64)), (0, .ref (qG 0)), (1, .int a1)]) hx hb dX1_sumOf_1 rfl hl (by decide) rfl (fun ls hl => ?_)
  refine lv_iconst (v := (0 : Int32)) hx hb dX1_sumOf_2 (by decide) ?_
  refine lv_istore (lv' := [(4, .int (0 : Int32)), (2, .long (0 : Int64)), (0, .ref (qG 0)), (1, .int a1)]) hx hb dX1_sumOf_3 hl (by decide) rfl (fun ls hl => ?_)
  obtain ⟨ex4, hcl, hf⟩ := ob_some hf
  refine hL5 F ((0 : Int64), (0 : Int32)) ex4 _ _ _ hcl (fun H locs ls hP hD hS hl => ?_) hP hD hS (lv_sub hl [2, 3, 1, 0] rfl)
  refine lv_lload_n hx hb dX1_sumOf_33 rfl (lv_at hl 0 rfl) ?_
  obtain rfl := Option.some.inj hf
  exact hQ () 34 _ _ _ dX1_sumOf_34 hP hD hS
def f_X1_turnedOf_B5 (F : Nat) (a1 : Int32) (g_base : Int32) (g_row : Nat → Int32) (rec : Int64 × Int32 → Option (Int64)) (x : Int64 × Int32) : Option (Int64) := if a1 ≤ x.2 then (some x.1) else (ck (¬ (x.2 < 0 ∨ 64 ≤ x.2.toNatClampNeg)) (rec (((x.1 * g_base.toInt64) + (g_row x.2.toNatClampNeg).toInt64), (x.2 + (1 : Int32)))))
def f_X1_turnedOf (F : Nat) (a1 : Int32) (g_base : Int32) (g_row : Nat → Int32) : Option (Int64) := (lp (f_X1_turnedOf_B5 F a1 g_base g_row) F ((0 : Int64), (0 : Int32))).bind (fun ex3 => some ex3)
abbrev rmX1_turnedOf : Room := { frames := 0, cells := 0, slots := 0, locals := 0 }
set_option maxHeartbeats 1000000 in
set_option maxRecDepth 100000 in
theorem c_X1_turnedOf {l : Launch} {D : va_G} {cy : Nat → ClassId} {qG : Nat → Nat} {g_base : Int32} {g_worth : Nat → Int32} {g_row : Nat → Int32} {g_many : Nat → Int32} {g_version : Int32} {a1 : Int32} {F : Nat} {res : Int64} (hf : f_X1_turnedOf F a1 g_base g_row = some res) : kM l yX1_turnedOf wsX1_turnedOf rmX1_turnedOf D cy [.ref (qG 0), .int a1] (gG cy qG g_base g_worth g_row g_many g_version) (kQl D cy (fun _ : Unit => gG cy qG g_base g_worth g_row g_many g_version) res) := by
  refine kent_l (cc := cX1_turnedOf) (maxL := 5) (by decide) rfl (Nat.le_of_ble_eq_true rfl) ?_
  intro p e0 s m ar below meth c A Q ls ⟨hx, hb, hml, hr, hts, hown, hlocks, hnm⟩ hA hK hN hQ hP hD hS hl
  have hl : lv_has ls 5 [(0, .ref (qG 0)), (1, .int a1)] := hl
  have hown : s.vm.findClass RX1 = some m.cls := hown
  have huX1 : ∀ x ∈ u_ws RX1 TX1 5, x ∈ wsX1_turnedOf := by decide +kernel
  have fk9 : (Cond.fieldLink RX1 9 "FigurePlay$Figures" "base" "I").before ar s = true := hts _ (by decide +kernel)
  have fk19 : (Cond.fieldLink RX1 19 "FigurePlay$Figures" "row" "[I").before ar s = true := hts _ (by decide +kernel)
  unfold f_X1_turnedOf at hf
  have hL5 : ∀ (k : Nat) (x : Int64 × Int32) (ex : Int64) (H : Heap) (locs : List Loc) (ls : Array Slot), lp (f_X1_turnedOf_B5 F a1 g_base g_row) k x = some ex → (∀ (H : Heap) (locs : List Loc) (ls : Array Slot), va_P D vwCl (gG cy qG g_base g_worth g_row g_many g_version) H → va_D A (gG cy qG g_base g_worth g_row g_many g_version) → va_S A s.heap H locs → lv_has ls 5 [(2, .long ex)] → W p l e0 rmX1_turnedOf s m ar below meth c H locs 0 0 Q (F0 m 34 ls [])) → va_P D vwCl (gG cy qG g_base g_worth g_row g_many g_version) H → va_D A (gG cy qG g_base g_worth g_row g_many g_version) → va_S A s.heap H locs → lv_has ls 5 [(0, .ref (qG 0)), (1, .int a1), (2, .long x.1), (4, .int x.2)] → W p l e0 rmX1_turnedOf s m ar below meth c H locs 0 0 Q (F0 m 5 ls []) := by
    intro k
    induction k with
    | zero => intro x ex H locs ls hf; exact no_some hf
    | succ k ih =>
      intro x ex H locs ls hf hex hP hD hS hl
      have hf : f_X1_turnedOf_B5 F a1 g_base g_row (lp (f_X1_turnedOf_B5 F a1 g_base g_row) k) x = some ex := hf
      unfold f_X1_turnedOf_B5 at hf
      refine lv_iload hx hb dX1_turnedOf_5 (lv_at hl 3 rfl) ?_
      refine lv_iload_n hx hb dX1_turnedOf_7 rfl (lv_at hl 1 rfl) ?_
      refine lv_icmp_ge (tgt := 34) hx hb dX1_turnedOf_8 (by decide) (fun c1 => ?_) (fun c1 => ?_)
      · have hf := if_t hf c1
        obtain rfl := Option.some.inj hf
        exact hex _ _ _ hP hD hS (lv_sub hl [2] rfl)
      · have hf := if_f hf c1
        refine lv_lload_n hx hb dX1_turnedOf_11 rfl (lv_at hl 2 rfl) ?_
        refine lv_aload_n hx hb dX1_turnedOf_12 rfl (lv_at hl 0 rfl) ?_
        refine va_get (D := D) (ci := 1) (C := RX1) (T := TX1) (N := 5) hx hb hts huX1 hown hK hP 0 rfl rfl 0 (by decide) fk9 (fun _ h9 => h9) rfl dX1_turnedOf_13 ?_
        refine lv_i2l hx hb dX1_turnedOf_16 rfl ?_
        refine lv_lmul hx hb dX1_turnedOf_17 ?_
        refine lv_aload_n hx hb dX1_turnedOf_18 rfl (lv_at hl 0 rfl) ?_
        refine va_get (v := .ref (qG 2)) (D := D) (ci := 1) (C := RX1) (T := TX1) (N := 5) hx hb hts huX1 hown hK hP 0 rfl rfl 2 (by decide) fk19 (fun _ h9 => h9) rfl dX1_turnedOf_19 ?_
        refine lv_iload hx hb dX1_turnedOf_22 (lv_at hl 3 rfl) ?_
        obtain ⟨c2, hf⟩ := ck_some hf
        refine va_iald hx hb hK hP 2 0 rfl rfl c2 dX1_turnedOf_24 ?_
        refine lv_i2l hx hb dX1_turnedOf_25 rfl ?_
        refine lv_ladd hx hb dX1_turnedOf_26 ?_
        refine lv_lstore_n (lv' := [(2, .long ((x.1 * g_base.toInt64) + (g_row x.2.toNatClampNeg).toInt64)), (0, .ref (qG 0)), (1, .int a1), (4, .int x.2)]) hx hb dX1_turnedOf_27 rfl hl (by decide) rfl (fun ls hl => ?_)
        refine lv_iinc (v := (x.2 + (1 : Int32))) (lv' := [(4, .int (x.2 + (1 : Int32))), (2, .long ((x.1 * g_base.toInt64) + (g_row x.2.toNatClampNeg).toInt64)), (0, .ref (qG 0)), (1, .int a1)]) hx hb dX1_turnedOf_28 hl (k := 3) rfl rfl (by decide) rfl (fun ls hl => ?_)
        refine lv_goto (tgt := 5) hx hb dX1_turnedOf_31 (by decide) ?_
        exact ih (((x.1 * g_base.toInt64) + (g_row x.2.toNatClampNeg).toInt64), (x.2 + (1 : Int32))) ex _ _ _ hf hex hP hD hS (lv_sub hl [2, 3, 1, 0] rfl)
  refine lv_lconst (v := (0 : Int64)) hx hb dX1_turnedOf_0 (by decide) ?_
  refine lv_lstore_n (lv' := [(2, .long (0 : Int64)), (0, .ref (qG 0)), (1, .int a1)]) hx hb dX1_turnedOf_1 rfl hl (by decide) rfl (fun ls hl => ?_)
  refine lv_iconst (v := (0 : Int32)) hx hb dX1_turnedOf_2 (by decide) ?_
  refine lv_istore (lv' := [(4, .int (0 : Int32)), (2, .long (0 : Int64)), (0, .ref (qG 0)), (1, .int a1)]) hx hb dX1_turnedOf_3 hl (by decide) rfl (fun ls hl => ?_)
  obtain ⟨ex3, hcl, hf⟩ := ob_some hf
  refine hL5 F ((0 : Int64), (0 : Int32)) ex3 _ _ _ hcl (fun H locs ls hP hD hS hl => ?_) hP hD hS (lv_sub hl [2, 3, 1, 0] rfl)
  refine lv_lload_n hx hb dX1_turnedOf_34 rfl (lv_at hl 0 rfl) ?_
  obtain rfl := Option.some.inj hf
  exact hQ () 35 _ _ _ dX1_turnedOf_35 hP hD hS
def f_X1_sortedOf_B117 (F : Nat) (g_base : Int32) (x4 : Int64) (x6 : Int32) (x7 : Int32) (g_many : Nat → Int32) (rec : Int64 × Int32 → Option (Int64)) (x : Int64 × Int32) : Option (Int64) := ck (¬ (x7 < 0 ∨ 16 ≤ x7.toNatClampNeg)) (if (g_many x7.toNatClampNeg) ≤ x.2 then (some x.1) else (rec (((x.1 * g_base.toInt64) + x7.toInt64), (x.2 + (1 : Int32)))))
def f_X1_sortedOf_B82 (F : Nat) (g_base : Int32) (x2 : Int64) (x6 : Int32) (x7 : Int32) (g_many : Nat → Int32) (rec : Int64 × Int32 → Option (Int64)) (x : Int64 × Int32) : Option (Int64) := ck (¬ (x6 < 0 ∨ 16 ≤ x6.toNatClampNeg)) (if (g_many x6.toNatClampNeg) ≤ x.2 then (some x.1) else (rec (((x.1 * g_base.toInt64) + x6.toInt64), (x.2 + (1 : Int32)))))
def f_X1_sortedOf_B59 (F : Nat) (g_base : Int32) (g_many : Nat → Int32) (rec : Int64 × Int64 × Int32 → Option (Int64 × Int64)) (x : Int64 × Int64 × Int32) : Option (Int64 × Int64) := if g_base ≤ x.2.2 then (some (x.1, x.2.1)) else ((lp (f_X1_sortedOf_B82 F g_base x.1 x.2.2 ((g_base - (1 : Int32)) - x.2.2) g_many) F (x.2.1, (0 : Int32))).bind (fun ex6 => (lp (f_X1_sortedOf_B117 F g_base ex6 x.2.2 ((g_base - (1 : Int32)) - x.2.2) g_many) F (x.1, (0 : Int32))).bind (fun ex7 => rec (ex7, ex6, (x.2.2 + (1 : Int32))))))
def f_X1_sortedOf_B25 (F : Nat) (a1 : Int32) (g_row : Nat → Int32) (rec : Int32 × (Nat → Int32) → Option ((Nat → Int32))) (x : Int32 × (Nat → Int32)) : Option ((Nat → Int32)) := if a1 ≤ x.1 then (some x.2) else (ck (¬ (x.1 < 0 ∨ 64 ≤ x.1.toNatClampNeg)) (ck (¬ ((g_row x.1.toNatClampNeg) < 0 ∨ 16 ≤ (g_row x.1.toNatClampNeg).toNatClampNeg)) (ck (¬ ((g_row x.1.toNatClampNeg) < 0 ∨ 16 ≤ (g_row x.1.toNatClampNeg).toNatClampNeg)) (rec ((x.1 + (1 : Int32)), (upd x.2 (g_row x.1.toNatClampNeg).toNatClampNeg ((x.2 (g_row x.1.toNatClampNeg).toNatClampNeg) + (1 : Int32))))))))
def f_X1_sortedOf_B2 (F : Nat) (g_base : Int32) (rec : Int32 × (Nat → Int32) → Option ((Nat → Int32))) (x : Int32 × (Nat → Int32)) : Option ((Nat → Int32)) := if g_base ≤ x.1 then (some x.2) else (ck (¬ (x.1 < 0 ∨ 16 ≤ x.1.toNatClampNeg)) (rec ((x.1 + (1 : Int32)), (upd x.2 x.1.toNatClampNeg (0 : Int32)))))
def f_X1_sortedOf (F : Nat) (a1 : Int32) (g_base : Int32) (g_row : Nat → Int32) (g_many : Nat → Int32) : Option (Int64 × (Nat → Int32)) := (lp (f_X1_sortedOf_B2 F g_base) F ((0 : Int32), g_many)).bind (fun ex14 => (lp (f_X1_sortedOf_B25 F a1 g_row) F ((0 : Int32), ex14)).bind (fun ex15 => (lp (f_X1_sortedOf_B59 F g_base ex15) F ((0 : Int64), (0 : Int64), (0 : Int32))).bind (fun ex16 => some ((ex16.1 - ex16.2), ex15))))
abbrev rmX1_sortedOf : Room := { frames := 0, cells := 0, slots := 0, locals := 0 }
set_option maxHeartbeats 1000000 in
set_option maxRecDepth 100000 in
theorem c_X1_sortedOf {l : Launch} {D : va_G} {cy : Nat → ClassId} {qG : Nat → Nat} {g_base : Int32} {g_worth : Nat → Int32} {g_row : Nat → Int32} {g_many : Nat → Int32} {g_version : Int32} {a1 : Int32} {F : Nat} {res : Int64 × (Nat → Int32)} (hf : f_X1_sortedOf F a1 g_base g_row g_many = some res) : kM l yX1_sortedOf wsX1_sortedOf rmX1_sortedOf D cy [.ref (qG 0), .int a1] (gG cy qG g_base g_worth g_row g_many g_version) (kQl D cy (fun _ : Unit => gG cy qG g_base g_worth g_row res.2 g_version) res.1) := by
  refine kent_l (cc := cX1_sortedOf) (maxL := 9) (by decide) rfl (Nat.le_of_ble_eq_true rfl) ?_
  intro p e0 s m ar below meth c A Q ls ⟨hx, hb, hml, hr, hts, hown, hlocks, hnm⟩ hA hK hN hQ hP hD hS hl
  have hl : lv_has ls 9 [(0, .ref (qG 0)), (1, .int a1)] := hl
  have hown : s.vm.findClass RX1 = some m.cls := hown
  have huX1 : ∀ x ∈ u_ws RX1 TX1 5, x ∈ wsX1_sortedOf := by decide +kernel
  have fk22 : (Cond.fieldLink RX1 22 "FigurePlay$Figures" "many" "[I").before ar s = true := hts _ (by decide +kernel)
  have fk9 : (Cond.fieldLink RX1 9 "FigurePlay$Figures" "base" "I").before ar s = true := hts _ (by decide +kernel)
  have fk19 : (Cond.fieldLink RX1 19 "FigurePlay$Figures" "row" "[I").before ar s = true := hts _ (by decide +kernel)
  unfold f_X1_sortedOf at hf
  have hL59 : ∀ (g_many : Nat → Int32) (k : Nat) (x : Int64 × Int64 × Int32) (ex : Int64 × Int64) (H : Heap) (locs : List Loc) (ls : Array Slot), lp (f_X1_sortedOf_B59 F g_base g_many) k x = some ex → (∀ (H : Heap) (locs : List Loc) (ls : Array Slot), va_P D vwCl (gG cy qG g_base g_worth g_row g_many g_version) H → va_D A (gG cy qG g_base g_worth g_row g_many g_version) → va_S A s.heap H locs → lv_has ls 9 [(2, .long ex.1), (4, .long ex.2)] → W p l e0 rmX1_sortedOf s m ar below meth c H locs 0 0 Q (F0 m 153 ls [])) → va_P D vwCl (gG cy qG g_base g_worth g_row g_many g_version) H → va_D A (gG cy qG g_base g_worth g_row g_many g_version) → va_S A s.heap H locs → lv_has ls 9 [(0, .ref (qG 0)), (2, .long x.1), (4, .long x.2.1), (6, .int x.2.2)] → W p l e0 rmX1_sortedOf s m ar below meth c H locs 0 0 Q (F0 m 59 ls []) := by
    intro g_many k
    induction k with
    | zero => intro x ex H locs ls hf; exact no_some hf
    | succ k ih =>
      intro x ex H locs ls hf hex hP hD hS hl
      have hf : f_X1_sortedOf_B59 F g_base g_many (lp (f_X1_sortedOf_B59 F g_base g_many) k) x = some ex := hf
      unfold f_X1_sortedOf_B59 at hf
      have hL117 : ∀ (x4 : Int64) (x6 : Int32) (x7 : Int32) (g_many : Nat → Int32) (k : Nat) (x : Int64 × Int32) (ex : Int64) (H : Heap) (locs : List Loc) (ls : Array Slot), lp (f_X1_sortedOf_B117 F g_base x4 x6 x7 g_many) k x = some ex → (∀ (H : Heap) (locs : List Loc) (ls : Array Slot), va_P D vwCl (gG cy qG g_base g_worth g_row g_many g_version) H → va_D A (gG cy qG g_base g_worth g_row g_many g_version) → va_S A s.heap H locs → lv_has ls 9 [(0, .ref (qG 0)), (2, .long ex), (4, .long x4), (6, .int x6)] → W p l e0 rmX1_sortedOf s m ar below meth c H locs 0 0 Q (F0 m 147 ls [])) → va_P D vwCl (gG cy qG g_base g_worth g_row g_many g_version) H → va_D A (gG cy qG g_base g_worth g_row g_many g_version) → va_S A s.heap H locs → lv_has ls 9 [(0, .ref (qG 0)), (2, .long x.1), (4, .long x4), (6, .int x6), (7, .int x7), (8, .int x.2)] → W p l e0 rmX1_sortedOf s m ar below meth c H locs 0 0 Q (F0 m 117 ls []) := by
        intro x4 x6 x7 g_many k
        induction k with
        | zero => intro x ex H locs ls hf; exact no_some hf
        | succ k ih =>
          intro x ex H locs ls hf hex hP hD hS hl
          have hf : f_X1_sortedOf_B117 F g_base x4 x6 x7 g_many (lp (f_X1_sortedOf_B117 F g_base x4 x6 x7 g_many) k) x = some ex := hf
          unfold f_X1_sortedOf_B117 at hf
          refine lv_iload hx hb dX1_sortedOf_117 (lv_at hl 5 rfl) ?_
          refine lv_aload_n hx hb dX1_sortedOf_119 rfl (lv_at hl 0 rfl) ?_
          refine va_get (v := .ref (qG 3)) (D := D) (ci := 1) (C := RX1) (T := TX1) (N := 5) hx hb hts huX1 hown hK hP 0 rfl rfl 3 (by decide) fk22 (fun _ h9 => h9) rfl dX1_sortedOf_120 ?_
          refine lv_iload hx hb dX1_sortedOf_123 (lv_at hl 4 rfl) ?_
          obtain ⟨c1, hf⟩ := ck_some hf
          refine va_iald hx hb hK hP 3 0 rfl rfl c1 dX1_sortedOf_125 ?_
          refine lv_icmp_ge (tgt := 147) hx hb dX1_sortedOf_126 (by decide) (fun c2 => ?_) (fun c2 => ?_)
          · have hf := if_t hf c2
            obtain rfl := Option.some.inj hf
            exact hex _ _ _ hP hD hS (lv_sub hl [0, 1, 2, 3] rfl)
          · have hf := if_f hf c2
            refine lv_lload_n hx hb dX1_sortedOf_129 rfl (lv_at hl 1 rfl) ?_
            refine lv_aload_n hx hb dX1_sortedOf_130 rfl (lv_at hl 0 rfl) ?_
            refine va_get (D := D) (ci := 1) (C := RX1) (T := TX1) (N := 5) hx hb hts huX1 hown hK hP 0 rfl rfl 0 (by decide) fk9 (fun _ h9 => h9) rfl dX1_sortedOf_131 ?_
            refine lv_i2l hx hb dX1_sortedOf_134 rfl ?_
            refine lv_lmul hx hb dX1_sortedOf_135 ?_
            refine lv_iload hx hb dX1_sortedOf_136 (lv_at hl 4 rfl) ?_
            refine lv_i2l hx hb dX1_sortedOf_138 rfl ?_
            refine lv_ladd hx hb dX1_sortedOf_139 ?_
            refine lv_lstore_n (lv' := [(2, .long ((x.1 * g_base.toInt64) + x7.toInt64)), (0, .ref (qG 0)), (4, .long x4), (6, .int x6), (7, .int x7), (8, .int x.2)]) hx hb dX1_sortedOf_140 rfl hl (by decide) rfl (fun ls hl => ?_)
            refine lv_iinc (v := (x.2 + (1 : Int32))) (lv' := [(8, .int (x.2 + (1 : Int32))), (2, .long ((x.1 * g_base.toInt64) + x7.toInt64)), (0, .ref (qG 0)), (4, .long x4), (6, .int x6), (7, .int x7)]) hx hb dX1_sortedOf_141 hl (k := 5) rfl rfl (by decide) rfl (fun ls hl => ?_)
            refine lv_goto (tgt := 117) hx hb dX1_sortedOf_144 (by decide) ?_
            exact ih (((x.1 * g_base.toInt64) + x7.toInt64), (x.2 + (1 : Int32))) ex _ _ _ hf hex hP hD hS (lv_sub hl [2, 1, 3, 4, 5, 0] rfl)
      have hL82 : ∀ (x2 : Int64) (x6 : Int32) (x7 : Int32) (g_many : Nat → Int32) (k : Nat) (x : Int64 × Int32) (ex : Int64) (H : Heap) (locs : List Loc) (ls : Array Slot), lp (f_X1_sortedOf_B82 F g_base x2 x6 x7 g_many) k x = some ex → (∀ (H : Heap) (locs : List Loc) (ls : Array Slot), va_P D vwCl (gG cy qG g_base g_worth g_row g_many g_version) H → va_D A (gG cy qG g_base g_worth g_row g_many g_version) → va_S A s.heap H locs → lv_has ls 9 [(0, .ref (qG 0)), (2, .long x2), (4, .long ex), (6, .int x6), (7, .int x7)] → W p l e0 rmX1_sortedOf s m ar below meth c H locs 0 0 Q (F0 m 114 ls [])) → va_P D vwCl (gG cy qG g_base g_worth g_row g_many g_version) H → va_D A (gG cy qG g_base g_worth g_row g_many g_version) → va_S A s.heap H locs → lv_has ls 9 [(0, .ref (qG 0)), (2, .long x2), (4, .long x.1), (6, .int x6), (7, .int x7), (8, .int x.2)] → W p l e0 rmX1_sortedOf s m ar below meth c H locs 0 0 Q (F0 m 82 ls []) := by
        intro x2 x6 x7 g_many k
        induction k with
        | zero => intro x ex H locs ls hf; exact no_some hf
        | succ k ih =>
          intro x ex H locs ls hf hex hP hD hS hl
          have hf : f_X1_sortedOf_B82 F g_base x2 x6 x7 g_many (lp (f_X1_sortedOf_B82 F g_base x2 x6 x7 g_many) k) x = some ex := hf
          unfold f_X1_sortedOf_B82 at hf
          refine lv_iload hx hb dX1_sortedOf_82 (lv_at hl 5 rfl) ?_
          refine lv_aload_n hx hb dX1_sortedOf_84 rfl (lv_at hl 0 rfl) ?_
          refine va_get (v := .ref (qG 3)) (D := D) (ci := 1) (C := RX1) (T := TX1) (N := 5) hx hb hts huX1 hown hK hP 0 rfl rfl 3 (by decide) fk22 (fun _ h9 => h9) rfl dX1_sortedOf_85 ?_
          refine lv_iload hx hb dX1_sortedOf_88 (lv_at hl 3 rfl) ?_
          obtain ⟨c3, hf⟩ := ck_some hf
          refine va_iald hx hb hK hP 3 0 rfl rfl c3 dX1_sortedOf_90 ?_
          refine lv_icmp_ge (tgt := 114) hx hb dX1_sortedOf_91 (by decide) (fun c4 => ?_) (fun c4 => ?_)
          · have hf := if_t hf c4
            obtain rfl := Option.some.inj hf
            exact hex _ _ _ hP hD hS (lv_sub hl [0, 1, 2, 3, 4] rfl)
          · have hf := if_f hf c4
            refine lv_lload hx hb dX1_sortedOf_94 (lv_at hl 2 rfl) ?_
            refine lv_aload_n hx hb dX1_sortedOf_96 rfl (lv_at hl 0 rfl) ?_
            refine va_get (D := D) (ci := 1) (C := RX1) (T := TX1) (N := 5) hx hb hts huX1 hown hK hP 0 rfl rfl 0 (by decide) fk9 (fun _ h9 => h9) rfl dX1_sortedOf_97 ?_
            refine lv_i2l hx hb dX1_sortedOf_100 rfl ?_
            refine lv_lmul hx hb dX1_sortedOf_101 ?_
            refine lv_iload hx hb dX1_sortedOf_102 (lv_at hl 3 rfl) ?_
            refine lv_i2l hx hb dX1_sortedOf_104 rfl ?_
            refine lv_ladd hx hb dX1_sortedOf_105 ?_
            refine lv_lstore (lv' := [(4, .long ((x.1 * g_base.toInt64) + x6.toInt64)), (0, .ref (qG 0)), (2, .long x2), (6, .int x6), (7, .int x7), (8, .int x.2)]) hx hb dX1_sortedOf_106 hl (by decide) rfl (fun ls hl => ?_)
            refine lv_iinc (v := (x.2 + (1 : Int32))) (lv' := [(8, .int (x.2 + (1 : Int32))), (4, .long ((x.1 * g_base.toInt64) + x6.toInt64)), (0, .ref (qG 0)), (2, .long x2), (6, .int x6), (7, .int x7)]) hx hb dX1_sortedOf_108 hl (k := 5) rfl rfl (by decide) rfl (fun ls hl => ?_)
            refine lv_goto (tgt := 82) hx hb dX1_sortedOf_111 (by decide) ?_
            exact ih (((x.1 * g_base.toInt64) + x6.toInt64), (x.2 + (1 : Int32))) ex _ _ _ hf hex hP hD hS (lv_sub hl [2, 3, 1, 4, 5, 0] rfl)
      refine lv_iload hx hb dX1_sortedOf_59 (lv_at hl 3 rfl) ?_
      refine lv_aload_n hx hb dX1_sortedOf_61 rfl (lv_at hl 0 rfl) ?_
      refine va_get (D := D) (ci := 1) (C := RX1) (T := TX1) (N := 5) hx hb hts huX1 hown hK hP 0 rfl rfl 0 (by decide) fk9 (fun _ h9 => h9) rfl dX1_sortedOf_62 ?_
      refine lv_icmp_ge (tgt := 153) hx hb dX1_sortedOf_65 (by decide) (fun c5 => ?_) (fun c5 => ?_)
      · have hf := if_t hf c5
        obtain rfl := Option.some.inj hf
        exact hex _ _ _ hP hD hS (lv_sub hl [1, 2] rfl)
      · have hf := if_f hf c5
        refine lv_aload_n hx hb dX1_sortedOf_68 rfl (lv_at hl 0 rfl) ?_
        refine va_get (D := D) (ci := 1) (C := RX1) (T := TX1) (N := 5) hx hb hts huX1 hown hK hP 0 rfl rfl 0 (by decide) fk9 (fun _ h9 => h9) rfl dX1_sortedOf_69 ?_
        refine lv_iconst (v := (1 : Int32)) hx hb dX1_sortedOf_72 (by decide) ?_
        refine lv_isub hx hb dX1_sortedOf_73 ?_
        refine lv_iload hx hb dX1_sortedOf_74 (lv_at hl 3 rfl) ?_
        refine lv_isub hx hb dX1_sortedOf_76 ?_
        refine lv_istore (lv' := [(7, .int ((g_base - (1 : Int32)) - x.2.2)), (0, .ref (qG 0)), (2, .long x.1), (4, .long x.2.1), (6, .int x.2.2)]) hx hb dX1_sortedOf_77 hl (by decide) rfl (fun ls hl => ?_)
        refine lv_iconst (v := (0 : Int32)) hx hb dX1_sortedOf_79 (by decide) ?_
        refine lv_istore (lv' := [(8, .int (0 : Int32)), (7, .int ((g_base - (1 : Int32)) - x.2.2)), (0, .ref (qG 0)), (2, .long x.1), (4, .long x.2.1), (6, .int x.2.2)]) hx hb dX1_sortedOf_80 hl (by decide) rfl (fun ls hl => ?_)
        obtain ⟨ex6, hcl, hf⟩ := ob_some hf
        refine hL82 x.1 x.2.2 ((g_base - (1 : Int32)) - x.2.2) g_many F (x.2.1, (0 : Int32)) ex6 _ _ _ hcl (fun H locs ls hP hD hS hl => ?_) hP hD hS (lv_sub hl [2, 3, 4, 5, 1, 0] rfl)
        refine lv_iconst (v := (0 : Int32)) hx hb dX1_sortedOf_114 (by decide) ?_
        refine lv_istore (lv' := [(8, .int (0 : Int32)), (0, .ref (qG 0)), (2, .long x.1), (4, .long ex6), (6, .int x.2.2), (7, .int ((g_base - (1 : Int32)) - x.2.2))]) hx hb dX1_sortedOf_115 hl (by decide) rfl (fun ls hl => ?_)
        obtain ⟨ex7, hcl, hf⟩ := ob_some hf
        refine hL117 ex6 x.2.2 ((g_base - (1 : Int32)) - x.2.2) g_many F (x.1, (0 : Int32)) ex7 _ _ _ hcl (fun H locs ls hP hD hS hl => ?_) hP hD hS (lv_sub hl [1, 2, 3, 4, 5, 0] rfl)
        refine lv_iinc (v := (x.2.2 + (1 : Int32))) (lv' := [(6, .int (x.2.2 + (1 : Int32))), (0, .ref (qG 0)), (2, .long ex7), (4, .long ex6)]) hx hb dX1_sortedOf_147 hl (k := 3) rfl rfl (by decide) rfl (fun ls hl => ?_)
        refine lv_goto (tgt := 59) hx hb dX1_sortedOf_150 (by decide) ?_
        exact ih (ex7, ex6, (x.2.2 + (1 : Int32))) ex _ _ _ hf hex hP hD hS (lv_sub hl [1, 2, 3, 0] rfl)
  have hL25 : ∀ (k : Nat) (x : Int32 × (Nat → Int32)) (ex : (Nat → Int32)) (H : Heap) (locs : List Loc) (ls : Array Slot), lp (f_X1_sortedOf_B25 F a1 g_row) k x = some ex → (∀ (H : Heap) (locs : List Loc) (ls : Array Slot), va_P D vwCl (gG cy qG g_base g_worth g_row ex g_version) H → va_D A (gG cy qG g_base g_worth g_row ex g_version) → va_S A s.heap H locs → lv_has ls 9 [(0, .ref (qG 0))] → W p l e0 rmX1_sortedOf s m ar below meth c H locs 0 0 Q (F0 m 51 ls [])) → va_P D vwCl (gG cy qG g_base g_worth g_row x.2 g_version) H → va_D A (gG cy qG g_base g_worth g_row x.2 g_version) → va_S A s.heap H locs → lv_has ls 9 [(0, .ref (qG 0)), (1, .int a1), (2, .int x.1)] → W p l e0 rmX1_sortedOf s m ar below meth c H locs 0 0 Q (F0 m 25 ls []) := by
    intro k
    induction k with
    | zero => intro x ex H locs ls hf; exact no_some hf
    | succ k ih =>
      intro x ex H locs ls hf hex hP hD hS hl
      have hf : f_X1_sortedOf_B25 F a1 g_row (lp (f_X1_sortedOf_B25 F a1 g_row) k) x = some ex := hf
      unfold f_X1_sortedOf_B25 at hf
      refine lv_iload_n hx hb dX1_sortedOf_25 rfl (lv_at hl 2 rfl) ?_
      refine lv_iload_n hx hb dX1_sortedOf_26 rfl (lv_at hl 1 rfl) ?_
      refine lv_icmp_ge (tgt := 51) hx hb dX1_sortedOf_27 (by decide) (fun c8 => ?_) (fun c8 => ?_)
      · have hf := if_t hf c8
        obtain rfl := Option.some.inj hf
        exact hex _ _ _ hP hD hS (lv_sub hl [0] rfl)
      · have hf := if_f hf c8
        refine lv_aload_n hx hb dX1_sortedOf_30 rfl (lv_at hl 0 rfl) ?_
        refine va_get (v := .ref (qG 3)) (D := D) (ci := 1) (C := RX1) (T := TX1) (N := 5) hx hb hts huX1 hown hK hP 0 rfl rfl 3 (by decide) fk22 (fun _ h9 => h9) rfl dX1_sortedOf_31 ?_
        refine lv_aload_n hx hb dX1_sortedOf_34 rfl (lv_at hl 0 rfl) ?_
        refine va_get (v := .ref (qG 2)) (D := D) (ci := 1) (C := RX1) (T := TX1) (N := 5) hx hb hts huX1 hown hK hP 0 rfl rfl 2 (by decide) fk19 (fun _ h9 => h9) rfl dX1_sortedOf_35 ?_
        refine lv_iload_n hx hb dX1_sortedOf_38 rfl (lv_at hl 2 rfl) ?_
        obtain ⟨c9, hf⟩ := ck_some hf
        refine va_iald hx hb hK hP 2 0 rfl rfl c9 dX1_sortedOf_39 ?_
        refine lv_dup2_11 hx hb dX1_sortedOf_40 rfl rfl ?_
        obtain ⟨c10, hf⟩ := ck_some hf
        refine va_iald hx hb hK hP 3 0 rfl rfl c10 dX1_sortedOf_41 ?_
        refine lv_iconst (v := (1 : Int32)) hx hb dX1_sortedOf_42 (by decide) ?_
        refine lv_iadd hx hb dX1_sortedOf_43 ?_
        obtain ⟨c11, hf⟩ := ck_some hf
        refine va_iast hx hb hK hP hD hS 3 0 rfl rfl c11 dX1_sortedOf_44 (fun H locs hP hD hS => ?_)
        have hP : va_P D vwCl (gG cy qG g_base g_worth g_row (upd x.2 (g_row x.1.toNatClampNeg).toNatClampNeg ((x.2 (g_row x.1.toNatClampNeg).toNatClampNeg) + (1 : Int32))) g_version) H := hP
        have hD : va_D A (gG cy qG g_base g_worth g_row (upd x.2 (g_row x.1.toNatClampNeg).toNatClampNeg ((x.2 (g_row x.1.toNatClampNeg).toNatClampNeg) + (1 : Int32))) g_version) := hD
        refine lv_iinc (v := (x.1 + (1 : Int32))) (lv' := [(2, .int (x.1 + (1 : Int32))), (0, .ref (qG 0)), (1, .int a1)]) hx hb dX1_sortedOf_45 hl (k := 2) rfl rfl (by decide) rfl (fun ls hl => ?_)
        refine lv_goto (tgt := 25) hx hb dX1_sortedOf_48 (by decide) ?_
        exact ih ((x.1 + (1 : Int32)), (upd x.2 (g_row x.1.toNatClampNeg).toNatClampNeg ((x.2 (g_row x.1.toNatClampNeg).toNatClampNeg) + (1 : Int32)))) ex _ _ _ hf hex hP hD hS (lv_sub hl [1, 2, 0] rfl)
  have hL2 : ∀ (k : Nat) (x : Int32 × (Nat → Int32)) (ex : (Nat → Int32)) (H : Heap) (locs : List Loc) (ls : Array Slot), lp (f_X1_sortedOf_B2 F g_base) k x = some ex → (∀ (H : Heap) (locs : List Loc) (ls : Array Slot), va_P D vwCl (gG cy qG g_base g_worth g_row ex g_version) H → va_D A (gG cy qG g_base g_worth g_row ex g_version) → va_S A s.heap H locs → lv_has ls 9 [(0, .ref (qG 0)), (1, .int a1)] → W p l e0 rmX1_sortedOf s m ar below meth c H locs 0 0 Q (F0 m 23 ls [])) → va_P D vwCl (gG cy qG g_base g_worth g_row x.2 g_version) H → va_D A (gG cy qG g_base g_worth g_row x.2 g_version) → va_S A s.heap H locs → lv_has ls 9 [(0, .ref (qG 0)), (1, .int a1), (2, .int x.1)] → W p l e0 rmX1_sortedOf s m ar below meth c H locs 0 0 Q (F0 m 2 ls []) := by
    intro k
    induction k with
    | zero => intro x ex H locs ls hf; exact no_some hf
    | succ k ih =>
      intro x ex H locs ls hf hex hP hD hS hl
      have hf : f_X1_sortedOf_B2 F g_base (lp (f_X1_sortedOf_B2 F g_base) k) x = some ex := hf
      unfold f_X1_sortedOf_B2 at hf
      refine lv_iload_n hx hb dX1_sortedOf_2 rfl (lv_at hl 2 rfl) ?_
      refine lv_aload_n hx hb dX1_sortedOf_3 rfl (lv_at hl 0 rfl) ?_
      refine va_get (D := D) (ci := 1) (C := RX1) (T := TX1) (N := 5) hx hb hts huX1 hown hK hP 0 rfl rfl 0 (by decide) fk9 (fun _ h9 => h9) rfl dX1_sortedOf_4 ?_
      refine lv_icmp_ge (tgt := 23) hx hb dX1_sortedOf_7 (by decide) (fun c12 => ?_) (fun c12 => ?_)
      · have hf := if_t hf c12
        obtain rfl := Option.some.inj hf
        exact hex _ _ _ hP hD hS (lv_sub hl [0, 1] rfl)
      · have hf := if_f hf c12
        refine lv_aload_n hx hb dX1_sortedOf_10 rfl (lv_at hl 0 rfl) ?_
        refine va_get (v := .ref (qG 3)) (D := D) (ci := 1) (C := RX1) (T := TX1) (N := 5) hx hb hts huX1 hown hK hP 0 rfl rfl 3 (by decide) fk22 (fun _ h9 => h9) rfl dX1_sortedOf_11 ?_
        refine lv_iload_n hx hb dX1_sortedOf_14 rfl (lv_at hl 2 rfl) ?_
        refine lv_iconst (v := (0 : Int32)) hx hb dX1_sortedOf_15 (by decide) ?_
        obtain ⟨c13, hf⟩ := ck_some hf
        refine va_iast hx hb hK hP hD hS 3 0 rfl rfl c13 dX1_sortedOf_16 (fun H locs hP hD hS => ?_)
        have hP : va_P D vwCl (gG cy qG g_base g_worth g_row (upd x.2 x.1.toNatClampNeg (0 : Int32)) g_version) H := hP
        have hD : va_D A (gG cy qG g_base g_worth g_row (upd x.2 x.1.toNatClampNeg (0 : Int32)) g_version) := hD
        refine lv_iinc (v := (x.1 + (1 : Int32))) (lv' := [(2, .int (x.1 + (1 : Int32))), (0, .ref (qG 0)), (1, .int a1)]) hx hb dX1_sortedOf_17 hl (k := 2) rfl rfl (by decide) rfl (fun ls hl => ?_)
        refine lv_goto (tgt := 2) hx hb dX1_sortedOf_20 (by decide) ?_
        exact ih ((x.1 + (1 : Int32)), (upd x.2 x.1.toNatClampNeg (0 : Int32))) ex _ _ _ hf hex hP hD hS (lv_sub hl [1, 2, 0] rfl)
  refine lv_iconst (v := (0 : Int32)) hx hb dX1_sortedOf_0 (by decide) ?_
  refine lv_istore_n (lv' := [(2, .int (0 : Int32)), (0, .ref (qG 0)), (1, .int a1)]) hx hb dX1_sortedOf_1 rfl hl (by decide) rfl (fun ls hl => ?_)
  obtain ⟨ex14, hcl, hf⟩ := ob_some hf
  refine hL2 F ((0 : Int32), g_many) ex14 _ _ _ hcl (fun H locs ls hP hD hS hl => ?_) hP hD hS (lv_sub hl [1, 2, 0] rfl)
  refine lv_iconst (v := (0 : Int32)) hx hb dX1_sortedOf_23 (by decide) ?_
  refine lv_istore_n (lv' := [(2, .int (0 : Int32)), (0, .ref (qG 0)), (1, .int a1)]) hx hb dX1_sortedOf_24 rfl hl (by decide) rfl (fun ls hl => ?_)
  obtain ⟨ex15, hcl, hf⟩ := ob_some hf
  refine hL25 F ((0 : Int32), ex14) ex15 _ _ _ hcl (fun H locs ls hP hD hS hl => ?_) hP hD hS (lv_sub hl [1, 2, 0] rfl)
  refine lv_lconst (v := (0 : Int64)) hx hb dX1_sortedOf_51 (by decide) ?_
  refine lv_lstore_n (lv' := [(2, .long (0 : Int64)), (0, .ref (qG 0))]) hx hb dX1_sortedOf_52 rfl hl (by decide) rfl (fun ls hl => ?_)
  refine lv_lconst (v := (0 : Int64)) hx hb dX1_sortedOf_53 (by decide) ?_
  refine lv_lstore (lv' := [(4, .long (0 : Int64)), (2, .long (0 : Int64)), (0, .ref (qG 0))]) hx hb dX1_sortedOf_54 hl (by decide) rfl (fun ls hl => ?_)
  refine lv_iconst (v := (0 : Int32)) hx hb dX1_sortedOf_56 (by decide) ?_
  refine lv_istore (lv' := [(6, .int (0 : Int32)), (4, .long (0 : Int64)), (2, .long (0 : Int64)), (0, .ref (qG 0))]) hx hb dX1_sortedOf_57 hl (by decide) rfl (fun ls hl => ?_)
  obtain ⟨ex16, hcl, hf⟩ := ob_some hf
  refine hL59 ex15 F ((0 : Int64), (0 : Int64), (0 : Int32)) ex16 _ _ _ hcl (fun H locs ls hP hD hS hl => ?_) hP hD hS (lv_sub hl [3, 2, 1, 0] rfl)
  refine lv_lload_n hx hb dX1_sortedOf_153 rfl (lv_at hl 0 rfl) ?_
  refine lv_lload hx hb dX1_sortedOf_154 (lv_at hl 1 rfl) ?_
  refine lv_lsub hx hb dX1_sortedOf_156 ?_
  obtain rfl := Option.some.inj hf
  exact hQ () 157 _ _ _ dX1_sortedOf_157 hP hD hS
def f_X1_productOf_J55 (F : Nat) (rec : (Int64 × Int32) → Option ((Int64) ⊕ (Int64))) (x4 : Int32) (s0 : Int64) : Option ((Int64) ⊕ (Int64)) := rec (s0, (x4 + (1 : Int32)))
def f_X1_productOf_B5 (F : Nat) (a1 : Int32) (g_worth : Nat → Int32) (g_row : Nat → Int32) (rec : Int64 × Int32 → Option ((Int64) ⊕ (Int64))) (x : Int64 × Int32) : Option ((Int64) ⊕ (Int64)) := if a1 ≤ x.2 then (some (.inr x.1)) else (ck (¬ (x.2 < 0 ∨ 64 ≤ x.2.toNatClampNeg)) (ck (¬ ((g_row x.2.toNatClampNeg) < 0 ∨ 16 ≤ (g_row x.2.toNatClampNeg).toNatClampNeg)) (if (g_worth (g_row x.2.toNatClampNeg).toNatClampNeg) = 0 then (some (.inl (0 : Int64))) else (ck (¬ (g_worth (g_row x.2.toNatClampNeg).toNatClampNeg).toInt64 = 0) (if x.1 ≤ ((1000000000000000 : Int64) / (g_worth (g_row x.2.toNatClampNeg).toNatClampNeg).toInt64) then (f_X1_productOf_J55 F rec x.2 (x.1 * (g_worth (g_row x.2.toNatClampNeg).toNatClampNeg).toInt64)) else (f_X1_productOf_J55 F rec x.2 (1000000000000001 : Int64)))))))
def f_X1_productOf (F : Nat) (a1 : Int32) (g_worth : Nat → Int32) (g_row : Nat → Int32) : Option (Int64) := (lp (f_X1_productOf_B5 F a1 g_worth g_row) F ((1 : Int64), (0 : Int32))).bind (fun ex7 => Sum.elim (fun r => some r) (fun er8 => some er8) ex7)
abbrev rmX1_productOf : Room := { frames := 0, cells := 0, slots := 0, locals := 0 }
set_option maxHeartbeats 1000000 in
set_option maxRecDepth 100000 in
theorem c_X1_productOf {l : Launch} {D : va_G} {cy : Nat → ClassId} {qG : Nat → Nat} {g_base : Int32} {g_worth : Nat → Int32} {g_row : Nat → Int32} {g_many : Nat → Int32} {g_version : Int32} {a1 : Int32} {F : Nat} {res : Int64} (hf : f_X1_productOf F a1 g_worth g_row = some res) : kM l yX1_productOf wsX1_productOf rmX1_productOf D cy [.ref (qG 0), .int a1] (gG cy qG g_base g_worth g_row g_many g_version) (kQl D cy (fun _ : Unit => gG cy qG g_base g_worth g_row g_many g_version) res) := by
  refine kent_l (cc := cX1_productOf) (maxL := 6) (by decide) rfl (Nat.le_of_ble_eq_true rfl) ?_
  intro p e0 s m ar below meth c A Q ls ⟨hx, hb, hml, hr, hts, hown, hlocks, hnm⟩ hA hK hN hQ hP hD hS hl
  have hl : lv_has ls 6 [(0, .ref (qG 0)), (1, .int a1)] := hl
  have hown : s.vm.findClass RX1 = some m.cls := hown
  have huX1 : ∀ x ∈ u_ws RX1 TX1 5, x ∈ wsX1_productOf := by decide +kernel
  have fk15 : (Cond.fieldLink RX1 15 "FigurePlay$Figures" "worth" "[I").before ar s = true := hts _ (by decide +kernel)
  have fk19 : (Cond.fieldLink RX1 19 "FigurePlay$Figures" "row" "[I").before ar s = true := hts _ (by decide +kernel)
  have fk49 : (Cond.constantLong RX1 49 (1000000000000000)).before ar s = true := hts _ (by decide +kernel)
  have fk51 : (Cond.constantLong RX1 51 (1000000000000001)).before ar s = true := hts _ (by decide +kernel)
  unfold f_X1_productOf at hf
  have hL5 : ∀ (k : Nat) (x : Int64 × Int32) (ex : (Int64) ⊕ (Int64)) (H : Heap) (locs : List Loc) (ls : Array Slot), lp (f_X1_productOf_B5 F a1 g_worth g_row) k x = some ex → (∀ r, ex = .inl r → r = res) → (∀ er, ex = .inr er → ∀ (H : Heap) (locs : List Loc) (ls : Array Slot), va_P D vwCl (gG cy qG g_base g_worth g_row g_many g_version) H → va_D A (gG cy qG g_base g_worth g_row g_many g_version) → va_S A s.heap H locs → lv_has ls 6 [(2, .long er)] → W p l e0 rmX1_productOf s m ar below meth c H locs 0 0 Q (F0 m 62 ls [])) → va_P D vwCl (gG cy qG g_base g_worth g_row g_many g_version) H → va_D A (gG cy qG g_base g_worth g_row g_many g_version) → va_S A s.heap H locs → lv_has ls 6 [(0, .ref (qG 0)), (1, .int a1), (2, .long x.1), (4, .int x.2)] → W p l e0 rmX1_productOf s m ar below meth c H locs 0 0 Q (F0 m 5 ls []) := by
    intro k
    induction k with
    | zero => intro x ex H locs ls hf; exact no_some hf
    | succ k ih =>
      intro x ex H locs ls hf hret hex hP hD hS hl
      have hf : f_X1_productOf_B5 F a1 g_worth g_row (lp (f_X1_productOf_B5 F a1 g_worth g_row) k) x = some ex := hf
      unfold f_X1_productOf_B5 at hf
      have hJ55 : ∀ (x4 : Int32) (s0 : Int64) (H : Heap) (locs : List Loc) (ls : Array Slot), f_X1_productOf_J55 F (lp (f_X1_productOf_B5 F a1 g_worth g_row) k) x4 s0 = some ex → va_P D vwCl (gG cy qG g_base g_worth g_row g_many g_version) H → va_D A (gG cy qG g_base g_worth g_row g_many g_version) → va_S A s.heap H locs → lv_has ls 6 [(0, .ref (qG 0)), (1, .int a1), (4, .int x4)] → W p l e0 rmX1_productOf s m ar below meth c H locs 0 0 Q (F0 m 55 ls [.long s0]) := by
        intro x4 s0 H locs ls hf hP hD hS hl
        unfold f_X1_productOf_J55 at hf
        refine lv_lstore_n (lv' := [(2, .long s0), (0, .ref (qG 0)), (1, .int a1), (4, .int x4)]) hx hb dX1_productOf_55 rfl hl (by decide) rfl (fun ls hl => ?_)
        refine lv_iinc (v := (x4 + (1 : Int32))) (lv' := [(4, .int (x4 + (1 : Int32))), (2, .long s0), (0, .ref (qG 0)), (1, .int a1)]) hx hb dX1_productOf_56 hl (k := 3) rfl rfl (by decide) rfl (fun ls hl => ?_)
        refine lv_goto (tgt := 5) hx hb dX1_productOf_59 (by decide) ?_
        exact ih (s0, (x4 + (1 : Int32))) ex _ _ _ hf hret hex hP hD hS (lv_sub hl [2, 3, 1, 0] rfl)
      refine lv_iload hx hb dX1_productOf_5 (lv_at hl 3 rfl) ?_
      refine lv_iload_n hx hb dX1_productOf_7 rfl (lv_at hl 1 rfl) ?_
      refine lv_icmp_ge (tgt := 62) hx hb dX1_productOf_8 (by decide) (fun c1 => ?_) (fun c1 => ?_)
      · have hf := if_t hf c1
        obtain rfl := Option.some.inj hf
        exact hex _ rfl _ _ _ hP hD hS (lv_sub hl [2] rfl)
      · have hf := if_f hf c1
        refine lv_aload_n hx hb dX1_productOf_11 rfl (lv_at hl 0 rfl) ?_
        refine va_get (v := .ref (qG 1)) (D := D) (ci := 1) (C := RX1) (T := TX1) (N := 5) hx hb hts huX1 hown hK hP 0 rfl rfl 1 (by decide) fk15 (fun _ h9 => h9) rfl dX1_productOf_12 ?_
        refine lv_aload_n hx hb dX1_productOf_15 rfl (lv_at hl 0 rfl) ?_
        refine va_get (v := .ref (qG 2)) (D := D) (ci := 1) (C := RX1) (T := TX1) (N := 5) hx hb hts huX1 hown hK hP 0 rfl rfl 2 (by decide) fk19 (fun _ h9 => h9) rfl dX1_productOf_16 ?_
        refine lv_iload hx hb dX1_productOf_19 (lv_at hl 3 rfl) ?_
        obtain ⟨c2, hf⟩ := ck_some hf
        refine va_iald hx hb hK hP 2 0 rfl rfl c2 dX1_productOf_21 ?_
        obtain ⟨c3, hf⟩ := ck_some hf
        refine va_iald hx hb hK hP 1 0 rfl rfl c3 dX1_productOf_22 ?_
        refine lv_istore (lv' := [(5, .int (g_worth (g_row x.2.toNatClampNeg).toNatClampNeg)), (0, .ref (qG 0)), (1, .int a1), (2, .long x.1), (4, .int x.2)]) hx hb dX1_productOf_23 hl (by decide) rfl (fun ls hl => ?_)
        refine lv_iload hx hb dX1_productOf_25 (lv_at hl 0 rfl) ?_
        refine lv_if_ne (tgt := 32) hx hb dX1_productOf_27 (by decide) (fun c4 => ?_) (fun c4 => ?_)
        · have hf := if_f hf c4
          refine lv_lload_n hx hb dX1_productOf_32 rfl (lv_at hl 3 rfl) ?_
          refine lv_ldc2 (v := (1000000000000000 : Int64)) hx hb hown fk49 dX1_productOf_33 ?_
          refine lv_iload hx hb dX1_productOf_36 (lv_at hl 0 rfl) ?_
          refine lv_i2l hx hb dX1_productOf_38 rfl ?_
          obtain ⟨c5, hf⟩ := ck_some hf
          refine lv_ldiv hx hb dX1_productOf_39 c5 ?_
          refine kl_le (tgt := 50) hx hb dX1_productOf_40 dX1_productOf_41 (by decide) (fun c6 => ?_) (fun c6 => ?_)
          · have hf := if_t hf c6
            refine lv_lload_n hx hb dX1_productOf_50 rfl (lv_at hl 3 rfl) ?_
            refine lv_iload hx hb dX1_productOf_51 (lv_at hl 0 rfl) ?_
            refine lv_i2l hx hb dX1_productOf_53 rfl ?_
            refine lv_lmul hx hb dX1_productOf_54 ?_
            exact hJ55 x.2 (x.1 * (g_worth (g_row x.2.toNatClampNeg).toNatClampNeg).toInt64) _ _ _ hf hP hD hS (lv_sub hl [1, 2, 4] rfl)
          · have hf := if_f hf c6
            refine lv_ldc2 (v := (1000000000000001 : Int64)) hx hb hown fk51 dX1_productOf_44 ?_
            refine lv_goto (tgt := 55) hx hb dX1_productOf_47 (by decide) ?_
            exact hJ55 x.2 (1000000000000001 : Int64) _ _ _ hf hP hD hS (lv_sub hl [1, 2, 4] rfl)
        · have hf := if_t hf c4
          refine lv_lconst (v := (0 : Int64)) hx hb dX1_productOf_30 (by decide) ?_
          obtain rfl := Option.some.inj hf
          obtain rfl := hret _ rfl
          exact hQ () 31 _ _ _ dX1_productOf_31 hP hD hS
  refine lv_lconst (v := (1 : Int64)) hx hb dX1_productOf_0 (by decide) ?_
  refine lv_lstore_n (lv' := [(2, .long (1 : Int64)), (0, .ref (qG 0)), (1, .int a1)]) hx hb dX1_productOf_1 rfl hl (by decide) rfl (fun ls hl => ?_)
  refine lv_iconst (v := (0 : Int32)) hx hb dX1_productOf_2 (by decide) ?_
  refine lv_istore (lv' := [(4, .int (0 : Int32)), (2, .long (1 : Int64)), (0, .ref (qG 0)), (1, .int a1)]) hx hb dX1_productOf_3 hl (by decide) rfl (fun ls hl => ?_)
  obtain ⟨ex7, hcl, hf⟩ := ob_some hf
  refine hL5 F ((1 : Int64), (0 : Int32)) ex7 _ _ _ hcl (fun r hr0 => ?_) (fun er8 hr0 H locs ls hP hD hS hl => ?_) hP hD hS (lv_sub hl [2, 3, 1, 0] rfl)
  · subst hr0; exact Option.some.inj (sm_inl hf)
  · subst hr0
    have hf := sm_inr hf
    refine lv_lload_n hx hb dX1_productOf_62 rfl (lv_at hl 0 rfl) ?_
    obtain rfl := Option.some.inj hf
    exact hQ () 63 _ _ _ dX1_productOf_63 hP hD hS
def f_X1_make (F : Nat) (a1 : Int32) (a2 : Int64) (g_base : Int32) (g_worth : Nat → Int32) (g_row : Nat → Int32) (g_many : Nat → Int32) : Option (Int64 × (Nat → Int32) × (Nat → Int32)) := (f_X1_split F a2 g_base g_row).bind (fun r1 => if a1 = 0 then ((f_X1_sumOf F r1.1 g_worth r1.2).bind (fun r4 => some (r4, r1.2, g_many))) else if a1 = 1 then ((f_X1_turnedOf F r1.1 g_base r1.2).bind (fun r7 => some (r7, r1.2, g_many))) else if a1 = 2 then ((f_X1_turnedOf F r1.1 g_base r1.2).bind (fun r10 => some ((a2 + r10), r1.2, g_many))) else if a1 = 3 then ((f_X1_sortedOf F r1.1 g_base r1.2 g_many).bind (fun r13 => some (r13.1, r1.2, r13.2))) else if a1 = 4 then ((f_X1_sumOf F r1.1 g_worth r1.2).bind (fun r16 => some ((a2 + r16), r1.2, g_many))) else ((f_X1_productOf F r1.1 g_worth r1.2).bind (fun r18 => some (r18, r1.2, g_many))))
abbrev rmX1_make : Room := { frames := 1, cells := 0, slots := 0, locals := 28 }
set_option maxHeartbeats 1000000 in
set_option maxRecDepth 100000 in
theorem c_X1_make {l : Launch} {D : va_G} {cy : Nat → ClassId} {qG : Nat → Nat} {g_base : Int32} {g_worth : Nat → Int32} {g_row : Nat → Int32} {g_many : Nat → Int32} {g_version : Int32} {a1 : Int32} {a2 : Int64} {F : Nat} {res : Int64 × (Nat → Int32) × (Nat → Int32)} (hf : f_X1_make F a1 a2 g_base g_worth g_row g_many = some res) : kM l yX1_make wsX1_make rmX1_make D cy [.ref (qG 0), .int a1, .long a2] (gG cy qG g_base g_worth g_row g_many g_version) (kQl D cy (fun _ : Unit => gG cy qG g_base g_worth res.2.1 res.2.2 g_version) res.1) := by
  refine kent_l (cc := cX1_make) (maxL := 5) (by decide) rfl (Nat.le_of_ble_eq_true rfl) ?_
  intro p e0 s m ar below meth c A Q ls ⟨hx, hb, hml, hr, hts, hown, hlocks, hnm⟩ hA hK hN hQ hP hD hS hl
  have hl : lv_has ls 5 [(0, .ref (qG 0)), (1, .int a1), (2, .long a2)] := hl
  have hown : s.vm.findClass RX1 = some m.cls := hown
  unfold f_X1_make at hf
  refine lv_aload_n hx hb dX1_make_0 rfl (lv_at hl 0 rfl) ?_
  refine lv_lload_n hx hb dX1_make_1 rfl (lv_at hl 2 rfl) ?_
  obtain ⟨r1, hc2, hf⟩ := ob_some hf
  refine kc_i (k_run ⟨hx, hb, hml, hown, hts⟩ (c_X1_split hc2) (cwV 1 hts gX1_make_X1_split rfl rfl rfl (by decide +kernel) ⟨Nat.le_of_ble_eq_true rfl, Nat.le_of_ble_eq_true rfl⟩) hK hN hP hD kA_s (ci := 1) (q0 := 0) rfl rfl rfl rfl hl.1 rfl (Nat.le_of_ble_eq_true rfl) dX1_make_2 ⟨Nat.le_of_ble_eq_true rfl, Nat.le_of_ble_eq_true rfl⟩) hP hD hS hA kI_s (fun _ H locs hP hD hS => ?_)
  refine lv_istore (lv' := [(4, .int r1.1), (0, .ref (qG 0)), (1, .int a1), (2, .long a2)]) hx hb dX1_make_5 hl (by decide) rfl (fun ls hl => ?_)
  refine lv_iload_n hx hb dX1_make_7 rfl (lv_at hl 2 rfl) ?_
  by_cases c3 : a1 = 0
  · have hf := if_t hf c3
    refine lv_tableIn (tgt := 44) hx hb dX1_make_8 (by rw [c3]; decide) (by rw [c3]; decide) (by rw [c3]; rfl) (by decide) ?_
    refine lv_aload_n hx hb dX1_make_44 rfl (lv_at hl 1 rfl) ?_
    refine lv_iload hx hb dX1_make_45 (lv_at hl 0 rfl) ?_
    obtain ⟨r4, hc5, hf⟩ := ob_some hf
    refine kc_l (k_run ⟨hx, hb, hml, hown, hts⟩ (c_X1_sumOf hc5) (cwV 1 hts gX1_make_X1_sumOf rfl rfl rfl (by decide +kernel) ⟨Nat.le_of_ble_eq_true rfl, Nat.le_of_ble_eq_true rfl⟩) hK hN hP hD kA_s (ci := 1) (q0 := 0) rfl rfl rfl rfl hl.1 rfl (Nat.le_of_ble_eq_true rfl) dX1_make_47 ⟨Nat.le_of_ble_eq_true rfl, Nat.le_of_ble_eq_true rfl⟩) hP hD hS hA kI_s (fun _ H locs hP hD hS => ?_)
    obtain rfl := Option.some.inj hf
    exact hQ () 50 _ _ _ dX1_make_50 hP hD hS
  have hf := if_f hf c3
  by_cases c6 : a1 = 1
  · have hf := if_t hf c6
    refine lv_tableIn (tgt := 51) hx hb dX1_make_8 (by rw [c6]; decide) (by rw [c6]; decide) (by rw [c6]; rfl) (by decide) ?_
    refine lv_aload_n hx hb dX1_make_51 rfl (lv_at hl 1 rfl) ?_
    refine lv_iload hx hb dX1_make_52 (lv_at hl 0 rfl) ?_
    obtain ⟨r7, hc8, hf⟩ := ob_some hf
    refine kc_l (k_run ⟨hx, hb, hml, hown, hts⟩ (c_X1_turnedOf hc8) (cwV 1 hts gX1_make_X1_turnedOf rfl rfl rfl (by decide +kernel) ⟨Nat.le_of_ble_eq_true rfl, Nat.le_of_ble_eq_true rfl⟩) hK hN hP hD kA_s (ci := 1) (q0 := 0) rfl rfl rfl rfl hl.1 rfl (Nat.le_of_ble_eq_true rfl) dX1_make_54 ⟨Nat.le_of_ble_eq_true rfl, Nat.le_of_ble_eq_true rfl⟩) hP hD hS hA kI_s (fun _ H locs hP hD hS => ?_)
    obtain rfl := Option.some.inj hf
    exact hQ () 57 _ _ _ dX1_make_57 hP hD hS
  have hf := if_f hf c6
  by_cases c9 : a1 = 2
  · have hf := if_t hf c9
    refine lv_tableIn (tgt := 58) hx hb dX1_make_8 (by rw [c9]; decide) (by rw [c9]; decide) (by rw [c9]; rfl) (by decide) ?_
    refine lv_lload_n hx hb dX1_make_58 rfl (lv_at hl 3 rfl) ?_
    refine lv_aload_n hx hb dX1_make_59 rfl (lv_at hl 1 rfl) ?_
    refine lv_iload hx hb dX1_make_60 (lv_at hl 0 rfl) ?_
    obtain ⟨r10, hc11, hf⟩ := ob_some hf
    refine kc_l (k_run ⟨hx, hb, hml, hown, hts⟩ (c_X1_turnedOf hc11) (cwV 1 hts gX1_make_X1_turnedOf rfl rfl rfl (by decide +kernel) ⟨Nat.le_of_ble_eq_true rfl, Nat.le_of_ble_eq_true rfl⟩) hK hN hP hD kA_s (ci := 1) (q0 := 0) rfl rfl rfl rfl hl.1 rfl (Nat.le_of_ble_eq_true rfl) dX1_make_62 ⟨Nat.le_of_ble_eq_true rfl, Nat.le_of_ble_eq_true rfl⟩) hP hD hS hA kI_s (fun _ H locs hP hD hS => ?_)
    refine lv_ladd hx hb dX1_make_65 ?_
    obtain rfl := Option.some.inj hf
    exact hQ () 66 _ _ _ dX1_make_66 hP hD hS
  have hf := if_f hf c9
  by_cases c12 : a1 = 3
  · have hf := if_t hf c12
    refine lv_tableIn (tgt := 67) hx hb dX1_make_8 (by rw [c12]; decide) (by rw [c12]; decide) (by rw [c12]; rfl) (by decide) ?_
    refine lv_aload_n hx hb dX1_make_67 rfl (lv_at hl 1 rfl) ?_
    refine lv_iload hx hb dX1_make_68 (lv_at hl 0 rfl) ?_
    obtain ⟨r13, hc14, hf⟩ := ob_some hf
    refine kc_l (k_run ⟨hx, hb, hml, hown, hts⟩ (c_X1_sortedOf hc14) (cwV 1 hts gX1_make_X1_sortedOf rfl rfl rfl (by decide +kernel) ⟨Nat.le_of_ble_eq_true rfl, Nat.le_of_ble_eq_true rfl⟩) hK hN hP hD kA_s (ci := 1) (q0 := 0) rfl rfl rfl rfl hl.1 rfl (Nat.le_of_ble_eq_true rfl) dX1_make_70 ⟨Nat.le_of_ble_eq_true rfl, Nat.le_of_ble_eq_true rfl⟩) hP hD hS hA kI_s (fun _ H locs hP hD hS => ?_)
    obtain rfl := Option.some.inj hf
    exact hQ () 73 _ _ _ dX1_make_73 hP hD hS
  have hf := if_f hf c12
  by_cases c15 : a1 = 4
  · have hf := if_t hf c15
    refine lv_tableIn (tgt := 74) hx hb dX1_make_8 (by rw [c15]; decide) (by rw [c15]; decide) (by rw [c15]; rfl) (by decide) ?_
    refine lv_lload_n hx hb dX1_make_74 rfl (lv_at hl 3 rfl) ?_
    refine lv_aload_n hx hb dX1_make_75 rfl (lv_at hl 1 rfl) ?_
    refine lv_iload hx hb dX1_make_76 (lv_at hl 0 rfl) ?_
    obtain ⟨r16, hc17, hf⟩ := ob_some hf
    refine kc_l (k_run ⟨hx, hb, hml, hown, hts⟩ (c_X1_sumOf hc17) (cwV 1 hts gX1_make_X1_sumOf rfl rfl rfl (by decide +kernel) ⟨Nat.le_of_ble_eq_true rfl, Nat.le_of_ble_eq_true rfl⟩) hK hN hP hD kA_s (ci := 1) (q0 := 0) rfl rfl rfl rfl hl.1 rfl (Nat.le_of_ble_eq_true rfl) dX1_make_78 ⟨Nat.le_of_ble_eq_true rfl, Nat.le_of_ble_eq_true rfl⟩) hP hD hS hA kI_s (fun _ H locs hP hD hS => ?_)
    refine lv_ladd hx hb dX1_make_81 ?_
    obtain rfl := Option.some.inj hf
    exact hQ () 82 _ _ _ dX1_make_82 hP hD hS
  have hf := if_f hf c15
  have nc3 : a1.toInt ≠ 0 := ts_ne c3
  have nc6 : a1.toInt ≠ 1 := ts_ne c6
  have nc9 : a1.toInt ≠ 2 := ts_ne c9
  have nc12 : a1.toInt ≠ 3 := ts_ne c12
  have nc15 : a1.toInt ≠ 4 := ts_ne c15
  refine lv_tableOut (tgt := 83) hx hb dX1_make_8 (by omega) (by decide) ?_
  refine lv_aload_n hx hb dX1_make_83 rfl (lv_at hl 1 rfl) ?_
  refine lv_iload hx hb dX1_make_84 (lv_at hl 0 rfl) ?_
  obtain ⟨r18, hc19, hf⟩ := ob_some hf
  refine kc_l (k_run ⟨hx, hb, hml, hown, hts⟩ (c_X1_productOf hc19) (cwV 1 hts gX1_make_X1_productOf rfl rfl rfl (by decide +kernel) ⟨Nat.le_of_ble_eq_true rfl, Nat.le_of_ble_eq_true rfl⟩) hK hN hP hD kA_s (ci := 1) (q0 := 0) rfl rfl rfl rfl hl.1 rfl (Nat.le_of_ble_eq_true rfl) dX1_make_86 ⟨Nat.le_of_ble_eq_true rfl, Nat.le_of_ble_eq_true rfl⟩) hP hD hS hA kI_s (fun _ H locs hP hD hS => ?_)
  obtain rfl := Option.some.inj hf
  exact hQ () 89 _ _ _ dX1_make_89 hP hD hS
def f_X1_hasIdleFigure_B2 (F : Nat) (g_base : Int32) (g_worth : Nat → Int32) (rec : Int32 → Option ((Int32) ⊕ (Unit))) (x : Int32) : Option ((Int32) ⊕ (Unit)) := if g_base ≤ x then (some (.inr ())) else (ck (¬ (x < 0 ∨ 16 ≤ x.toNatClampNeg)) (if (g_worth x.toNatClampNeg) = 0 then (some (.inl (1 : Int32))) else (rec (x + (1 : Int32)))))
def f_X1_hasIdleFigure (F : Nat) (g_base : Int32) (g_worth : Nat → Int32) : Option (Int32) := (lp (f_X1_hasIdleFigure_B2 F g_base g_worth) F (1 : Int32)).bind (fun ex4 => Sum.elim (fun r => some r) (fun er5 => some (0 : Int32)) ex4)
abbrev rmX1_hasIdleFigure : Room := { frames := 0, cells := 0, slots := 0, locals := 0 }
set_option maxHeartbeats 1000000 in
set_option maxRecDepth 100000 in
theorem c_X1_hasIdleFigure {l : Launch} {D : va_G} {cy : Nat → ClassId} {qG : Nat → Nat} {g_base : Int32} {g_worth : Nat → Int32} {g_row : Nat → Int32} {g_many : Nat → Int32} {g_version : Int32} {F : Nat} {res : Int32} (hf : f_X1_hasIdleFigure F g_base g_worth = some res) : kM l yX1_hasIdleFigure wsX1_hasIdleFigure rmX1_hasIdleFigure D cy [.ref (qG 0)] (gG cy qG g_base g_worth g_row g_many g_version) (kQi D cy (fun _ : Unit => gG cy qG g_base g_worth g_row g_many g_version) res) := by
  refine kent_z (cc := cX1_hasIdleFigure) (maxL := 2) (by decide) rfl (Nat.le_of_ble_eq_true rfl) ?_
  intro p e0 s m ar below meth c A Q ls ⟨hx, hb, hml, hr, hts, hown, hlocks, hnm⟩ hA hK hN hQ hP hD hS hl
  have hl : lv_has ls 2 [(0, .ref (qG 0))] := hl
  have hown : s.vm.findClass RX1 = some m.cls := hown
  have huX1 : ∀ x ∈ u_ws RX1 TX1 5, x ∈ wsX1_hasIdleFigure := by decide +kernel
  have fk9 : (Cond.fieldLink RX1 9 "FigurePlay$Figures" "base" "I").before ar s = true := hts _ (by decide +kernel)
  have fk15 : (Cond.fieldLink RX1 15 "FigurePlay$Figures" "worth" "[I").before ar s = true := hts _ (by decide +kernel)
  unfold f_X1_hasIdleFigure at hf
  have hL2 : ∀ (k : Nat) (x : Int32) (ex : (Int32) ⊕ (Unit)) (H : Heap) (locs : List Loc) (ls : Array Slot), lp (f_X1_hasIdleFigure_B2 F g_base g_worth) k x = some ex → (∀ r, ex = .inl r → r = res) → (∀ er, ex = .inr er → ∀ (H : Heap) (locs : List Loc) (ls : Array Slot), va_P D vwCl (gG cy qG g_base g_worth g_row g_many g_version) H → va_D A (gG cy qG g_base g_worth g_row g_many g_version) → va_S A s.heap H locs → lv_has ls 2 [] → W p l e0 rmX1_hasIdleFigure s m ar below meth c H locs 0 0 Q (F0 m 27 ls [])) → va_P D vwCl (gG cy qG g_base g_worth g_row g_many g_version) H → va_D A (gG cy qG g_base g_worth g_row g_many g_version) → va_S A s.heap H locs → lv_has ls 2 [(0, .ref (qG 0)), (1, .int x)] → W p l e0 rmX1_hasIdleFigure s m ar below meth c H locs 0 0 Q (F0 m 2 ls []) := by
    intro k
    induction k with
    | zero => intro x ex H locs ls hf; exact no_some hf
    | succ k ih =>
      intro x ex H locs ls hf hret hex hP hD hS hl
      have hf : f_X1_hasIdleFigure_B2 F g_base g_worth (lp (f_X1_hasIdleFigure_B2 F g_base g_worth) k) x = some ex := hf
      unfold f_X1_hasIdleFigure_B2 at hf
      refine lv_iload_n hx hb dX1_hasIdleFigure_2 rfl (lv_at hl 1 rfl) ?_
      refine lv_aload_n hx hb dX1_hasIdleFigure_3 rfl (lv_at hl 0 rfl) ?_
      refine va_get (D := D) (ci := 1) (C := RX1) (T := TX1) (N := 5) hx hb hts huX1 hown hK hP 0 rfl rfl 0 (by decide) fk9 (fun _ h9 => h9) rfl dX1_hasIdleFigure_4 ?_
      refine lv_icmp_ge (tgt := 27) hx hb dX1_hasIdleFigure_7 (by decide) (fun c1 => ?_) (fun c1 => ?_)
      · have hf := if_t hf c1
        obtain rfl := Option.some.inj hf
        exact hex _ rfl _ _ _ hP hD hS (lv_sub hl [] rfl)
      · have hf := if_f hf c1
        refine lv_aload_n hx hb dX1_hasIdleFigure_10 rfl (lv_at hl 0 rfl) ?_
        refine va_get (v := .ref (qG 1)) (D := D) (ci := 1) (C := RX1) (T := TX1) (N := 5) hx hb hts huX1 hown hK hP 0 rfl rfl 1 (by decide) fk15 (fun _ h9 => h9) rfl dX1_hasIdleFigure_11 ?_
        refine lv_iload_n hx hb dX1_hasIdleFigure_14 rfl (lv_at hl 1 rfl) ?_
        obtain ⟨c2, hf⟩ := ck_some hf
        refine va_iald hx hb hK hP 1 0 rfl rfl c2 dX1_hasIdleFigure_15 ?_
        refine lv_if_ne (tgt := 21) hx hb dX1_hasIdleFigure_16 (by decide) (fun c3 => ?_) (fun c3 => ?_)
        · have hf := if_f hf c3
          refine lv_iinc (v := (x + (1 : Int32))) (lv' := [(1, .int (x + (1 : Int32))), (0, .ref (qG 0))]) hx hb dX1_hasIdleFigure_21 hl (k := 1) rfl rfl (by decide) rfl (fun ls hl => ?_)
          refine lv_goto (tgt := 2) hx hb dX1_hasIdleFigure_24 (by decide) ?_
          exact ih (x + (1 : Int32)) ex _ _ _ hf hret hex hP hD hS (lv_sub hl [1, 0] rfl)
        · have hf := if_t hf c3
          refine lv_iconst (v := (1 : Int32)) hx hb dX1_hasIdleFigure_19 (by decide) ?_
          obtain rfl := Option.some.inj hf
          obtain rfl := hret _ rfl
          exact hQ () 20 _ _ _ (show (1 : Int32) &&& 1 = (1 : Int32) from by decide) dX1_hasIdleFigure_20 hP hD hS
  refine lv_iconst (v := (1 : Int32)) hx hb dX1_hasIdleFigure_0 (by decide) ?_
  refine lv_istore_n (lv' := [(1, .int (1 : Int32)), (0, .ref (qG 0))]) hx hb dX1_hasIdleFigure_1 rfl hl (by decide) rfl (fun ls hl => ?_)
  obtain ⟨ex4, hcl, hf⟩ := ob_some hf
  refine hL2 F (1 : Int32) ex4 _ _ _ hcl (fun r hr0 => ?_) (fun er5 hr0 H locs ls hP hD hS hl => ?_) hP hD hS (lv_sub hl [1, 0] rfl)
  · subst hr0; exact Option.some.inj (sm_inl hf)
  · subst hr0
    have hf := sm_inr hf
    refine lv_iconst (v := (0 : Int32)) hx hb dX1_hasIdleFigure_27 (by decide) ?_
    obtain rfl := Option.some.inj hf
    exact hQ () 28 _ _ _ (show (0 : Int32) &&& 1 = (0 : Int32) from by decide) dX1_hasIdleFigure_28 hP hD hS
def f_X1_growsForEver_J28 (F : Nat) (s0 : Int32) : Option (Int32) := ck (s0 &&& 1 = s0) (some s0)
def f_X1_growsForEver_J27 (F : Nat) : Option (Int32) := f_X1_growsForEver_J28 F (0 : Int32)
def f_X1_growsForEver_J23 (F : Nat) : Option (Int32) := f_X1_growsForEver_J28 F (1 : Int32)
def f_X1_growsForEver (F : Nat) (a1 : Int32) (a2 : Int64) (g_base : Int32) (g_worth : Nat → Int32) : Option (Int32) := if a2 ≤ (0 : Int64) then (f_X1_growsForEver_J27 F) else (if a1 = (2 : Int32) then (f_X1_growsForEver_J23 F) else (if a1 = (4 : Int32) then ((f_X1_hasIdleFigure F g_base g_worth).bind (fun r4 => if r4 = 0 then (f_X1_growsForEver_J23 F) else (f_X1_growsForEver_J27 F))) else (f_X1_growsForEver_J27 F)))
abbrev rmX1_growsForEver : Room := { frames := 1, cells := 0, slots := 0, locals := 21 }
set_option maxHeartbeats 1000000 in
set_option maxRecDepth 100000 in
theorem c_X1_growsForEver {l : Launch} {D : va_G} {cy : Nat → ClassId} {qG : Nat → Nat} {g_base : Int32} {g_worth : Nat → Int32} {g_row : Nat → Int32} {g_many : Nat → Int32} {g_version : Int32} {a1 : Int32} {a2 : Int64} {F : Nat} {res : Int32} (hf : f_X1_growsForEver F a1 a2 g_base g_worth = some res) : kM l yX1_growsForEver wsX1_growsForEver rmX1_growsForEver D cy [.ref (qG 0), .int a1, .long a2] (gG cy qG g_base g_worth g_row g_many g_version) (kQi D cy (fun _ : Unit => gG cy qG g_base g_worth g_row g_many g_version) res) := by
  refine kent_z (cc := cX1_growsForEver) (maxL := 4) (by decide) rfl (Nat.le_of_ble_eq_true rfl) ?_
  intro p e0 s m ar below meth c A Q ls ⟨hx, hb, hml, hr, hts, hown, hlocks, hnm⟩ hA hK hN hQ hP hD hS hl
  have hl : lv_has ls 4 [(0, .ref (qG 0)), (1, .int a1), (2, .long a2)] := hl
  have hown : s.vm.findClass RX1 = some m.cls := hown
  unfold f_X1_growsForEver at hf
  have hJ28 : ∀ (s0 : Int32) (H : Heap) (locs : List Loc) (ls : Array Slot), f_X1_growsForEver_J28 F s0 = some res → va_P D vwCl (gG cy qG g_base g_worth g_row g_many g_version) H → va_D A (gG cy qG g_base g_worth g_row g_many g_version) → va_S A s.heap H locs → lv_has ls 4 [] → W p l e0 rmX1_growsForEver s m ar below meth c H locs 0 0 Q (F0 m 28 ls [.int s0]) := by
    intro s0 H locs ls hf hP hD hS hl
    unfold f_X1_growsForEver_J28 at hf
    obtain ⟨cz, hf⟩ := ck_some hf
    obtain rfl := Option.some.inj hf
    exact hQ () 28 _ _ _ cz dX1_growsForEver_28 hP hD hS
  have hJ27 : ∀ (H : Heap) (locs : List Loc) (ls : Array Slot), f_X1_growsForEver_J27 F = some res → va_P D vwCl (gG cy qG g_base g_worth g_row g_many g_version) H → va_D A (gG cy qG g_base g_worth g_row g_many g_version) → va_S A s.heap H locs → lv_has ls 4 [] → W p l e0 rmX1_growsForEver s m ar below meth c H locs 0 0 Q (F0 m 27 ls []) := by
    intro H locs ls hf hP hD hS hl
    unfold f_X1_growsForEver_J27 at hf
    refine lv_iconst (v := (0 : Int32)) hx hb dX1_growsForEver_27 (by decide) ?_
    exact hJ28 (0 : Int32) _ _ _ hf hP hD hS (lv_sub hl [] rfl)
  have hJ23 : ∀ (H : Heap) (locs : List Loc) (ls : Array Slot), f_X1_growsForEver_J23 F = some res → va_P D vwCl (gG cy qG g_base g_worth g_row g_many g_version) H → va_D A (gG cy qG g_base g_worth g_row g_many g_version) → va_S A s.heap H locs → lv_has ls 4 [] → W p l e0 rmX1_growsForEver s m ar below meth c H locs 0 0 Q (F0 m 23 ls []) := by
    intro H locs ls hf hP hD hS hl
    unfold f_X1_growsForEver_J23 at hf
    refine lv_iconst (v := (1 : Int32)) hx hb dX1_growsForEver_23 (by decide) ?_
    refine lv_goto (tgt := 28) hx hb dX1_growsForEver_24 (by decide) ?_
    exact hJ28 (1 : Int32) _ _ _ hf hP hD hS (lv_sub hl [] rfl)
  refine lv_lload_n hx hb dX1_growsForEver_0 rfl (lv_at hl 2 rfl) ?_
  refine lv_lconst (v := (0 : Int64)) hx hb dX1_growsForEver_1 (by decide) ?_
  refine kl_le (tgt := 27) hx hb dX1_growsForEver_2 dX1_growsForEver_3 (by decide) (fun c1 => ?_) (fun c1 => ?_)
  · have hf := if_t hf c1
    exact hJ27 _ _ _ hf hP hD hS (lv_sub hl [] rfl)
  · have hf := if_f hf c1
    refine lv_iload_n hx hb dX1_growsForEver_6 rfl (lv_at hl 1 rfl) ?_
    refine lv_iconst (v := (2 : Int32)) hx hb dX1_growsForEver_7 (by decide) ?_
    refine lv_icmp_eq (tgt := 23) hx hb dX1_growsForEver_8 (by decide) (fun c2 => ?_) (fun c2 => ?_)
    · have hf := if_t hf c2
      exact hJ23 _ _ _ hf hP hD hS (lv_sub hl [] rfl)
    · have hf := if_f hf c2
      refine lv_iload_n hx hb dX1_growsForEver_11 rfl (lv_at hl 1 rfl) ?_
      refine lv_iconst (v := (4 : Int32)) hx hb dX1_growsForEver_12 (by decide) ?_
      refine lv_icmp_ne (tgt := 27) hx hb dX1_growsForEver_13 (by decide) (fun c3 => ?_) (fun c3 => ?_)
      · have hf := if_f hf c3
        exact hJ27 _ _ _ hf hP hD hS (lv_sub hl [] rfl)
      · have hf := if_t hf c3
        refine lv_aload_n hx hb dX1_growsForEver_16 rfl (lv_at hl 0 rfl) ?_
        obtain ⟨r4, hc5, hf⟩ := ob_some hf
        refine kc_i (k_run ⟨hx, hb, hml, hown, hts⟩ (c_X1_hasIdleFigure hc5) (cwV 0 hts gX1_growsForEver_X1_hasIdleFigure rfl rfl rfl (by decide +kernel) ⟨Nat.le_of_ble_eq_true rfl, Nat.le_of_ble_eq_true rfl⟩) hK hN hP hD kA_s (ci := 1) (q0 := 0) rfl rfl rfl rfl hl.1 rfl (Nat.le_of_ble_eq_true rfl) dX1_growsForEver_17 ⟨Nat.le_of_ble_eq_true rfl, Nat.le_of_ble_eq_true rfl⟩) hP hD hS hA kI_s (fun _ H locs hP hD hS => ?_)
        refine lv_if_ne (tgt := 27) hx hb dX1_growsForEver_20 (by decide) (fun c6 => ?_) (fun c6 => ?_)
        · have hf := if_f hf c6
          exact hJ27 _ _ _ hf hP hD hS (lv_sub hl [] rfl)
        · have hf := if_t hf c6
          exact hJ23 _ _ _ hf hP hD hS (lv_sub hl [] rfl)
def f_X6_placeOf_B7 (F : Nat) (a1 : Int64) (p_told : Nat → Int64) (rec : Int32 → Option ((Int32) ⊕ (Unit))) (x : Int32) : Option ((Int32) ⊕ (Unit)) := if x < 0 then (some (.inr ())) else (ck (¬ (x < 0 ∨ 301 ≤ x.toNatClampNeg)) (if (p_told x.toNatClampNeg) = a1 then (some (.inl x)) else (rec (x + (-1 : Int32)))))
def f_X6_placeOf (F : Nat) (a1 : Int64) (p_told : Nat → Int64) (p_size : Int32) : Option (Int32) := (lp (f_X6_placeOf_B7 F a1 p_told) F (p_size - (1 : Int32))).bind (fun ex4 => Sum.elim (fun r => some r) (fun er5 => some (-1 : Int32)) ex4)
abbrev rmX6_placeOf : Room := { frames := 0, cells := 0, slots := 0, locals := 0 }
set_option maxHeartbeats 1000000 in
set_option maxRecDepth 100000 in
theorem c_X6_placeOf {l : Launch} {D : va_G} {cy : Nat → ClassId} {qP : Nat → Nat} {p_told : Nat → Int64} {p_size : Int32} {p_tail : Int32} {p_round : Int32} {a1 : Int64} {F : Nat} {res : Int32} (hf : f_X6_placeOf F a1 p_told p_size = some res) : kM l yX6_placeOf wsX6_placeOf rmX6_placeOf D cy [.ref (qP 0), .long a1] (gP cy qP p_told p_size p_tail p_round) (kQi D cy (fun _ : Unit => gP cy qP p_told p_size p_tail p_round) res) := by
  refine kent_i (cc := cX6_placeOf) (maxL := 4) (by decide) rfl (Nat.le_of_ble_eq_true rfl) ?_
  intro p e0 s m ar below meth c A Q ls ⟨hx, hb, hml, hr, hts, hown, hlocks, hnm⟩ hA hK hN hQ hP hD hS hl
  have hl : lv_has ls 4 [(0, .ref (qP 0)), (1, .long a1)] := hl
  have hown : s.vm.findClass RX6 = some m.cls := hown
  have huX6 : ∀ x ∈ u_ws RX6 TX6 4, x ∈ wsX6_placeOf := by decide +kernel
  have fk9 : (Cond.fieldLink RX6 9 "FigurePlay$Path" "told" "[J").before ar s = true := hts _ (by decide +kernel)
  have fk15 : (Cond.fieldLink RX6 15 "FigurePlay$Path" "size" "I").before ar s = true := hts _ (by decide +kernel)
  unfold f_X6_placeOf at hf
  have hL7 : ∀ (k : Nat) (x : Int32) (ex : (Int32) ⊕ (Unit)) (H : Heap) (locs : List Loc) (ls : Array Slot), lp (f_X6_placeOf_B7 F a1 p_told) k x = some ex → (∀ r, ex = .inl r → r = res) → (∀ er, ex = .inr er → ∀ (H : Heap) (locs : List Loc) (ls : Array Slot), va_P D vwCl (gP cy qP p_told p_size p_tail p_round) H → va_D A (gP cy qP p_told p_size p_tail p_round) → va_S A s.heap H locs → lv_has ls 4 [] → W p l e0 rmX6_placeOf s m ar below meth c H locs 0 0 Q (F0 m 30 ls [])) → va_P D vwCl (gP cy qP p_told p_size p_tail p_round) H → va_D A (gP cy qP p_told p_size p_tail p_round) → va_S A s.heap H locs → lv_has ls 4 [(0, .ref (qP 0)), (1, .long a1), (3, .int x)] → W p l e0 rmX6_placeOf s m ar below meth c H locs 0 0 Q (F0 m 7 ls []) := by
    intro k
    induction k with
    | zero => intro x ex H locs ls hf; exact no_some hf
    | succ k ih =>
      intro x ex H locs ls hf hret hex hP hD hS hl
      have hf : f_X6_placeOf_B7 F a1 p_told (lp (f_X6_placeOf_B7 F a1 p_told) k) x = some ex := hf
      unfold f_X6_placeOf_B7 at hf
      refine lv_iload_n hx hb dX6_placeOf_7 rfl (lv_at hl 2 rfl) ?_
      refine lv_if_lt (tgt := 30) hx hb dX6_placeOf_8 (by decide) (fun c1 => ?_) (fun c1 => ?_)
      · have hf := if_t hf c1
        obtain rfl := Option.some.inj hf
        exact hex _ rfl _ _ _ hP hD hS (lv_sub hl [] rfl)
      · have hf := if_f hf c1
        refine lv_aload_n hx hb dX6_placeOf_11 rfl (lv_at hl 0 rfl) ?_
        refine va_get (v := .ref (qP 1)) (D := D) (ci := 6) (C := RX6) (T := TX6) (N := 4) hx hb hts huX6 hown hK hP 0 rfl rfl 0 (by decide) fk9 (fun _ h9 => h9) rfl dX6_placeOf_12 ?_
        refine lv_iload_n hx hb dX6_placeOf_15 rfl (lv_at hl 2 rfl) ?_
        obtain ⟨c2, hf⟩ := ck_some hf
        refine va_lald hx hb hK hP 1 1 rfl rfl c2 dX6_placeOf_16 ?_
        refine lv_lload_n hx hb dX6_placeOf_17 rfl (lv_at hl 1 rfl) ?_
        refine kl_ne (tgt := 24) hx hb dX6_placeOf_18 dX6_placeOf_19 (by decide) (fun c3 => ?_) (fun c3 => ?_)
        · have hf := if_f hf c3
          refine lv_iinc (v := (x + (-1 : Int32))) (lv' := [(3, .int (x + (-1 : Int32))), (0, .ref (qP 0)), (1, .long a1)]) hx hb dX6_placeOf_24 hl (k := 2) rfl rfl (by decide) rfl (fun ls hl => ?_)
          refine lv_goto (tgt := 7) hx hb dX6_placeOf_27 (by decide) ?_
          exact ih (x + (-1 : Int32)) ex _ _ _ hf hret hex hP hD hS (lv_sub hl [1, 2, 0] rfl)
        · have hf := if_t hf c3
          refine lv_iload_n hx hb dX6_placeOf_22 rfl (lv_at hl 2 rfl) ?_
          obtain rfl := Option.some.inj hf
          obtain rfl := hret _ rfl
          exact hQ () 23 _ _ _ dX6_placeOf_23 hP hD hS
  refine lv_aload_n hx hb dX6_placeOf_0 rfl (lv_at hl 0 rfl) ?_
  refine va_get (D := D) (ci := 6) (C := RX6) (T := TX6) (N := 4) hx hb hts huX6 hown hK hP 0 rfl rfl 1 (by decide) fk15 (fun _ h9 => h9) rfl dX6_placeOf_1 ?_
  refine lv_iconst (v := (1 : Int32)) hx hb dX6_placeOf_4 (by decide) ?_
  refine lv_isub hx hb dX6_placeOf_5 ?_
  refine lv_istore_n (lv' := [(3, .int (p_size - (1 : Int32))), (0, .ref (qP 0)), (1, .long a1)]) hx hb dX6_placeOf_6 rfl hl (by decide) rfl (fun ls hl => ?_)
  obtain ⟨ex4, hcl, hf⟩ := ob_some hf
  refine hL7 F (p_size - (1 : Int32)) ex4 _ _ _ hcl (fun r hr0 => ?_) (fun er5 hr0 H locs ls hP hD hS hl => ?_) hP hD hS (lv_sub hl [1, 2, 0] rfl)
  · subst hr0; exact Option.some.inj (sm_inl hf)
  · subst hr0
    have hf := sm_inr hf
    refine lv_iconst (v := (-1 : Int32)) hx hb dX6_placeOf_30 (by decide) ?_
    obtain rfl := Option.some.inj hf
    exact hQ () 31 _ _ _ dX6_placeOf_31 hP hD hS
def f_X6_follow_J52 (F : Nat) (a2 : Int32) (g_base : Int32) (g_worth : Nat → Int32) (rec : (Int64 × Int64 × (Nat → Int32) × (Nat → Int32) × (Nat → Int64) × Int32 × Int32 × Int32) → Option (((Nat → Int32) × (Nat → Int32) × (Nat → Int64) × Int32 × Int32 × Int32) ⊕ ((Nat → Int32) × (Nat → Int32) × (Nat → Int64) × Int32 × Int32 × Int32))) (x5 : Int64) (x7 : Int64) (s0 : Int32) (g_row : Nat → Int32) (g_many : Nat → Int32) (p_told : Nat → Int64) (p_size : Int32) (p_tail : Int32) (p_round : Int32) : Option (((Nat → Int32) × (Nat → Int32) × (Nat → Int64) × Int32 × Int32 × Int32) ⊕ ((Nat → Int32) × (Nat → Int32) × (Nat → Int64) × Int32 × Int32 × Int32)) := if s0 < 0 then (ck (¬ (p_size < 0 ∨ 301 ≤ p_size.toNatClampNeg)) ((f_X1_make F a2 x5 g_base g_worth g_row g_many).bind (fun r3 => rec (r3.1, (if x5 < x7 then x7 else x5), r3.2.1, r3.2.2, (vp_updL p_told p_size.toNatClampNeg x5), (p_size + (1 : Int32)), p_tail, p_round)))) else (some (.inl (g_row, g_many, p_told, p_size, s0, (p_size - s0))))
def f_X6_follow_B13 (F : Nat) (a2 : Int32) (g_base : Int32) (g_worth : Nat → Int32) (rec : Int64 × Int64 × (Nat → Int32) × (Nat → Int32) × (Nat → Int64) × Int32 × Int32 × Int32 → Option (((Nat → Int32) × (Nat → Int32) × (Nat → Int64) × Int32 × Int32 × Int32) ⊕ ((Nat → Int32) × (Nat → Int32) × (Nat → Int64) × Int32 × Int32 × Int32))) (x : Int64 × Int64 × (Nat → Int32) × (Nat → Int32) × (Nat → Int64) × Int32 × Int32 × Int32) : Option (((Nat → Int32) × (Nat → Int32) × (Nat → Int64) × Int32 × Int32 × Int32) ⊕ ((Nat → Int32) × (Nat → Int32) × (Nat → Int64) × Int32 × Int32 × Int32)) := if (301 : Int32) ≤ x.2.2.2.2.2.1 then (some (.inr (x.2.2.1, x.2.2.2.1, x.2.2.2.2.1, x.2.2.2.2.2.1, x.2.2.2.2.2.2.1, x.2.2.2.2.2.2.2))) else (if (1000000000000000 : Int64) < x.1 then (some (.inr (x.2.2.1, x.2.2.2.1, x.2.2.2.2.1, x.2.2.2.2.2.1, x.2.2.2.2.2.2.1, x.2.2.2.2.2.2.2))) else (if x.1 ≤ x.2.1 then ((f_X6_placeOf F x.1 x.2.2.2.2.1 x.2.2.2.2.2.1).bind (fun r9 => f_X6_follow_J52 F a2 g_base g_worth rec x.1 x.2.1 r9 x.2.2.1 x.2.2.2.1 x.2.2.2.2.1 x.2.2.2.2.2.1 x.2.2.2.2.2.2.1 x.2.2.2.2.2.2.2)) else (f_X6_follow_J52 F a2 g_base g_worth rec x.1 x.2.1 (-1 : Int32) x.2.2.1 x.2.2.2.1 x.2.2.2.2.1 x.2.2.2.2.2.1 x.2.2.2.2.2.2.1 x.2.2.2.2.2.2.2)))
def f_X6_follow (F : Nat) (a2 : Int32) (a3 : Int64) (g_base : Int32) (g_worth : Nat → Int32) (g_row : Nat → Int32) (g_many : Nat → Int32) (p_told : Nat → Int64) (p_size : Int32) (p_tail : Int32) (p_round : Int32) : Option ((Nat → Int32) × (Nat → Int32) × (Nat → Int64) × Int32 × Int32 × Int32) := (lp (f_X6_follow_B13 F a2 g_base g_worth) F (a3, (-1 : Int64), g_row, g_many, p_told, (0 : Int32), p_tail, p_round)).bind (fun ex12 => Sum.elim (fun r => some r) (fun er13 => some (er13.1, er13.2.1, er13.2.2.1, er13.2.2.2.1, er13.2.2.2.1, (0 : Int32))) ex12)
abbrev rmX6_follow : Room := { frames := 2, cells := 0, slots := 0, locals := 52 }
set_option maxHeartbeats 1000000 in
set_option maxRecDepth 100000 in
theorem c_X6_follow {l : Launch} {D : va_G} {cy : Nat → ClassId} {qP : Nat → Nat} {qG : Nat → Nat} {p_told : Nat → Int64} {p_size : Int32} {p_tail : Int32} {p_round : Int32} {g_base : Int32} {g_worth : Nat → Int32} {g_row : Nat → Int32} {g_many : Nat → Int32} {g_version : Int32} {a2 : Int32} {a3 : Int64} {F : Nat} {res : (Nat → Int32) × (Nat → Int32) × (Nat → Int64) × Int32 × Int32 × Int32} (hf : f_X6_follow F a2 a3 g_base g_worth g_row g_many p_told p_size p_tail p_round = some res) : kM l yX6_follow wsX6_follow rmX6_follow D cy [.ref (qP 0), .ref (qG 0), .int a2, .long a3] (gP cy qP p_told p_size p_tail p_round ++ (gG cy qG g_base g_worth g_row g_many g_version)) (kQv D cy (fun _ : Unit => gP cy qP res.2.2.1 res.2.2.2.1 res.2.2.2.2.1 res.2.2.2.2.2 ++ (gG cy qG g_base g_worth res.1 res.2.1 g_version))) := by
  refine kent_v (cc := cX6_follow) (maxL := 10) (by decide) rfl (Nat.le_of_ble_eq_true rfl) ?_
  intro p e0 s m ar below meth c A Q ls ⟨hx, hb, hml, hr, hts, hown, hlocks, hnm⟩ hA hK hN hQ hP hD hS hl
  have hl : lv_has ls 10 [(0, .ref (qP 0)), (1, .ref (qG 0)), (2, .int a2), (3, .long a3)] := hl
  have hown : s.vm.findClass RX6 = some m.cls := hown
  have huX6 : ∀ x ∈ u_ws RX6 TX6 4, x ∈ wsX6_follow := by decide +kernel
  have fk9 : (Cond.fieldLink RX6 9 "FigurePlay$Path" "told" "[J").before ar s = true := hts _ (by decide +kernel)
  have fk15 : (Cond.fieldLink RX6 15 "FigurePlay$Path" "size" "I").before ar s = true := hts _ (by decide +kernel)
  have fk19 : (Cond.fieldLink RX6 19 "FigurePlay$Path" "tail" "I").before ar s = true := hts _ (by decide +kernel)
  have fk22 : (Cond.fieldLink RX6 22 "FigurePlay$Path" "round" "I").before ar s = true := hts _ (by decide +kernel)
  have fk27 : (Cond.constantLong RX6 27 (1000000000000000)).before ar s = true := hts _ (by decide +kernel)
  have fk25 : (Cond.constantLong RX6 25 (-1)).before ar s = true := hts _ (by decide +kernel)
  unfold f_X6_follow at hf
  have hL13 : ∀ (k : Nat) (x : Int64 × Int64 × (Nat → Int32) × (Nat → Int32) × (Nat → Int64) × Int32 × Int32 × Int32) (ex : ((Nat → Int32) × (Nat → Int32) × (Nat → Int64) × Int32 × Int32 × Int32) ⊕ ((Nat → Int32) × (Nat → Int32) × (Nat → Int64) × Int32 × Int32 × Int32)) (H : Heap) (locs : List Loc) (ls : Array Slot), lp (f_X6_follow_B13 F a2 g_base g_worth) k x = some ex → (∀ r, ex = .inl r → r = res) → (∀ er, ex = .inr er → ∀ (H : Heap) (locs : List Loc) (ls : Array Slot), va_P D vwCl (gP cy qP er.2.2.1 er.2.2.2.1 er.2.2.2.2.1 er.2.2.2.2.2 ++ (gG cy qG g_base g_worth er.1 er.2.1 g_version)) H → va_D A (gP cy qP er.2.2.1 er.2.2.2.1 er.2.2.2.2.1 er.2.2.2.2.2 ++ (gG cy qG g_base g_worth er.1 er.2.1 g_version)) → va_S A s.heap H locs → lv_has ls 10 [(0, .ref (qP 0))] → W p l e0 rmX6_follow s m ar below meth c H locs 0 0 Q (F0 m 119 ls [])) → va_P D vwCl (gP cy qP x.2.2.2.2.1 x.2.2.2.2.2.1 x.2.2.2.2.2.2.1 x.2.2.2.2.2.2.2 ++ (gG cy qG g_base g_worth x.2.2.1 x.2.2.2.1 g_version)) H → va_D A (gP cy qP x.2.2.2.2.1 x.2.2.2.2.2.1 x.2.2.2.2.2.2.1 x.2.2.2.2.2.2.2 ++ (gG cy qG g_base g_worth x.2.2.1 x.2.2.2.1 g_version)) → va_S A s.heap H locs → lv_has ls 10 [(0, .ref (qP 0)), (1, .ref (qG 0)), (2, .int a2), (5, .long x.1), (7, .long x.2.1)] → W p l e0 rmX6_follow s m ar below meth c H locs 0 0 Q (F0 m 13 ls []) := by
    intro k
    induction k with
    | zero => intro x ex H locs ls hf; exact no_some hf
    | succ k ih =>
      intro x ex H locs ls hf hret hex hP hD hS hl
      have hf : f_X6_follow_B13 F a2 g_base g_worth (lp (f_X6_follow_B13 F a2 g_base g_worth) k) x = some ex := hf
      unfold f_X6_follow_B13 at hf
      have hJ52 : ∀ (x5 : Int64) (x7 : Int64) (s0 : Int32) (g_row : Nat → Int32) (g_many : Nat → Int32) (p_told : Nat → Int64) (p_size : Int32) (p_tail : Int32) (p_round : Int32) (H : Heap) (locs : List Loc) (ls : Array Slot), f_X6_follow_J52 F a2 g_base g_worth (lp (f_X6_follow_B13 F a2 g_base g_worth) k) x5 x7 s0 g_row g_many p_told p_size p_tail p_round = some ex → va_P D vwCl (gP cy qP p_told p_size p_tail p_round ++ (gG cy qG g_base g_worth g_row g_many g_version)) H → va_D A (gP cy qP p_told p_size p_tail p_round ++ (gG cy qG g_base g_worth g_row g_many g_version)) → va_S A s.heap H locs → lv_has ls 10 [(0, .ref (qP 0)), (1, .ref (qG 0)), (2, .int a2), (5, .long x5), (7, .long x7)] → W p l e0 rmX6_follow s m ar below meth c H locs 0 0 Q (F0 m 52 ls [.int s0]) := by
        intro x5 x7 s0 g_row g_many p_told p_size p_tail p_round H locs ls hf hP hD hS hl
        unfold f_X6_follow_J52 at hf
        refine lv_istore (lv' := [(9, .int s0), (0, .ref (qP 0)), (1, .ref (qG 0)), (2, .int a2), (5, .long x5), (7, .long x7)]) hx hb dX6_follow_52 hl (by decide) rfl (fun ls hl => ?_)
        refine lv_iload hx hb dX6_follow_54 (lv_at hl 0 rfl) ?_
        refine lv_if_lt (tgt := 77) hx hb dX6_follow_56 (by decide) (fun c1 => ?_) (fun c1 => ?_)
        · have hf := if_t hf c1
          refine lv_lload hx hb dX6_follow_77 (lv_at hl 5 rfl) ?_
          refine lv_lload hx hb dX6_follow_79 (lv_at hl 4 rfl) ?_
          refine va_mmax_long hx hb (hml.trans hl.1.symm) hown (hts (.methodLink RX6 33 Lib.MathLoose.max_long.x) (by decide +kernel)) (hts (.static Lib.MathLoose.max_long.x) (by decide +kernel)) (hts (.initialized "java/lang/Math") (by decide +kernel)) (hts (.code Lib.MathLoose.max_long.x Lib.MathLoose.max_long.code 4 (some .long)) (by decide +kernel)) (Nat.le_of_ble_eq_true rfl) (Nat.le_of_ble_eq_true rfl) (Nat.le_of_ble_eq_true rfl) (Nat.le_of_ble_eq_true rfl) dX6_follow_81 ?_
          refine lv_lstore (lv' := [(7, .long (if x5 < x7 then x7 else x5)), (9, .int s0), (0, .ref (qP 0)), (1, .ref (qG 0)), (2, .int a2), (5, .long x5)]) hx hb dX6_follow_84 hl (by decide) rfl (fun ls hl => ?_)
          refine lv_aload_n hx hb dX6_follow_86 rfl (lv_at hl 2 rfl) ?_
          refine va_get (v := .ref (qP 1)) (D := D) (ci := 6) (C := RX6) (T := TX6) (N := 4) hx hb hts huX6 hown hK hP 0 rfl rfl 0 (by decide) fk9 (fun _ h9 => h9) rfl dX6_follow_87 ?_
          refine lv_aload_n hx hb dX6_follow_90 rfl (lv_at hl 2 rfl) ?_
          refine va_get (D := D) (ci := 6) (C := RX6) (T := TX6) (N := 4) hx hb hts huX6 hown hK hP 0 rfl rfl 1 (by decide) fk15 (fun _ h9 => h9) rfl dX6_follow_91 ?_
          refine lv_lload hx hb dX6_follow_94 (lv_at hl 5 rfl) ?_
          obtain ⟨c2, hf⟩ := ck_some hf
          refine va_last hx hb hK hP hD hS 1 1 rfl rfl c2 dX6_follow_96 (fun H locs hP hD hS => ?_)
          have hP : va_P D vwCl (gP cy qP (vp_updL p_told p_size.toNatClampNeg x5) p_size p_tail p_round ++ (gG cy qG g_base g_worth g_row g_many g_version)) H := hP
          have hD : va_D A (gP cy qP (vp_updL p_told p_size.toNatClampNeg x5) p_size p_tail p_round ++ (gG cy qG g_base g_worth g_row g_many g_version)) := hD
          refine lv_aload_n hx hb dX6_follow_97 rfl (lv_at hl 2 rfl) ?_
          refine lv_dup hx hb dX6_follow_98 rfl ?_
          refine va_get (D := D) (ci := 6) (C := RX6) (T := TX6) (N := 4) hx hb hts huX6 hown hK hP 0 rfl rfl 1 (by decide) fk15 (fun _ h9 => h9) rfl dX6_follow_99 ?_
          refine lv_iconst (v := (1 : Int32)) hx hb dX6_follow_102 (by decide) ?_
          refine lv_iadd hx hb dX6_follow_103 ?_
          refine va_put (D := D) (ci := 6) (v := .int (p_size + (1 : Int32))) (ty := .int) (C := RX6) (T := TX6) (N := 4) hx hb hts huX6 tyX6 tyX6_ok nmX6 hown hK hP hD hS 0 rfl rfl 1 (by decide) fk15 (fun _ h9 => h9) rfl (tyX6_ok 1 (by decide)) rfl rfl (Nat.le_of_ble_eq_true rfl) dX6_follow_104 (fun H locs hP hD hS => ?_)
          have hP : va_P D vwCl (gP cy qP (vp_updL p_told p_size.toNatClampNeg x5) (p_size + (1 : Int32)) p_tail p_round ++ (gG cy qG g_base g_worth g_row g_many g_version)) H := hP
          have hD : va_D A (gP cy qP (vp_updL p_told p_size.toNatClampNeg x5) (p_size + (1 : Int32)) p_tail p_round ++ (gG cy qG g_base g_worth g_row g_many g_version)) := hD
          refine lv_aload_n hx hb dX6_follow_107 rfl (lv_at hl 3 rfl) ?_
          refine lv_iload_n hx hb dX6_follow_108 rfl (lv_at hl 4 rfl) ?_
          refine lv_lload hx hb dX6_follow_109 (lv_at hl 5 rfl) ?_
          obtain ⟨r3, hc4, hf⟩ := ob_some hf
          have hI5 : kIn (gP cy qP (vp_updL p_told p_size.toNatClampNeg x5) (p_size + (1 : Int32)) p_tail p_round ++ (gG cy qG g_base g_worth g_row g_many g_version)) (gG cy qG g_base g_worth g_row g_many g_version) (kpick (gP cy qP (vp_updL p_told p_size.toNatClampNeg x5) (p_size + (1 : Int32)) p_tail p_round ++ (gG cy qG g_base g_worth g_row g_many g_version)) [0, 1]) (fun _ : Unit => gG cy qG g_base g_worth r3.2.1 r3.2.2 g_version) (fun _ : Unit => gP cy qP (vp_updL p_told p_size.toNatClampNeg x5) (p_size + (1 : Int32)) p_tail p_round ++ (gG cy qG g_base g_worth r3.2.1 r3.2.2 g_version)) [2, 3, 4, 5] [0, 1] [0, 1, 2, 3, 4, 5] := ⟨rfl, rfl, rfl, rfl, by decide, rfl, fun _ => rfl⟩
          refine kc_l (k_run ⟨hx, hb, hml, hown, hts⟩ (c_X1_make hc4) (cwV 2 hts gX6_follow_X1_make rfl rfl rfl (by decide +kernel) ⟨Nat.le_of_ble_eq_true rfl, Nat.le_of_ble_eq_true rfl⟩) hK hN hP hD ⟨hI5.1, hI5.2.2.1⟩ (ci := 1) (q0 := 0) rfl rfl rfl rfl hl.1 rfl (Nat.le_of_ble_eq_true rfl) dX6_follow_111 ⟨Nat.le_of_ble_eq_true rfl, Nat.le_of_ble_eq_true rfl⟩) hP hD hS hA hI5 (fun _ H locs hP hD hS => ?_)
          refine lv_lstore (lv' := [(5, .long r3.1), (7, .long (if x5 < x7 then x7 else x5)), (9, .int s0), (0, .ref (qP 0)), (1, .ref (qG 0)), (2, .int a2)]) hx hb dX6_follow_114 hl (by decide) rfl (fun ls hl => ?_)
          refine lv_goto (tgt := 13) hx hb dX6_follow_116 (by decide) ?_
          exact ih (r3.1, (if x5 < x7 then x7 else x5), r3.2.1, r3.2.2, (vp_updL p_told p_size.toNatClampNeg x5), (p_size + (1 : Int32)), p_tail, p_round) ex _ _ _ hf hret hex hP hD hS (lv_sub hl [3, 4, 5, 0, 1] rfl)
        · have hf := if_f hf c1
          refine lv_aload_n hx hb dX6_follow_59 rfl (lv_at hl 1 rfl) ?_
          refine lv_iload hx hb dX6_follow_60 (lv_at hl 0 rfl) ?_
          refine va_put (D := D) (ci := 6) (v := .int s0) (ty := .int) (C := RX6) (T := TX6) (N := 4) hx hb hts huX6 tyX6 tyX6_ok nmX6 hown hK hP hD hS 0 rfl rfl 2 (by decide) fk19 (fun _ h9 => h9) rfl (tyX6_ok 2 (by decide)) rfl rfl (Nat.le_of_ble_eq_true rfl) dX6_follow_62 (fun H locs hP hD hS => ?_)
          have hP : va_P D vwCl (gP cy qP p_told p_size s0 p_round ++ (gG cy qG g_base g_worth g_row g_many g_version)) H := hP
          have hD : va_D A (gP cy qP p_told p_size s0 p_round ++ (gG cy qG g_base g_worth g_row g_many g_version)) := hD
          refine lv_aload_n hx hb dX6_follow_65 rfl (lv_at hl 1 rfl) ?_
          refine lv_aload_n hx hb dX6_follow_66 rfl (lv_at hl 1 rfl) ?_
          refine va_get (D := D) (ci := 6) (C := RX6) (T := TX6) (N := 4) hx hb hts huX6 hown hK hP 0 rfl rfl 1 (by decide) fk15 (fun _ h9 => h9) rfl dX6_follow_67 ?_
          refine lv_iload hx hb dX6_follow_70 (lv_at hl 0 rfl) ?_
          refine lv_isub hx hb dX6_follow_72 ?_
          refine va_put (D := D) (ci := 6) (v := .int (p_size - s0)) (ty := .int) (C := RX6) (T := TX6) (N := 4) hx hb hts huX6 tyX6 tyX6_ok nmX6 hown hK hP hD hS 0 rfl rfl 3 (by decide) fk22 (fun _ h9 => h9) rfl (tyX6_ok 3 (by decide)) rfl rfl (Nat.le_of_ble_eq_true rfl) dX6_follow_73 (fun H locs hP hD hS => ?_)
          have hP : va_P D vwCl (gP cy qP p_told p_size s0 (p_size - s0) ++ (gG cy qG g_base g_worth g_row g_many g_version)) H := hP
          have hD : va_D A (gP cy qP p_told p_size s0 (p_size - s0) ++ (gG cy qG g_base g_worth g_row g_many g_version)) := hD
          obtain rfl := Option.some.inj hf
          obtain rfl := hret _ rfl
          exact hQ () 76 _ _ _ dX6_follow_76 hP hD hS
      refine lv_aload_n hx hb dX6_follow_13 rfl (lv_at hl 0 rfl) ?_
      refine va_get (D := D) (ci := 6) (C := RX6) (T := TX6) (N := 4) hx hb hts huX6 hown hK hP 0 rfl rfl 1 (by decide) fk15 (fun _ h9 => h9) rfl dX6_follow_14 ?_
      refine lv_aload_n hx hb dX6_follow_17 rfl (lv_at hl 0 rfl) ?_
      refine va_get (v := .ref (qP 1)) (D := D) (ci := 6) (C := RX6) (T := TX6) (N := 4) hx hb hts huX6 hown hK hP 0 rfl rfl 0 (by decide) fk9 (fun _ h9 => h9) rfl dX6_follow_18 ?_
      refine va_alen (v := (301 : Int32)) hx hb hK hP 1 1 rfl rfl rfl dX6_follow_21 ?_
      refine lv_icmp_ge (tgt := 119) hx hb dX6_follow_22 (by decide) (fun c6 => ?_) (fun c6 => ?_)
      · have hf := if_t hf c6
        obtain rfl := Option.some.inj hf
        exact hex _ rfl _ _ _ hP hD hS (lv_sub hl [0] rfl)
      · have hf := if_f hf c6
        refine lv_lload hx hb dX6_follow_25 (lv_at hl 3 rfl) ?_
        refine lv_ldc2 (v := (1000000000000000 : Int64)) hx hb hown fk27 dX6_follow_27 ?_
        refine kl_gt (tgt := 119) hx hb dX6_follow_30 dX6_follow_31 (by decide) (fun c7 => ?_) (fun c7 => ?_)
        · have hf := if_t hf c7
          obtain rfl := Option.some.inj hf
          exact hex _ rfl _ _ _ hP hD hS (lv_sub hl [0] rfl)
        · have hf := if_f hf c7
          refine lv_lload hx hb dX6_follow_34 (lv_at hl 3 rfl) ?_
          refine lv_lload hx hb dX6_follow_36 (lv_at hl 4 rfl) ?_
          refine kl_le (tgt := 46) hx hb dX6_follow_38 dX6_follow_39 (by decide) (fun c8 => ?_) (fun c8 => ?_)
          · have hf := if_t hf c8
            refine lv_aload_n hx hb dX6_follow_46 rfl (lv_at hl 0 rfl) ?_
            refine lv_lload hx hb dX6_follow_47 (lv_at hl 3 rfl) ?_
            obtain ⟨r9, hc10, hf⟩ := ob_some hf
            have hI11 : kIn (gP cy qP x.2.2.2.2.1 x.2.2.2.2.2.1 x.2.2.2.2.2.2.1 x.2.2.2.2.2.2.2 ++ (gG cy qG g_base g_worth x.2.2.1 x.2.2.2.1 g_version)) (gP cy qP x.2.2.2.2.1 x.2.2.2.2.2.1 x.2.2.2.2.2.2.1 x.2.2.2.2.2.2.2) (kpick (gP cy qP x.2.2.2.2.1 x.2.2.2.2.2.1 x.2.2.2.2.2.2.1 x.2.2.2.2.2.2.2 ++ (gG cy qG g_base g_worth x.2.2.1 x.2.2.2.1 g_version)) [2, 3, 4, 5]) (fun _ : Unit => gP cy qP x.2.2.2.2.1 x.2.2.2.2.2.1 x.2.2.2.2.2.2.1 x.2.2.2.2.2.2.2) (fun _ : Unit => gP cy qP x.2.2.2.2.1 x.2.2.2.2.2.1 x.2.2.2.2.2.2.1 x.2.2.2.2.2.2.2 ++ (gG cy qG g_base g_worth x.2.2.1 x.2.2.2.1 g_version)) [0, 1] [2, 3, 4, 5] [4, 5, 0, 1, 2, 3] := ⟨rfl, rfl, rfl, rfl, by decide, rfl, fun _ => rfl⟩
            refine kc_i (k_run ⟨hx, hb, hml, hown, hts⟩ (c_X6_placeOf hc10) (cwV 1 hts gX6_follow_X6_placeOf rfl rfl rfl (by decide +kernel) ⟨Nat.le_of_ble_eq_true rfl, Nat.le_of_ble_eq_true rfl⟩) hK hN hP hD ⟨hI11.1, hI11.2.2.1⟩ (ci := 6) (q0 := 0) rfl rfl rfl rfl hl.1 rfl (Nat.le_of_ble_eq_true rfl) dX6_follow_49 ⟨Nat.le_of_ble_eq_true rfl, Nat.le_of_ble_eq_true rfl⟩) hP hD hS hA hI11 (fun _ H locs hP hD hS => ?_)
            exact hJ52 x.1 x.2.1 r9 x.2.2.1 x.2.2.2.1 x.2.2.2.2.1 x.2.2.2.2.2.1 x.2.2.2.2.2.2.1 x.2.2.2.2.2.2.2 _ _ _ hf hP hD hS (lv_sub hl [0, 1, 2, 3, 4] rfl)
          · have hf := if_f hf c8
            refine lv_iconst (v := (-1 : Int32)) hx hb dX6_follow_42 (by decide) ?_
            refine lv_goto (tgt := 52) hx hb dX6_follow_43 (by decide) ?_
            exact hJ52 x.1 x.2.1 (-1 : Int32) x.2.2.1 x.2.2.2.1 x.2.2.2.2.1 x.2.2.2.2.2.1 x.2.2.2.2.2.2.1 x.2.2.2.2.2.2.2 _ _ _ hf hP hD hS (lv_sub hl [0, 1, 2, 3, 4] rfl)
  refine lv_aload_n hx hb dX6_follow_0 rfl (lv_at hl 0 rfl) ?_
  refine lv_iconst (v := (0 : Int32)) hx hb dX6_follow_1 (by decide) ?_
  refine va_put (D := D) (ci := 6) (v := .int (0 : Int32)) (ty := .int) (C := RX6) (T := TX6) (N := 4) hx hb hts huX6 tyX6 tyX6_ok nmX6 hown hK hP hD hS 0 rfl rfl 1 (by decide) fk15 (fun _ h9 => h9) rfl (tyX6_ok 1 (by decide)) rfl rfl (Nat.le_of_ble_eq_true rfl) dX6_follow_2 (fun H locs hP hD hS => ?_)
  have hP : va_P D vwCl (gP cy qP p_told (0 : Int32) p_tail p_round ++ (gG cy qG g_base g_worth g_row g_many g_version)) H := hP
  have hD : va_D A (gP cy qP p_told (0 : Int32) p_tail p_round ++ (gG cy qG g_base g_worth g_row g_many g_version)) := hD
  refine lv_lload_n hx hb dX6_follow_5 rfl (lv_at hl 3 rfl) ?_
  refine lv_lstore (lv' := [(5, .long a3), (0, .ref (qP 0)), (1, .ref (qG 0)), (2, .int a2), (3, .long a3)]) hx hb dX6_follow_6 hl (by decide) rfl (fun ls hl => ?_)
  refine lv_ldc2 (v := (-1 : Int64)) hx hb hown fk25 dX6_follow_8 ?_
  refine lv_lstore (lv' := [(7, .long (-1 : Int64)), (5, .long a3), (0, .ref (qP 0)), (1, .ref (qG 0)), (2, .int a2), (3, .long a3)]) hx hb dX6_follow_11 hl (by decide) rfl (fun ls hl => ?_)
  obtain ⟨ex12, hcl, hf⟩ := ob_some hf
  refine hL13 F (a3, (-1 : Int64), g_row, g_many, p_told, (0 : Int32), p_tail, p_round) ex12 _ _ _ hcl (fun r hr0 => ?_) (fun er13 hr0 H locs ls hP hD hS hl => ?_) hP hD hS (lv_sub hl [2, 3, 4, 1, 0] rfl)
  · subst hr0; exact Option.some.inj (sm_inl hf)
  · subst hr0
    have hf := sm_inr hf
    refine lv_aload_n hx hb dX6_follow_119 rfl (lv_at hl 0 rfl) ?_
    refine lv_aload_n hx hb dX6_follow_120 rfl (lv_at hl 0 rfl) ?_
    refine va_get (D := D) (ci := 6) (C := RX6) (T := TX6) (N := 4) hx hb hts huX6 hown hK hP 0 rfl rfl 1 (by decide) fk15 (fun _ h9 => h9) rfl dX6_follow_121 ?_
    refine va_put (D := D) (ci := 6) (v := .int er13.2.2.2.1) (ty := .int) (C := RX6) (T := TX6) (N := 4) hx hb hts huX6 tyX6 tyX6_ok nmX6 hown hK hP hD hS 0 rfl rfl 2 (by decide) fk19 (fun _ h9 => h9) rfl (tyX6_ok 2 (by decide)) rfl rfl (Nat.le_of_ble_eq_true rfl) dX6_follow_124 (fun H locs hP hD hS => ?_)
    have hP : va_P D vwCl (gP cy qP er13.2.2.1 er13.2.2.2.1 er13.2.2.2.1 er13.2.2.2.2.2 ++ (gG cy qG g_base g_worth er13.1 er13.2.1 g_version)) H := hP
    have hD : va_D A (gP cy qP er13.2.2.1 er13.2.2.2.1 er13.2.2.2.1 er13.2.2.2.2.2 ++ (gG cy qG g_base g_worth er13.1 er13.2.1 g_version)) := hD
    refine lv_aload_n hx hb dX6_follow_127 rfl (lv_at hl 0 rfl) ?_
    refine lv_iconst (v := (0 : Int32)) hx hb dX6_follow_128 (by decide) ?_
    refine va_put (D := D) (ci := 6) (v := .int (0 : Int32)) (ty := .int) (C := RX6) (T := TX6) (N := 4) hx hb hts huX6 tyX6 tyX6_ok nmX6 hown hK hP hD hS 0 rfl rfl 3 (by decide) fk22 (fun _ h9 => h9) rfl (tyX6_ok 3 (by decide)) rfl rfl (Nat.le_of_ble_eq_true rfl) dX6_follow_129 (fun H locs hP hD hS => ?_)
    have hP : va_P D vwCl (gP cy qP er13.2.2.1 er13.2.2.2.1 er13.2.2.2.1 (0 : Int32) ++ (gG cy qG g_base g_worth er13.1 er13.2.1 g_version)) H := hP
    have hD : va_D A (gP cy qP er13.2.2.1 er13.2.2.2.1 er13.2.2.2.1 (0 : Int32) ++ (gG cy qG g_base g_worth er13.1 er13.2.1 g_version)) := hD
    obtain rfl := Option.some.inj hf
    exact hQ () 132 _ _ _ dX6_follow_132 hP hD hS
def f_X6_numberAt_J34 (F : Nat) : Option (Int64) := some (-4 : Int64)
def f_X6_numberAt_J19 (F : Nat) (a1 : Int32) (p_told : Nat → Int64) (p_tail : Int32) (p_round : Int32) : Option (Int64) := if p_round = 0 then (f_X6_numberAt_J34 F) else (if p_tail ≤ a1 then (ck (¬ p_round = 0) (ck (¬ ((p_tail + ((a1 - p_tail) - (a1 - p_tail) / p_round * p_round)) < 0 ∨ 301 ≤ (p_tail + ((a1 - p_tail) - (a1 - p_tail) / p_round * p_round)).toNatClampNeg)) (some (p_told (p_tail + ((a1 - p_tail) - (a1 - p_tail) / p_round * p_round)).toNatClampNeg)))) else (f_X6_numberAt_J34 F))
def f_X6_numberAt (F : Nat) (a1 : Int32) (p_told : Nat → Int64) (p_size : Int32) (p_tail : Int32) (p_round : Int32) : Option (Int64) := if a1 < 0 then (f_X6_numberAt_J19 F a1 p_told p_tail p_round) else (if p_size ≤ a1 then (f_X6_numberAt_J19 F a1 p_told p_tail p_round) else (ck (¬ (a1 < 0 ∨ 301 ≤ a1.toNatClampNeg)) (some (p_told a1.toNatClampNeg))))
abbrev rmX6_numberAt : Room := { frames := 0, cells := 0, slots := 0, locals := 0 }
set_option maxHeartbeats 1000000 in
set_option maxRecDepth 100000 in
theorem c_X6_numberAt {l : Launch} {D : va_G} {cy : Nat → ClassId} {qP : Nat → Nat} {p_told : Nat → Int64} {p_size : Int32} {p_tail : Int32} {p_round : Int32} {a1 : Int32} {F : Nat} {res : Int64} (hf : f_X6_numberAt F a1 p_told p_size p_tail p_round = some res) : kM l yX6_numberAt wsX6_numberAt rmX6_numberAt D cy [.ref (qP 0), .int a1] (gP cy qP p_told p_size p_tail p_round) (kQl D cy (fun _ : Unit => gP cy qP p_told p_size p_tail p_round) res) := by
  refine kent_l (cc := cX6_numberAt) (maxL := 2) (by decide) rfl (Nat.le_of_ble_eq_true rfl) ?_
  intro p e0 s m ar below meth c A Q ls ⟨hx, hb, hml, hr, hts, hown, hlocks, hnm⟩ hA hK hN hQ hP hD hS hl
  have hl : lv_has ls 2 [(0, .ref (qP 0)), (1, .int a1)] := hl
  have hown : s.vm.findClass RX6 = some m.cls := hown
  have fk45 : (Cond.constantLong RX6 45 (-4)).before ar s = true := hts _ (by decide +kernel)
  have huX6 : ∀ x ∈ u_ws RX6 TX6 4, x ∈ wsX6_numberAt := by decide +kernel
  have fk22 : (Cond.fieldLink RX6 22 "FigurePlay$Path" "round" "I").before ar s = true := hts _ (by decide +kernel)
  have fk19 : (Cond.fieldLink RX6 19 "FigurePlay$Path" "tail" "I").before ar s = true := hts _ (by decide +kernel)
  have fk9 : (Cond.fieldLink RX6 9 "FigurePlay$Path" "told" "[J").before ar s = true := hts _ (by decide +kernel)
  have fk15 : (Cond.fieldLink RX6 15 "FigurePlay$Path" "size" "I").before ar s = true := hts _ (by decide +kernel)
  unfold f_X6_numberAt at hf
  have hJ34 : ∀ (H : Heap) (locs : List Loc) (ls : Array Slot), f_X6_numberAt_J34 F = some res → va_P D vwCl (gP cy qP p_told p_size p_tail p_round) H → va_D A (gP cy qP p_told p_size p_tail p_round) → va_S A s.heap H locs → lv_has ls 2 [] → W p l e0 rmX6_numberAt s m ar below meth c H locs 0 0 Q (F0 m 34 ls []) := by
    intro H locs ls hf hP hD hS hl
    unfold f_X6_numberAt_J34 at hf
    refine lv_ldc2 (v := (-4 : Int64)) hx hb hown fk45 dX6_numberAt_34 ?_
    obtain rfl := Option.some.inj hf
    exact hQ () 37 _ _ _ dX6_numberAt_37 hP hD hS
  have hJ19 : ∀ (H : Heap) (locs : List Loc) (ls : Array Slot), f_X6_numberAt_J19 F a1 p_told p_tail p_round = some res → va_P D vwCl (gP cy qP p_told p_size p_tail p_round) H → va_D A (gP cy qP p_told p_size p_tail p_round) → va_S A s.heap H locs → lv_has ls 2 [(0, .ref (qP 0)), (1, .int a1)] → W p l e0 rmX6_numberAt s m ar below meth c H locs 0 0 Q (F0 m 19 ls []) := by
    intro H locs ls hf hP hD hS hl
    unfold f_X6_numberAt_J19 at hf
    refine lv_aload_n hx hb dX6_numberAt_19 rfl (lv_at hl 0 rfl) ?_
    refine va_get (D := D) (ci := 6) (C := RX6) (T := TX6) (N := 4) hx hb hts huX6 hown hK hP 0 rfl rfl 3 (by decide) fk22 (fun _ h9 => h9) rfl dX6_numberAt_20 ?_
    refine lv_if_eq (tgt := 34) hx hb dX6_numberAt_23 (by decide) (fun c1 => ?_) (fun c1 => ?_)
    · have hf := if_t hf c1
      exact hJ34 _ _ _ hf hP hD hS (lv_sub hl [] rfl)
    · have hf := if_f hf c1
      refine lv_iload_n hx hb dX6_numberAt_26 rfl (lv_at hl 1 rfl) ?_
      refine lv_aload_n hx hb dX6_numberAt_27 rfl (lv_at hl 0 rfl) ?_
      refine va_get (D := D) (ci := 6) (C := RX6) (T := TX6) (N := 4) hx hb hts huX6 hown hK hP 0 rfl rfl 2 (by decide) fk19 (fun _ h9 => h9) rfl dX6_numberAt_28 ?_
      refine lv_icmp_ge (tgt := 38) hx hb dX6_numberAt_31 (by decide) (fun c2 => ?_) (fun c2 => ?_)
      · have hf := if_t hf c2
        refine lv_aload_n hx hb dX6_numberAt_38 rfl (lv_at hl 0 rfl) ?_
        refine va_get (v := .ref (qP 1)) (D := D) (ci := 6) (C := RX6) (T := TX6) (N := 4) hx hb hts huX6 hown hK hP 0 rfl rfl 0 (by decide) fk9 (fun _ h9 => h9) rfl dX6_numberAt_39 ?_
        refine lv_aload_n hx hb dX6_numberAt_42 rfl (lv_at hl 0 rfl) ?_
        refine va_get (D := D) (ci := 6) (C := RX6) (T := TX6) (N := 4) hx hb hts huX6 hown hK hP 0 rfl rfl 2 (by decide) fk19 (fun _ h9 => h9) rfl dX6_numberAt_43 ?_
        refine lv_iload_n hx hb dX6_numberAt_46 rfl (lv_at hl 1 rfl) ?_
        refine lv_aload_n hx hb dX6_numberAt_47 rfl (lv_at hl 0 rfl) ?_
        refine va_get (D := D) (ci := 6) (C := RX6) (T := TX6) (N := 4) hx hb hts huX6 hown hK hP 0 rfl rfl 2 (by decide) fk19 (fun _ h9 => h9) rfl dX6_numberAt_48 ?_
        refine lv_isub hx hb dX6_numberAt_51 ?_
        refine lv_aload_n hx hb dX6_numberAt_52 rfl (lv_at hl 0 rfl) ?_
        refine va_get (D := D) (ci := 6) (C := RX6) (T := TX6) (N := 4) hx hb hts huX6 hown hK hP 0 rfl rfl 3 (by decide) fk22 (fun _ h9 => h9) rfl dX6_numberAt_53 ?_
        obtain ⟨c3, hf⟩ := ck_some hf
        refine lv_irem hx hb dX6_numberAt_56 c3 ?_
        refine lv_iadd hx hb dX6_numberAt_57 ?_
        obtain ⟨c4, hf⟩ := ck_some hf
        refine va_lald hx hb hK hP 1 1 rfl rfl c4 dX6_numberAt_58 ?_
        obtain rfl := Option.some.inj hf
        exact hQ () 59 _ _ _ dX6_numberAt_59 hP hD hS
      · have hf := if_f hf c2
        exact hJ34 _ _ _ hf hP hD hS (lv_sub hl [] rfl)
  refine lv_iload_n hx hb dX6_numberAt_0 rfl (lv_at hl 1 rfl) ?_
  refine lv_if_lt (tgt := 19) hx hb dX6_numberAt_1 (by decide) (fun c5 => ?_) (fun c5 => ?_)
  · have hf := if_t hf c5
    exact hJ19 _ _ _ hf hP hD hS (lv_sub hl [0, 1] rfl)
  · have hf := if_f hf c5
    refine lv_iload_n hx hb dX6_numberAt_4 rfl (lv_at hl 1 rfl) ?_
    refine lv_aload_n hx hb dX6_numberAt_5 rfl (lv_at hl 0 rfl) ?_
    refine va_get (D := D) (ci := 6) (C := RX6) (T := TX6) (N := 4) hx hb hts huX6 hown hK hP 0 rfl rfl 1 (by decide) fk15 (fun _ h9 => h9) rfl dX6_numberAt_6 ?_
    refine lv_icmp_ge (tgt := 19) hx hb dX6_numberAt_9 (by decide) (fun c6 => ?_) (fun c6 => ?_)
    · have hf := if_t hf c6
      exact hJ19 _ _ _ hf hP hD hS (lv_sub hl [0, 1] rfl)
    · have hf := if_f hf c6
      refine lv_aload_n hx hb dX6_numberAt_12 rfl (lv_at hl 0 rfl) ?_
      refine va_get (v := .ref (qP 1)) (D := D) (ci := 6) (C := RX6) (T := TX6) (N := 4) hx hb hts huX6 hown hK hP 0 rfl rfl 0 (by decide) fk9 (fun _ h9 => h9) rfl dX6_numberAt_13 ?_
      refine lv_iload_n hx hb dX6_numberAt_16 rfl (lv_at hl 1 rfl) ?_
      obtain ⟨c7, hf⟩ := ck_some hf
      refine va_lald hx hb hK hP 1 1 rfl rfl c7 dX6_numberAt_17 ?_
      obtain rfl := Option.some.inj hf
      exact hQ () 18 _ _ _ dX6_numberAt_18 hP hD hS
def f_X6_isRoundOfLeast_B18 (F : Nat) (p_told : Nat → Int64) (p_size : Int32) (rec : Int32 → Option ((Int32) ⊕ (Unit))) (x : Int32) : Option ((Int32) ⊕ (Unit)) := if p_size ≤ x then (some (.inr ())) else (ck (¬ (x < 0 ∨ 301 ≤ x.toNatClampNeg)) (ck (¬ ((0 : Int32) < 0 ∨ 301 ≤ (0 : Int32).toNatClampNeg)) (if (p_told (0 : Int32).toNatClampNeg) ≤ (p_told x.toNatClampNeg) then (rec (x + (1 : Int32))) else (some (.inl (0 : Int32))))))
def f_X6_isRoundOfLeast_J14 (F : Nat) : Option (Int32) := some (0 : Int32)
def f_X6_isRoundOfLeast (F : Nat) (p_told : Nat → Int64) (p_size : Int32) (p_tail : Int32) (p_round : Int32) : Option (Int32) := if p_round = 0 then (f_X6_isRoundOfLeast_J14 F) else (if p_tail = 0 then ((lp (f_X6_isRoundOfLeast_B18 F p_told p_size) F (1 : Int32)).bind (fun ex7 => Sum.elim (fun r => some r) (fun er8 => some (1 : Int32)) ex7)) else (f_X6_isRoundOfLeast_J14 F))
abbrev rmX6_isRoundOfLeast : Room := { frames := 0, cells := 0, slots := 0, locals := 0 }
set_option maxHeartbeats 1000000 in
set_option maxRecDepth 100000 in
theorem c_X6_isRoundOfLeast {l : Launch} {D : va_G} {cy : Nat → ClassId} {qP : Nat → Nat} {p_told : Nat → Int64} {p_size : Int32} {p_tail : Int32} {p_round : Int32} {F : Nat} {res : Int32} (hf : f_X6_isRoundOfLeast F p_told p_size p_tail p_round = some res) : kM l yX6_isRoundOfLeast wsX6_isRoundOfLeast rmX6_isRoundOfLeast D cy [.ref (qP 0)] (gP cy qP p_told p_size p_tail p_round) (kQi D cy (fun _ : Unit => gP cy qP p_told p_size p_tail p_round) res) := by
  refine kent_z (cc := cX6_isRoundOfLeast) (maxL := 2) (by decide) rfl (Nat.le_of_ble_eq_true rfl) ?_
  intro p e0 s m ar below meth c A Q ls ⟨hx, hb, hml, hr, hts, hown, hlocks, hnm⟩ hA hK hN hQ hP hD hS hl
  have hl : lv_has ls 2 [(0, .ref (qP 0))] := hl
  have hown : s.vm.findClass RX6 = some m.cls := hown
  have huX6 : ∀ x ∈ u_ws RX6 TX6 4, x ∈ wsX6_isRoundOfLeast := by decide +kernel
  have fk15 : (Cond.fieldLink RX6 15 "FigurePlay$Path" "size" "I").before ar s = true := hts _ (by decide +kernel)
  have fk9 : (Cond.fieldLink RX6 9 "FigurePlay$Path" "told" "[J").before ar s = true := hts _ (by decide +kernel)
  have fk22 : (Cond.fieldLink RX6 22 "FigurePlay$Path" "round" "I").before ar s = true := hts _ (by decide +kernel)
  have fk19 : (Cond.fieldLink RX6 19 "FigurePlay$Path" "tail" "I").before ar s = true := hts _ (by decide +kernel)
  unfold f_X6_isRoundOfLeast at hf
  have hL18 : ∀ (k : Nat) (x : Int32) (ex : (Int32) ⊕ (Unit)) (H : Heap) (locs : List Loc) (ls : Array Slot), lp (f_X6_isRoundOfLeast_B18 F p_told p_size) k x = some ex → (∀ r, ex = .inl r → r = res) → (∀ er, ex = .inr er → ∀ (H : Heap) (locs : List Loc) (ls : Array Slot), va_P D vwCl (gP cy qP p_told p_size p_tail p_round) H → va_D A (gP cy qP p_told p_size p_tail p_round) → va_S A s.heap H locs → lv_has ls 2 [] → W p l e0 rmX6_isRoundOfLeast s m ar below meth c H locs 0 0 Q (F0 m 50 ls [])) → va_P D vwCl (gP cy qP p_told p_size p_tail p_round) H → va_D A (gP cy qP p_told p_size p_tail p_round) → va_S A s.heap H locs → lv_has ls 2 [(0, .ref (qP 0)), (1, .int x)] → W p l e0 rmX6_isRoundOfLeast s m ar below meth c H locs 0 0 Q (F0 m 18 ls []) := by
    intro k
    induction k with
    | zero => intro x ex H locs ls hf; exact no_some hf
    | succ k ih =>
      intro x ex H locs ls hf hret hex hP hD hS hl
      have hf : f_X6_isRoundOfLeast_B18 F p_told p_size (lp (f_X6_isRoundOfLeast_B18 F p_told p_size) k) x = some ex := hf
      unfold f_X6_isRoundOfLeast_B18 at hf
      refine lv_iload_n hx hb dX6_isRoundOfLeast_18 rfl (lv_at hl 1 rfl) ?_
      refine lv_aload_n hx hb dX6_isRoundOfLeast_19 rfl (lv_at hl 0 rfl) ?_
      refine va_get (D := D) (ci := 6) (C := RX6) (T := TX6) (N := 4) hx hb hts huX6 hown hK hP 0 rfl rfl 1 (by decide) fk15 (fun _ h9 => h9) rfl dX6_isRoundOfLeast_20 ?_
      refine lv_icmp_ge (tgt := 50) hx hb dX6_isRoundOfLeast_23 (by decide) (fun c1 => ?_) (fun c1 => ?_)
      · have hf := if_t hf c1
        obtain rfl := Option.some.inj hf
        exact hex _ rfl _ _ _ hP hD hS (lv_sub hl [] rfl)
      · have hf := if_f hf c1
        refine lv_aload_n hx hb dX6_isRoundOfLeast_26 rfl (lv_at hl 0 rfl) ?_
        refine va_get (v := .ref (qP 1)) (D := D) (ci := 6) (C := RX6) (T := TX6) (N := 4) hx hb hts huX6 hown hK hP 0 rfl rfl 0 (by decide) fk9 (fun _ h9 => h9) rfl dX6_isRoundOfLeast_27 ?_
        refine lv_iload_n hx hb dX6_isRoundOfLeast_30 rfl (lv_at hl 1 rfl) ?_
        obtain ⟨c2, hf⟩ := ck_some hf
        refine va_lald hx hb hK hP 1 1 rfl rfl c2 dX6_isRoundOfLeast_31 ?_
        refine lv_aload_n hx hb dX6_isRoundOfLeast_32 rfl (lv_at hl 0 rfl) ?_
        refine va_get (v := .ref (qP 1)) (D := D) (ci := 6) (C := RX6) (T := TX6) (N := 4) hx hb hts huX6 hown hK hP 0 rfl rfl 0 (by decide) fk9 (fun _ h9 => h9) rfl dX6_isRoundOfLeast_33 ?_
        refine lv_iconst (v := (0 : Int32)) hx hb dX6_isRoundOfLeast_36 (by decide) ?_
        obtain ⟨c3, hf⟩ := ck_some hf
        refine va_lald hx hb hK hP 1 1 rfl rfl c3 dX6_isRoundOfLeast_37 ?_
        refine kl_ge (tgt := 44) hx hb dX6_isRoundOfLeast_38 dX6_isRoundOfLeast_39 (by decide) (fun c4 => ?_) (fun c4 => ?_)
        · have hf := if_t hf c4
          refine lv_iinc (v := (x + (1 : Int32))) (lv' := [(1, .int (x + (1 : Int32))), (0, .ref (qP 0))]) hx hb dX6_isRoundOfLeast_44 hl (k := 1) rfl rfl (by decide) rfl (fun ls hl => ?_)
          refine lv_goto (tgt := 18) hx hb dX6_isRoundOfLeast_47 (by decide) ?_
          exact ih (x + (1 : Int32)) ex _ _ _ hf hret hex hP hD hS (lv_sub hl [1, 0] rfl)
        · have hf := if_f hf c4
          refine lv_iconst (v := (0 : Int32)) hx hb dX6_isRoundOfLeast_42 (by decide) ?_
          obtain rfl := Option.some.inj hf
          obtain rfl := hret _ rfl
          exact hQ () 43 _ _ _ (show (0 : Int32) &&& 1 = (0 : Int32) from by decide) dX6_isRoundOfLeast_43 hP hD hS
  have hJ14 : ∀ (H : Heap) (locs : List Loc) (ls : Array Slot), f_X6_isRoundOfLeast_J14 F = some res → va_P D vwCl (gP cy qP p_told p_size p_tail p_round) H → va_D A (gP cy qP p_told p_size p_tail p_round) → va_S A s.heap H locs → lv_has ls 2 [] → W p l e0 rmX6_isRoundOfLeast s m ar below meth c H locs 0 0 Q (F0 m 14 ls []) := by
    intro H locs ls hf hP hD hS hl
    unfold f_X6_isRoundOfLeast_J14 at hf
    refine lv_iconst (v := (0 : Int32)) hx hb dX6_isRoundOfLeast_14 (by decide) ?_
    obtain rfl := Option.some.inj hf
    exact hQ () 15 _ _ _ (show (0 : Int32) &&& 1 = (0 : Int32) from by decide) dX6_isRoundOfLeast_15 hP hD hS
  refine lv_aload_n hx hb dX6_isRoundOfLeast_0 rfl (lv_at hl 0 rfl) ?_
  refine va_get (D := D) (ci := 6) (C := RX6) (T := TX6) (N := 4) hx hb hts huX6 hown hK hP 0 rfl rfl 3 (by decide) fk22 (fun _ h9 => h9) rfl dX6_isRoundOfLeast_1 ?_
  refine lv_if_eq (tgt := 14) hx hb dX6_isRoundOfLeast_4 (by decide) (fun c5 => ?_) (fun c5 => ?_)
  · have hf := if_t hf c5
    exact hJ14 _ _ _ hf hP hD hS (lv_sub hl [] rfl)
  · have hf := if_f hf c5
    refine lv_aload_n hx hb dX6_isRoundOfLeast_7 rfl (lv_at hl 0 rfl) ?_
    refine va_get (D := D) (ci := 6) (C := RX6) (T := TX6) (N := 4) hx hb hts huX6 hown hK hP 0 rfl rfl 2 (by decide) fk19 (fun _ h9 => h9) rfl dX6_isRoundOfLeast_8 ?_
    refine lv_if_eq (tgt := 16) hx hb dX6_isRoundOfLeast_11 (by decide) (fun c6 => ?_) (fun c6 => ?_)
    · have hf := if_t hf c6
      refine lv_iconst (v := (1 : Int32)) hx hb dX6_isRoundOfLeast_16 (by decide) ?_
      refine lv_istore_n (lv' := [(1, .int (1 : Int32)), (0, .ref (qP 0))]) hx hb dX6_isRoundOfLeast_17 rfl hl (by decide) rfl (fun ls hl => ?_)
      obtain ⟨ex7, hcl, hf⟩ := ob_some hf
      refine hL18 F (1 : Int32) ex7 _ _ _ hcl (fun r hr0 => ?_) (fun er8 hr0 H locs ls hP hD hS hl => ?_) hP hD hS (lv_sub hl [1, 0] rfl)
      · subst hr0; exact Option.some.inj (sm_inl hf)
      · subst hr0
        have hf := sm_inr hf
        refine lv_iconst (v := (1 : Int32)) hx hb dX6_isRoundOfLeast_50 (by decide) ?_
        obtain rfl := Option.some.inj hf
        exact hQ () 51 _ _ _ (show (1 : Int32) &&& 1 = (1 : Int32) from by decide) dX6_isRoundOfLeast_51 hP hD hS
    · have hf := if_f hf c6
      exact hJ14 _ _ _ hf hP hD hS (lv_sub hl [] rfl)
def f_X8_renew (F : Nat) (s_stamp : Int32) : Option (Int32 × Int32) := some ((s_stamp + (1 : Int32)), (s_stamp + (1 : Int32)))
abbrev rmX8_renew : Room := { frames := 0, cells := 0, slots := 0, locals := 0 }
set_option maxHeartbeats 1000000 in
set_option maxRecDepth 100000 in
theorem c_X8_renew {l : Launch} {D : va_G} {cy : Nat → ClassId} {qS : Nat → Nat} {s_keys : Nat → Int64} {s_tails : Nat → Int32} {s_homes : Nat → Int32} {s_stamp : Int32} {F : Nat} {res : Int32 × Int32} (hf : f_X8_renew F s_stamp = some res) : kM l yX8_renew wsX8_renew rmX8_renew D cy [.ref (qS 0)] (gS cy qS s_keys s_tails s_homes s_stamp) (kQi D cy (fun _ : Unit => gS cy qS s_keys s_tails s_homes res.2) res.1) := by
  refine kent_i (cc := cX8_renew) (maxL := 1) (by decide) rfl (Nat.le_of_ble_eq_true rfl) ?_
  intro p e0 s m ar below meth c A Q ls ⟨hx, hb, hml, hr, hts, hown, hlocks, hnm⟩ hA hK hN hQ hP hD hS hl
  have hl : lv_has ls 1 [(0, .ref (qS 0))] := hl
  have hown : s.vm.findClass RX8 = some m.cls := hown
  have huX8 : ∀ x ∈ u_ws RX8 TX8 4, x ∈ wsX8_renew := by decide +kernel
  have fk21 : (Cond.fieldLink RX8 21 "FigurePlay$Slots" "stamp" "I").before ar s = true := hts _ (by decide +kernel)
  unfold f_X8_renew at hf
  refine lv_aload_n hx hb dX8_renew_0 rfl (lv_at hl 0 rfl) ?_
  refine lv_dup hx hb dX8_renew_1 rfl ?_
  refine va_get (D := D) (ci := 8) (C := RX8) (T := TX8) (N := 4) hx hb hts huX8 hown hK hP 0 rfl rfl 3 (by decide) fk21 (fun _ h9 => h9) rfl dX8_renew_2 ?_
  refine lv_iconst (v := (1 : Int32)) hx hb dX8_renew_5 (by decide) ?_
  refine lv_iadd hx hb dX8_renew_6 ?_
  refine va_put (D := D) (ci := 8) (v := .int (s_stamp + (1 : Int32))) (ty := .int) (C := RX8) (T := TX8) (N := 4) hx hb hts huX8 tyX8 tyX8_ok nmX8 hown hK hP hD hS 0 rfl rfl 3 (by decide) fk21 (fun _ h9 => h9) rfl (tyX8_ok 3 (by decide)) rfl rfl (Nat.le_of_ble_eq_true rfl) dX8_renew_7 (fun H locs hP hD hS => ?_)
  have hP : va_P D vwCl (gS cy qS s_keys s_tails s_homes (s_stamp + (1 : Int32))) H := hP
  have hD : va_D A (gS cy qS s_keys s_tails s_homes (s_stamp + (1 : Int32))) := hD
  refine lv_aload_n hx hb dX8_renew_10 rfl (lv_at hl 0 rfl) ?_
  refine va_get (D := D) (ci := 8) (C := RX8) (T := TX8) (N := 4) hx hb hts huX8 hown hK hP 0 rfl rfl 3 (by decide) fk21 (fun _ h9 => h9) rfl dX8_renew_11 ?_
  obtain rfl := Option.some.inj hf
  exact hQ () 14 _ _ _ dX8_renew_14 hP hD hS
def f_X8_keyOf (F : Nat) (a1 : Int64) (s_stamp : Int32) : Option (Int64) := some ((s_stamp.toInt64 <<< ((32 : Int32).toInt64 &&& 63)) ||| a1)
abbrev rmX8_keyOf : Room := { frames := 0, cells := 0, slots := 0, locals := 0 }
set_option maxHeartbeats 1000000 in
set_option maxRecDepth 100000 in
theorem c_X8_keyOf {l : Launch} {D : va_G} {cy : Nat → ClassId} {qS : Nat → Nat} {s_keys : Nat → Int64} {s_tails : Nat → Int32} {s_homes : Nat → Int32} {s_stamp : Int32} {a1 : Int64} {F : Nat} {res : Int64} (hf : f_X8_keyOf F a1 s_stamp = some res) : kM l yX8_keyOf wsX8_keyOf rmX8_keyOf D cy [.ref (qS 0), .long a1] (gS cy qS s_keys s_tails s_homes s_stamp) (kQl D cy (fun _ : Unit => gS cy qS s_keys s_tails s_homes s_stamp) res) := by
  refine kent_l (cc := cX8_keyOf) (maxL := 3) (by decide) rfl (Nat.le_of_ble_eq_true rfl) ?_
  intro p e0 s m ar below meth c A Q ls ⟨hx, hb, hml, hr, hts, hown, hlocks, hnm⟩ hA hK hN hQ hP hD hS hl
  have hl : lv_has ls 3 [(0, .ref (qS 0)), (1, .long a1)] := hl
  have hown : s.vm.findClass RX8 = some m.cls := hown
  have huX8 : ∀ x ∈ u_ws RX8 TX8 4, x ∈ wsX8_keyOf := by decide +kernel
  have fk21 : (Cond.fieldLink RX8 21 "FigurePlay$Slots" "stamp" "I").before ar s = true := hts _ (by decide +kernel)
  unfold f_X8_keyOf at hf
  refine lv_aload_n hx hb dX8_keyOf_0 rfl (lv_at hl 0 rfl) ?_
  refine va_get (D := D) (ci := 8) (C := RX8) (T := TX8) (N := 4) hx hb hts huX8 hown hK hP 0 rfl rfl 3 (by decide) fk21 (fun _ h9 => h9) rfl dX8_keyOf_1 ?_
  refine lv_i2l hx hb dX8_keyOf_4 rfl ?_
  refine lv_bipush (v := (32 : Int32)) hx hb dX8_keyOf_5 (by decide) ?_
  refine lv_lshl hx hb dX8_keyOf_7 rfl ?_
  refine lv_lload_n hx hb dX8_keyOf_8 rfl (lv_at hl 1 rfl) ?_
  refine lv_lor hx hb dX8_keyOf_9 ?_
  obtain rfl := Option.some.inj hf
  exact hQ () 10 _ _ _ dX8_keyOf_10 hP hD hS
def f_X8_slotFor_J52 (F : Nat) (x3 : Int32) : Option ((Int32) ⊕ (Unit)) := some (.inl x3)
def f_X8_slotFor_B16 (F : Nat) (a1 : Int64) (s_keys : Nat → Int64) (s_stamp : Int32) (rec : Int32 × Int32 → Option ((Int32) ⊕ (Unit))) (x : Int32 × Int32) : Option ((Int32) ⊕ (Unit)) := if (32768 : Int32) ≤ x.2 then (some (.inr ())) else (ck (¬ (x.1 < 0 ∨ 32768 ≤ x.1.toNatClampNeg)) (if (s_keys x.1.toNatClampNeg) = a1 then (f_X8_slotFor_J52 F x.1) else (ck (¬ (x.1 < 0 ∨ 32768 ≤ x.1.toNatClampNeg)) (if ((s_keys x.1.toNatClampNeg) >>> ((32 : Int32).toInt64 &&& 63)) = s_stamp.toInt64 then (rec (((x.1 + (1 : Int32)) &&& (32767 : Int32)), (x.2 + (1 : Int32)))) else (f_X8_slotFor_J52 F x.1)))))
def f_X8_slotFor (F : Nat) (a1 : Int64) (s_keys : Nat → Int64) (s_stamp : Int32) : Option (Int32) := (lp (f_X8_slotFor_B16 F a1 s_keys s_stamp) F ((((a1 * (40503 : Int64)) >>> ((4 : Int32).toInt64 &&& 63)).toInt32 &&& (32767 : Int32)), (0 : Int32))).bind (fun ex6 => Sum.elim (fun r => some r) (fun er7 => some (-1 : Int32)) ex6)
abbrev rmX8_slotFor : Room := { frames := 0, cells := 0, slots := 0, locals := 0 }
set_option maxHeartbeats 1000000 in
set_option maxRecDepth 100000 in
theorem c_X8_slotFor {l : Launch} {D : va_G} {cy : Nat → ClassId} {qS : Nat → Nat} {s_keys : Nat → Int64} {s_tails : Nat → Int32} {s_homes : Nat → Int32} {s_stamp : Int32} {a1 : Int64} {F : Nat} {res : Int32} (hf : f_X8_slotFor F a1 s_keys s_stamp = some res) : kM l yX8_slotFor wsX8_slotFor rmX8_slotFor D cy [.ref (qS 0), .long a1] (gS cy qS s_keys s_tails s_homes s_stamp) (kQi D cy (fun _ : Unit => gS cy qS s_keys s_tails s_homes s_stamp) res) := by
  refine kent_i (cc := cX8_slotFor) (maxL := 5) (by decide) rfl (Nat.le_of_ble_eq_true rfl) ?_
  intro p e0 s m ar below meth c A Q ls ⟨hx, hb, hml, hr, hts, hown, hlocks, hnm⟩ hA hK hN hQ hP hD hS hl
  have hl : lv_has ls 5 [(0, .ref (qS 0)), (1, .long a1)] := hl
  have hown : s.vm.findClass RX8 = some m.cls := hown
  have fk9 : (Cond.constant RX8 9 (32768)).before ar s = true := hts _ (by decide +kernel)
  have huX8 : ∀ x ∈ u_ws RX8 TX8 4, x ∈ wsX8_slotFor := by decide +kernel
  have fk10 : (Cond.fieldLink RX8 10 "FigurePlay$Slots" "keys" "[J").before ar s = true := hts _ (by decide +kernel)
  have fk21 : (Cond.fieldLink RX8 21 "FigurePlay$Slots" "stamp" "I").before ar s = true := hts _ (by decide +kernel)
  have fk33 : (Cond.constantLong RX8 33 (40503)).before ar s = true := hts _ (by decide +kernel)
  unfold f_X8_slotFor at hf
  have hL16 : ∀ (k : Nat) (x : Int32 × Int32) (ex : (Int32) ⊕ (Unit)) (H : Heap) (locs : List Loc) (ls : Array Slot), lp (f_X8_slotFor_B16 F a1 s_keys s_stamp) k x = some ex → (∀ r, ex = .inl r → r = res) → (∀ er, ex = .inr er → ∀ (H : Heap) (locs : List Loc) (ls : Array Slot), va_P D vwCl (gS cy qS s_keys s_tails s_homes s_stamp) H → va_D A (gS cy qS s_keys s_tails s_homes s_stamp) → va_S A s.heap H locs → lv_has ls 5 [] → W p l e0 rmX8_slotFor s m ar below meth c H locs 0 0 Q (F0 m 68 ls [])) → va_P D vwCl (gS cy qS s_keys s_tails s_homes s_stamp) H → va_D A (gS cy qS s_keys s_tails s_homes s_stamp) → va_S A s.heap H locs → lv_has ls 5 [(0, .ref (qS 0)), (1, .long a1), (3, .int x.1), (4, .int x.2)] → W p l e0 rmX8_slotFor s m ar below meth c H locs 0 0 Q (F0 m 16 ls []) := by
    intro k
    induction k with
    | zero => intro x ex H locs ls hf; exact no_some hf
    | succ k ih =>
      intro x ex H locs ls hf hret hex hP hD hS hl
      have hf : f_X8_slotFor_B16 F a1 s_keys s_stamp (lp (f_X8_slotFor_B16 F a1 s_keys s_stamp) k) x = some ex := hf
      unfold f_X8_slotFor_B16 at hf
      have hJ52 : ∀ (x3 : Int32) (H : Heap) (locs : List Loc) (ls : Array Slot), f_X8_slotFor_J52 F x3 = some ex → va_P D vwCl (gS cy qS s_keys s_tails s_homes s_stamp) H → va_D A (gS cy qS s_keys s_tails s_homes s_stamp) → va_S A s.heap H locs → lv_has ls 5 [(3, .int x3)] → W p l e0 rmX8_slotFor s m ar below meth c H locs 0 0 Q (F0 m 52 ls []) := by
        intro x3 H locs ls hf hP hD hS hl
        unfold f_X8_slotFor_J52 at hf
        refine lv_iload_n hx hb dX8_slotFor_52 rfl (lv_at hl 0 rfl) ?_
        obtain rfl := Option.some.inj hf
        obtain rfl := hret _ rfl
        exact hQ () 53 _ _ _ dX8_slotFor_53 hP hD hS
      refine lv_iload hx hb dX8_slotFor_16 (lv_at hl 3 rfl) ?_
      refine lv_ldc (v := (32768 : Int32)) hx hb hown fk9 dX8_slotFor_18 ?_
      refine lv_icmp_ge (tgt := 68) hx hb dX8_slotFor_20 (by decide) (fun c1 => ?_) (fun c1 => ?_)
      · have hf := if_t hf c1
        obtain rfl := Option.some.inj hf
        exact hex _ rfl _ _ _ hP hD hS (lv_sub hl [] rfl)
      · have hf := if_f hf c1
        refine lv_aload_n hx hb dX8_slotFor_23 rfl (lv_at hl 0 rfl) ?_
        refine va_get (v := .ref (qS 1)) (D := D) (ci := 8) (C := RX8) (T := TX8) (N := 4) hx hb hts huX8 hown hK hP 0 rfl rfl 0 (by decide) fk10 (fun _ h9 => h9) rfl dX8_slotFor_24 ?_
        refine lv_iload_n hx hb dX8_slotFor_27 rfl (lv_at hl 2 rfl) ?_
        obtain ⟨c2, hf⟩ := ck_some hf
        refine va_lald hx hb hK hP 1 1 rfl rfl c2 dX8_slotFor_28 ?_
        refine lv_lload_n hx hb dX8_slotFor_29 rfl (lv_at hl 1 rfl) ?_
        refine kl_eq (tgt := 52) hx hb dX8_slotFor_30 dX8_slotFor_31 (by decide) (fun c3 => ?_) (fun c3 => ?_)
        · have hf := if_t hf c3
          exact hJ52 x.1 _ _ _ hf hP hD hS (lv_sub hl [2] rfl)
        · have hf := if_f hf c3
          refine lv_aload_n hx hb dX8_slotFor_34 rfl (lv_at hl 0 rfl) ?_
          refine va_get (v := .ref (qS 1)) (D := D) (ci := 8) (C := RX8) (T := TX8) (N := 4) hx hb hts huX8 hown hK hP 0 rfl rfl 0 (by decide) fk10 (fun _ h9 => h9) rfl dX8_slotFor_35 ?_
          refine lv_iload_n hx hb dX8_slotFor_38 rfl (lv_at hl 2 rfl) ?_
          obtain ⟨c4, hf⟩ := ck_some hf
          refine va_lald hx hb hK hP 1 1 rfl rfl c4 dX8_slotFor_39 ?_
          refine lv_bipush (v := (32 : Int32)) hx hb dX8_slotFor_40 (by decide) ?_
          refine lv_lshr hx hb dX8_slotFor_42 rfl ?_
          refine lv_aload_n hx hb dX8_slotFor_43 rfl (lv_at hl 0 rfl) ?_
          refine va_get (D := D) (ci := 8) (C := RX8) (T := TX8) (N := 4) hx hb hts huX8 hown hK hP 0 rfl rfl 3 (by decide) fk21 (fun _ h9 => h9) rfl dX8_slotFor_44 ?_
          refine lv_i2l hx hb dX8_slotFor_47 rfl ?_
          refine kl_eq (tgt := 54) hx hb dX8_slotFor_48 dX8_slotFor_49 (by decide) (fun c5 => ?_) (fun c5 => ?_)
          · have hf := if_t hf c5
            refine lv_iload_n hx hb dX8_slotFor_54 rfl (lv_at hl 2 rfl) ?_
            refine lv_iconst (v := (1 : Int32)) hx hb dX8_slotFor_55 (by decide) ?_
            refine lv_iadd hx hb dX8_slotFor_56 ?_
            refine lv_sipush (v := (32767 : Int32)) hx hb dX8_slotFor_57 (by decide) ?_
            refine lv_iand hx hb dX8_slotFor_60 ?_
            refine lv_istore_n (lv' := [(3, .int ((x.1 + (1 : Int32)) &&& (32767 : Int32))), (0, .ref (qS 0)), (1, .long a1), (4, .int x.2)]) hx hb dX8_slotFor_61 rfl hl (by decide) rfl (fun ls hl => ?_)
            refine lv_iinc (v := (x.2 + (1 : Int32))) (lv' := [(4, .int (x.2 + (1 : Int32))), (3, .int ((x.1 + (1 : Int32)) &&& (32767 : Int32))), (0, .ref (qS 0)), (1, .long a1)]) hx hb dX8_slotFor_62 hl (k := 3) rfl rfl (by decide) rfl (fun ls hl => ?_)
            refine lv_goto (tgt := 16) hx hb dX8_slotFor_65 (by decide) ?_
            exact ih (((x.1 + (1 : Int32)) &&& (32767 : Int32)), (x.2 + (1 : Int32))) ex _ _ _ hf hret hex hP hD hS (lv_sub hl [2, 3, 1, 0] rfl)
          · have hf := if_f hf c5
            exact hJ52 x.1 _ _ _ hf hP hD hS (lv_sub hl [2] rfl)
  refine lv_lload_n hx hb dX8_slotFor_0 rfl (lv_at hl 1 rfl) ?_
  refine lv_ldc2 (v := (40503 : Int64)) hx hb hown fk33 dX8_slotFor_1 ?_
  refine lv_lmul hx hb dX8_slotFor_4 ?_
  refine lv_iconst (v := (4 : Int32)) hx hb dX8_slotFor_5 (by decide) ?_
  refine lv_lshr hx hb dX8_slotFor_6 rfl ?_
  refine lv_l2i hx hb dX8_slotFor_7 rfl ?_
  refine lv_sipush (v := (32767 : Int32)) hx hb dX8_slotFor_8 (by decide) ?_
  refine lv_iand hx hb dX8_slotFor_11 ?_
  refine lv_istore_n (lv' := [(3, .int (((a1 * (40503 : Int64)) >>> ((4 : Int32).toInt64 &&& 63)).toInt32 &&& (32767 : Int32))), (0, .ref (qS 0)), (1, .long a1)]) hx hb dX8_slotFor_12 rfl hl (by decide) rfl (fun ls hl => ?_)
  refine lv_iconst (v := (0 : Int32)) hx hb dX8_slotFor_13 (by decide) ?_
  refine lv_istore (lv' := [(4, .int (0 : Int32)), (3, .int (((a1 * (40503 : Int64)) >>> ((4 : Int32).toInt64 &&& 63)).toInt32 &&& (32767 : Int32))), (0, .ref (qS 0)), (1, .long a1)]) hx hb dX8_slotFor_14 hl (by decide) rfl (fun ls hl => ?_)
  obtain ⟨ex6, hcl, hf⟩ := ob_some hf
  refine hL16 F ((((a1 * (40503 : Int64)) >>> ((4 : Int32).toInt64 &&& 63)).toInt32 &&& (32767 : Int32)), (0 : Int32)) ex6 _ _ _ hcl (fun r hr0 => ?_) (fun er7 hr0 H locs ls hP hD hS hl => ?_) hP hD hS (lv_sub hl [2, 3, 1, 0] rfl)
  · subst hr0; exact Option.some.inj (sm_inl hf)
  · subst hr0
    have hf := sm_inr hf
    refine lv_iconst (v := (-1 : Int32)) hx hb dX8_slotFor_68 (by decide) ?_
    obtain rfl := Option.some.inj hf
    exact hQ () 69 _ _ _ dX8_slotFor_69 hP hD hS
def f_X8_find_J36 (F : Nat) (s0 : Int32) : Option (Int32) := some s0
def f_X8_find_J35 (F : Nat) : Option (Int32) := f_X8_find_J36 F (-1 : Int32)
def f_X8_find (F : Nat) (a1 : Int64) (s_keys : Nat → Int64) (s_stamp : Int32) : Option (Int32) := (f_X8_keyOf F a1 s_stamp).bind (fun r1 => (f_X8_slotFor F r1 s_keys s_stamp).bind (fun r3 => if r3 < 0 then (f_X8_find_J35 F) else (ck (¬ (r3 < 0 ∨ 32768 ≤ r3.toNatClampNeg)) (if (s_keys r3.toNatClampNeg) = r1 then (f_X8_find_J36 F r3) else (f_X8_find_J35 F)))))
abbrev rmX8_find : Room := { frames := 1, cells := 0, slots := 0, locals := 24 }
set_option maxHeartbeats 1000000 in
set_option maxRecDepth 100000 in
theorem c_X8_find {l : Launch} {D : va_G} {cy : Nat → ClassId} {qS : Nat → Nat} {s_keys : Nat → Int64} {s_tails : Nat → Int32} {s_homes : Nat → Int32} {s_stamp : Int32} {a1 : Int64} {F : Nat} {res : Int32} (hf : f_X8_find F a1 s_keys s_stamp = some res) : kM l yX8_find wsX8_find rmX8_find D cy [.ref (qS 0), .long a1] (gS cy qS s_keys s_tails s_homes s_stamp) (kQi D cy (fun _ : Unit => gS cy qS s_keys s_tails s_homes s_stamp) res) := by
  refine kent_i (cc := cX8_find) (maxL := 6) (by decide) rfl (Nat.le_of_ble_eq_true rfl) ?_
  intro p e0 s m ar below meth c A Q ls ⟨hx, hb, hml, hr, hts, hown, hlocks, hnm⟩ hA hK hN hQ hP hD hS hl
  have hl : lv_has ls 6 [(0, .ref (qS 0)), (1, .long a1)] := hl
  have hown : s.vm.findClass RX8 = some m.cls := hown
  have huX8 : ∀ x ∈ u_ws RX8 TX8 4, x ∈ wsX8_find := by decide +kernel
  have fk10 : (Cond.fieldLink RX8 10 "FigurePlay$Slots" "keys" "[J").before ar s = true := hts _ (by decide +kernel)
  unfold f_X8_find at hf
  have hJ36 : ∀ (s0 : Int32) (H : Heap) (locs : List Loc) (ls : Array Slot), f_X8_find_J36 F s0 = some res → va_P D vwCl (gS cy qS s_keys s_tails s_homes s_stamp) H → va_D A (gS cy qS s_keys s_tails s_homes s_stamp) → va_S A s.heap H locs → lv_has ls 6 [] → W p l e0 rmX8_find s m ar below meth c H locs 0 0 Q (F0 m 36 ls [.int s0]) := by
    intro s0 H locs ls hf hP hD hS hl
    unfold f_X8_find_J36 at hf
    obtain rfl := Option.some.inj hf
    exact hQ () 36 _ _ _ dX8_find_36 hP hD hS
  have hJ35 : ∀ (H : Heap) (locs : List Loc) (ls : Array Slot), f_X8_find_J35 F = some res → va_P D vwCl (gS cy qS s_keys s_tails s_homes s_stamp) H → va_D A (gS cy qS s_keys s_tails s_homes s_stamp) → va_S A s.heap H locs → lv_has ls 6 [] → W p l e0 rmX8_find s m ar below meth c H locs 0 0 Q (F0 m 35 ls []) := by
    intro H locs ls hf hP hD hS hl
    unfold f_X8_find_J35 at hf
    refine lv_iconst (v := (-1 : Int32)) hx hb dX8_find_35 (by decide) ?_
    exact hJ36 (-1 : Int32) _ _ _ hf hP hD hS (lv_sub hl [] rfl)
  refine lv_aload_n hx hb dX8_find_0 rfl (lv_at hl 0 rfl) ?_
  refine lv_lload_n hx hb dX8_find_1 rfl (lv_at hl 1 rfl) ?_
  obtain ⟨r1, hc2, hf⟩ := ob_some hf
  refine kc_l (k_run ⟨hx, hb, hml, hown, hts⟩ (c_X8_keyOf hc2) (cwV 1 hts gX8_find_X8_keyOf rfl rfl rfl (by decide +kernel) ⟨Nat.le_of_ble_eq_true rfl, Nat.le_of_ble_eq_true rfl⟩) hK hN hP hD kA_s (ci := 8) (q0 := 0) rfl rfl rfl rfl hl.1 rfl (Nat.le_of_ble_eq_true rfl) dX8_find_2 ⟨Nat.le_of_ble_eq_true rfl, Nat.le_of_ble_eq_true rfl⟩) hP hD hS hA kI_s (fun _ H locs hP hD hS => ?_)
  refine lv_lstore_n (lv' := [(3, .long r1), (0, .ref (qS 0)), (1, .long a1)]) hx hb dX8_find_5 rfl hl (by decide) rfl (fun ls hl => ?_)
  refine lv_aload_n hx hb dX8_find_6 rfl (lv_at hl 1 rfl) ?_
  refine lv_lload_n hx hb dX8_find_7 rfl (lv_at hl 0 rfl) ?_
  obtain ⟨r3, hc4, hf⟩ := ob_some hf
  refine kc_i (k_run ⟨hx, hb, hml, hown, hts⟩ (c_X8_slotFor hc4) (cwV 1 hts gX8_find_X8_slotFor rfl rfl rfl (by decide +kernel) ⟨Nat.le_of_ble_eq_true rfl, Nat.le_of_ble_eq_true rfl⟩) hK hN hP hD kA_s (ci := 8) (q0 := 0) rfl rfl rfl rfl hl.1 rfl (Nat.le_of_ble_eq_true rfl) dX8_find_8 ⟨Nat.le_of_ble_eq_true rfl, Nat.le_of_ble_eq_true rfl⟩) hP hD hS hA kI_s (fun _ H locs hP hD hS => ?_)
  refine lv_istore (lv' := [(5, .int r3), (3, .long r1), (0, .ref (qS 0)), (1, .long a1)]) hx hb dX8_find_11 hl (by decide) rfl (fun ls hl => ?_)
  refine lv_iload hx hb dX8_find_13 (lv_at hl 0 rfl) ?_
  refine lv_if_lt (tgt := 35) hx hb dX8_find_15 (by decide) (fun c5 => ?_) (fun c5 => ?_)
  · have hf := if_t hf c5
    exact hJ35 _ _ _ hf hP hD hS (lv_sub hl [] rfl)
  · have hf := if_f hf c5
    refine lv_aload_n hx hb dX8_find_18 rfl (lv_at hl 2 rfl) ?_
    refine va_get (v := .ref (qS 1)) (D := D) (ci := 8) (C := RX8) (T := TX8) (N := 4) hx hb hts huX8 hown hK hP 0 rfl rfl 0 (by decide) fk10 (fun _ h9 => h9) rfl dX8_find_19 ?_
    refine lv_iload hx hb dX8_find_22 (lv_at hl 0 rfl) ?_
    obtain ⟨c6, hf⟩ := ck_some hf
    refine va_lald hx hb hK hP 1 1 rfl rfl c6 dX8_find_24 ?_
    refine lv_lload_n hx hb dX8_find_25 rfl (lv_at hl 1 rfl) ?_
    refine kl_ne (tgt := 35) hx hb dX8_find_26 dX8_find_27 (by decide) (fun c7 => ?_) (fun c7 => ?_)
    · have hf := if_f hf c7
      exact hJ35 _ _ _ hf hP hD hS (lv_sub hl [] rfl)
    · have hf := if_t hf c7
      refine lv_iload hx hb dX8_find_30 (lv_at hl 0 rfl) ?_
      refine lv_goto (tgt := 36) hx hb dX8_find_32 (by decide) ?_
      exact hJ36 r3 _ _ _ hf hP hD hS (lv_sub hl [] rfl)
def f_X8_put (F : Nat) (a1 : Int64) (a3 : Int32) (a4 : Int32) (s_keys : Nat → Int64) (s_tails : Nat → Int32) (s_homes : Nat → Int32) (s_stamp : Int32) : Option (Int32 × (Nat → Int64) × (Nat → Int32) × (Nat → Int32)) := (f_X8_keyOf F a1 s_stamp).bind (fun r1 => (f_X8_slotFor F r1 s_keys s_stamp).bind (fun r3 => if 0 ≤ r3 then (ck (¬ (r3 < 0 ∨ 32768 ≤ r3.toNatClampNeg)) (ck (¬ (r3 < 0 ∨ 32768 ≤ r3.toNatClampNeg)) (ck (¬ (r3 < 0 ∨ 32768 ≤ r3.toNatClampNeg)) (some ((1 : Int32), (vp_updL s_keys r3.toNatClampNeg r1), (upd s_tails r3.toNatClampNeg a3), (upd s_homes r3.toNatClampNeg a4)))))) else (some ((0 : Int32), s_keys, s_tails, s_homes))))
abbrev rmX8_put : Room := { frames := 1, cells := 0, slots := 0, locals := 24 }
set_option maxHeartbeats 1000000 in
set_option maxRecDepth 100000 in
theorem c_X8_put {l : Launch} {D : va_G} {cy : Nat → ClassId} {qS : Nat → Nat} {s_keys : Nat → Int64} {s_tails : Nat → Int32} {s_homes : Nat → Int32} {s_stamp : Int32} {a1 : Int64} {a3 : Int32} {a4 : Int32} {F : Nat} {res : Int32 × (Nat → Int64) × (Nat → Int32) × (Nat → Int32)} (hf : f_X8_put F a1 a3 a4 s_keys s_tails s_homes s_stamp = some res) : kM l yX8_put wsX8_put rmX8_put D cy [.ref (qS 0), .long a1, .int a3, .int a4] (gS cy qS s_keys s_tails s_homes s_stamp) (kQi D cy (fun _ : Unit => gS cy qS res.2.1 res.2.2.1 res.2.2.2 s_stamp) res.1) := by
  refine kent_z (cc := cX8_put) (maxL := 8) (by decide) rfl (Nat.le_of_ble_eq_true rfl) ?_
  intro p e0 s m ar below meth c A Q ls ⟨hx, hb, hml, hr, hts, hown, hlocks, hnm⟩ hA hK hN hQ hP hD hS hl
  have hl : lv_has ls 8 [(0, .ref (qS 0)), (1, .long a1), (3, .int a3), (4, .int a4)] := hl
  have hown : s.vm.findClass RX8 = some m.cls := hown
  have huX8 : ∀ x ∈ u_ws RX8 TX8 4, x ∈ wsX8_put := by decide +kernel
  have fk10 : (Cond.fieldLink RX8 10 "FigurePlay$Slots" "keys" "[J").before ar s = true := hts _ (by decide +kernel)
  have fk14 : (Cond.fieldLink RX8 14 "FigurePlay$Slots" "tails" "[I").before ar s = true := hts _ (by decide +kernel)
  have fk18 : (Cond.fieldLink RX8 18 "FigurePlay$Slots" "homes" "[I").before ar s = true := hts _ (by decide +kernel)
  unfold f_X8_put at hf
  refine lv_aload_n hx hb dX8_put_0 rfl (lv_at hl 0 rfl) ?_
  refine lv_lload_n hx hb dX8_put_1 rfl (lv_at hl 1 rfl) ?_
  obtain ⟨r1, hc2, hf⟩ := ob_some hf
  refine kc_l (k_run ⟨hx, hb, hml, hown, hts⟩ (c_X8_keyOf hc2) (cwV 1 hts gX8_put_X8_keyOf rfl rfl rfl (by decide +kernel) ⟨Nat.le_of_ble_eq_true rfl, Nat.le_of_ble_eq_true rfl⟩) hK hN hP hD kA_s (ci := 8) (q0 := 0) rfl rfl rfl rfl hl.1 rfl (Nat.le_of_ble_eq_true rfl) dX8_put_2 ⟨Nat.le_of_ble_eq_true rfl, Nat.le_of_ble_eq_true rfl⟩) hP hD hS hA kI_s (fun _ H locs hP hD hS => ?_)
  refine lv_lstore (lv' := [(5, .long r1), (0, .ref (qS 0)), (1, .long a1), (3, .int a3), (4, .int a4)]) hx hb dX8_put_5 hl (by decide) rfl (fun ls hl => ?_)
  refine lv_aload_n hx hb dX8_put_7 rfl (lv_at hl 1 rfl) ?_
  refine lv_lload hx hb dX8_put_8 (lv_at hl 0 rfl) ?_
  obtain ⟨r3, hc4, hf⟩ := ob_some hf
  refine kc_i (k_run ⟨hx, hb, hml, hown, hts⟩ (c_X8_slotFor hc4) (cwV 1 hts gX8_put_X8_slotFor rfl rfl rfl (by decide +kernel) ⟨Nat.le_of_ble_eq_true rfl, Nat.le_of_ble_eq_true rfl⟩) hK hN hP hD kA_s (ci := 8) (q0 := 0) rfl rfl rfl rfl hl.1 rfl (Nat.le_of_ble_eq_true rfl) dX8_put_10 ⟨Nat.le_of_ble_eq_true rfl, Nat.le_of_ble_eq_true rfl⟩) hP hD hS hA kI_s (fun _ H locs hP hD hS => ?_)
  refine lv_istore (lv' := [(7, .int r3), (5, .long r1), (0, .ref (qS 0)), (1, .long a1), (3, .int a3), (4, .int a4)]) hx hb dX8_put_13 hl (by decide) rfl (fun ls hl => ?_)
  refine lv_iload hx hb dX8_put_15 (lv_at hl 0 rfl) ?_
  refine lv_if_ge (tgt := 22) hx hb dX8_put_17 (by decide) (fun c5 => ?_) (fun c5 => ?_)
  · have hf := if_t hf c5
    refine lv_aload_n hx hb dX8_put_22 rfl (lv_at hl 2 rfl) ?_
    refine va_get (v := .ref (qS 1)) (D := D) (ci := 8) (C := RX8) (T := TX8) (N := 4) hx hb hts huX8 hown hK hP 0 rfl rfl 0 (by decide) fk10 (fun _ h9 => h9) rfl dX8_put_23 ?_
    refine lv_iload hx hb dX8_put_26 (lv_at hl 0 rfl) ?_
    refine lv_lload hx hb dX8_put_28 (lv_at hl 1 rfl) ?_
    obtain ⟨c6, hf⟩ := ck_some hf
    refine va_last hx hb hK hP hD hS 1 1 rfl rfl c6 dX8_put_30 (fun H locs hP hD hS => ?_)
    have hP : va_P D vwCl (gS cy qS (vp_updL s_keys r3.toNatClampNeg r1) s_tails s_homes s_stamp) H := hP
    have hD : va_D A (gS cy qS (vp_updL s_keys r3.toNatClampNeg r1) s_tails s_homes s_stamp) := hD
    refine lv_aload_n hx hb dX8_put_31 rfl (lv_at hl 2 rfl) ?_
    refine va_get (v := .ref (qS 2)) (D := D) (ci := 8) (C := RX8) (T := TX8) (N := 4) hx hb hts huX8 hown hK hP 0 rfl rfl 1 (by decide) fk14 (fun _ h9 => h9) rfl dX8_put_32 ?_
    refine lv_iload hx hb dX8_put_35 (lv_at hl 0 rfl) ?_
    refine lv_iload_n hx hb dX8_put_37 rfl (lv_at hl 4 rfl) ?_
    obtain ⟨c7, hf⟩ := ck_some hf
    refine va_iast hx hb hK hP hD hS 2 0 rfl rfl c7 dX8_put_38 (fun H locs hP hD hS => ?_)
    have hP : va_P D vwCl (gS cy qS (vp_updL s_keys r3.toNatClampNeg r1) (upd s_tails r3.toNatClampNeg a3) s_homes s_stamp) H := hP
    have hD : va_D A (gS cy qS (vp_updL s_keys r3.toNatClampNeg r1) (upd s_tails r3.toNatClampNeg a3) s_homes s_stamp) := hD
    refine lv_aload_n hx hb dX8_put_39 rfl (lv_at hl 2 rfl) ?_
    refine va_get (v := .ref (qS 3)) (D := D) (ci := 8) (C := RX8) (T := TX8) (N := 4) hx hb hts huX8 hown hK hP 0 rfl rfl 2 (by decide) fk18 (fun _ h9 => h9) rfl dX8_put_40 ?_
    refine lv_iload hx hb dX8_put_43 (lv_at hl 0 rfl) ?_
    refine lv_iload hx hb dX8_put_45 (lv_at hl 5 rfl) ?_
    obtain ⟨c8, hf⟩ := ck_some hf
    refine va_iast hx hb hK hP hD hS 3 0 rfl rfl c8 dX8_put_47 (fun H locs hP hD hS => ?_)
    have hP : va_P D vwCl (gS cy qS (vp_updL s_keys r3.toNatClampNeg r1) (upd s_tails r3.toNatClampNeg a3) (upd s_homes r3.toNatClampNeg a4) s_stamp) H := hP
    have hD : va_D A (gS cy qS (vp_updL s_keys r3.toNatClampNeg r1) (upd s_tails r3.toNatClampNeg a3) (upd s_homes r3.toNatClampNeg a4) s_stamp) := hD
    refine lv_iconst (v := (1 : Int32)) hx hb dX8_put_48 (by decide) ?_
    obtain rfl := Option.some.inj hf
    exact hQ () 49 _ _ _ (show (1 : Int32) &&& 1 = (1 : Int32) from by decide) dX8_put_49 hP hD hS
  · have hf := if_f hf c5
    refine lv_iconst (v := (0 : Int32)) hx hb dX8_put_20 (by decide) ?_
    obtain rfl := Option.some.inj hf
    exact hQ () 21 _ _ _ (show (0 : Int32) &&& 1 = (0 : Int32) from by decide) dX8_put_21 hP hD hS
