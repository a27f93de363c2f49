/-! the class: functions and contracts -/
def f_X10_within_J15 (F : Nat) (s0 : Int32) : Option (Int32) := ck (s0 &&& 1 = s0) (some s0)
def f_X10_within_J14 (F : Nat) : Option (Int32) := f_X10_within_J15 F (0 : Int32)
def f_X10_within (F : Nat) (a0 : Int32) (a1 : Int32) (a2 : Int32) : Option (Int32) := if a0 < a1 then (f_X10_within_J14 F) else (if a2 < a0 then (f_X10_within_J14 F) else (f_X10_within_J15 F (1 : Int32)))
abbrev rmX10_within : Room := { frames := 0, cells := 0, slots := 0, locals := 0 }
set_option maxHeartbeats 1000000 in
set_option maxRecDepth 100000 in
theorem c_X10_within {l : Launch} {D : va_G} {cy : Nat → ClassId} {a0 : Int32} {a1 : Int32} {a2 : Int32} {F : Nat} {res : Int32} (hf : f_X10_within F a0 a1 a2 = some res) : kM l yX10_within wsX10_within rmX10_within D cy [.int a0, .int a1, .int a2] ([]) (kQi D cy (fun _ : Unit => []) res) := by
  refine kent_z (cc := cX10_within) (maxL := 3) (by decide) rfl (Nat.le_of_ble_eq_true rfl) ?_
  intro p e0 s m ar below meth c A Q ls ⟨hx, hb, hml, hr, hts, hown, hlocks, hnm⟩ hA hK hN hQ hP hD hS hl
  have hl : lv_has ls 3 [(0, .int a0), (1, .int a1), (2, .int a2)] := hl
  have hown : s.vm.findClass RX10 = some m.cls := hown
  unfold f_X10_within at hf
  have hJ15 : ∀ (s0 : Int32) (H : Heap) (locs : List Loc) (ls : Array Slot), f_X10_within_J15 F s0 = some res → va_P D vwCl ([]) H → va_D A ([]) → va_S A s.heap H locs → lv_has ls 3 [] → W p l e0 rmX10_within s m ar below meth c H locs 0 0 Q (F0 m 15 ls [.int s0]) := by
    intro s0 H locs ls hf hP hD hS hl
    unfold f_X10_within_J15 at hf
    obtain ⟨cz, hf⟩ := ck_some hf
    obtain rfl := Option.some.inj hf
    exact hQ () 15 _ _ _ cz dX10_within_15 hP hD hS
  have hJ14 : ∀ (H : Heap) (locs : List Loc) (ls : Array Slot), f_X10_within_J14 F = some res → va_P D vwCl ([]) H → va_D A ([]) → va_S A s.heap H locs → lv_has ls 3 [] → W p l e0 rmX10_within s m ar below meth c H locs 0 0 Q (F0 m 14 ls []) := by
    intro H locs ls hf hP hD hS hl
    unfold f_X10_within_J14 at hf
    refine lv_iconst (v := (0 : Int32)) hx hb dX10_within_14 (by decide) ?_
    exact hJ15 (0 : Int32) _ _ _ hf hP hD hS (lv_sub hl [] rfl)
  refine lv_iload_n hx hb dX10_within_0 rfl (lv_at hl 0 rfl) ?_
  refine lv_iload_n hx hb dX10_within_1 rfl (lv_at hl 1 rfl) ?_
  refine lv_icmp_lt (tgt := 14) hx hb dX10_within_2 (by decide) (fun c1 => ?_) (fun c1 => ?_)
  · have hf := if_t hf c1
    exact hJ14 _ _ _ hf hP hD hS (lv_sub hl [] rfl)
  · have hf := if_f hf c1
    refine lv_iload_n hx hb dX10_within_5 rfl (lv_at hl 0 rfl) ?_
    refine lv_iload_n hx hb dX10_within_6 rfl (lv_at hl 2 rfl) ?_
    refine lv_icmp_gt (tgt := 14) hx hb dX10_within_7 (by decide) (fun c2 => ?_) (fun c2 => ?_)
    · have hf := if_t hf c2
      exact hJ14 _ _ _ hf hP hD hS (lv_sub hl [] rfl)
    · have hf := if_f hf c2
      refine lv_iconst (v := (1 : Int32)) hx hb dX10_within_10 (by decide) ?_
      refine lv_goto (tgt := 15) hx hb dX10_within_11 (by decide) ?_
      exact hJ15 (1 : Int32) _ _ _ hf hP hD hS (lv_sub hl [] rfl)
def f_X10_isNumber_J19 (F : Nat) (s0 : Int32) : Option (Int32) := ck (s0 &&& 1 = s0) (some s0)
def f_X10_isNumber_J18 (F : Nat) : Option (Int32) := f_X10_isNumber_J19 F (0 : Int32)
def f_X10_isNumber (F : Nat) (a0 : Int64) : Option (Int32) := if a0 < (0 : Int64) then (f_X10_isNumber_J18 F) else (if (1000000000000000 : Int64) < a0 then (f_X10_isNumber_J18 F) else (f_X10_isNumber_J19 F (1 : Int32)))
abbrev rmX10_isNumber : Room := { frames := 0, cells := 0, slots := 0, locals := 0 }
set_option maxHeartbeats 1000000 in
set_option maxRecDepth 100000 in
theorem c_X10_isNumber {l : Launch} {D : va_G} {cy : Nat → ClassId} {a0 : Int64} {F : Nat} {res : Int32} (hf : f_X10_isNumber F a0 = some res) : kM l yX10_isNumber wsX10_isNumber rmX10_isNumber D cy [.long a0] ([]) (kQi D cy (fun _ : Unit => []) res) := by
  refine kent_z (cc := cX10_isNumber) (maxL := 2) (by decide) rfl (Nat.le_of_ble_eq_true rfl) ?_
  intro p e0 s m ar below meth c A Q ls ⟨hx, hb, hml, hr, hts, hown, hlocks, hnm⟩ hA hK hN hQ hP hD hS hl
  have hl : lv_has ls 2 [(0, .long a0)] := hl
  have hown : s.vm.findClass RX10 = some m.cls := hown
  have fk220 : (Cond.constantLong RX10 220 (1000000000000000)).before ar s = true := hts _ (by decide +kernel)
  unfold f_X10_isNumber at hf
  have hJ19 : ∀ (s0 : Int32) (H : Heap) (locs : List Loc) (ls : Array Slot), f_X10_isNumber_J19 F s0 = some res → va_P D vwCl ([]) H → va_D A ([]) → va_S A s.heap H locs → lv_has ls 2 [] → W p l e0 rmX10_isNumber s m ar below meth c H locs 0 0 Q (F0 m 19 ls [.int s0]) := by
    intro s0 H locs ls hf hP hD hS hl
    unfold f_X10_isNumber_J19 at hf
    obtain ⟨cz, hf⟩ := ck_some hf
    obtain rfl := Option.some.inj hf
    exact hQ () 19 _ _ _ cz dX10_isNumber_19 hP hD hS
  have hJ18 : ∀ (H : Heap) (locs : List Loc) (ls : Array Slot), f_X10_isNumber_J18 F = some res → va_P D vwCl ([]) H → va_D A ([]) → va_S A s.heap H locs → lv_has ls 2 [] → W p l e0 rmX10_isNumber s m ar below meth c H locs 0 0 Q (F0 m 18 ls []) := by
    intro H locs ls hf hP hD hS hl
    unfold f_X10_isNumber_J18 at hf
    refine lv_iconst (v := (0 : Int32)) hx hb dX10_isNumber_18 (by decide) ?_
    exact hJ19 (0 : Int32) _ _ _ hf hP hD hS (lv_sub hl [] rfl)
  refine lv_lload_n hx hb dX10_isNumber_0 rfl (lv_at hl 0 rfl) ?_
  refine lv_lconst (v := (0 : Int64)) hx hb dX10_isNumber_1 (by decide) ?_
  refine kl_lt (tgt := 18) hx hb dX10_isNumber_2 dX10_isNumber_3 (by decide) (fun c1 => ?_) (fun c1 => ?_)
  · have hf := if_t hf c1
    exact hJ18 _ _ _ hf hP hD hS (lv_sub hl [] rfl)
  · have hf := if_f hf c1
    refine lv_lload_n hx hb dX10_isNumber_6 rfl (lv_at hl 0 rfl) ?_
    refine lv_ldc2 (v := (1000000000000000 : Int64)) hx hb hown fk220 dX10_isNumber_7 ?_
    refine kl_gt (tgt := 18) hx hb dX10_isNumber_10 dX10_isNumber_11 (by decide) (fun c2 => ?_) (fun c2 => ?_)
    · have hf := if_t hf c2
      exact hJ18 _ _ _ hf hP hD hS (lv_sub hl [] rfl)
    · have hf := if_f hf c2
      refine lv_iconst (v := (1 : Int32)) hx hb dX10_isNumber_14 (by decide) ?_
      refine lv_goto (tgt := 19) hx hb dX10_isNumber_15 (by decide) ?_
      exact hJ19 (1 : Int32) _ _ _ hf hP hD hS (lv_sub hl [] rfl)
def f_X10_isStep_J15 (F : Nat) (s0 : Int32) : Option (Int32) := ck (s0 &&& 1 = s0) (some s0)
def f_X10_isStep_J14 (F : Nat) : Option (Int32) := f_X10_isStep_J15 F (0 : Int32)
def f_X10_isStep (F : Nat) (a0 : Int32) : Option (Int32) := if a0 < 0 then (f_X10_isStep_J14 F) else (if (6 : Int32) ≤ a0 then (f_X10_isStep_J14 F) else (f_X10_isStep_J15 F (1 : Int32)))
abbrev rmX10_isStep : Room := { frames := 0, cells := 0, slots := 0, locals := 0 }
set_option maxHeartbeats 1000000 in
set_option maxRecDepth 100000 in
theorem c_X10_isStep {l : Launch} {D : va_G} {cy : Nat → ClassId} {a0 : Int32} {F : Nat} {res : Int32} (hf : f_X10_isStep F a0 = some res) : kM l yX10_isStep wsX10_isStep rmX10_isStep D cy [.int a0] ([]) (kQi D cy (fun _ : Unit => []) res) := by
  refine kent_z (cc := cX10_isStep) (maxL := 1) (by decide) rfl (Nat.le_of_ble_eq_true rfl) ?_
  intro p e0 s m ar below meth c A Q ls ⟨hx, hb, hml, hr, hts, hown, hlocks, hnm⟩ hA hK hN hQ hP hD hS hl
  have hl : lv_has ls 1 [(0, .int a0)] := hl
  have hown : s.vm.findClass RX10 = some m.cls := hown
  unfold f_X10_isStep at hf
  have hJ15 : ∀ (s0 : Int32) (H : Heap) (locs : List Loc) (ls : Array Slot), f_X10_isStep_J15 F s0 = some res → va_P D vwCl ([]) H → va_D A ([]) → va_S A s.heap H locs → lv_has ls 1 [] → W p l e0 rmX10_isStep s m ar below meth c H locs 0 0 Q (F0 m 15 ls [.int s0]) := by
    intro s0 H locs ls hf hP hD hS hl
    unfold f_X10_isStep_J15 at hf
    obtain ⟨cz, hf⟩ := ck_some hf
    obtain rfl := Option.some.inj hf
    exact hQ () 15 _ _ _ cz dX10_isStep_15 hP hD hS
  have hJ14 : ∀ (H : Heap) (locs : List Loc) (ls : Array Slot), f_X10_isStep_J14 F = some res → va_P D vwCl ([]) H → va_D A ([]) → va_S A s.heap H locs → lv_has ls 1 [] → W p l e0 rmX10_isStep s m ar below meth c H locs 0 0 Q (F0 m 14 ls []) := by
    intro H locs ls hf hP hD hS hl
    unfold f_X10_isStep_J14 at hf
    refine lv_iconst (v := (0 : Int32)) hx hb dX10_isStep_14 (by decide) ?_
    exact hJ15 (0 : Int32) _ _ _ hf hP hD hS (lv_sub hl [] rfl)
  refine lv_iload_n hx hb dX10_isStep_0 rfl (lv_at hl 0 rfl) ?_
  refine lv_if_lt (tgt := 14) hx hb dX10_isStep_1 (by decide) (fun c1 => ?_) (fun c1 => ?_)
  · have hf := if_t hf c1
    exact hJ14 _ _ _ hf hP hD hS (lv_sub hl [] rfl)
  · have hf := if_f hf c1
    refine lv_iload_n hx hb dX10_isStep_4 rfl (lv_at hl 0 rfl) ?_
    refine lv_bipush (v := (6 : Int32)) hx hb dX10_isStep_5 (by decide) ?_
    refine lv_icmp_ge (tgt := 14) hx hb dX10_isStep_7 (by decide) (fun c2 => ?_) (fun c2 => ?_)
    · have hf := if_t hf c2
      exact hJ14 _ _ _ hf hP hD hS (lv_sub hl [] rfl)
    · have hf := if_f hf c2
      refine lv_iconst (v := (1 : Int32)) hx hb dX10_isStep_10 (by decide) ?_
      refine lv_goto (tgt := 15) hx hb dX10_isStep_11 (by decide) ?_
      exact hJ15 (1 : Int32) _ _ _ hf hP hD hS (lv_sub hl [] rfl)
def f_X10_isRoundStep_J14 (F : Nat) (s0 : Int32) : Option (Int32) := ck (s0 &&& 1 = s0) (some s0)
def f_X10_isRoundStep_J9 (F : Nat) : Option (Int32) := f_X10_isRoundStep_J14 F (1 : Int32)
def f_X10_isRoundStep (F : Nat) (a0 : Int32) : Option (Int32) := if a0 = 0 then (f_X10_isRoundStep_J9 F) else (if a0 = (3 : Int32) then (f_X10_isRoundStep_J9 F) else (f_X10_isRoundStep_J14 F (0 : Int32)))
abbrev rmX10_isRoundStep : Room := { frames := 0, cells := 0, slots := 0, locals := 0 }
set_option maxHeartbeats 1000000 in
set_option maxRecDepth 100000 in
theorem c_X10_isRoundStep {l : Launch} {D : va_G} {cy : Nat → ClassId} {a0 : Int32} {F : Nat} {res : Int32} (hf : f_X10_isRoundStep F a0 = some res) : kM l yX10_isRoundStep wsX10_isRoundStep rmX10_isRoundStep D cy [.int a0] ([]) (kQi D cy (fun _ : Unit => []) res) := by
  refine kent_z (cc := cX10_isRoundStep) (maxL := 1) (by decide) rfl (Nat.le_of_ble_eq_true rfl) ?_
  intro p e0 s m ar below meth c A Q ls ⟨hx, hb, hml, hr, hts, hown, hlocks, hnm⟩ hA hK hN hQ hP hD hS hl
  have hl : lv_has ls 1 [(0, .int a0)] := hl
  have hown : s.vm.findClass RX10 = some m.cls := hown
  unfold f_X10_isRoundStep at hf
  have hJ14 : ∀ (s0 : Int32) (H : Heap) (locs : List Loc) (ls : Array Slot), f_X10_isRoundStep_J14 F s0 = some res → va_P D vwCl ([]) H → va_D A ([]) → va_S A s.heap H locs → lv_has ls 1 [] → W p l e0 rmX10_isRoundStep s m ar below meth c H locs 0 0 Q (F0 m 14 ls [.int s0]) := by
    intro s0 H locs ls hf hP hD hS hl
    unfold f_X10_isRoundStep_J14 at hf
    obtain ⟨cz, hf⟩ := ck_some hf
    obtain rfl := Option.some.inj hf
    exact hQ () 14 _ _ _ cz dX10_isRoundStep_14 hP hD hS
  have hJ9 : ∀ (H : Heap) (locs : List Loc) (ls : Array Slot), f_X10_isRoundStep_J9 F = some res → va_P D vwCl ([]) H → va_D A ([]) → va_S A s.heap H locs → lv_has ls 1 [] → W p l e0 rmX10_isRoundStep s m ar below meth c H locs 0 0 Q (F0 m 9 ls []) := by
    intro H locs ls hf hP hD hS hl
    unfold f_X10_isRoundStep_J9 at hf
    refine lv_iconst (v := (1 : Int32)) hx hb dX10_isRoundStep_9 (by decide) ?_
    refine lv_goto (tgt := 14) hx hb dX10_isRoundStep_10 (by decide) ?_
    exact hJ14 (1 : Int32) _ _ _ hf hP hD hS (lv_sub hl [] rfl)
  refine lv_iload_n hx hb dX10_isRoundStep_0 rfl (lv_at hl 0 rfl) ?_
  refine lv_if_eq (tgt := 9) hx hb dX10_isRoundStep_1 (by decide) (fun c1 => ?_) (fun c1 => ?_)
  · have hf := if_t hf c1
    exact hJ9 _ _ _ hf hP hD hS (lv_sub hl [] rfl)
  · have hf := if_f hf c1
    refine lv_iload_n hx hb dX10_isRoundStep_4 rfl (lv_at hl 0 rfl) ?_
    refine lv_iconst (v := (3 : Int32)) hx hb dX10_isRoundStep_5 (by decide) ?_
    refine lv_icmp_ne (tgt := 13) hx hb dX10_isRoundStep_6 (by decide) (fun c2 => ?_) (fun c2 => ?_)
    · have hf := if_f hf c2
      refine lv_iconst (v := (0 : Int32)) hx hb dX10_isRoundStep_13 (by decide) ?_
      exact hJ14 (0 : Int32) _ _ _ hf hP hD hS (lv_sub hl [] rfl)
    · have hf := if_t hf c2
      exact hJ9 _ _ _ hf hP hD hS (lv_sub hl [] rfl)
def f_X10_base (F : Nat) (a1 : Int32) (g_base : Int32) (g_version : Int32) : Option (Int32 × Int32 × Int32) := (f_X10_within F a1 (2 : Int32) (16 : Int32)).bind (fun r1 => if r1 = 0 then (some ((-1 : Int32), g_base, g_version)) else ((f_X1_setBase F a1 g_base g_version).bind (fun r4 => some (g_base, r4.1, r4.2))))
abbrev rmX10_base : Room := { frames := 1, cells := 0, slots := 0, locals := 22 }
set_option maxHeartbeats 1000000 in
set_option maxRecDepth 100000 in
theorem c_X10_base {l : Launch} {D : va_G} {cy : Nat → ClassId} {qX : Nat → Nat} {qG : Nat → Nat} {qP : Nat → Nat} {qR : Nat → Nat} {oS : Option Nat} {oB : Option Nat} {oE : Option Nat} {oN : Option Nat} {oL : Option Nat} {x_ways : Nat → Option Nat} {g_base : Int32} {g_worth : Nat → Int32} {g_row : Nat → Int32} {g_many : Nat → Int32} {g_version : Int32} {a1 : Int32} {F : Nat} {res : Int32 × Int32 × Int32} (hf : f_X10_base F a1 g_base g_version = some res) : kM l yX10_base wsX10_base rmX10_base D cy [.ref (qX 0), .int a1] (gX cy qX (qG 0) (qP 0) (qR 0) oS oB oE oN oL x_ways ++ (gG cy qG g_base g_worth g_row g_many g_version)) (kQi D cy (fun _ : Unit => gX cy qX (qG 0) (qP 0) (qR 0) oS oB oE oN oL x_ways ++ (gG cy qG res.2.1 g_worth g_row g_many res.2.2)) res.1) := by
  refine kent_i (cc := cX10_base) (maxL := 3) (by decide) rfl (Nat.le_of_ble_eq_true rfl) ?_
  intro p e0 s m ar below meth c A Q ls ⟨hx, hb, hml, hr, hts, hown, hlocks, hnm⟩ hA hK hN hQ hP hD hS hl
  have hl : lv_has ls 3 [(0, .ref (qX 0)), (1, .int a1)] := hl
  have hown : s.vm.findClass RX10 = some m.cls := hown
  have huX10 : ∀ x ∈ u_ws RX10 TX10 9, x ∈ wsX10_base := by decide +kernel
  have fk10 : (Cond.fieldLink RX10 10 "FigurePlay" "figures" "LFigurePlay$Figures;").before ar s = true := hts _ (by decide +kernel)
  have huX1 : ∀ x ∈ u_ws RX1 TX1 5, x ∈ wsX10_base := by decide +kernel
  have fk42 : (Cond.fieldLink RX10 42 "FigurePlay$Figures" "base" "I").before ar s = true := hts _ (by decide +kernel)
  unfold f_X10_base at hf
  refine lv_iload_n hx hb dX10_base_0 rfl (lv_at hl 1 rfl) ?_
  refine lv_iconst (v := (2 : Int32)) hx hb dX10_base_1 (by decide) ?_
  refine lv_bipush (v := (16 : Int32)) hx hb dX10_base_2 (by decide) ?_
  obtain ⟨r1, hc2, hf⟩ := ob_some hf
  refine kc_i (k_runS ⟨hx, hb, hml, hown, hts⟩ (c_X10_within hc2) (va_cwS 3 hts gX10_base_X10_within rfl rfl rfl (by decide +kernel) ⟨Nat.le_of_ble_eq_true rfl, Nat.le_of_ble_eq_true rfl⟩) hK hN hP hD kA_0 rfl hl.1 rfl (Nat.le_of_ble_eq_true rfl) dX10_base_4 ⟨Nat.le_of_ble_eq_true rfl, Nat.le_of_ble_eq_true rfl⟩) hP hD hS hA kI_0 (fun _ H locs hP hD hS => ?_)
  refine lv_if_ne (tgt := 12) hx hb dX10_base_7 (by decide) (fun c3 => ?_) (fun c3 => ?_)
  · have hf := if_f hf c3
    refine lv_aload_n hx hb dX10_base_12 rfl (lv_at hl 0 rfl) ?_
    refine va_get (v := .ref (qG 0)) (D := D) (ci := 10) (C := RX10) (T := TX10) (N := 9) hx hb hts huX10 hown hK hP 0 rfl rfl 0 (by decide) fk10 (fun _ h9 => h9) rfl dX10_base_13 ?_
    refine va_get (D := D) (ci := 1) (C := RX1) (T := TX1) (N := 5) hx hb hts huX1 hown hK hP 2 rfl rfl 0 (by decide) fk42 (fun _ h9 => h9) rfl dX10_base_16 ?_
    refine lv_istore_n (lv' := [(2, .int g_base), (0, .ref (qX 0)), (1, .int a1)]) hx hb dX10_base_19 rfl hl (by decide) rfl (fun ls hl => ?_)
    refine lv_aload_n hx hb dX10_base_20 rfl (lv_at hl 1 rfl) ?_
    refine va_get (v := .ref (qG 0)) (D := D) (ci := 10) (C := RX10) (T := TX10) (N := 9) hx hb hts huX10 hown hK hP 0 rfl rfl 0 (by decide) fk10 (fun _ h9 => h9) rfl dX10_base_21 ?_
    refine lv_iload_n hx hb dX10_base_24 rfl (lv_at hl 2 rfl) ?_
    obtain ⟨r4, hc5, hf⟩ := ob_some hf
    have hI6 : kIn (gX cy qX (qG 0) (qP 0) (qR 0) oS oB oE oN oL x_ways ++ (gG cy qG g_base g_worth g_row g_many g_version)) (gG cy qG g_base g_worth g_row g_many g_version) (kpick (gX cy qX (qG 0) (qP 0) (qR 0) oS oB oE oN oL x_ways ++ (gG cy qG g_base g_worth g_row g_many g_version)) [0, 1]) (fun _ : Unit => gG cy qG r4.1 g_worth g_row g_many r4.2) (fun _ : Unit => gX cy qX (qG 0) (qP 0) (qR 0) oS oB oE oN oL x_ways ++ (gG cy qG r4.1 g_worth g_row g_many r4.2)) [2, 3, 4, 5] [0, 1] [0, 1, 2, 3, 4, 5] := ⟨rfl, rfl, rfl, rfl, by decide, rfl, fun _ => rfl⟩
    refine kc_v (k_run ⟨hx, hb, hml, hown, hts⟩ (c_X1_setBase hc5) (cwV 1 hts gX10_base_X1_setBase rfl rfl rfl (by decide +kernel) ⟨Nat.le_of_ble_eq_true rfl, Nat.le_of_ble_eq_true rfl⟩) hK hN hP hD ⟨hI6.1, hI6.2.2.1⟩ (ci := 1) (q0 := 0) rfl rfl rfl rfl hl.1 rfl (Nat.le_of_ble_eq_true rfl) dX10_base_25 ⟨Nat.le_of_ble_eq_true rfl, Nat.le_of_ble_eq_true rfl⟩) hP hD hS hA hI6 (fun _ H locs hP hD hS => ?_)
    refine lv_iload_n hx hb dX10_base_28 rfl (lv_at hl 0 rfl) ?_
    obtain rfl := Option.some.inj hf
    exact hQ () 29 _ _ _ dX10_base_29 hP hD hS
  · have hf := if_t hf c3
    refine lv_iconst (v := (-1 : Int32)) hx hb dX10_base_10 (by decide) ?_
    obtain rfl := Option.some.inj hf
    exact hQ () 11 _ _ _ dX10_base_11 hP hD hS
def f_X10_table_J20 (F : Nat) (g_worth : Nat → Int32) (g_version : Int32) : Option (Int32 × (Nat → Int32) × Int32) := some ((-1 : Int32), g_worth, g_version)
def f_X10_table (F : Nat) (a1 : Int32) (a2 : Int32) (g_worth : Nat → Int32) (g_version : Int32) : Option (Int32 × (Nat → Int32) × Int32) := (f_X10_within F a1 (0 : Int32) (15 : Int32)).bind (fun r1 => if r1 = 0 then (f_X10_table_J20 F g_worth g_version) else ((f_X10_within F a2 (0 : Int32) (100000 : Int32)).bind (fun r4 => if r4 = 0 then (f_X10_table_J20 F g_worth g_version) else (ck (¬ (a1 < 0 ∨ 16 ≤ a1.toNatClampNeg)) ((f_X1_setWorth F a1 a2 g_worth g_version).bind (fun r8 => some ((g_worth a1.toNatClampNeg), r8.1, r8.2)))))))
abbrev rmX10_table : Room := { frames := 1, cells := 0, slots := 0, locals := 22 }
set_option maxHeartbeats 1000000 in
set_option maxRecDepth 100000 in
theorem c_X10_table {l : Launch} {D : va_G} {cy : Nat → ClassId} {qX : Nat → Nat} {qG : Nat → Nat} {qP : Nat → Nat} {qR : Nat → Nat} {oS : Option Nat} {oB : Option Nat} {oE : Option Nat} {oN : Option Nat} {oL : Option Nat} {x_ways : Nat → Option Nat} {g_base : Int32} {g_worth : Nat → Int32} {g_row : Nat → Int32} {g_many : Nat → Int32} {g_version : Int32} {a1 : Int32} {a2 : Int32} {F : Nat} {res : Int32 × (Nat → Int32) × Int32} (hf : f_X10_table F a1 a2 g_worth g_version = some res) : kM l yX10_table wsX10_table rmX10_table D cy [.ref (qX 0), .int a1, .int a2] (gX cy qX (qG 0) (qP 0) (qR 0) oS oB oE oN oL x_ways ++ (gG cy qG g_base g_worth g_row g_many g_version)) (kQi D cy (fun _ : Unit => gX cy qX (qG 0) (qP 0) (qR 0) oS oB oE oN oL x_ways ++ (gG cy qG g_base res.2.1 g_row g_many res.2.2)) res.1) := by
  refine kent_i (cc := cX10_table) (maxL := 4) (by decide) rfl (Nat.le_of_ble_eq_true rfl) ?_
  intro p e0 s m ar below meth c A Q ls ⟨hx, hb, hml, hr, hts, hown, hlocks, hnm⟩ hA hK hN hQ hP hD hS hl
  have hl : lv_has ls 4 [(0, .ref (qX 0)), (1, .int a1), (2, .int a2)] := hl
  have hown : s.vm.findClass RX10 = some m.cls := hown
  have fk50 : (Cond.constant RX10 50 (100000)).before ar s = true := hts _ (by decide +kernel)
  have huX10 : ∀ x ∈ u_ws RX10 TX10 9, x ∈ wsX10_table := by decide +kernel
  have fk10 : (Cond.fieldLink RX10 10 "FigurePlay" "figures" "LFigurePlay$Figures;").before ar s = true := hts _ (by decide +kernel)
  have huX1 : ∀ x ∈ u_ws RX1 TX1 5, x ∈ wsX10_table := by decide +kernel
  have fk51 : (Cond.fieldLink RX10 51 "FigurePlay$Figures" "worth" "[I").before ar s = true := hts _ (by decide +kernel)
  unfold f_X10_table at hf
  have hJ20 : ∀ (g_worth : Nat → Int32) (g_version : Int32) (H : Heap) (locs : List Loc) (ls : Array Slot), f_X10_table_J20 F g_worth g_version = some res → va_P D vwCl (gX cy qX (qG 0) (qP 0) (qR 0) oS oB oE oN oL x_ways ++ (gG cy qG g_base g_worth g_row g_many g_version)) H → va_D A (gX cy qX (qG 0) (qP 0) (qR 0) oS oB oE oN oL x_ways ++ (gG cy qG g_base g_worth g_row g_many g_version)) → va_S A s.heap H locs → lv_has ls 4 [] → W p l e0 rmX10_table s m ar below meth c H locs 0 0 Q (F0 m 20 ls []) := by
    intro g_worth g_version H locs ls hf hP hD hS hl
    unfold f_X10_table_J20 at hf
    refine lv_iconst (v := (-1 : Int32)) hx hb dX10_table_20 (by decide) ?_
    obtain rfl := Option.some.inj hf
    exact hQ () 21 _ _ _ dX10_table_21 hP hD hS
  refine lv_iload_n hx hb dX10_table_0 rfl (lv_at hl 1 rfl) ?_
  refine lv_iconst (v := (0 : Int32)) hx hb dX10_table_1 (by decide) ?_
  refine lv_bipush (v := (15 : Int32)) hx hb dX10_table_2 (by decide) ?_
  obtain ⟨r1, hc2, hf⟩ := ob_some hf
  refine kc_i (k_runS ⟨hx, hb, hml, hown, hts⟩ (c_X10_within hc2) (va_cwS 3 hts gX10_table_X10_within rfl rfl rfl (by decide +kernel) ⟨Nat.le_of_ble_eq_true rfl, Nat.le_of_ble_eq_true rfl⟩) hK hN hP hD kA_0 rfl hl.1 rfl (Nat.le_of_ble_eq_true rfl) dX10_table_4 ⟨Nat.le_of_ble_eq_true rfl, Nat.le_of_ble_eq_true rfl⟩) hP hD hS hA kI_0 (fun _ H locs hP hD hS => ?_)
  refine lv_if_eq (tgt := 20) hx hb dX10_table_7 (by decide) (fun c3 => ?_) (fun c3 => ?_)
  · have hf := if_t hf c3
    exact hJ20 g_worth g_version _ _ _ hf hP hD hS (lv_sub hl [] rfl)
  · have hf := if_f hf c3
    refine lv_iload_n hx hb dX10_table_10 rfl (lv_at hl 2 rfl) ?_
    refine lv_iconst (v := (0 : Int32)) hx hb dX10_table_11 (by decide) ?_
    refine lv_ldc (v := (100000 : Int32)) hx hb hown fk50 dX10_table_12 ?_
    obtain ⟨r4, hc5, hf⟩ := ob_some hf
    refine kc_i (k_runS ⟨hx, hb, hml, hown, hts⟩ (c_X10_within hc5) (va_cwS 3 hts gX10_table_X10_within rfl rfl rfl (by decide +kernel) ⟨Nat.le_of_ble_eq_true rfl, Nat.le_of_ble_eq_true rfl⟩) hK hN hP hD kA_0 rfl hl.1 rfl (Nat.le_of_ble_eq_true rfl) dX10_table_14 ⟨Nat.le_of_ble_eq_true rfl, Nat.le_of_ble_eq_true rfl⟩) hP hD hS hA kI_0 (fun _ H locs hP hD hS => ?_)
    refine lv_if_ne (tgt := 22) hx hb dX10_table_17 (by decide) (fun c6 => ?_) (fun c6 => ?_)
    · have hf := if_f hf c6
      refine lv_aload_n hx hb dX10_table_22 rfl (lv_at hl 0 rfl) ?_
      refine va_get (v := .ref (qG 0)) (D := D) (ci := 10) (C := RX10) (T := TX10) (N := 9) hx hb hts huX10 hown hK hP 0 rfl rfl 0 (by decide) fk10 (fun _ h9 => h9) rfl dX10_table_23 ?_
      refine va_get (v := .ref (qG 1)) (D := D) (ci := 1) (C := RX1) (T := TX1) (N := 5) hx hb hts huX1 hown hK hP 2 rfl rfl 1 (by decide) fk51 (fun _ h9 => h9) rfl dX10_table_26 ?_
      refine lv_iload_n hx hb dX10_table_29 rfl (lv_at hl 1 rfl) ?_
      obtain ⟨c7, hf⟩ := ck_some hf
      refine va_iald hx hb hK hP 3 0 rfl rfl c7 dX10_table_30 ?_
      refine lv_istore_n (lv' := [(3, .int (g_worth a1.toNatClampNeg)), (0, .ref (qX 0)), (1, .int a1), (2, .int a2)]) hx hb dX10_table_31 rfl hl (by decide) rfl (fun ls hl => ?_)
      refine lv_aload_n hx hb dX10_table_32 rfl (lv_at hl 1 rfl) ?_
      refine va_get (v := .ref (qG 0)) (D := D) (ci := 10) (C := RX10) (T := TX10) (N := 9) hx hb hts huX10 hown hK hP 0 rfl rfl 0 (by decide) fk10 (fun _ h9 => h9) rfl dX10_table_33 ?_
      refine lv_iload_n hx hb dX10_table_36 rfl (lv_at hl 2 rfl) ?_
      refine lv_iload_n hx hb dX10_table_37 rfl (lv_at hl 3 rfl) ?_
      obtain ⟨r8, hc9, hf⟩ := ob_some hf
      have hI10 : kIn (gX cy qX (qG 0) (qP 0) (qR 0) oS oB oE oN oL x_ways ++ (gG cy qG g_base g_worth g_row g_many g_version)) (gG cy qG g_base g_worth g_row g_many g_version) (kpick (gX cy qX (qG 0) (qP 0) (qR 0) oS oB oE oN oL x_ways ++ (gG cy qG g_base g_worth g_row g_many g_version)) [0, 1]) (fun _ : Unit => gG cy qG g_base r8.1 g_row g_many r8.2) (fun _ : Unit => gX cy qX (qG 0) (qP 0) (qR 0) oS oB oE oN oL x_ways ++ (gG cy qG g_base r8.1 g_row g_many r8.2)) [2, 3, 4, 5] [0, 1] [0, 1, 2, 3, 4, 5] := ⟨rfl, rfl, rfl, rfl, by decide, rfl, fun _ => rfl⟩
      refine kc_v (k_run ⟨hx, hb, hml, hown, hts⟩ (c_X1_setWorth hc9) (cwV 2 hts gX10_table_X1_setWorth rfl rfl rfl (by decide +kernel) ⟨Nat.le_of_ble_eq_true rfl, Nat.le_of_ble_eq_true rfl⟩) hK hN hP hD ⟨hI10.1, hI10.2.2.1⟩ (ci := 1) (q0 := 0) rfl rfl rfl rfl hl.1 rfl (Nat.le_of_ble_eq_true rfl) dX10_table_38 ⟨Nat.le_of_ble_eq_true rfl, Nat.le_of_ble_eq_true rfl⟩) hP hD hS hA hI10 (fun _ H locs hP hD hS => ?_)
      refine lv_iload_n hx hb dX10_table_41 rfl (lv_at hl 0 rfl) ?_
      obtain rfl := Option.some.inj hf
      exact hQ () 42 _ _ _ dX10_table_42 hP hD hS
    · have hf := if_t hf c6
      exact hJ20 g_worth g_version _ _ _ hf hP hD hS (lv_sub hl [] rfl)
def f_X10_figure_J57 (F : Nat) (s0 : Int32) (g_row : Nat → Int32) : Option (Int32 × (Nat → Int32)) := some (s0, g_row)
def f_X10_figure_J12 (F : Nat) (g_row : Nat → Int32) : Option (Int32 × (Nat → Int32)) := some ((-1 : Int32), g_row)
def f_X10_figure (F : Nat) (a1 : Int64) (a3 : Int32) (g_base : Int32) (g_row : Nat → Int32) : Option (Int32 × (Nat → Int32)) := (f_X10_isNumber F a1).bind (fun r1 => if r1 = 0 then (f_X10_figure_J12 F g_row) else (if (-1 : Int32) ≤ a3 then ((f_X1_split F a1 g_base g_row).bind (fun r5 => if a3 = (-1 : Int32) then (some (r5.1, r5.2)) else (if r5.1 ≤ a3 then (f_X10_figure_J57 F (-4 : Int32) r5.2) else (ck (¬ (((r5.1 - (1 : Int32)) - a3) < 0 ∨ 64 ≤ ((r5.1 - (1 : Int32)) - a3).toNatClampNeg)) (f_X10_figure_J57 F (r5.2 ((r5.1 - (1 : Int32)) - a3).toNatClampNeg) r5.2))))) else (f_X10_figure_J12 F g_row)))
abbrev rmX10_figure : Room := { frames := 1, cells := 0, slots := 0, locals := 25 }
set_option maxHeartbeats 1000000 in
set_option maxRecDepth 100000 in
theorem c_X10_figure {l : Launch} {D : va_G} {cy : Nat → ClassId} {qX : Nat → Nat} {qG : Nat → Nat} {qP : Nat → Nat} {qR : Nat → Nat} {oS : Option Nat} {oB : Option Nat} {oE : Option Nat} {oN : Option Nat} {oL : Option Nat} {x_ways : Nat → Option Nat} {g_base : Int32} {g_worth : Nat → Int32} {g_row : Nat → Int32} {g_many : Nat → Int32} {g_version : Int32} {a1 : Int64} {a3 : Int32} {F : Nat} {res : Int32 × (Nat → Int32)} (hf : f_X10_figure F a1 a3 g_base g_row = some res) : kM l yX10_figure wsX10_figure rmX10_figure D cy [.ref (qX 0), .long a1, .int a3] (gX cy qX (qG 0) (qP 0) (qR 0) oS oB oE oN oL x_ways ++ (gG cy qG g_base g_worth g_row g_many g_version)) (kQi D cy (fun _ : Unit => gX cy qX (qG 0) (qP 0) (qR 0) oS oB oE oN oL x_ways ++ (gG cy qG g_base g_worth res.2 g_many g_version)) res.1) := by
  refine kent_i (cc := cX10_figure) (maxL := 5) (by decide) rfl (Nat.le_of_ble_eq_true rfl) ?_
  intro p e0 s m ar below meth c A Q ls ⟨hx, hb, hml, hr, hts, hown, hlocks, hnm⟩ hA hK hN hQ hP hD hS hl
  have hl : lv_has ls 5 [(0, .ref (qX 0)), (1, .long a1), (3, .int a3)] := hl
  have hown : s.vm.findClass RX10 = some m.cls := hown
  have huX10 : ∀ x ∈ u_ws RX10 TX10 9, x ∈ wsX10_figure := by decide +kernel
  have fk10 : (Cond.fieldLink RX10 10 "FigurePlay" "figures" "LFigurePlay$Figures;").before ar s = true := hts _ (by decide +kernel)
  have huX1 : ∀ x ∈ u_ws RX1 TX1 5, x ∈ wsX10_figure := by decide +kernel
  have fk67 : (Cond.fieldLink RX10 67 "FigurePlay$Figures" "row" "[I").before ar s = true := hts _ (by decide +kernel)
  unfold f_X10_figure at hf
  have hJ57 : ∀ (s0 : Int32) (g_row : Nat → Int32) (H : Heap) (locs : List Loc) (ls : Array Slot), f_X10_figure_J57 F s0 g_row = some res → va_P D vwCl (gX cy qX (qG 0) (qP 0) (qR 0) oS oB oE oN oL x_ways ++ (gG cy qG g_base g_worth g_row g_many g_version)) H → va_D A (gX cy qX (qG 0) (qP 0) (qR 0) oS oB oE oN oL x_ways ++ (gG cy qG g_base g_worth g_row g_many g_version)) → va_S A s.heap H locs → lv_has ls 5 [] → W p l e0 rmX10_figure s m ar below meth c H locs 0 0 Q (F0 m 57 ls [.int s0]) := by
    intro s0 g_row H locs ls hf hP hD hS hl
    unfold f_X10_figure_J57 at hf
    obtain rfl := Option.some.inj hf
    exact hQ () 57 _ _ _ dX10_figure_57 hP hD hS
  have hJ12 : ∀ (g_row : Nat → Int32) (H : Heap) (locs : List Loc) (ls : Array Slot), f_X10_figure_J12 F g_row = some res → va_P D vwCl (gX cy qX (qG 0) (qP 0) (qR 0) oS oB oE oN oL x_ways ++ (gG cy qG g_base g_worth g_row g_many g_version)) H → va_D A (gX cy qX (qG 0) (qP 0) (qR 0) oS oB oE oN oL x_ways ++ (gG cy qG g_base g_worth g_row g_many g_version)) → va_S A s.heap H locs → lv_has ls 5 [] → W p l e0 rmX10_figure s m ar below meth c H locs 0 0 Q (F0 m 12 ls []) := by
    intro g_row H locs ls hf hP hD hS hl
    unfold f_X10_figure_J12 at hf
    refine lv_iconst (v := (-1 : Int32)) hx hb dX10_figure_12 (by decide) ?_
    obtain rfl := Option.some.inj hf
    exact hQ () 13 _ _ _ dX10_figure_13 hP hD hS
  refine lv_lload_n hx hb dX10_figure_0 rfl (lv_at hl 1 rfl) ?_
  obtain ⟨r1, hc2, hf⟩ := ob_some hf
  refine kc_i (k_runS ⟨hx, hb, hml, hown, hts⟩ (c_X10_isNumber hc2) (va_cwS 1 hts gX10_figure_X10_isNumber rfl rfl rfl (by decide +kernel) ⟨Nat.le_of_ble_eq_true rfl, Nat.le_of_ble_eq_true rfl⟩) hK hN hP hD kA_0 rfl hl.1 rfl (Nat.le_of_ble_eq_true rfl) dX10_figure_1 ⟨Nat.le_of_ble_eq_true rfl, Nat.le_of_ble_eq_true rfl⟩) hP hD hS hA kI_0 (fun _ H locs hP hD hS => ?_)
  refine lv_if_eq (tgt := 12) hx hb dX10_figure_4 (by decide) (fun c3 => ?_) (fun c3 => ?_)
  · have hf := if_t hf c3
    exact hJ12 g_row _ _ _ hf hP hD hS (lv_sub hl [] rfl)
  · have hf := if_f hf c3
    refine lv_iload_n hx hb dX10_figure_7 rfl (lv_at hl 2 rfl) ?_
    refine lv_iconst (v := (-1 : Int32)) hx hb dX10_figure_8 (by decide) ?_
    refine lv_icmp_ge (tgt := 14) hx hb dX10_figure_9 (by decide) (fun c4 => ?_) (fun c4 => ?_)
    · have hf := if_t hf c4
      refine lv_aload_n hx hb dX10_figure_14 rfl (lv_at hl 0 rfl) ?_
      refine va_get (v := .ref (qG 0)) (D := D) (ci := 10) (C := RX10) (T := TX10) (N := 9) hx hb hts huX10 hown hK hP 0 rfl rfl 0 (by decide) fk10 (fun _ h9 => h9) rfl dX10_figure_15 ?_
      refine lv_lload_n hx hb dX10_figure_18 rfl (lv_at hl 1 rfl) ?_
      obtain ⟨r5, hc6, hf⟩ := ob_some hf
      have hI7 : kIn (gX cy qX (qG 0) (qP 0) (qR 0) oS oB oE oN oL x_ways ++ (gG cy qG g_base g_worth g_row g_many g_version)) (gG cy qG g_base g_worth g_row g_many g_version) (kpick (gX cy qX (qG 0) (qP 0) (qR 0) oS oB oE oN oL x_ways ++ (gG cy qG g_base g_worth g_row g_many g_version)) [0, 1]) (fun _ : Unit => gG cy qG g_base g_worth r5.2 g_many g_version) (fun _ : Unit => gX cy qX (qG 0) (qP 0) (qR 0) oS oB oE oN oL x_ways ++ (gG cy qG g_base g_worth r5.2 g_many g_version)) [2, 3, 4, 5] [0, 1] [0, 1, 2, 3, 4, 5] := ⟨rfl, rfl, rfl, rfl, by decide, rfl, fun _ => rfl⟩
      refine kc_i (k_run ⟨hx, hb, hml, hown, hts⟩ (c_X1_split hc6) (cwV 1 hts gX10_figure_X1_split rfl rfl rfl (by decide +kernel) ⟨Nat.le_of_ble_eq_true rfl, Nat.le_of_ble_eq_true rfl⟩) hK hN hP hD ⟨hI7.1, hI7.2.2.1⟩ (ci := 1) (q0 := 0) rfl rfl rfl rfl hl.1 rfl (Nat.le_of_ble_eq_true rfl) dX10_figure_19 ⟨Nat.le_of_ble_eq_true rfl, Nat.le_of_ble_eq_true rfl⟩) hP hD hS hA hI7 (fun _ H locs hP hD hS => ?_)
      refine lv_istore (lv' := [(4, .int r5.1), (0, .ref (qX 0)), (1, .long a1), (3, .int a3)]) hx hb dX10_figure_22 hl (by decide) rfl (fun ls hl => ?_)
      refine lv_iload_n hx hb dX10_figure_24 rfl (lv_at hl 3 rfl) ?_
      refine lv_iconst (v := (-1 : Int32)) hx hb dX10_figure_25 (by decide) ?_
      refine lv_icmp_ne (tgt := 32) hx hb dX10_figure_26 (by decide) (fun c8 => ?_) (fun c8 => ?_)
      · have hf := if_f hf c8
        refine lv_iload_n hx hb dX10_figure_32 rfl (lv_at hl 3 rfl) ?_
        refine lv_iload hx hb dX10_figure_33 (lv_at hl 0 rfl) ?_
        refine lv_icmp_ge (tgt := 55) hx hb dX10_figure_35 (by decide) (fun c9 => ?_) (fun c9 => ?_)
        · have hf := if_t hf c9
          refine lv_bipush (v := (-4 : Int32)) hx hb dX10_figure_55 (by decide) ?_
          exact hJ57 (-4 : Int32) r5.2 _ _ _ hf hP hD hS (lv_sub hl [] rfl)
        · have hf := if_f hf c9
          refine lv_aload_n hx hb dX10_figure_38 rfl (lv_at hl 1 rfl) ?_
          refine va_get (v := .ref (qG 0)) (D := D) (ci := 10) (C := RX10) (T := TX10) (N := 9) hx hb hts huX10 hown hK hP 0 rfl rfl 0 (by decide) fk10 (fun _ h9 => h9) rfl dX10_figure_39 ?_
          refine va_get (v := .ref (qG 2)) (D := D) (ci := 1) (C := RX1) (T := TX1) (N := 5) hx hb hts huX1 hown hK hP 2 rfl rfl 2 (by decide) fk67 (fun _ h9 => h9) rfl dX10_figure_42 ?_
          refine lv_iload hx hb dX10_figure_45 (lv_at hl 0 rfl) ?_
          refine lv_iconst (v := (1 : Int32)) hx hb dX10_figure_47 (by decide) ?_
          refine lv_isub hx hb dX10_figure_48 ?_
          refine lv_iload_n hx hb dX10_figure_49 rfl (lv_at hl 3 rfl) ?_
          refine lv_isub hx hb dX10_figure_50 ?_
          obtain ⟨c10, hf⟩ := ck_some hf
          refine va_iald hx hb hK hP 4 0 rfl rfl c10 dX10_figure_51 ?_
          refine lv_goto (tgt := 57) hx hb dX10_figure_52 (by decide) ?_
          exact hJ57 (r5.2 ((r5.1 - (1 : Int32)) - a3).toNatClampNeg) r5.2 _ _ _ hf hP hD hS (lv_sub hl [] rfl)
      · have hf := if_t hf c8
        refine lv_iload hx hb dX10_figure_29 (lv_at hl 0 rfl) ?_
        obtain rfl := Option.some.inj hf
        exact hQ () 31 _ _ _ dX10_figure_31 hP hD hS
    · have hf := if_f hf c4
      exact hJ12 g_row _ _ _ hf hP hD hS (lv_sub hl [] rfl)
def f_X10_step_J14 (F : Nat) (g_row : Nat → Int32) (g_many : Nat → Int32) : Option (Int64 × (Nat → Int32) × (Nat → Int32)) := some ((-1 : Int64), g_row, g_many)
def f_X10_step (F : Nat) (a1 : Int32) (a2 : Int64) (g_base : Int32) (g_worth : Nat → Int32) (g_row : Nat → Int32) (g_many : Nat → Int32) : Option (Int64 × (Nat → Int32) × (Nat → Int32)) := (f_X10_isStep F a1).bind (fun r1 => if r1 = 0 then (f_X10_step_J14 F g_row g_many) else ((f_X10_isNumber F a2).bind (fun r4 => if r4 = 0 then (f_X10_step_J14 F g_row g_many) else ((f_X1_make F a1 a2 g_base g_worth g_row g_many).bind (fun r7 => some (r7.1, r7.2.1, r7.2.2))))))
abbrev rmX10_step : Room := { frames := 2, cells := 0, slots := 0, locals := 52 }
set_option maxHeartbeats 1000000 in
set_option maxRecDepth 100000 in
theorem c_X10_step {l : Launch} {D : va_G} {cy : Nat → ClassId} {qX : Nat → Nat} {qG : Nat → Nat} {qP : Nat → Nat} {qR : Nat → Nat} {oS : Option Nat} {oB : Option Nat} {oE : Option Nat} {oN : Option Nat} {oL : Option Nat} {x_ways : Nat → Option Nat} {g_base : Int32} {g_worth : Nat → Int32} {g_row : Nat → Int32} {g_many : Nat → Int32} {g_version : Int32} {a1 : Int32} {a2 : Int64} {F : Nat} {res : Int64 × (Nat → Int32) × (Nat → Int32)} (hf : f_X10_step F a1 a2 g_base g_worth g_row g_many = some res) : kM l yX10_step wsX10_step rmX10_step D cy [.ref (qX 0), .int a1, .long a2] (gX cy qX (qG 0) (qP 0) (qR 0) oS oB oE oN oL x_ways ++ (gG cy qG g_base g_worth g_row g_many g_version)) (kQl D cy (fun _ : Unit => gX cy qX (qG 0) (qP 0) (qR 0) oS oB oE oN oL x_ways ++ (gG cy qG g_base g_worth res.2.1 res.2.2 g_version)) res.1) := by
  refine kent_l (cc := cX10_step) (maxL := 4) (by decide) rfl (Nat.le_of_ble_eq_true rfl) ?_
  intro p e0 s m ar below meth c A Q ls ⟨hx, hb, hml, hr, hts, hown, hlocks, hnm⟩ hA hK hN hQ hP hD hS hl
  have hl : lv_has ls 4 [(0, .ref (qX 0)), (1, .int a1), (2, .long a2)] := hl
  have hown : s.vm.findClass RX10 = some m.cls := hown
  have fk74 : (Cond.constantLong RX10 74 (-1)).before ar s = true := hts _ (by decide +kernel)
  have huX10 : ∀ x ∈ u_ws RX10 TX10 9, x ∈ wsX10_step := by decide +kernel
  have fk10 : (Cond.fieldLink RX10 10 "FigurePlay" "figures" "LFigurePlay$Figures;").before ar s = true := hts _ (by decide +kernel)
  unfold f_X10_step at hf
  have hJ14 : ∀ (g_row : Nat → Int32) (g_many : Nat → Int32) (H : Heap) (locs : List Loc) (ls : Array Slot), f_X10_step_J14 F g_row g_many = some res → va_P D vwCl (gX cy qX (qG 0) (qP 0) (qR 0) oS oB oE oN oL x_ways ++ (gG cy qG g_base g_worth g_row g_many g_version)) H → va_D A (gX cy qX (qG 0) (qP 0) (qR 0) oS oB oE oN oL x_ways ++ (gG cy qG g_base g_worth g_row g_many g_version)) → va_S A s.heap H locs → lv_has ls 4 [] → W p l e0 rmX10_step s m ar below meth c H locs 0 0 Q (F0 m 14 ls []) := by
    intro g_row g_many H locs ls hf hP hD hS hl
    unfold f_X10_step_J14 at hf
    refine lv_ldc2 (v := (-1 : Int64)) hx hb hown fk74 dX10_step_14 ?_
    obtain rfl := Option.some.inj hf
    exact hQ () 17 _ _ _ dX10_step_17 hP hD hS
  refine lv_iload_n hx hb dX10_step_0 rfl (lv_at hl 1 rfl) ?_
  obtain ⟨r1, hc2, hf⟩ := ob_some hf
  refine kc_i (k_runS ⟨hx, hb, hml, hown, hts⟩ (c_X10_isStep hc2) (va_cwS 1 hts gX10_step_X10_isStep rfl rfl rfl (by decide +kernel) ⟨Nat.le_of_ble_eq_true rfl, Nat.le_of_ble_eq_true rfl⟩) hK hN hP hD kA_0 rfl hl.1 rfl (Nat.le_of_ble_eq_true rfl) dX10_step_1 ⟨Nat.le_of_ble_eq_true rfl, Nat.le_of_ble_eq_true rfl⟩) hP hD hS hA kI_0 (fun _ H locs hP hD hS => ?_)
  refine lv_if_eq (tgt := 14) hx hb dX10_step_4 (by decide) (fun c3 => ?_) (fun c3 => ?_)
  · have hf := if_t hf c3
    exact hJ14 g_row g_many _ _ _ hf hP hD hS (lv_sub hl [] rfl)
  · have hf := if_f hf c3
    refine lv_lload_n hx hb dX10_step_7 rfl (lv_at hl 2 rfl) ?_
    obtain ⟨r4, hc5, hf⟩ := ob_some hf
    refine kc_i (k_runS ⟨hx, hb, hml, hown, hts⟩ (c_X10_isNumber hc5) (va_cwS 1 hts gX10_step_X10_isNumber rfl rfl rfl (by decide +kernel) ⟨Nat.le_of_ble_eq_true rfl, Nat.le_of_ble_eq_true rfl⟩) hK hN hP hD kA_0 rfl hl.1 rfl (Nat.le_of_ble_eq_true rfl) dX10_step_8 ⟨Nat.le_of_ble_eq_true rfl, Nat.le_of_ble_eq_true rfl⟩) hP hD hS hA kI_0 (fun _ H locs hP hD hS => ?_)
    refine lv_if_ne (tgt := 18) hx hb dX10_step_11 (by decide) (fun c6 => ?_) (fun c6 => ?_)
    · have hf := if_f hf c6
      refine lv_aload_n hx hb dX10_step_18 rfl (lv_at hl 0 rfl) ?_
      refine va_get (v := .ref (qG 0)) (D := D) (ci := 10) (C := RX10) (T := TX10) (N := 9) hx hb hts huX10 hown hK hP 0 rfl rfl 0 (by decide) fk10 (fun _ h9 => h9) rfl dX10_step_19 ?_
      refine lv_iload_n hx hb dX10_step_22 rfl (lv_at hl 1 rfl) ?_
      refine lv_lload_n hx hb dX10_step_23 rfl (lv_at hl 2 rfl) ?_
      obtain ⟨r7, hc8, hf⟩ := ob_some hf
      have hI9 : kIn (gX cy qX (qG 0) (qP 0) (qR 0) oS oB oE oN oL x_ways ++ (gG cy qG g_base g_worth g_row g_many g_version)) (gG cy qG g_base g_worth g_row g_many g_version) (kpick (gX cy qX (qG 0) (qP 0) (qR 0) oS oB oE oN oL x_ways ++ (gG cy qG g_base g_worth g_row g_many g_version)) [0, 1]) (fun _ : Unit => gG cy qG g_base g_worth r7.2.1 r7.2.2 g_version) (fun _ : Unit => gX cy qX (qG 0) (qP 0) (qR 0) oS oB oE oN oL x_ways ++ (gG cy qG g_base g_worth r7.2.1 r7.2.2 g_version)) [2, 3, 4, 5] [0, 1] [0, 1, 2, 3, 4, 5] := ⟨rfl, rfl, rfl, rfl, by decide, rfl, fun _ => rfl⟩
      refine kc_l (k_run ⟨hx, hb, hml, hown, hts⟩ (c_X1_make hc8) (cwV 2 hts gX10_step_X1_make rfl rfl rfl (by decide +kernel) ⟨Nat.le_of_ble_eq_true rfl, Nat.le_of_ble_eq_true rfl⟩) hK hN hP hD ⟨hI9.1, hI9.2.2.1⟩ (ci := 1) (q0 := 0) rfl rfl rfl rfl hl.1 rfl (Nat.le_of_ble_eq_true rfl) dX10_step_24 ⟨Nat.le_of_ble_eq_true rfl, Nat.le_of_ble_eq_true rfl⟩) hP hD hS hA hI9 (fun _ H locs hP hD hS => ?_)
      obtain rfl := Option.some.inj hf
      exact hQ () 27 _ _ _ dX10_step_27 hP hD hS
    · have hf := if_t hf c6
      exact hJ14 g_row g_many _ _ _ hf hP hD hS (lv_sub hl [] rfl)
def f_X10_makes_J76 (F : Nat) (rec : (Int32 × Int32 × (Nat → Int32) × (Nat → Int32)) → Option ((Int32 × (Nat → Int32) × (Nat → Int32)) ⊕ (Int32 × (Nat → Int32) × (Nat → Int32)))) (x6 : Int32) (x7 : Int32) (g_row : Nat → Int32) (g_many : Nat → Int32) : Option ((Int32 × (Nat → Int32) × (Nat → Int32)) ⊕ (Int32 × (Nat → Int32) × (Nat → Int32))) := rec (x6, (x7 + (1 : Int32)), g_row, g_many)
def f_X10_makes_B40 (F : Nat) (a1 : Int32) (a2 : Int64) (a4 : Int32) (a5 : Int32) (g_base : Int32) (g_worth : Nat → Int32) (rec : Int32 × Int32 × (Nat → Int32) × (Nat → Int32) → Option ((Int32 × (Nat → Int32) × (Nat → Int32)) ⊕ (Int32 × (Nat → Int32) × (Nat → Int32)))) (x : Int32 × Int32 × (Nat → Int32) × (Nat → Int32)) : Option ((Int32 × (Nat → Int32) × (Nat → Int32)) ⊕ (Int32 × (Nat → Int32) × (Nat → Int32))) := if a4 < x.2.1 then (some (.inr (x.1, x.2.2.1, x.2.2.2))) else ((f_X1_make F a1 x.2.1.toInt64 g_base g_worth x.2.2.1 x.2.2.2).bind (fun r2 => if r2.1 = a2 then (if x.1 = a5 then (some (.inl (x.2.1, r2.2.1, r2.2.2))) else (f_X10_makes_J76 F rec (x.1 + (1 : Int32)) x.2.1 r2.2.1 r2.2.2)) else (f_X10_makes_J76 F rec x.1 x.2.1 r2.2.1 r2.2.2)))
def f_X10_makes_J32 (F : Nat) (g_row : Nat → Int32) (g_many : Nat → Int32) : Option (Int32 × (Nat → Int32) × (Nat → Int32)) := some ((-1 : Int32), g_row, g_many)
def f_X10_makes (F : Nat) (a1 : Int32) (a2 : Int64) (a4 : Int32) (a5 : Int32) (g_base : Int32) (g_worth : Nat → Int32) (g_row : Nat → Int32) (g_many : Nat → Int32) : Option (Int32 × (Nat → Int32) × (Nat → Int32)) := (f_X10_isStep F a1).bind (fun r7 => if r7 = 0 then (f_X10_makes_J32 F g_row g_many) else ((f_X10_isNumber F a2).bind (fun r10 => if r10 = 0 then (f_X10_makes_J32 F g_row g_many) else ((f_X10_within F a4 (0 : Int32) (20000 : Int32)).bind (fun r13 => if r13 = 0 then (f_X10_makes_J32 F g_row g_many) else (if (-1 : Int32) ≤ a5 then ((lp (f_X10_makes_B40 F a1 a2 a4 a5 g_base g_worth) F ((0 : Int32), (0 : Int32), g_row, g_many)).bind (fun ex17 => Sum.elim (fun r => some r) (fun er18 => (f_X10_countOrNone F a5 er18.1).bind (fun r19 => some (r19, er18.2.1, er18.2.2))) ex17)) else (f_X10_makes_J32 F g_row g_many)))))))
abbrev rmX10_makes : Room := { frames := 2, cells := 0, slots := 0, locals := 52 }
set_option maxHeartbeats 1000000 in
set_option maxRecDepth 100000 in
theorem c_X10_makes {l : Launch} {D : va_G} {cy : Nat → ClassId} {qX : Nat → Nat} {qG : Nat → Nat} {qP : Nat → Nat} {qR : Nat → Nat} {oS : Option Nat} {oB : Option Nat} {oE : Option Nat} {oN : Option Nat} {oL : Option Nat} {x_ways : Nat → Option Nat} {g_base : Int32} {g_worth : Nat → Int32} {g_row : Nat → Int32} {g_many : Nat → Int32} {g_version : Int32} {a1 : Int32} {a2 : Int64} {a4 : Int32} {a5 : Int32} {F : Nat} {res : Int32 × (Nat → Int32) × (Nat → Int32)} (hf : f_X10_makes F a1 a2 a4 a5 g_base g_worth g_row g_many = some res) : kM l yX10_makes wsX10_makes rmX10_makes D cy [.ref (qX 0), .int a1, .long a2, .int a4, .int a5] (gX cy qX (qG 0) (qP 0) (qR 0) oS oB oE oN oL x_ways ++ (gG cy qG g_base g_worth g_row g_many g_version)) (kQi D cy (fun _ : Unit => gX cy qX (qG 0) (qP 0) (qR 0) oS oB oE oN oL x_ways ++ (gG cy qG g_base g_worth res.2.1 res.2.2 g_version)) res.1) := by
  refine kent_i (cc := cX10_makes) (maxL := 8) (by decide) rfl (Nat.le_of_ble_eq_true rfl) ?_
  intro p e0 s m ar below meth c A Q ls ⟨hx, hb, hml, hr, hts, hown, hlocks, hnm⟩ hA hK hN hQ hP hD hS hl
  have hl : lv_has ls 8 [(0, .ref (qX 0)), (1, .int a1), (2, .long a2), (4, .int a4), (5, .int a5)] := hl
  have hown : s.vm.findClass RX10 = some m.cls := hown
  have huX10 : ∀ x ∈ u_ws RX10 TX10 9, x ∈ wsX10_makes := by decide +kernel
  have fk10 : (Cond.fieldLink RX10 10 "FigurePlay" "figures" "LFigurePlay$Figures;").before ar s = true := hts _ (by decide +kernel)
  unfold f_X10_makes at hf
  have hL40 : ∀ (k : Nat) (x : Int32 × Int32 × (Nat → Int32) × (Nat → Int32)) (ex : (Int32 × (Nat → Int32) × (Nat → Int32)) ⊕ (Int32 × (Nat → Int32) × (Nat → Int32))) (H : Heap) (locs : List Loc) (ls : Array Slot), lp (f_X10_makes_B40 F a1 a2 a4 a5 g_base g_worth) k x = some ex → (∀ r, ex = .inl r → r = res) → (∀ er, ex = .inr er → ∀ (H : Heap) (locs : List Loc) (ls : Array Slot), va_P D vwCl (gX cy qX (qG 0) (qP 0) (qR 0) oS oB oE oN oL x_ways ++ (gG cy qG g_base g_worth er.2.1 er.2.2 g_version)) H → va_D A (gX cy qX (qG 0) (qP 0) (qR 0) oS oB oE oN oL x_ways ++ (gG cy qG g_base g_worth er.2.1 er.2.2 g_version)) → va_S A s.heap H locs → lv_has ls 8 [(5, .int a5), (6, .int er.1)] → W p l e0 rmX10_makes s m ar below meth c H locs 0 0 Q (F0 m 82 ls [])) → va_P D vwCl (gX cy qX (qG 0) (qP 0) (qR 0) oS oB oE oN oL x_ways ++ (gG cy qG g_base g_worth x.2.2.1 x.2.2.2 g_version)) H → va_D A (gX cy qX (qG 0) (qP 0) (qR 0) oS oB oE oN oL x_ways ++ (gG cy qG g_base g_worth x.2.2.1 x.2.2.2 g_version)) → va_S A s.heap H locs → lv_has ls 8 [(0, .ref (qX 0)), (1, .int a1), (2, .long a2), (4, .int a4), (5, .int a5), (6, .int x.1), (7, .int x.2.1)] → W p l e0 rmX10_makes s m ar below meth c H locs 0 0 Q (F0 m 40 ls []) := by
    intro k
    induction k with
    | zero => intro x ex H locs ls hf; exact no_some hf
    | succ k ih =>
      intro x ex H locs ls hf hret hex hP hD hS hl
      have hf : f_X10_makes_B40 F a1 a2 a4 a5 g_base g_worth (lp (f_X10_makes_B40 F a1 a2 a4 a5 g_base g_worth) k) x = some ex := hf
      unfold f_X10_makes_B40 at hf
      have hJ76 : ∀ (x6 : Int32) (x7 : Int32) (g_row : Nat → Int32) (g_many : Nat → Int32) (H : Heap) (locs : List Loc) (ls : Array Slot), f_X10_makes_J76 F (lp (f_X10_makes_B40 F a1 a2 a4 a5 g_base g_worth) k) x6 x7 g_row g_many = some ex → va_P D vwCl (gX cy qX (qG 0) (qP 0) (qR 0) oS oB oE oN oL x_ways ++ (gG cy qG g_base g_worth g_row g_many g_version)) H → va_D A (gX cy qX (qG 0) (qP 0) (qR 0) oS oB oE oN oL x_ways ++ (gG cy qG g_base g_worth g_row g_many g_version)) → va_S A s.heap H locs → lv_has ls 8 [(0, .ref (qX 0)), (1, .int a1), (2, .long a2), (4, .int a4), (5, .int a5), (6, .int x6), (7, .int x7)] → W p l e0 rmX10_makes s m ar below meth c H locs 0 0 Q (F0 m 76 ls []) := by
        intro x6 x7 g_row g_many H locs ls hf hP hD hS hl
        unfold f_X10_makes_J76 at hf
        refine lv_iinc (v := (x7 + (1 : Int32))) (lv' := [(7, .int (x7 + (1 : Int32))), (0, .ref (qX 0)), (1, .int a1), (2, .long a2), (4, .int a4), (5, .int a5), (6, .int x6)]) hx hb dX10_makes_76 hl (k := 6) rfl rfl (by decide) rfl (fun ls hl => ?_)
        refine lv_goto (tgt := 40) hx hb dX10_makes_79 (by decide) ?_
        exact ih (x6, (x7 + (1 : Int32)), g_row, g_many) ex _ _ _ hf hret hex hP hD hS (lv_sub hl [1, 2, 3, 4, 5, 6, 0] rfl)
      refine lv_iload hx hb dX10_makes_40 (lv_at hl 6 rfl) ?_
      refine lv_iload hx hb dX10_makes_42 (lv_at hl 3 rfl) ?_
      refine lv_icmp_gt (tgt := 82) hx hb dX10_makes_44 (by decide) (fun c1 => ?_) (fun c1 => ?_)
      · have hf := if_t hf c1
        obtain rfl := Option.some.inj hf
        exact hex _ rfl _ _ _ hP hD hS (lv_sub hl [4, 5] rfl)
      · have hf := if_f hf c1
        refine lv_aload_n hx hb dX10_makes_47 rfl (lv_at hl 0 rfl) ?_
        refine va_get (v := .ref (qG 0)) (D := D) (ci := 10) (C := RX10) (T := TX10) (N := 9) hx hb hts huX10 hown hK hP 0 rfl rfl 0 (by decide) fk10 (fun _ h9 => h9) rfl dX10_makes_48 ?_
        refine lv_iload_n hx hb dX10_makes_51 rfl (lv_at hl 1 rfl) ?_
        refine lv_iload hx hb dX10_makes_52 (lv_at hl 6 rfl) ?_
        refine lv_i2l hx hb dX10_makes_54 rfl ?_
        obtain ⟨r2, hc3, hf⟩ := ob_some hf
        have hI4 : kIn (gX cy qX (qG 0) (qP 0) (qR 0) oS oB oE oN oL x_ways ++ (gG cy qG g_base g_worth x.2.2.1 x.2.2.2 g_version)) (gG cy qG g_base g_worth x.2.2.1 x.2.2.2 g_version) (kpick (gX cy qX (qG 0) (qP 0) (qR 0) oS oB oE oN oL x_ways ++ (gG cy qG g_base g_worth x.2.2.1 x.2.2.2 g_version)) [0, 1]) (fun _ : Unit => gG cy qG g_base g_worth r2.2.1 r2.2.2 g_version) (fun _ : Unit => gX cy qX (qG 0) (qP 0) (qR 0) oS oB oE oN oL x_ways ++ (gG cy qG g_base g_worth r2.2.1 r2.2.2 g_version)) [2, 3, 4, 5] [0, 1] [0, 1, 2, 3, 4, 5] := ⟨rfl, rfl, rfl, rfl, by decide, rfl, fun _ => rfl⟩
        refine kc_l (k_run ⟨hx, hb, hml, hown, hts⟩ (c_X1_make hc3) (cwV 2 hts gX10_makes_X1_make rfl rfl rfl (by decide +kernel) ⟨Nat.le_of_ble_eq_true rfl, Nat.le_of_ble_eq_true rfl⟩) hK hN hP hD ⟨hI4.1, hI4.2.2.1⟩ (ci := 1) (q0 := 0) rfl rfl rfl rfl hl.1 rfl (Nat.le_of_ble_eq_true rfl) dX10_makes_55 ⟨Nat.le_of_ble_eq_true rfl, Nat.le_of_ble_eq_true rfl⟩) hP hD hS hA hI4 (fun _ H locs hP hD hS => ?_)
        refine lv_lload_n hx hb dX10_makes_58 rfl (lv_at hl 2 rfl) ?_
        refine kl_ne (tgt := 76) hx hb dX10_makes_59 dX10_makes_60 (by decide) (fun c5 => ?_) (fun c5 => ?_)
        · have hf := if_f hf c5
          exact hJ76 x.1 x.2.1 r2.2.1 r2.2.2 _ _ _ hf hP hD hS (lv_sub hl [0, 1, 2, 3, 4, 5, 6] rfl)
        · have hf := if_t hf c5
          refine lv_iload hx hb dX10_makes_63 (lv_at hl 5 rfl) ?_
          refine lv_iload hx hb dX10_makes_65 (lv_at hl 4 rfl) ?_
          refine lv_icmp_ne (tgt := 73) hx hb dX10_makes_67 (by decide) (fun c6 => ?_) (fun c6 => ?_)
          · have hf := if_f hf c6
            refine lv_iinc (v := (x.1 + (1 : Int32))) (lv' := [(6, .int (x.1 + (1 : Int32))), (0, .ref (qX 0)), (1, .int a1), (2, .long a2), (4, .int a4), (5, .int a5), (7, .int x.2.1)]) hx hb dX10_makes_73 hl (k := 5) rfl rfl (by decide) rfl (fun ls hl => ?_)
            exact hJ76 (x.1 + (1 : Int32)) x.2.1 r2.2.1 r2.2.2 _ _ _ hf hP hD hS (lv_sub hl [1, 2, 3, 4, 5, 0, 6] rfl)
          · have hf := if_t hf c6
            refine lv_iload hx hb dX10_makes_70 (lv_at hl 6 rfl) ?_
            obtain rfl := Option.some.inj hf
            obtain rfl := hret _ rfl
            exact hQ () 72 _ _ _ dX10_makes_72 hP hD hS
  have hJ32 : ∀ (g_row : Nat → Int32) (g_many : Nat → Int32) (H : Heap) (locs : List Loc) (ls : Array Slot), f_X10_makes_J32 F g_row g_many = some res → va_P D vwCl (gX cy qX (qG 0) (qP 0) (qR 0) oS oB oE oN oL x_ways ++ (gG cy qG g_base g_worth g_row g_many g_version)) H → va_D A (gX cy qX (qG 0) (qP 0) (qR 0) oS oB oE oN oL x_ways ++ (gG cy qG g_base g_worth g_row g_many g_version)) → va_S A s.heap H locs → lv_has ls 8 [] → W p l e0 rmX10_makes s m ar below meth c H locs 0 0 Q (F0 m 32 ls []) := by
    intro g_row g_many H locs ls hf hP hD hS hl
    unfold f_X10_makes_J32 at hf
    refine lv_iconst (v := (-1 : Int32)) hx hb dX10_makes_32 (by decide) ?_
    obtain rfl := Option.some.inj hf
    exact hQ () 33 _ _ _ dX10_makes_33 hP hD hS
  refine lv_iload_n hx hb dX10_makes_0 rfl (lv_at hl 1 rfl) ?_
  obtain ⟨r7, hc8, hf⟩ := ob_some hf
  refine kc_i (k_runS ⟨hx, hb, hml, hown, hts⟩ (c_X10_isStep hc8) (va_cwS 1 hts gX10_makes_X10_isStep rfl rfl rfl (by decide +kernel) ⟨Nat.le_of_ble_eq_true rfl, Nat.le_of_ble_eq_true rfl⟩) hK hN hP hD kA_0 rfl hl.1 rfl (Nat.le_of_ble_eq_true rfl) dX10_makes_1 ⟨Nat.le_of_ble_eq_true rfl, Nat.le_of_ble_eq_true rfl⟩) hP hD hS hA kI_0 (fun _ H locs hP hD hS => ?_)
  refine lv_if_eq (tgt := 32) hx hb dX10_makes_4 (by decide) (fun c9 => ?_) (fun c9 => ?_)
  · have hf := if_t hf c9
    exact hJ32 g_row g_many _ _ _ hf hP hD hS (lv_sub hl [] rfl)
  · have hf := if_f hf c9
    refine lv_lload_n hx hb dX10_makes_7 rfl (lv_at hl 2 rfl) ?_
    obtain ⟨r10, hc11, hf⟩ := ob_some hf
    refine kc_i (k_runS ⟨hx, hb, hml, hown, hts⟩ (c_X10_isNumber hc11) (va_cwS 1 hts gX10_makes_X10_isNumber rfl rfl rfl (by decide +kernel) ⟨Nat.le_of_ble_eq_true rfl, Nat.le_of_ble_eq_true rfl⟩) hK hN hP hD kA_0 rfl hl.1 rfl (Nat.le_of_ble_eq_true rfl) dX10_makes_8 ⟨Nat.le_of_ble_eq_true rfl, Nat.le_of_ble_eq_true rfl⟩) hP hD hS hA kI_0 (fun _ H locs hP hD hS => ?_)
    refine lv_if_eq (tgt := 32) hx hb dX10_makes_11 (by decide) (fun c12 => ?_) (fun c12 => ?_)
    · have hf := if_t hf c12
      exact hJ32 g_row g_many _ _ _ hf hP hD hS (lv_sub hl [] rfl)
    · have hf := if_f hf c12
      refine lv_iload hx hb dX10_makes_14 (lv_at hl 3 rfl) ?_
      refine lv_iconst (v := (0 : Int32)) hx hb dX10_makes_16 (by decide) ?_
      refine lv_sipush (v := (20000 : Int32)) hx hb dX10_makes_17 (by decide) ?_
      obtain ⟨r13, hc14, hf⟩ := ob_some hf
      refine kc_i (k_runS ⟨hx, hb, hml, hown, hts⟩ (c_X10_within hc14) (va_cwS 3 hts gX10_makes_X10_within rfl rfl rfl (by decide +kernel) ⟨Nat.le_of_ble_eq_true rfl, Nat.le_of_ble_eq_true rfl⟩) hK hN hP hD kA_0 rfl hl.1 rfl (Nat.le_of_ble_eq_true rfl) dX10_makes_20 ⟨Nat.le_of_ble_eq_true rfl, Nat.le_of_ble_eq_true rfl⟩) hP hD hS hA kI_0 (fun _ H locs hP hD hS => ?_)
      refine lv_if_eq (tgt := 32) hx hb dX10_makes_23 (by decide) (fun c15 => ?_) (fun c15 => ?_)
      · have hf := if_t hf c15
        exact hJ32 g_row g_many _ _ _ hf hP hD hS (lv_sub hl [] rfl)
      · have hf := if_f hf c15
        refine lv_iload hx hb dX10_makes_26 (lv_at hl 4 rfl) ?_
        refine lv_iconst (v := (-1 : Int32)) hx hb dX10_makes_28 (by decide) ?_
        refine lv_icmp_ge (tgt := 34) hx hb dX10_makes_29 (by decide) (fun c16 => ?_) (fun c16 => ?_)
        · have hf := if_t hf c16
          refine lv_iconst (v := (0 : Int32)) hx hb dX10_makes_34 (by decide) ?_
          refine lv_istore (lv' := [(6, .int (0 : Int32)), (0, .ref (qX 0)), (1, .int a1), (2, .long a2), (4, .int a4), (5, .int a5)]) hx hb dX10_makes_35 hl (by decide) rfl (fun ls hl => ?_)
          refine lv_iconst (v := (0 : Int32)) hx hb dX10_makes_37 (by decide) ?_
          refine lv_istore (lv' := [(7, .int (0 : Int32)), (6, .int (0 : Int32)), (0, .ref (qX 0)), (1, .int a1), (2, .long a2), (4, .int a4), (5, .int a5)]) hx hb dX10_makes_38 hl (by decide) rfl (fun ls hl => ?_)
          obtain ⟨ex17, hcl, hf⟩ := ob_some hf
          refine hL40 F ((0 : Int32), (0 : Int32), g_row, g_many) ex17 _ _ _ hcl (fun r hr0 => ?_) (fun er18 hr0 H locs ls hP hD hS hl => ?_) hP hD hS (lv_sub hl [2, 3, 4, 5, 6, 1, 0] rfl)
          · subst hr0; exact Option.some.inj (sm_inl hf)
          · subst hr0
            have hf := sm_inr hf
            refine lv_iload hx hb dX10_makes_82 (lv_at hl 0 rfl) ?_
            refine lv_iload hx hb dX10_makes_84 (lv_at hl 1 rfl) ?_
            obtain ⟨r19, hc20, hf⟩ := ob_some hf
            refine kc_i (k_runS ⟨hx, hb, hml, hown, hts⟩ (c_X10_countOrNone hc20) (va_cwS 2 hts gX10_makes_X10_countOrNone rfl rfl rfl (by decide +kernel) ⟨Nat.le_of_ble_eq_true rfl, Nat.le_of_ble_eq_true rfl⟩) hK hN hP hD kA_0 rfl hl.1 rfl (Nat.le_of_ble_eq_true rfl) dX10_makes_86 ⟨Nat.le_of_ble_eq_true rfl, Nat.le_of_ble_eq_true rfl⟩) hP hD hS hA kI_0 (fun _ H locs hP hD hS => ?_)
            obtain rfl := Option.some.inj hf
            exact hQ () 89 _ _ _ dX10_makes_89 hP hD hS
        · have hf := if_f hf c16
          exact hJ32 g_row g_many _ _ _ hf hP hD hS (lv_sub hl [] rfl)
def f_X10_frontOfMoved_J111 (F : Nat) (s0 : Int64) : Option (Int64) := some s0
def f_X10_frontOfMoved_J110 (F : Nat) : Option (Int64) := f_X10_frontOfMoved_J111 F (0 : Int64)
def f_X10_frontOfMoved_J64 (F : Nat) : Option (Int64) := some (0 : Int64)
def f_X10_frontOfMoved (F : Nat) (a1 : Int32) (a2 : Int32) (a3 : Int32) (a4 : Int32) (g_base : Int32) : Option (Int64) := if (0 : Int64) < ((a2.toInt64 * g_base.toInt64) - a3.toInt64) then ((f_X1_power F (a1 - (1 : Int32)) g_base).bind (fun r2 => if (a4.toInt64 * ((a3.toInt64 * r2) - a2.toInt64)) ≤ (0 : Int64) then (f_X10_frontOfMoved_J64 F) else (ck (¬ ((a2.toInt64 * g_base.toInt64) - a3.toInt64) = 0) (if ((a4.toInt64 * ((a3.toInt64 * r2) - a2.toInt64)) - (a4.toInt64 * ((a3.toInt64 * r2) - a2.toInt64)) / ((a2.toInt64 * g_base.toInt64) - a3.toInt64) * ((a2.toInt64 * g_base.toInt64) - a3.toInt64)) = (0 : Int64) then (ck (¬ ((a2.toInt64 * g_base.toInt64) - a3.toInt64) = 0) ((f_X1_power F (a1 - (2 : Int32)) g_base).bind (fun r9 => if ((a4.toInt64 * ((a3.toInt64 * r2) - a2.toInt64)) / ((a2.toInt64 * g_base.toInt64) - a3.toInt64)) < r9 then (f_X10_frontOfMoved_J110 F) else ((f_X1_power F (a1 - (1 : Int32)) g_base).bind (fun r13 => if r13 ≤ ((a4.toInt64 * ((a3.toInt64 * r2) - a2.toInt64)) / ((a2.toInt64 * g_base.toInt64) - a3.toInt64)) then (f_X10_frontOfMoved_J110 F) else (f_X10_frontOfMoved_J111 F ((a4.toInt64 * ((a3.toInt64 * r2) - a2.toInt64)) / ((a2.toInt64 * g_base.toInt64) - a3.toInt64)))))))) else (f_X10_frontOfMoved_J64 F))))) else (some (0 : Int64))
abbrev rmX10_frontOfMoved : Room := { frames := 1, cells := 0, slots := 0, locals := 24 }
set_option maxHeartbeats 1000000 in
set_option maxRecDepth 100000 in
theorem c_X10_frontOfMoved {l : Launch} {D : va_G} {cy : Nat → ClassId} {qX : Nat → Nat} {qG : Nat → Nat} {qP : Nat → Nat} {qR : Nat → Nat} {oS : Option Nat} {oB : Option Nat} {oE : Option Nat} {oN : Option Nat} {oL : Option Nat} {x_ways : Nat → Option Nat} {g_base : Int32} {g_worth : Nat → Int32} {g_row : Nat → Int32} {g_many : Nat → Int32} {g_version : Int32} {a1 : Int32} {a2 : Int32} {a3 : Int32} {a4 : Int32} {F : Nat} {res : Int64} (hf : f_X10_frontOfMoved F a1 a2 a3 a4 g_base = some res) : kM l yX10_frontOfMoved wsX10_frontOfMoved rmX10_frontOfMoved D cy [.ref (qX 0), .int a1, .int a2, .int a3, .int a4] (gX cy qX (qG 0) (qP 0) (qR 0) oS oB oE oN oL x_ways ++ (gG cy qG g_base g_worth g_row g_many g_version)) (kQl D cy (fun _ : Unit => gX cy qX (qG 0) (qP 0) (qR 0) oS oB oE oN oL x_ways ++ (gG cy qG g_base g_worth g_row g_many g_version)) res) := by
  refine kent_l (cc := cX10_frontOfMoved) (maxL := 11) (by decide) rfl (Nat.le_of_ble_eq_true rfl) ?_
  intro p e0 s m ar below meth c A Q ls ⟨hx, hb, hml, hr, hts, hown, hlocks, hnm⟩ hA hK hN hQ hP hD hS hl
  have hl : lv_has ls 11 [(0, .ref (qX 0)), (1, .int a1), (2, .int a2), (3, .int a3), (4, .int a4)] := hl
  have hown : s.vm.findClass RX10 = some m.cls := hown
  have huX10 : ∀ x ∈ u_ws RX10 TX10 9, x ∈ wsX10_frontOfMoved := by decide +kernel
  have fk10 : (Cond.fieldLink RX10 10 "FigurePlay" "figures" "LFigurePlay$Figures;").before ar s = true := hts _ (by decide +kernel)
  have huX1 : ∀ x ∈ u_ws RX1 TX1 5, x ∈ wsX10_frontOfMoved := by decide +kernel
  have fk42 : (Cond.fieldLink RX10 42 "FigurePlay$Figures" "base" "I").before ar s = true := hts _ (by decide +kernel)
  unfold f_X10_frontOfMoved at hf
  have hJ111 : ∀ (s0 : Int64) (H : Heap) (locs : List Loc) (ls : Array Slot), f_X10_frontOfMoved_J111 F s0 = some res → va_P D vwCl (gX cy qX (qG 0) (qP 0) (qR 0) oS oB oE oN oL x_ways ++ (gG cy qG g_base g_worth g_row g_many g_version)) H → va_D A (gX cy qX (qG 0) (qP 0) (qR 0) oS oB oE oN oL x_ways ++ (gG cy qG g_base g_worth g_row g_many g_version)) → va_S A s.heap H locs → lv_has ls 11 [] → W p l e0 rmX10_frontOfMoved s m ar below meth c H locs 0 0 Q (F0 m 111 ls [.long s0]) := by
    intro s0 H locs ls hf hP hD hS hl
    unfold f_X10_frontOfMoved_J111 at hf
    obtain rfl := Option.some.inj hf
    exact hQ () 111 _ _ _ dX10_frontOfMoved_111 hP hD hS
  have hJ110 : ∀ (H : Heap) (locs : List Loc) (ls : Array Slot), f_X10_frontOfMoved_J110 F = some res → va_P D vwCl (gX cy qX (qG 0) (qP 0) (qR 0) oS oB oE oN oL x_ways ++ (gG cy qG g_base g_worth g_row g_many g_version)) H → va_D A (gX cy qX (qG 0) (qP 0) (qR 0) oS oB oE oN oL x_ways ++ (gG cy qG g_base g_worth g_row g_many g_version)) → va_S A s.heap H locs → lv_has ls 11 [] → W p l e0 rmX10_frontOfMoved s m ar below meth c H locs 0 0 Q (F0 m 110 ls []) := by
    intro H locs ls hf hP hD hS hl
    unfold f_X10_frontOfMoved_J110 at hf
    refine lv_lconst (v := (0 : Int64)) hx hb dX10_frontOfMoved_110 (by decide) ?_
    exact hJ111 (0 : Int64) _ _ _ hf hP hD hS (lv_sub hl [] rfl)
  have hJ64 : ∀ (H : Heap) (locs : List Loc) (ls : Array Slot), f_X10_frontOfMoved_J64 F = some res → va_P D vwCl (gX cy qX (qG 0) (qP 0) (qR 0) oS oB oE oN oL x_ways ++ (gG cy qG g_base g_worth g_row g_many g_version)) H → va_D A (gX cy qX (qG 0) (qP 0) (qR 0) oS oB oE oN oL x_ways ++ (gG cy qG g_base g_worth g_row g_many g_version)) → va_S A s.heap H locs → lv_has ls 11 [] → W p l e0 rmX10_frontOfMoved s m ar below meth c H locs 0 0 Q (F0 m 64 ls []) := by
    intro H locs ls hf hP hD hS hl
    unfold f_X10_frontOfMoved_J64 at hf
    refine lv_lconst (v := (0 : Int64)) hx hb dX10_frontOfMoved_64 (by decide) ?_
    obtain rfl := Option.some.inj hf
    exact hQ () 65 _ _ _ dX10_frontOfMoved_65 hP hD hS
  refine lv_iload_n hx hb dX10_frontOfMoved_0 rfl (lv_at hl 2 rfl) ?_
  refine lv_i2l hx hb dX10_frontOfMoved_1 rfl ?_
  refine lv_aload_n hx hb dX10_frontOfMoved_2 rfl (lv_at hl 0 rfl) ?_
  refine va_get (v := .ref (qG 0)) (D := D) (ci := 10) (C := RX10) (T := TX10) (N := 9) hx hb hts huX10 hown hK hP 0 rfl rfl 0 (by decide) fk10 (fun _ h9 => h9) rfl dX10_frontOfMoved_3 ?_
  refine va_get (D := D) (ci := 1) (C := RX1) (T := TX1) (N := 5) hx hb hts huX1 hown hK hP 2 rfl rfl 0 (by decide) fk42 (fun _ h9 => h9) rfl dX10_frontOfMoved_6 ?_
  refine lv_i2l hx hb dX10_frontOfMoved_9 rfl ?_
  refine lv_lmul hx hb dX10_frontOfMoved_10 ?_
  refine lv_iload_n hx hb dX10_frontOfMoved_11 rfl (lv_at hl 3 rfl) ?_
  refine lv_i2l hx hb dX10_frontOfMoved_12 rfl ?_
  refine lv_lsub hx hb dX10_frontOfMoved_13 ?_
  refine lv_lstore (lv' := [(5, .long ((a2.toInt64 * g_base.toInt64) - a3.toInt64)), (0, .ref (qX 0)), (1, .int a1), (2, .int a2), (3, .int a3), (4, .int a4)]) hx hb dX10_frontOfMoved_14 hl (by decide) rfl (fun ls hl => ?_)
  refine lv_lload hx hb dX10_frontOfMoved_16 (lv_at hl 0 rfl) ?_
  refine lv_lconst (v := (0 : Int64)) hx hb dX10_frontOfMoved_18 (by decide) ?_
  refine kl_gt (tgt := 25) hx hb dX10_frontOfMoved_19 dX10_frontOfMoved_20 (by decide) (fun c1 => ?_) (fun c1 => ?_)
  · have hf := if_t hf c1
    refine lv_iload hx hb dX10_frontOfMoved_25 (lv_at hl 5 rfl) ?_
    refine lv_i2l hx hb dX10_frontOfMoved_27 rfl ?_
    refine lv_iload_n hx hb dX10_frontOfMoved_28 rfl (lv_at hl 4 rfl) ?_
    refine lv_i2l hx hb dX10_frontOfMoved_29 rfl ?_
    refine lv_aload_n hx hb dX10_frontOfMoved_30 rfl (lv_at hl 1 rfl) ?_
    refine va_get (v := .ref (qG 0)) (D := D) (ci := 10) (C := RX10) (T := TX10) (N := 9) hx hb hts huX10 hown hK hP 0 rfl rfl 0 (by decide) fk10 (fun _ h9 => h9) rfl dX10_frontOfMoved_31 ?_
    refine lv_iload_n hx hb dX10_frontOfMoved_34 rfl (lv_at hl 2 rfl) ?_
    refine lv_iconst (v := (1 : Int32)) hx hb dX10_frontOfMoved_35 (by decide) ?_
    refine lv_isub hx hb dX10_frontOfMoved_36 ?_
    obtain ⟨r2, hc3, hf⟩ := ob_some hf
    have hI4 : kIn (gX cy qX (qG 0) (qP 0) (qR 0) oS oB oE oN oL x_ways ++ (gG cy qG g_base g_worth g_row g_many g_version)) (gG cy qG g_base g_worth g_row g_many g_version) (kpick (gX cy qX (qG 0) (qP 0) (qR 0) oS oB oE oN oL x_ways ++ (gG cy qG g_base g_worth g_row g_many g_version)) [0, 1]) (fun _ : Unit => gG cy qG g_base g_worth g_row g_many g_version) (fun _ : Unit => gX cy qX (qG 0) (qP 0) (qR 0) oS oB oE oN oL x_ways ++ (gG cy qG g_base g_worth g_row g_many g_version)) [2, 3, 4, 5] [0, 1] [0, 1, 2, 3, 4, 5] := ⟨rfl, rfl, rfl, rfl, by decide, rfl, fun _ => rfl⟩
    refine kc_l (k_run ⟨hx, hb, hml, hown, hts⟩ (c_X1_power hc3) (cwV 1 hts gX10_frontOfMoved_X1_power rfl rfl rfl (by decide +kernel) ⟨Nat.le_of_ble_eq_true rfl, Nat.le_of_ble_eq_true rfl⟩) hK hN hP hD ⟨hI4.1, hI4.2.2.1⟩ (ci := 1) (q0 := 0) rfl rfl rfl rfl hl.1 rfl (Nat.le_of_ble_eq_true rfl) dX10_frontOfMoved_37 ⟨Nat.le_of_ble_eq_true rfl, Nat.le_of_ble_eq_true rfl⟩) hP hD hS hA hI4 (fun _ H locs hP hD hS => ?_)
    refine lv_lmul hx hb dX10_frontOfMoved_40 ?_
    refine lv_iload_n hx hb dX10_frontOfMoved_41 rfl (lv_at hl 3 rfl) ?_
    refine lv_i2l hx hb dX10_frontOfMoved_42 rfl ?_
    refine lv_lsub hx hb dX10_frontOfMoved_43 ?_
    refine lv_lmul hx hb dX10_frontOfMoved_44 ?_
    refine lv_lstore (lv' := [(7, .long (a4.toInt64 * ((a3.toInt64 * r2) - a2.toInt64))), (5, .long ((a2.toInt64 * g_base.toInt64) - a3.toInt64)), (0, .ref (qX 0)), (1, .int a1), (2, .int a2), (3, .int a3), (4, .int a4)]) hx hb dX10_frontOfMoved_45 hl (by decide) rfl (fun ls hl => ?_)
    refine lv_lload hx hb dX10_frontOfMoved_47 (lv_at hl 0 rfl) ?_
    refine lv_lconst (v := (0 : Int64)) hx hb dX10_frontOfMoved_49 (by decide) ?_
    refine kl_le (tgt := 64) hx hb dX10_frontOfMoved_50 dX10_frontOfMoved_51 (by decide) (fun c5 => ?_) (fun c5 => ?_)
    · have hf := if_t hf c5
      exact hJ64 _ _ _ hf hP hD hS (lv_sub hl [] rfl)
    · have hf := if_f hf c5
      refine lv_lload hx hb dX10_frontOfMoved_54 (lv_at hl 0 rfl) ?_
      refine lv_lload hx hb dX10_frontOfMoved_56 (lv_at hl 1 rfl) ?_
      obtain ⟨c6, hf⟩ := ck_some hf
      refine lv_lrem hx hb dX10_frontOfMoved_58 c6 ?_
      refine lv_lconst (v := (0 : Int64)) hx hb dX10_frontOfMoved_59 (by decide) ?_
      refine kl_eq (tgt := 66) hx hb dX10_frontOfMoved_60 dX10_frontOfMoved_61 (by decide) (fun c7 => ?_) (fun c7 => ?_)
      · have hf := if_t hf c7
        refine lv_lload hx hb dX10_frontOfMoved_66 (lv_at hl 0 rfl) ?_
        refine lv_lload hx hb dX10_frontOfMoved_68 (lv_at hl 1 rfl) ?_
        obtain ⟨c8, hf⟩ := ck_some hf
        refine lv_ldiv hx hb dX10_frontOfMoved_70 c8 ?_
        refine lv_lstore (lv' := [(9, .long ((a4.toInt64 * ((a3.toInt64 * r2) - a2.toInt64)) / ((a2.toInt64 * g_base.toInt64) - a3.toInt64))), (7, .long (a4.toInt64 * ((a3.toInt64 * r2) - a2.toInt64))), (5, .long ((a2.toInt64 * g_base.toInt64) - a3.toInt64)), (0, .ref (qX 0)), (1, .int a1), (2, .int a2), (3, .int a3), (4, .int a4)]) hx hb dX10_frontOfMoved_71 hl (by decide) rfl (fun ls hl => ?_)
        refine lv_lload hx hb dX10_frontOfMoved_73 (lv_at hl 0 rfl) ?_
        refine lv_aload_n hx hb dX10_frontOfMoved_75 rfl (lv_at hl 3 rfl) ?_
        refine va_get (v := .ref (qG 0)) (D := D) (ci := 10) (C := RX10) (T := TX10) (N := 9) hx hb hts huX10 hown hK hP 0 rfl rfl 0 (by decide) fk10 (fun _ h9 => h9) rfl dX10_frontOfMoved_76 ?_
        refine lv_iload_n hx hb dX10_frontOfMoved_79 rfl (lv_at hl 4 rfl) ?_
        refine lv_iconst (v := (2 : Int32)) hx hb dX10_frontOfMoved_80 (by decide) ?_
        refine lv_isub hx hb dX10_frontOfMoved_81 ?_
        obtain ⟨r9, hc10, hf⟩ := ob_some hf
        have hI11 : kIn (gX cy qX (qG 0) (qP 0) (qR 0) oS oB oE oN oL x_ways ++ (gG cy qG g_base g_worth g_row g_many g_version)) (gG cy qG g_base g_worth g_row g_many g_version) (kpick (gX cy qX (qG 0) (qP 0) (qR 0) oS oB oE oN oL x_ways ++ (gG cy qG g_base g_worth g_row g_many g_version)) [0, 1]) (fun _ : Unit => gG cy qG g_base g_worth g_row g_many g_version) (fun _ : Unit => gX cy qX (qG 0) (qP 0) (qR 0) oS oB oE oN oL x_ways ++ (gG cy qG g_base g_worth g_row g_many g_version)) [2, 3, 4, 5] [0, 1] [0, 1, 2, 3, 4, 5] := ⟨rfl, rfl, rfl, rfl, by decide, rfl, fun _ => rfl⟩
        refine kc_l (k_run ⟨hx, hb, hml, hown, hts⟩ (c_X1_power hc10) (cwV 1 hts gX10_frontOfMoved_X1_power rfl rfl rfl (by decide +kernel) ⟨Nat.le_of_ble_eq_true rfl, Nat.le_of_ble_eq_true rfl⟩) hK hN hP hD ⟨hI11.1, hI11.2.2.1⟩ (ci := 1) (q0 := 0) rfl rfl rfl rfl hl.1 rfl (Nat.le_of_ble_eq_true rfl) dX10_frontOfMoved_82 ⟨Nat.le_of_ble_eq_true rfl, Nat.le_of_ble_eq_true rfl⟩) hP hD hS hA hI11 (fun _ H locs hP hD hS => ?_)
        refine kl_lt (tgt := 110) hx hb dX10_frontOfMoved_85 dX10_frontOfMoved_86 (by decide) (fun c12 => ?_) (fun c12 => ?_)
        · have hf := if_t hf c12
          exact hJ110 _ _ _ hf hP hD hS (lv_sub hl [] rfl)
        · have hf := if_f hf c12
          refine lv_lload hx hb dX10_frontOfMoved_89 (lv_at hl 0 rfl) ?_
          refine lv_aload_n hx hb dX10_frontOfMoved_91 rfl (lv_at hl 3 rfl) ?_
          refine va_get (v := .ref (qG 0)) (D := D) (ci := 10) (C := RX10) (T := TX10) (N := 9) hx hb hts huX10 hown hK hP 0 rfl rfl 0 (by decide) fk10 (fun _ h9 => h9) rfl dX10_frontOfMoved_92 ?_
          refine lv_iload_n hx hb dX10_frontOfMoved_95 rfl (lv_at hl 4 rfl) ?_
          refine lv_iconst (v := (1 : Int32)) hx hb dX10_frontOfMoved_96 (by decide) ?_
          refine lv_isub hx hb dX10_frontOfMoved_97 ?_
          obtain ⟨r13, hc14, hf⟩ := ob_some hf
          have hI15 : kIn (gX cy qX (qG 0) (qP 0) (qR 0) oS oB oE oN oL x_ways ++ (gG cy qG g_base g_worth g_row g_many g_version)) (gG cy qG g_base g_worth g_row g_many g_version) (kpick (gX cy qX (qG 0) (qP 0) (qR 0) oS oB oE oN oL x_ways ++ (gG cy qG g_base g_worth g_row g_many g_version)) [0, 1]) (fun _ : Unit => gG cy qG g_base g_worth g_row g_many g_version) (fun _ : Unit => gX cy qX (qG 0) (qP 0) (qR 0) oS oB oE oN oL x_ways ++ (gG cy qG g_base g_worth g_row g_many g_version)) [2, 3, 4, 5] [0, 1] [0, 1, 2, 3, 4, 5] := ⟨rfl, rfl, rfl, rfl, by decide, rfl, fun _ => rfl⟩
          refine kc_l (k_run ⟨hx, hb, hml, hown, hts⟩ (c_X1_power hc14) (cwV 1 hts gX10_frontOfMoved_X1_power rfl rfl rfl (by decide +kernel) ⟨Nat.le_of_ble_eq_true rfl, Nat.le_of_ble_eq_true rfl⟩) hK hN hP hD ⟨hI15.1, hI15.2.2.1⟩ (ci := 1) (q0 := 0) rfl rfl rfl rfl hl.1 rfl (Nat.le_of_ble_eq_true rfl) dX10_frontOfMoved_98 ⟨Nat.le_of_ble_eq_true rfl, Nat.le_of_ble_eq_true rfl⟩) hP hD hS hA hI15 (fun _ H locs hP hD hS => ?_)
          refine kl_ge (tgt := 110) hx hb dX10_frontOfMoved_101 dX10_frontOfMoved_102 (by decide) (fun c16 => ?_) (fun c16 => ?_)
          · have hf := if_t hf c16
            exact hJ110 _ _ _ hf hP hD hS (lv_sub hl [] rfl)
          · have hf := if_f hf c16
            refine lv_lload hx hb dX10_frontOfMoved_105 (lv_at hl 0 rfl) ?_
            refine lv_goto (tgt := 111) hx hb dX10_frontOfMoved_107 (by decide) ?_
            exact hJ111 ((a4.toInt64 * ((a3.toInt64 * r2) - a2.toInt64)) / ((a2.toInt64 * g_base.toInt64) - a3.toInt64)) _ _ _ hf hP hD hS (lv_sub hl [] rfl)
      · have hf := if_f hf c7
        exact hJ64 _ _ _ hf hP hD hS (lv_sub hl [] rfl)
  · have hf := if_f hf c1
    refine lv_lconst (v := (0 : Int64)) hx hb dX10_frontOfMoved_23 (by decide) ?_
    obtain rfl := Option.some.inj hf
    exact hQ () 24 _ _ _ dX10_frontOfMoved_24 hP hD hS
def f_X10_moved_J102 (F : Nat) (rec : (Int32 × Int32) → Option ((Int64) ⊕ (Int32))) (x5 : Int32) (x6 : Int32) : Option ((Int64) ⊕ (Int32)) := rec (x5, (x6 + (1 : Int32)))
def f_X10_moved_B46 (F : Nat) (a1 : Int32) (a2 : Int32) (a3 : Int32) (a4 : Int32) (g_base : Int32) (rec : Int32 × Int32 → Option ((Int64) ⊕ (Int32))) (x : Int32 × Int32) : Option ((Int64) ⊕ (Int32)) := if g_base ≤ x.2 then (some (.inr x.1)) else ((f_X10_frontOfMoved F a1 a2 a3 x.2 g_base).bind (fun r2 => if r2 ≤ (0 : Int64) then (f_X10_moved_J102 F rec x.1 x.2) else (if x.1 = a4 then (some (.inl ((r2 * g_base.toInt64) + x.2.toInt64))) else (f_X10_moved_J102 F rec (x.1 + (1 : Int32)) x.2))))
def f_X10_moved_J36 (F : Nat) : Option (Int64) := some (-1 : Int64)
def f_X10_moved (F : Nat) (a1 : Int32) (a2 : Int32) (a3 : Int32) (a4 : Int32) (g_base : Int32) : Option (Int64) := (f_X10_within F a1 (2 : Int32) (12 : Int32)).bind (fun r6 => if r6 = 0 then (f_X10_moved_J36 F) else ((f_X10_within F a2 (1 : Int32) (15 : Int32)).bind (fun r9 => if r9 = 0 then (f_X10_moved_J36 F) else ((f_X10_within F a3 (1 : Int32) (15 : Int32)).bind (fun r12 => if r12 = 0 then (f_X10_moved_J36 F) else (if (-1 : Int32) ≤ a4 then ((lp (f_X10_moved_B46 F a1 a2 a3 a4 g_base) F ((0 : Int32), (1 : Int32))).bind (fun ex16 => Sum.elim (fun r => some r) (fun er17 => (f_X10_countOrNone F a4 er17).bind (fun r18 => some r18.toInt64)) ex16)) else (f_X10_moved_J36 F)))))))
abbrev rmX10_moved : Room := { frames := 2, cells := 0, slots := 0, locals := 54 }
set_option maxHeartbeats 1000000 in
set_option maxRecDepth 100000 in
theorem c_X10_moved {l : Launch} {D : va_G} {cy : Nat → ClassId} {qX : Nat → Nat} {qG : Nat → Nat} {qP : Nat → Nat} {qR : Nat → Nat} {oS : Option Nat} {oB : Option Nat} {oE : Option Nat} {oN : Option Nat} {oL : Option Nat} {x_ways : Nat → Option Nat} {g_base : Int32} {g_worth : Nat → Int32} {g_row : Nat → Int32} {g_many : Nat → Int32} {g_version : Int32} {a1 : Int32} {a2 : Int32} {a3 : Int32} {a4 : Int32} {F : Nat} {res : Int64} (hf : f_X10_moved F a1 a2 a3 a4 g_base = some res) : kM l yX10_moved wsX10_moved rmX10_moved D cy [.ref (qX 0), .int a1, .int a2, .int a3, .int a4] (gX cy qX (qG 0) (qP 0) (qR 0) oS oB oE oN oL x_ways ++ (gG cy qG g_base g_worth g_row g_many g_version)) (kQl D cy (fun _ : Unit => gX cy qX (qG 0) (qP 0) (qR 0) oS oB oE oN oL x_ways ++ (gG cy qG g_base g_worth g_row g_many g_version)) res) := by
  refine kent_l (cc := cX10_moved) (maxL := 9) (by decide) rfl (Nat.le_of_ble_eq_true rfl) ?_
  intro p e0 s m ar below meth c A Q ls ⟨hx, hb, hml, hr, hts, hown, hlocks, hnm⟩ hA hK hN hQ hP hD hS hl
  have hl : lv_has ls 9 [(0, .ref (qX 0)), (1, .int a1), (2, .int a2), (3, .int a3), (4, .int a4)] := hl
  have hown : s.vm.findClass RX10 = some m.cls := hown
  have huX10 : ∀ x ∈ u_ws RX10 TX10 9, x ∈ wsX10_moved := by decide +kernel
  have fk10 : (Cond.fieldLink RX10 10 "FigurePlay" "figures" "LFigurePlay$Figures;").before ar s = true := hts _ (by decide +kernel)
  have huX1 : ∀ x ∈ u_ws RX1 TX1 5, x ∈ wsX10_moved := by decide +kernel
  have fk42 : (Cond.fieldLink RX10 42 "FigurePlay$Figures" "base" "I").before ar s = true := hts _ (by decide +kernel)
  have fk74 : (Cond.constantLong RX10 74 (-1)).before ar s = true := hts _ (by decide +kernel)
  unfold f_X10_moved at hf
  have hL46 : ∀ (k : Nat) (x : Int32 × Int32) (ex : (Int64) ⊕ (Int32)) (H : Heap) (locs : List Loc) (ls : Array Slot), lp (f_X10_moved_B46 F a1 a2 a3 a4 g_base) k x = some ex → (∀ r, ex = .inl r → r = res) → (∀ er, ex = .inr er → ∀ (H : Heap) (locs : List Loc) (ls : Array Slot), va_P D vwCl (gX cy qX (qG 0) (qP 0) (qR 0) oS oB oE oN oL x_ways ++ (gG cy qG g_base g_worth g_row g_many g_version)) H → va_D A (gX cy qX (qG 0) (qP 0) (qR 0) oS oB oE oN oL x_ways ++ (gG cy qG g_base g_worth g_row g_many g_version)) → va_S A s.heap H locs → lv_has ls 9 [(4, .int a4), (5, .int er)] → W p l e0 rmX10_moved s m ar below meth c H locs 0 0 Q (F0 m 108 ls [])) → va_P D vwCl (gX cy qX (qG 0) (qP 0) (qR 0) oS oB oE oN oL x_ways ++ (gG cy qG g_base g_worth g_row g_many g_version)) H → va_D A (gX cy qX (qG 0) (qP 0) (qR 0) oS oB oE oN oL x_ways ++ (gG cy qG g_base g_worth g_row g_many g_version)) → va_S A s.heap H locs → lv_has ls 9 [(0, .ref (qX 0)), (1, .int a1), (2, .int a2), (3, .int a3), (4, .int a4), (5, .int x.1), (6, .int x.2)] → W p l e0 rmX10_moved s m ar below meth c H locs 0 0 Q (F0 m 46 ls []) := by
    intro k
    induction k with
    | zero => intro x ex H locs ls hf; exact no_some hf
    | succ k ih =>
      intro x ex H locs ls hf hret hex hP hD hS hl
      have hf : f_X10_moved_B46 F a1 a2 a3 a4 g_base (lp (f_X10_moved_B46 F a1 a2 a3 a4 g_base) k) x = some ex := hf
      unfold f_X10_moved_B46 at hf
      have hJ102 : ∀ (x5 : Int32) (x6 : Int32) (H : Heap) (locs : List Loc) (ls : Array Slot), f_X10_moved_J102 F (lp (f_X10_moved_B46 F a1 a2 a3 a4 g_base) k) x5 x6 = some ex → va_P D vwCl (gX cy qX (qG 0) (qP 0) (qR 0) oS oB oE oN oL x_ways ++ (gG cy qG g_base g_worth g_row g_many g_version)) H → va_D A (gX cy qX (qG 0) (qP 0) (qR 0) oS oB oE oN oL x_ways ++ (gG cy qG g_base g_worth g_row g_many g_version)) → va_S A s.heap H locs → lv_has ls 9 [(0, .ref (qX 0)), (1, .int a1), (2, .int a2), (3, .int a3), (4, .int a4), (5, .int x5), (6, .int x6)] → W p l e0 rmX10_moved s m ar below meth c H locs 0 0 Q (F0 m 102 ls []) := by
        intro x5 x6 H locs ls hf hP hD hS hl
        unfold f_X10_moved_J102 at hf
        refine lv_iinc (v := (x6 + (1 : Int32))) (lv' := [(6, .int (x6 + (1 : Int32))), (0, .ref (qX 0)), (1, .int a1), (2, .int a2), (3, .int a3), (4, .int a4), (5, .int x5)]) hx hb dX10_moved_102 hl (k := 6) rfl rfl (by decide) rfl (fun ls hl => ?_)
        refine lv_goto (tgt := 46) hx hb dX10_moved_105 (by decide) ?_
        exact ih (x5, (x6 + (1 : Int32))) ex _ _ _ hf hret hex hP hD hS (lv_sub hl [1, 2, 3, 4, 5, 6, 0] rfl)
      refine lv_iload hx hb dX10_moved_46 (lv_at hl 6 rfl) ?_
      refine lv_aload_n hx hb dX10_moved_48 rfl (lv_at hl 0 rfl) ?_
      refine va_get (v := .ref (qG 0)) (D := D) (ci := 10) (C := RX10) (T := TX10) (N := 9) hx hb hts huX10 hown hK hP 0 rfl rfl 0 (by decide) fk10 (fun _ h9 => h9) rfl dX10_moved_49 ?_
      refine va_get (D := D) (ci := 1) (C := RX1) (T := TX1) (N := 5) hx hb hts huX1 hown hK hP 2 rfl rfl 0 (by decide) fk42 (fun _ h9 => h9) rfl dX10_moved_52 ?_
      refine lv_icmp_ge (tgt := 108) hx hb dX10_moved_55 (by decide) (fun c1 => ?_) (fun c1 => ?_)
      · have hf := if_t hf c1
        obtain rfl := Option.some.inj hf
        exact hex _ rfl _ _ _ hP hD hS (lv_sub hl [4, 5] rfl)
      · have hf := if_f hf c1
        refine lv_aload_n hx hb dX10_moved_58 rfl (lv_at hl 0 rfl) ?_
        refine lv_iload_n hx hb dX10_moved_59 rfl (lv_at hl 1 rfl) ?_
        refine lv_iload_n hx hb dX10_moved_60 rfl (lv_at hl 2 rfl) ?_
        refine lv_iload_n hx hb dX10_moved_61 rfl (lv_at hl 3 rfl) ?_
        refine lv_iload hx hb dX10_moved_62 (lv_at hl 6 rfl) ?_
        obtain ⟨r2, hc3, hf⟩ := ob_some hf
        refine kc_l (k_run ⟨hx, hb, hml, hown, hts⟩ (c_X10_frontOfMoved hc3) (cwV 4 hts gX10_moved_X10_frontOfMoved rfl rfl rfl (by decide +kernel) ⟨Nat.le_of_ble_eq_true rfl, Nat.le_of_ble_eq_true rfl⟩) hK hN hP hD kA_s (ci := 10) (q0 := 0) rfl rfl rfl rfl hl.1 rfl (Nat.le_of_ble_eq_true rfl) dX10_moved_64 ⟨Nat.le_of_ble_eq_true rfl, Nat.le_of_ble_eq_true rfl⟩) hP hD hS hA kI_s (fun _ H locs hP hD hS => ?_)
        refine lv_lstore (lv' := [(7, .long r2), (0, .ref (qX 0)), (1, .int a1), (2, .int a2), (3, .int a3), (4, .int a4), (5, .int x.1), (6, .int x.2)]) hx hb dX10_moved_67 hl (by decide) rfl (fun ls hl => ?_)
        refine lv_lload hx hb dX10_moved_69 (lv_at hl 0 rfl) ?_
        refine lv_lconst (v := (0 : Int64)) hx hb dX10_moved_71 (by decide) ?_
        refine kl_le (tgt := 102) hx hb dX10_moved_72 dX10_moved_73 (by decide) (fun c4 => ?_) (fun c4 => ?_)
        · have hf := if_t hf c4
          exact hJ102 x.1 x.2 _ _ _ hf hP hD hS (lv_sub hl [1, 2, 3, 4, 5, 6, 7] rfl)
        · have hf := if_f hf c4
          refine lv_iload hx hb dX10_moved_76 (lv_at hl 6 rfl) ?_
          refine lv_iload hx hb dX10_moved_78 (lv_at hl 5 rfl) ?_
          refine lv_icmp_ne (tgt := 99) hx hb dX10_moved_80 (by decide) (fun c5 => ?_) (fun c5 => ?_)
          · have hf := if_f hf c5
            refine lv_iinc (v := (x.1 + (1 : Int32))) (lv' := [(5, .int (x.1 + (1 : Int32))), (7, .long r2), (0, .ref (qX 0)), (1, .int a1), (2, .int a2), (3, .int a3), (4, .int a4), (6, .int x.2)]) hx hb dX10_moved_99 hl (k := 6) rfl rfl (by decide) rfl (fun ls hl => ?_)
            exact hJ102 (x.1 + (1 : Int32)) x.2 _ _ _ hf hP hD hS (lv_sub hl [2, 3, 4, 5, 6, 0, 7] rfl)
          · have hf := if_t hf c5
            refine lv_lload hx hb dX10_moved_83 (lv_at hl 0 rfl) ?_
            refine lv_aload_n hx hb dX10_moved_85 rfl (lv_at hl 1 rfl) ?_
            refine va_get (v := .ref (qG 0)) (D := D) (ci := 10) (C := RX10) (T := TX10) (N := 9) hx hb hts huX10 hown hK hP 0 rfl rfl 0 (by decide) fk10 (fun _ h9 => h9) rfl dX10_moved_86 ?_
            refine va_get (D := D) (ci := 1) (C := RX1) (T := TX1) (N := 5) hx hb hts huX1 hown hK hP 2 rfl rfl 0 (by decide) fk42 (fun _ h9 => h9) rfl dX10_moved_89 ?_
            refine lv_i2l hx hb dX10_moved_92 rfl ?_
            refine lv_lmul hx hb dX10_moved_93 ?_
            refine lv_iload hx hb dX10_moved_94 (lv_at hl 7 rfl) ?_
            refine lv_i2l hx hb dX10_moved_96 rfl ?_
            refine lv_ladd hx hb dX10_moved_97 ?_
            obtain rfl := Option.some.inj hf
            obtain rfl := hret _ rfl
            exact hQ () 98 _ _ _ dX10_moved_98 hP hD hS
  have hJ36 : ∀ (H : Heap) (locs : List Loc) (ls : Array Slot), f_X10_moved_J36 F = some res → va_P D vwCl (gX cy qX (qG 0) (qP 0) (qR 0) oS oB oE oN oL x_ways ++ (gG cy qG g_base g_worth g_row g_many g_version)) H → va_D A (gX cy qX (qG 0) (qP 0) (qR 0) oS oB oE oN oL x_ways ++ (gG cy qG g_base g_worth g_row g_many g_version)) → va_S A s.heap H locs → lv_has ls 9 [] → W p l e0 rmX10_moved s m ar below meth c H locs 0 0 Q (F0 m 36 ls []) := by
    intro H locs ls hf hP hD hS hl
    unfold f_X10_moved_J36 at hf
    refine lv_ldc2 (v := (-1 : Int64)) hx hb hown fk74 dX10_moved_36 ?_
    obtain rfl := Option.some.inj hf
    exact hQ () 39 _ _ _ dX10_moved_39 hP hD hS
  refine lv_iload_n hx hb dX10_moved_0 rfl (lv_at hl 1 rfl) ?_
  refine lv_iconst (v := (2 : Int32)) hx hb dX10_moved_1 (by decide) ?_
  refine lv_bipush (v := (12 : Int32)) hx hb dX10_moved_2 (by decide) ?_
  obtain ⟨r6, hc7, hf⟩ := ob_some hf
  refine kc_i (k_runS ⟨hx, hb, hml, hown, hts⟩ (c_X10_within hc7) (va_cwS 3 hts gX10_moved_X10_within rfl rfl rfl (by decide +kernel) ⟨Nat.le_of_ble_eq_true rfl, Nat.le_of_ble_eq_true rfl⟩) hK hN hP hD kA_0 rfl hl.1 rfl (Nat.le_of_ble_eq_true rfl) dX10_moved_4 ⟨Nat.le_of_ble_eq_true rfl, Nat.le_of_ble_eq_true rfl⟩) hP hD hS hA kI_0 (fun _ H locs hP hD hS => ?_)
  refine lv_if_eq (tgt := 36) hx hb dX10_moved_7 (by decide) (fun c8 => ?_) (fun c8 => ?_)
  · have hf := if_t hf c8
    exact hJ36 _ _ _ hf hP hD hS (lv_sub hl [] rfl)
  · have hf := if_f hf c8
    refine lv_iload_n hx hb dX10_moved_10 rfl (lv_at hl 2 rfl) ?_
    refine lv_iconst (v := (1 : Int32)) hx hb dX10_moved_11 (by decide) ?_
    refine lv_bipush (v := (15 : Int32)) hx hb dX10_moved_12 (by decide) ?_
    obtain ⟨r9, hc10, hf⟩ := ob_some hf
    refine kc_i (k_runS ⟨hx, hb, hml, hown, hts⟩ (c_X10_within hc10) (va_cwS 3 hts gX10_moved_X10_within rfl rfl rfl (by decide +kernel) ⟨Nat.le_of_ble_eq_true rfl, Nat.le_of_ble_eq_true rfl⟩) hK hN hP hD kA_0 rfl hl.1 rfl (Nat.le_of_ble_eq_true rfl) dX10_moved_14 ⟨Nat.le_of_ble_eq_true rfl, Nat.le_of_ble_eq_true rfl⟩) hP hD hS hA kI_0 (fun _ H locs hP hD hS => ?_)
    refine lv_if_eq (tgt := 36) hx hb dX10_moved_17 (by decide) (fun c11 => ?_) (fun c11 => ?_)
    · have hf := if_t hf c11
      exact hJ36 _ _ _ hf hP hD hS (lv_sub hl [] rfl)
    · have hf := if_f hf c11
      refine lv_iload_n hx hb dX10_moved_20 rfl (lv_at hl 3 rfl) ?_
      refine lv_iconst (v := (1 : Int32)) hx hb dX10_moved_21 (by decide) ?_
      refine lv_bipush (v := (15 : Int32)) hx hb dX10_moved_22 (by decide) ?_
      obtain ⟨r12, hc13, hf⟩ := ob_some hf
      refine kc_i (k_runS ⟨hx, hb, hml, hown, hts⟩ (c_X10_within hc13) (va_cwS 3 hts gX10_moved_X10_within rfl rfl rfl (by decide +kernel) ⟨Nat.le_of_ble_eq_true rfl, Nat.le_of_ble_eq_true rfl⟩) hK hN hP hD kA_0 rfl hl.1 rfl (Nat.le_of_ble_eq_true rfl) dX10_moved_24 ⟨Nat.le_of_ble_eq_true rfl, Nat.le_of_ble_eq_true rfl⟩) hP hD hS hA kI_0 (fun _ H locs hP hD hS => ?_)
      refine lv_if_eq (tgt := 36) hx hb dX10_moved_27 (by decide) (fun c14 => ?_) (fun c14 => ?_)
      · have hf := if_t hf c14
        exact hJ36 _ _ _ hf hP hD hS (lv_sub hl [] rfl)
      · have hf := if_f hf c14
        refine lv_iload hx hb dX10_moved_30 (lv_at hl 4 rfl) ?_
        refine lv_iconst (v := (-1 : Int32)) hx hb dX10_moved_32 (by decide) ?_
        refine lv_icmp_ge (tgt := 40) hx hb dX10_moved_33 (by decide) (fun c15 => ?_) (fun c15 => ?_)
        · have hf := if_t hf c15
          refine lv_iconst (v := (0 : Int32)) hx hb dX10_moved_40 (by decide) ?_
          refine lv_istore (lv' := [(5, .int (0 : Int32)), (0, .ref (qX 0)), (1, .int a1), (2, .int a2), (3, .int a3), (4, .int a4)]) hx hb dX10_moved_41 hl (by decide) rfl (fun ls hl => ?_)
          refine lv_iconst (v := (1 : Int32)) hx hb dX10_moved_43 (by decide) ?_
          refine lv_istore (lv' := [(6, .int (1 : Int32)), (5, .int (0 : Int32)), (0, .ref (qX 0)), (1, .int a1), (2, .int a2), (3, .int a3), (4, .int a4)]) hx hb dX10_moved_44 hl (by decide) rfl (fun ls hl => ?_)
          obtain ⟨ex16, hcl, hf⟩ := ob_some hf
          refine hL46 F ((0 : Int32), (1 : Int32)) ex16 _ _ _ hcl (fun r hr0 => ?_) (fun er17 hr0 H locs ls hP hD hS hl => ?_) hP hD hS (lv_sub hl [2, 3, 4, 5, 6, 1, 0] rfl)
          · subst hr0; exact Option.some.inj (sm_inl hf)
          · subst hr0
            have hf := sm_inr hf
            refine lv_iload hx hb dX10_moved_108 (lv_at hl 0 rfl) ?_
            refine lv_iload hx hb dX10_moved_110 (lv_at hl 1 rfl) ?_
            obtain ⟨r18, hc19, hf⟩ := ob_some hf
            refine kc_i (k_runS ⟨hx, hb, hml, hown, hts⟩ (c_X10_countOrNone hc19) (va_cwS 2 hts gX10_moved_X10_countOrNone rfl rfl rfl (by decide +kernel) ⟨Nat.le_of_ble_eq_true rfl, Nat.le_of_ble_eq_true rfl⟩) hK hN hP hD kA_0 rfl hl.1 rfl (Nat.le_of_ble_eq_true rfl) dX10_moved_112 ⟨Nat.le_of_ble_eq_true rfl, Nat.le_of_ble_eq_true rfl⟩) hP hD hS hA kI_0 (fun _ H locs hP hD hS => ?_)
            refine lv_i2l hx hb dX10_moved_115 rfl ?_
            obtain rfl := Option.some.inj hf
            exact hQ () 116 _ _ _ dX10_moved_116 hP hD hS
        · have hf := if_f hf c15
          exact hJ36 _ _ _ hf hP hD hS (lv_sub hl [] rfl)
def f_X10_again_B55 (F : Nat) (a2 : Int32) (x3 : Int64) (x5 : Int64) (g_row : Nat → Int32) (rec : Int64 × Int32 → Option ((Int32 × (Nat → Int32)) ⊕ (Unit))) (x : Int64 × Int32) : Option ((Int32 × (Nat → Int32)) ⊕ (Unit)) := if a2 < x.2 then (some (.inr ())) else (ck (¬ a2.toInt64 = 0) (if (((x.1 * x3) + x5) - ((x.1 * x3) + x5) / a2.toInt64 * a2.toInt64) = (0 : Int64) then (some (.inl (x.2, g_row))) else (rec ((((x.1 * x3) + x5) - ((x.1 * x3) + x5) / a2.toInt64 * a2.toInt64), (x.2 + (1 : Int32))))))
def f_X10_again_J21 (F : Nat) (g_row : Nat → Int32) : Option (Int32 × (Nat → Int32)) := some ((-1 : Int32), g_row)
def f_X10_again (F : Nat) (a1 : Int32) (a2 : Int32) (g_base : Int32) (g_row : Nat → Int32) : Option (Int32 × (Nat → Int32)) := (f_X10_within F a1 (1 : Int32) (100000 : Int32)).bind (fun r4 => if r4 = 0 then (f_X10_again_J21 F g_row) else ((f_X10_within F a2 (1 : Int32) (20000 : Int32)).bind (fun r7 => if r7 = 0 then (f_X10_again_J21 F g_row) else ((f_X1_split F a1.toInt64 g_base g_row).bind (fun r10 => (f_X1_power F r10.1 g_base).bind (fun r13 => ck (¬ a2.toInt64 = 0) (ck (¬ a2 = 0) ((lp (f_X10_again_B55 F a2 (r13 - r13 / a2.toInt64 * a2.toInt64) (a1 - a1 / a2 * a2).toInt64 r10.2) F ((0 : Int64), (1 : Int32))).bind (fun ex18 => Sum.elim (fun r => some r) (fun er19 => some ((-4 : Int32), r10.2)) ex18)))))))))
abbrev rmX10_again : Room := { frames := 1, cells := 0, slots := 0, locals := 25 }
set_option maxHeartbeats 1000000 in
set_option maxRecDepth 100000 in
theorem c_X10_again {l : Launch} {D : va_G} {cy : Nat → ClassId} {qX : Nat → Nat} {qG : Nat → Nat} {qP : Nat → Nat} {qR : Nat → Nat} {oS : Option Nat} {oB : Option Nat} {oE : Option Nat} {oN : Option Nat} {oL : Option Nat} {x_ways : Nat → Option Nat} {g_base : Int32} {g_worth : Nat → Int32} {g_row : Nat → Int32} {g_many : Nat → Int32} {g_version : Int32} {a1 : Int32} {a2 : Int32} {F : Nat} {res : Int32 × (Nat → Int32)} (hf : f_X10_again F a1 a2 g_base g_row = some res) : kM l yX10_again wsX10_again rmX10_again D cy [.ref (qX 0), .int a1, .int a2] (gX cy qX (qG 0) (qP 0) (qR 0) oS oB oE oN oL x_ways ++ (gG cy qG g_base g_worth g_row g_many g_version)) (kQi D cy (fun _ : Unit => gX cy qX (qG 0) (qP 0) (qR 0) oS oB oE oN oL x_ways ++ (gG cy qG g_base g_worth res.2 g_many g_version)) res.1) := by
  refine kent_i (cc := cX10_again) (maxL := 10) (by decide) rfl (Nat.le_of_ble_eq_true rfl) ?_
  intro p e0 s m ar below meth c A Q ls ⟨hx, hb, hml, hr, hts, hown, hlocks, hnm⟩ hA hK hN hQ hP hD hS hl
  have hl : lv_has ls 10 [(0, .ref (qX 0)), (1, .int a1), (2, .int a2)] := hl
  have hown : s.vm.findClass RX10 = some m.cls := hown
  have fk50 : (Cond.constant RX10 50 (100000)).before ar s = true := hts _ (by decide +kernel)
  have huX10 : ∀ x ∈ u_ws RX10 TX10 9, x ∈ wsX10_again := by decide +kernel
  have fk10 : (Cond.fieldLink RX10 10 "FigurePlay" "figures" "LFigurePlay$Figures;").before ar s = true := hts _ (by decide +kernel)
  unfold f_X10_again at hf
  have hL55 : ∀ (x3 : Int64) (x5 : Int64) (g_row : Nat → Int32) (k : Nat) (x : Int64 × Int32) (ex : (Int32 × (Nat → Int32)) ⊕ (Unit)) (H : Heap) (locs : List Loc) (ls : Array Slot), lp (f_X10_again_B55 F a2 x3 x5 g_row) k x = some ex → (∀ r, ex = .inl r → r = res) → (∀ er, ex = .inr er → ∀ (H : Heap) (locs : List Loc) (ls : Array Slot), va_P D vwCl (gX cy qX (qG 0) (qP 0) (qR 0) oS oB oE oN oL x_ways ++ (gG cy qG g_base g_worth g_row g_many g_version)) H → va_D A (gX cy qX (qG 0) (qP 0) (qR 0) oS oB oE oN oL x_ways ++ (gG cy qG g_base g_worth g_row g_many g_version)) → va_S A s.heap H locs → lv_has ls 10 [] → W p l e0 rmX10_again s m ar below meth c H locs 0 0 Q (F0 m 89 ls [])) → va_P D vwCl (gX cy qX (qG 0) (qP 0) (qR 0) oS oB oE oN oL x_ways ++ (gG cy qG g_base g_worth g_row g_many g_version)) H → va_D A (gX cy qX (qG 0) (qP 0) (qR 0) oS oB oE oN oL x_ways ++ (gG cy qG g_base g_worth g_row g_many g_version)) → va_S A s.heap H locs → lv_has ls 10 [(2, .int a2), (3, .long x3), (5, .long x5), (7, .long x.1), (9, .int x.2)] → W p l e0 rmX10_again s m ar below meth c H locs 0 0 Q (F0 m 55 ls []) := by
    intro x3 x5 g_row k
    induction k with
    | zero => intro x ex H locs ls hf; exact no_some hf
    | succ k ih =>
      intro x ex H locs ls hf hret hex hP hD hS hl
      have hf : f_X10_again_B55 F a2 x3 x5 g_row (lp (f_X10_again_B55 F a2 x3 x5 g_row) k) x = some ex := hf
      unfold f_X10_again_B55 at hf
      refine lv_iload hx hb dX10_again_55 (lv_at hl 4 rfl) ?_
      refine lv_iload_n hx hb dX10_again_57 rfl (lv_at hl 0 rfl) ?_
      refine lv_icmp_gt (tgt := 89) hx hb dX10_again_58 (by decide) (fun c1 => ?_) (fun c1 => ?_)
      · have hf := if_t hf c1
        obtain rfl := Option.some.inj hf
        exact hex _ rfl _ _ _ hP hD hS (lv_sub hl [] rfl)
      · have hf := if_f hf c1
        refine lv_lload hx hb dX10_again_61 (lv_at hl 3 rfl) ?_
        refine lv_lload_n hx hb dX10_again_63 rfl (lv_at hl 1 rfl) ?_
        refine lv_lmul hx hb dX10_again_64 ?_
        refine lv_lload hx hb dX10_again_65 (lv_at hl 2 rfl) ?_
        refine lv_ladd hx hb dX10_again_67 ?_
        refine lv_iload_n hx hb dX10_again_68 rfl (lv_at hl 0 rfl) ?_
        refine lv_i2l hx hb dX10_again_69 rfl ?_
        obtain ⟨c2, hf⟩ := ck_some hf
        refine lv_lrem hx hb dX10_again_70 c2 ?_
        refine lv_lstore (lv' := [(7, .long (((x.1 * x3) + x5) - ((x.1 * x3) + x5) / a2.toInt64 * a2.toInt64)), (2, .int a2), (3, .long x3), (5, .long x5), (9, .int x.2)]) hx hb dX10_again_71 hl (by decide) rfl (fun ls hl => ?_)
        refine lv_lload hx hb dX10_again_73 (lv_at hl 0 rfl) ?_
        refine lv_lconst (v := (0 : Int64)) hx hb dX10_again_75 (by decide) ?_
        refine kl_ne (tgt := 83) hx hb dX10_again_76 dX10_again_77 (by decide) (fun c3 => ?_) (fun c3 => ?_)
        · have hf := if_f hf c3
          refine lv_iinc (v := (x.2 + (1 : Int32))) (lv' := [(9, .int (x.2 + (1 : Int32))), (7, .long (((x.1 * x3) + x5) - ((x.1 * x3) + x5) / a2.toInt64 * a2.toInt64)), (2, .int a2), (3, .long x3), (5, .long x5)]) hx hb dX10_again_83 hl (k := 4) rfl rfl (by decide) rfl (fun ls hl => ?_)
          refine lv_goto (tgt := 55) hx hb dX10_again_86 (by decide) ?_
          exact ih ((((x.1 * x3) + x5) - ((x.1 * x3) + x5) / a2.toInt64 * a2.toInt64), (x.2 + (1 : Int32))) ex _ _ _ hf hret hex hP hD hS (lv_sub hl [2, 3, 4, 1, 0] rfl)
        · have hf := if_t hf c3
          refine lv_iload hx hb dX10_again_80 (lv_at hl 4 rfl) ?_
          obtain rfl := Option.some.inj hf
          obtain rfl := hret _ rfl
          exact hQ () 82 _ _ _ dX10_again_82 hP hD hS
  have hJ21 : ∀ (g_row : Nat → Int32) (H : Heap) (locs : List Loc) (ls : Array Slot), f_X10_again_J21 F g_row = some res → va_P D vwCl (gX cy qX (qG 0) (qP 0) (qR 0) oS oB oE oN oL x_ways ++ (gG cy qG g_base g_worth g_row g_many g_version)) H → va_D A (gX cy qX (qG 0) (qP 0) (qR 0) oS oB oE oN oL x_ways ++ (gG cy qG g_base g_worth g_row g_many g_version)) → va_S A s.heap H locs → lv_has ls 10 [] → W p l e0 rmX10_again s m ar below meth c H locs 0 0 Q (F0 m 21 ls []) := by
    intro g_row H locs ls hf hP hD hS hl
    unfold f_X10_again_J21 at hf
    refine lv_iconst (v := (-1 : Int32)) hx hb dX10_again_21 (by decide) ?_
    obtain rfl := Option.some.inj hf
    exact hQ () 22 _ _ _ dX10_again_22 hP hD hS
  refine lv_iload_n hx hb dX10_again_0 rfl (lv_at hl 1 rfl) ?_
  refine lv_iconst (v := (1 : Int32)) hx hb dX10_again_1 (by decide) ?_
  refine lv_ldc (v := (100000 : Int32)) hx hb hown fk50 dX10_again_2 ?_
  obtain ⟨r4, hc5, hf⟩ := ob_some hf
  refine kc_i (k_runS ⟨hx, hb, hml, hown, hts⟩ (c_X10_within hc5) (va_cwS 3 hts gX10_again_X10_within rfl rfl rfl (by decide +kernel) ⟨Nat.le_of_ble_eq_true rfl, Nat.le_of_ble_eq_true rfl⟩) hK hN hP hD kA_0 rfl hl.1 rfl (Nat.le_of_ble_eq_true rfl) dX10_again_4 ⟨Nat.le_of_ble_eq_true rfl, Nat.le_of_ble_eq_true rfl⟩) hP hD hS hA kI_0 (fun _ H locs hP hD hS => ?_)
  refine lv_if_eq (tgt := 21) hx hb dX10_again_7 (by decide) (fun c6 => ?_) (fun c6 => ?_)
  · have hf := if_t hf c6
    exact hJ21 g_row _ _ _ hf hP hD hS (lv_sub hl [] rfl)
  · have hf := if_f hf c6
    refine lv_iload_n hx hb dX10_again_10 rfl (lv_at hl 2 rfl) ?_
    refine lv_iconst (v := (1 : Int32)) hx hb dX10_again_11 (by decide) ?_
    refine lv_sipush (v := (20000 : Int32)) hx hb dX10_again_12 (by decide) ?_
    obtain ⟨r7, hc8, hf⟩ := ob_some hf
    refine kc_i (k_runS ⟨hx, hb, hml, hown, hts⟩ (c_X10_within hc8) (va_cwS 3 hts gX10_again_X10_within rfl rfl rfl (by decide +kernel) ⟨Nat.le_of_ble_eq_true rfl, Nat.le_of_ble_eq_true rfl⟩) hK hN hP hD kA_0 rfl hl.1 rfl (Nat.le_of_ble_eq_true rfl) dX10_again_15 ⟨Nat.le_of_ble_eq_true rfl, Nat.le_of_ble_eq_true rfl⟩) hP hD hS hA kI_0 (fun _ H locs hP hD hS => ?_)
    refine lv_if_ne (tgt := 23) hx hb dX10_again_18 (by decide) (fun c9 => ?_) (fun c9 => ?_)
    · have hf := if_f hf c9
      refine lv_aload_n hx hb dX10_again_23 rfl (lv_at hl 0 rfl) ?_
      refine va_get (v := .ref (qG 0)) (D := D) (ci := 10) (C := RX10) (T := TX10) (N := 9) hx hb hts huX10 hown hK hP 0 rfl rfl 0 (by decide) fk10 (fun _ h9 => h9) rfl dX10_again_24 ?_
      refine lv_aload_n hx hb dX10_again_27 rfl (lv_at hl 0 rfl) ?_
      refine va_get (v := .ref (qG 0)) (D := D) (ci := 10) (C := RX10) (T := TX10) (N := 9) hx hb hts huX10 hown hK hP 0 rfl rfl 0 (by decide) fk10 (fun _ h9 => h9) rfl dX10_again_28 ?_
      refine lv_iload_n hx hb dX10_again_31 rfl (lv_at hl 1 rfl) ?_
      refine lv_i2l hx hb dX10_again_32 rfl ?_
      obtain ⟨r10, hc11, hf⟩ := ob_some hf
      have hI12 : kIn (gX cy qX (qG 0) (qP 0) (qR 0) oS oB oE oN oL x_ways ++ (gG cy qG g_base g_worth g_row g_many g_version)) (gG cy qG g_base g_worth g_row g_many g_version) (kpick (gX cy qX (qG 0) (qP 0) (qR 0) oS oB oE oN oL x_ways ++ (gG cy qG g_base g_worth g_row g_many g_version)) [0, 1]) (fun _ : Unit => gG cy qG g_base g_worth r10.2 g_many g_version) (fun _ : Unit => gX cy qX (qG 0) (qP 0) (qR 0) oS oB oE oN oL x_ways ++ (gG cy qG g_base g_worth r10.2 g_many g_version)) [2, 3, 4, 5] [0, 1] [0, 1, 2, 3, 4, 5] := ⟨rfl, rfl, rfl, rfl, by decide, rfl, fun _ => rfl⟩
      refine kc_i (k_run ⟨hx, hb, hml, hown, hts⟩ (c_X1_split hc11) (cwV 1 hts gX10_again_X1_split rfl rfl rfl (by decide +kernel) ⟨Nat.le_of_ble_eq_true rfl, Nat.le_of_ble_eq_true rfl⟩) hK hN hP hD ⟨hI12.1, hI12.2.2.1⟩ (ci := 1) (q0 := 0) rfl rfl rfl rfl hl.1 rfl (Nat.le_of_ble_eq_true rfl) dX10_again_33 ⟨Nat.le_of_ble_eq_true rfl, Nat.le_of_ble_eq_true rfl⟩) hP hD hS hA hI12 (fun _ H locs hP hD hS => ?_)
      obtain ⟨r13, hc14, hf⟩ := ob_some hf
      have hI15 : kIn (gX cy qX (qG 0) (qP 0) (qR 0) oS oB oE oN oL x_ways ++ (gG cy qG g_base g_worth r10.2 g_many g_version)) (gG cy qG g_base g_worth r10.2 g_many g_version) (kpick (gX cy qX (qG 0) (qP 0) (qR 0) oS oB oE oN oL x_ways ++ (gG cy qG g_base g_worth r10.2 g_many g_version)) [0, 1]) (fun _ : Unit => gG cy qG g_base g_worth r10.2 g_many g_version) (fun _ : Unit => gX cy qX (qG 0) (qP 0) (qR 0) oS oB oE oN oL x_ways ++ (gG cy qG g_base g_worth r10.2 g_many g_version)) [2, 3, 4, 5] [0, 1] [0, 1, 2, 3, 4, 5] := ⟨rfl, rfl, rfl, rfl, by decide, rfl, fun _ => rfl⟩
      refine kc_l (k_run ⟨hx, hb, hml, hown, hts⟩ (c_X1_power hc14) (cwV 1 hts gX10_again_X1_power rfl rfl rfl (by decide +kernel) ⟨Nat.le_of_ble_eq_true rfl, Nat.le_of_ble_eq_true rfl⟩) hK hN hP hD ⟨hI15.1, hI15.2.2.1⟩ (ci := 1) (q0 := 0) rfl rfl rfl rfl hl.1 rfl (Nat.le_of_ble_eq_true rfl) dX10_again_36 ⟨Nat.le_of_ble_eq_true rfl, Nat.le_of_ble_eq_true rfl⟩) hP hD hS hA hI15 (fun _ H locs hP hD hS => ?_)
      refine lv_iload_n hx hb dX10_again_39 rfl (lv_at hl 2 rfl) ?_
      refine lv_i2l hx hb dX10_again_40 rfl ?_
      obtain ⟨c16, hf⟩ := ck_some hf
      refine lv_lrem hx hb dX10_again_41 c16 ?_
      refine lv_lstore_n (lv' := [(3, .long (r13 - r13 / a2.toInt64 * a2.toInt64)), (0, .ref (qX 0)), (1, .int a1), (2, .int a2)]) hx hb dX10_again_42 rfl hl (by decide) rfl (fun ls hl => ?_)
      refine lv_iload_n hx hb dX10_again_43 rfl (lv_at hl 2 rfl) ?_
      refine lv_iload_n hx hb dX10_again_44 rfl (lv_at hl 3 rfl) ?_
      obtain ⟨c17, hf⟩ := ck_some hf
      refine lv_irem hx hb dX10_again_45 c17 ?_
      refine lv_i2l hx hb dX10_again_46 rfl ?_
      refine lv_lstore (lv' := [(5, .long (a1 - a1 / a2 * a2).toInt64), (3, .long (r13 - r13 / a2.toInt64 * a2.toInt64)), (0, .ref (qX 0)), (1, .int a1), (2, .int a2)]) hx hb dX10_again_47 hl (by decide) rfl (fun ls hl => ?_)
      refine lv_lconst (v := (0 : Int64)) hx hb dX10_again_49 (by decide) ?_
      refine lv_lstore (lv' := [(7, .long (0 : Int64)), (5, .long (a1 - a1 / a2 * a2).toInt64), (3, .long (r13 - r13 / a2.toInt64 * a2.toInt64)), (0, .ref (qX 0)), (1, .int a1), (2, .int a2)]) hx hb dX10_again_50 hl (by decide) rfl (fun ls hl => ?_)
      refine lv_iconst (v := (1 : Int32)) hx hb dX10_again_52 (by decide) ?_
      refine lv_istore (lv' := [(9, .int (1 : Int32)), (7, .long (0 : Int64)), (5, .long (a1 - a1 / a2 * a2).toInt64), (3, .long (r13 - r13 / a2.toInt64 * a2.toInt64)), (0, .ref (qX 0)), (1, .int a1), (2, .int a2)]) hx hb dX10_again_53 hl (by decide) rfl (fun ls hl => ?_)
      obtain ⟨ex18, hcl, hf⟩ := ob_some hf
      refine hL55 (r13 - r13 / a2.toInt64 * a2.toInt64) (a1 - a1 / a2 * a2).toInt64 r10.2 F ((0 : Int64), (1 : Int32)) ex18 _ _ _ hcl (fun r hr0 => ?_) (fun er19 hr0 H locs ls hP hD hS hl => ?_) hP hD hS (lv_sub hl [6, 3, 2, 1, 0] rfl)
      · subst hr0; exact Option.some.inj (sm_inl hf)
      · subst hr0
        have hf := sm_inr hf
        refine lv_bipush (v := (-4 : Int32)) hx hb dX10_again_89 (by decide) ?_
        obtain rfl := Option.some.inj hf
        exact hQ () 91 _ _ _ dX10_again_91 hP hD hS
    · have hf := if_t hf c9
      exact hJ21 g_row _ _ _ hf hP hD hS (lv_sub hl [] rfl)
def f_X10_count_J28 (F : Nat) (s0 : Int32) : Option (Int32) := some s0
def f_X10_count (F : Nat) (a1 : Int32) (g_base : Int32) (g_worth : Nat → Int32) : Option (Int32) := if a1 = 0 then (some g_base) else (if a1 = (1 : Int32) then ((f_X1_worthOfAll F g_worth).bind (fun r3 => f_X10_count_J28 F r3)) else (f_X10_count_J28 F (-1 : Int32)))
abbrev rmX10_count : Room := { frames := 1, cells := 0, slots := 0, locals := 22 }
set_option maxHeartbeats 1000000 in
set_option maxRecDepth 100000 in
theorem c_X10_count {l : Launch} {D : va_G} {cy : Nat → ClassId} {qX : Nat → Nat} {qG : Nat → Nat} {qP : Nat → Nat} {qR : Nat → Nat} {oS : Option Nat} {oB : Option Nat} {oE : Option Nat} {oN : Option Nat} {oL : Option Nat} {x_ways : Nat → Option Nat} {g_base : Int32} {g_worth : Nat → Int32} {g_row : Nat → Int32} {g_many : Nat → Int32} {g_version : Int32} {a1 : Int32} {F : Nat} {res : Int32} (hf : f_X10_count F a1 g_base g_worth = some res) : kM l yX10_count wsX10_count rmX10_count D cy [.ref (qX 0), .int a1] (gX cy qX (qG 0) (qP 0) (qR 0) oS oB oE oN oL x_ways ++ (gG cy qG g_base g_worth g_row g_many g_version)) (kQi D cy (fun _ : Unit => gX cy qX (qG 0) (qP 0) (qR 0) oS oB oE oN oL x_ways ++ (gG cy qG g_base g_worth g_row g_many g_version)) res) := by
  refine kent_i (cc := cX10_count) (maxL := 2) (by decide) rfl (Nat.le_of_ble_eq_true rfl) ?_
  intro p e0 s m ar below meth c A Q ls ⟨hx, hb, hml, hr, hts, hown, hlocks, hnm⟩ hA hK hN hQ hP hD hS hl
  have hl : lv_has ls 2 [(0, .ref (qX 0)), (1, .int a1)] := hl
  have hown : s.vm.findClass RX10 = some m.cls := hown
  have huX10 : ∀ x ∈ u_ws RX10 TX10 9, x ∈ wsX10_count := by decide +kernel
  have fk10 : (Cond.fieldLink RX10 10 "FigurePlay" "figures" "LFigurePlay$Figures;").before ar s = true := hts _ (by decide +kernel)
  have huX1 : ∀ x ∈ u_ws RX1 TX1 5, x ∈ wsX10_count := by decide +kernel
  have fk42 : (Cond.fieldLink RX10 42 "FigurePlay$Figures" "base" "I").before ar s = true := hts _ (by decide +kernel)
  unfold f_X10_count at hf
  have hJ28 : ∀ (s0 : Int32) (H : Heap) (locs : List Loc) (ls : Array Slot), f_X10_count_J28 F s0 = some res → va_P D vwCl (gX cy qX (qG 0) (qP 0) (qR 0) oS oB oE oN oL x_ways ++ (gG cy qG g_base g_worth g_row g_many g_version)) H → va_D A (gX cy qX (qG 0) (qP 0) (qR 0) oS oB oE oN oL x_ways ++ (gG cy qG g_base g_worth g_row g_many g_version)) → va_S A s.heap H locs → lv_has ls 2 [] → W p l e0 rmX10_count s m ar below meth c H locs 0 0 Q (F0 m 28 ls [.int s0]) := by
    intro s0 H locs ls hf hP hD hS hl
    unfold f_X10_count_J28 at hf
    obtain rfl := Option.some.inj hf
    exact hQ () 28 _ _ _ dX10_count_28 hP hD hS
  refine lv_iload_n hx hb dX10_count_0 rfl (lv_at hl 1 rfl) ?_
  refine lv_if_ne (tgt := 12) hx hb dX10_count_1 (by decide) (fun c1 => ?_) (fun c1 => ?_)
  · have hf := if_f hf c1
    refine lv_iload_n hx hb dX10_count_12 rfl (lv_at hl 1 rfl) ?_
    refine lv_iconst (v := (1 : Int32)) hx hb dX10_count_13 (by decide) ?_
    refine lv_icmp_ne (tgt := 27) hx hb dX10_count_14 (by decide) (fun c2 => ?_) (fun c2 => ?_)
    · have hf := if_f hf c2
      refine lv_iconst (v := (-1 : Int32)) hx hb dX10_count_27 (by decide) ?_
      exact hJ28 (-1 : Int32) _ _ _ hf hP hD hS (lv_sub hl [] rfl)
    · have hf := if_t hf c2
      refine lv_aload_n hx hb dX10_count_17 rfl (lv_at hl 0 rfl) ?_
      refine va_get (v := .ref (qG 0)) (D := D) (ci := 10) (C := RX10) (T := TX10) (N := 9) hx hb hts huX10 hown hK hP 0 rfl rfl 0 (by decide) fk10 (fun _ h9 => h9) rfl dX10_count_18 ?_
      obtain ⟨r3, hc4, hf⟩ := ob_some hf
      have hI5 : kIn (gX cy qX (qG 0) (qP 0) (qR 0) oS oB oE oN oL x_ways ++ (gG cy qG g_base g_worth g_row g_many g_version)) (gG cy qG g_base g_worth g_row g_many g_version) (kpick (gX cy qX (qG 0) (qP 0) (qR 0) oS oB oE oN oL x_ways ++ (gG cy qG g_base g_worth g_row g_many g_version)) [0, 1]) (fun _ : Unit => gG cy qG g_base g_worth g_row g_many g_version) (fun _ : Unit => gX cy qX (qG 0) (qP 0) (qR 0) oS oB oE oN oL x_ways ++ (gG cy qG g_base g_worth g_row g_many g_version)) [2, 3, 4, 5] [0, 1] [0, 1, 2, 3, 4, 5] := ⟨rfl, rfl, rfl, rfl, by decide, rfl, fun _ => rfl⟩
      refine kc_i (k_run ⟨hx, hb, hml, hown, hts⟩ (c_X1_worthOfAll hc4) (cwV 0 hts gX10_count_X1_worthOfAll rfl rfl rfl (by decide +kernel) ⟨Nat.le_of_ble_eq_true rfl, Nat.le_of_ble_eq_true rfl⟩) hK hN hP hD ⟨hI5.1, hI5.2.2.1⟩ (ci := 1) (q0 := 0) rfl rfl rfl rfl hl.1 rfl (Nat.le_of_ble_eq_true rfl) dX10_count_21 ⟨Nat.le_of_ble_eq_true rfl, Nat.le_of_ble_eq_true rfl⟩) hP hD hS hA hI5 (fun _ H locs hP hD hS => ?_)
      refine lv_goto (tgt := 28) hx hb dX10_count_24 (by decide) ?_
      exact hJ28 r3 _ _ _ hf hP hD hS (lv_sub hl [] rfl)
  · have hf := if_t hf c1
    refine lv_aload_n hx hb dX10_count_4 rfl (lv_at hl 0 rfl) ?_
    refine va_get (v := .ref (qG 0)) (D := D) (ci := 10) (C := RX10) (T := TX10) (N := 9) hx hb hts huX10 hown hK hP 0 rfl rfl 0 (by decide) fk10 (fun _ h9 => h9) rfl dX10_count_5 ?_
    refine va_get (D := D) (ci := 1) (C := RX1) (T := TX1) (N := 5) hx hb hts huX1 hown hK hP 2 rfl rfl 0 (by decide) fk42 (fun _ h9 => h9) rfl dX10_count_8 ?_
    obtain rfl := Option.some.inj hf
    exact hQ () 11 _ _ _ dX10_count_11 hP hD hS
def f_X10_figuresOfBase (F : Nat) (a1 : Int32) (g_base : Int32) : Option (Int32) := some (a1 &&& (((1 : Int32) <<< (g_base &&& 31)) - (1 : Int32)))
abbrev rmX10_figuresOfBase : Room := { frames := 0, cells := 0, slots := 0, locals := 0 }
set_option maxHeartbeats 1000000 in
set_option maxRecDepth 100000 in
theorem c_X10_figuresOfBase {l : Launch} {D : va_G} {cy : Nat → ClassId} {qX : Nat → Nat} {qG : Nat → Nat} {qP : Nat → Nat} {qR : Nat → Nat} {oS : Option Nat} {oB : Option Nat} {oE : Option Nat} {oN : Option Nat} {oL : Option Nat} {x_ways : Nat → Option Nat} {g_base : Int32} {g_worth : Nat → Int32} {g_row : Nat → Int32} {g_many : Nat → Int32} {g_version : Int32} {a1 : Int32} {F : Nat} {res : Int32} (hf : f_X10_figuresOfBase F a1 g_base = some res) : kM l yX10_figuresOfBase wsX10_figuresOfBase rmX10_figuresOfBase D cy [.ref (qX 0), .int a1] (gX cy qX (qG 0) (qP 0) (qR 0) oS oB oE oN oL x_ways ++ (gG cy qG g_base g_worth g_row g_many g_version)) (kQi D cy (fun _ : Unit => gX cy qX (qG 0) (qP 0) (qR 0) oS oB oE oN oL x_ways ++ (gG cy qG g_base g_worth g_row g_many g_version)) res) := by
  refine kent_i (cc := cX10_figuresOfBase) (maxL := 2) (by decide) rfl (Nat.le_of_ble_eq_true rfl) ?_
  intro p e0 s m ar below meth c A Q ls ⟨hx, hb, hml, hr, hts, hown, hlocks, hnm⟩ hA hK hN hQ hP hD hS hl
  have hl : lv_has ls 2 [(0, .ref (qX 0)), (1, .int a1)] := hl
  have hown : s.vm.findClass RX10 = some m.cls := hown
  have huX10 : ∀ x ∈ u_ws RX10 TX10 9, x ∈ wsX10_figuresOfBase := by decide +kernel
  have fk10 : (Cond.fieldLink RX10 10 "FigurePlay" "figures" "LFigurePlay$Figures;").before ar s = true := hts _ (by decide +kernel)
  have huX1 : ∀ x ∈ u_ws RX1 TX1 5, x ∈ wsX10_figuresOfBase := by decide +kernel
  have fk42 : (Cond.fieldLink RX10 42 "FigurePlay$Figures" "base" "I").before ar s = true := hts _ (by decide +kernel)
  unfold f_X10_figuresOfBase at hf
  refine lv_iload_n hx hb dX10_figuresOfBase_0 rfl (lv_at hl 1 rfl) ?_
  refine lv_iconst (v := (1 : Int32)) hx hb dX10_figuresOfBase_1 (by decide) ?_
  refine lv_aload_n hx hb dX10_figuresOfBase_2 rfl (lv_at hl 0 rfl) ?_
  refine va_get (v := .ref (qG 0)) (D := D) (ci := 10) (C := RX10) (T := TX10) (N := 9) hx hb hts huX10 hown hK hP 0 rfl rfl 0 (by decide) fk10 (fun _ h9 => h9) rfl dX10_figuresOfBase_3 ?_
  refine va_get (D := D) (ci := 1) (C := RX1) (T := TX1) (N := 5) hx hb hts huX1 hown hK hP 2 rfl rfl 0 (by decide) fk42 (fun _ h9 => h9) rfl dX10_figuresOfBase_6 ?_
  refine lv_ishl hx hb dX10_figuresOfBase_9 ?_
  refine lv_iconst (v := (1 : Int32)) hx hb dX10_figuresOfBase_10 (by decide) ?_
  refine lv_isub hx hb dX10_figuresOfBase_11 ?_
  refine lv_iand hx hb dX10_figuresOfBase_12 ?_
  obtain rfl := Option.some.inj hf
  exact hQ () 13 _ _ _ dX10_figuresOfBase_13 hP hD hS
def f_X10_chain_J61 (F : Nat) (s0 : Int32) (g_row : Nat → Int32) (g_many : Nat → Int32) (p_told : Nat → Int64) (p_size : Int32) (p_tail : Int32) (p_round : Int32) : Option (Int32 × (Nat → Int32) × (Nat → Int32) × (Nat → Int64) × Int32 × Int32 × Int32) := some (s0, g_row, g_many, p_told, p_size, p_tail, p_round)
def f_X10_chain_J24 (F : Nat) (g_row : Nat → Int32) (g_many : Nat → Int32) (p_told : Nat → Int64) (p_size : Int32) (p_tail : Int32) (p_round : Int32) : Option (Int32 × (Nat → Int32) × (Nat → Int32) × (Nat → Int64) × Int32 × Int32 × Int32) := some ((-1 : Int32), g_row, g_many, p_told, p_size, p_tail, p_round)
def f_X10_chain (F : Nat) (a1 : Int32) (a2 : Int64) (a4 : Int32) (g_base : Int32) (g_worth : Nat → Int32) (g_row : Nat → Int32) (g_many : Nat → Int32) (p_told : Nat → Int64) (p_size : Int32) (p_tail : Int32) (p_round : Int32) : Option (Int32 × (Nat → Int32) × (Nat → Int32) × (Nat → Int64) × Int32 × Int32 × Int32) := (f_X10_isStep F a1).bind (fun r1 => if r1 = 0 then (f_X10_chain_J24 F g_row g_many p_told p_size p_tail p_round) else ((f_X10_isNumber F a2).bind (fun r4 => if r4 = 0 then (f_X10_chain_J24 F g_row g_many p_told p_size p_tail p_round) else ((f_X10_within F a4 (0 : Int32) (1 : Int32)).bind (fun r7 => if r7 = 0 then (f_X10_chain_J24 F g_row g_many p_told p_size p_tail p_round) else ((f_X6_follow F a1 a2 g_base g_worth g_row g_many p_told p_size p_tail p_round).bind (fun r10 => if a4 = 0 then (f_X10_chain_J61 F r10.2.2.2.2.1 r10.1 r10.2.1 r10.2.2.1 r10.2.2.2.1 r10.2.2.2.2.1 r10.2.2.2.2.2) else (f_X10_chain_J61 F r10.2.2.2.2.2 r10.1 r10.2.1 r10.2.2.1 r10.2.2.2.1 r10.2.2.2.2.1 r10.2.2.2.2.2))))))))
abbrev rmX10_chain : Room := { frames := 3, cells := 0, slots := 0, locals := 81 }
set_option maxHeartbeats 1000000 in
set_option maxRecDepth 100000 in
theorem c_X10_chain {l : Launch} {D : va_G} {cy : Nat → ClassId} {qX : Nat → Nat} {qG : Nat → Nat} {qP : Nat → Nat} {qR : Nat → Nat} {oS : Option Nat} {oB : Option Nat} {oE : Option Nat} {oN : Option Nat} {oL : Option Nat} {x_ways : Nat → Option Nat} {p_told : Nat → Int64} {p_size : Int32} {p_tail : Int32} {p_round : Int32} {g_base : Int32} {g_worth : Nat → Int32} {g_row : Nat → Int32} {g_many : Nat → Int32} {g_version : Int32} {a1 : Int32} {a2 : Int64} {a4 : Int32} {F : Nat} {res : Int32 × (Nat → Int32) × (Nat → Int32) × (Nat → Int64) × Int32 × Int32 × Int32} (hf : f_X10_chain F a1 a2 a4 g_base g_worth g_row g_many p_told p_size p_tail p_round = some res) : kM l yX10_chain wsX10_chain rmX10_chain D cy [.ref (qX 0), .int a1, .long a2, .int a4] (gX cy qX (qG 0) (qP 0) (qR 0) oS oB oE oN oL x_ways ++ (gP cy qP p_told p_size p_tail p_round ++ (gG cy qG g_base g_worth g_row g_many g_version))) (kQi D cy (fun _ : Unit => gX cy qX (qG 0) (qP 0) (qR 0) oS oB oE oN oL x_ways ++ (gP cy qP res.2.2.2.1 res.2.2.2.2.1 res.2.2.2.2.2.1 res.2.2.2.2.2.2 ++ (gG cy qG g_base g_worth res.2.1 res.2.2.1 g_version))) res.1) := by
  refine kent_i (cc := cX10_chain) (maxL := 5) (by decide) rfl (Nat.le_of_ble_eq_true rfl) ?_
  intro p e0 s m ar below meth c A Q ls ⟨hx, hb, hml, hr, hts, hown, hlocks, hnm⟩ hA hK hN hQ hP hD hS hl
  have hl : lv_has ls 5 [(0, .ref (qX 0)), (1, .int a1), (2, .long a2), (4, .int a4)] := hl
  have hown : s.vm.findClass RX10 = some m.cls := hown
  have huX10 : ∀ x ∈ u_ws RX10 TX10 9, x ∈ wsX10_chain := by decide +kernel
  have fk19 : (Cond.fieldLink RX10 19 "FigurePlay" "path" "LFigurePlay$Path;").before ar s = true := hts _ (by decide +kernel)
  have fk10 : (Cond.fieldLink RX10 10 "FigurePlay" "figures" "LFigurePlay$Figures;").before ar s = true := hts _ (by decide +kernel)
  have huX6 : ∀ x ∈ u_ws RX6 TX6 4, x ∈ wsX10_chain := by decide +kernel
  have fk87 : (Cond.fieldLink RX10 87 "FigurePlay$Path" "round" "I").before ar s = true := hts _ (by decide +kernel)
  have fk84 : (Cond.fieldLink RX10 84 "FigurePlay$Path" "tail" "I").before ar s = true := hts _ (by decide +kernel)
  unfold f_X10_chain at hf
  have hJ61 : ∀ (s0 : Int32) (g_row : Nat → Int32) (g_many : Nat → Int32) (p_told : Nat → Int64) (p_size : Int32) (p_tail : Int32) (p_round : Int32) (H : Heap) (locs : List Loc) (ls : Array Slot), f_X10_chain_J61 F s0 g_row g_many p_told p_size p_tail p_round = some res → va_P D vwCl (gX cy qX (qG 0) (qP 0) (qR 0) oS oB oE oN oL x_ways ++ (gP cy qP p_told p_size p_tail p_round ++ (gG cy qG g_base g_worth g_row g_many g_version))) H → va_D A (gX cy qX (qG 0) (qP 0) (qR 0) oS oB oE oN oL x_ways ++ (gP cy qP p_told p_size p_tail p_round ++ (gG cy qG g_base g_worth g_row g_many g_version))) → va_S A s.heap H locs → lv_has ls 5 [] → W p l e0 rmX10_chain s m ar below meth c H locs 0 0 Q (F0 m 61 ls [.int s0]) := by
    intro s0 g_row g_many p_told p_size p_tail p_round H locs ls hf hP hD hS hl
    unfold f_X10_chain_J61 at hf
    obtain rfl := Option.some.inj hf
    exact hQ () 61 _ _ _ dX10_chain_61 hP hD hS
  have hJ24 : ∀ (g_row : Nat → Int32) (g_many : Nat → Int32) (p_told : Nat → Int64) (p_size : Int32) (p_tail : Int32) (p_round : Int32) (H : Heap) (locs : List Loc) (ls : Array Slot), f_X10_chain_J24 F g_row g_many p_told p_size p_tail p_round = some res → va_P D vwCl (gX cy qX (qG 0) (qP 0) (qR 0) oS oB oE oN oL x_ways ++ (gP cy qP p_told p_size p_tail p_round ++ (gG cy qG g_base g_worth g_row g_many g_version))) H → va_D A (gX cy qX (qG 0) (qP 0) (qR 0) oS oB oE oN oL x_ways ++ (gP cy qP p_told p_size p_tail p_round ++ (gG cy qG g_base g_worth g_row g_many g_version))) → va_S A s.heap H locs → lv_has ls 5 [] → W p l e0 rmX10_chain s m ar below meth c H locs 0 0 Q (F0 m 24 ls []) := by
    intro g_row g_many p_told p_size p_tail p_round H locs ls hf hP hD hS hl
    unfold f_X10_chain_J24 at hf
    refine lv_iconst (v := (-1 : Int32)) hx hb dX10_chain_24 (by decide) ?_
    obtain rfl := Option.some.inj hf
    exact hQ () 25 _ _ _ dX10_chain_25 hP hD hS
  refine lv_iload_n hx hb dX10_chain_0 rfl (lv_at hl 1 rfl) ?_
  obtain ⟨r1, hc2, hf⟩ := ob_some hf
  refine kc_i (k_runS ⟨hx, hb, hml, hown, hts⟩ (c_X10_isStep hc2) (va_cwS 1 hts gX10_chain_X10_isStep rfl rfl rfl (by decide +kernel) ⟨Nat.le_of_ble_eq_true rfl, Nat.le_of_ble_eq_true rfl⟩) hK hN hP hD kA_0 rfl hl.1 rfl (Nat.le_of_ble_eq_true rfl) dX10_chain_1 ⟨Nat.le_of_ble_eq_true rfl, Nat.le_of_ble_eq_true rfl⟩) hP hD hS hA kI_0 (fun _ H locs hP hD hS => ?_)
  refine lv_if_eq (tgt := 24) hx hb dX10_chain_4 (by decide) (fun c3 => ?_) (fun c3 => ?_)
  · have hf := if_t hf c3
    exact hJ24 g_row g_many p_told p_size p_tail p_round _ _ _ hf hP hD hS (lv_sub hl [] rfl)
  · have hf := if_f hf c3
    refine lv_lload_n hx hb dX10_chain_7 rfl (lv_at hl 2 rfl) ?_
    obtain ⟨r4, hc5, hf⟩ := ob_some hf
    refine kc_i (k_runS ⟨hx, hb, hml, hown, hts⟩ (c_X10_isNumber hc5) (va_cwS 1 hts gX10_chain_X10_isNumber rfl rfl rfl (by decide +kernel) ⟨Nat.le_of_ble_eq_true rfl, Nat.le_of_ble_eq_true rfl⟩) hK hN hP hD kA_0 rfl hl.1 rfl (Nat.le_of_ble_eq_true rfl) dX10_chain_8 ⟨Nat.le_of_ble_eq_true rfl, Nat.le_of_ble_eq_true rfl⟩) hP hD hS hA kI_0 (fun _ H locs hP hD hS => ?_)
    refine lv_if_eq (tgt := 24) hx hb dX10_chain_11 (by decide) (fun c6 => ?_) (fun c6 => ?_)
    · have hf := if_t hf c6
      exact hJ24 g_row g_many p_told p_size p_tail p_round _ _ _ hf hP hD hS (lv_sub hl [] rfl)
    · have hf := if_f hf c6
      refine lv_iload hx hb dX10_chain_14 (lv_at hl 3 rfl) ?_
      refine lv_iconst (v := (0 : Int32)) hx hb dX10_chain_16 (by decide) ?_
      refine lv_iconst (v := (1 : Int32)) hx hb dX10_chain_17 (by decide) ?_
      obtain ⟨r7, hc8, hf⟩ := ob_some hf
      refine kc_i (k_runS ⟨hx, hb, hml, hown, hts⟩ (c_X10_within hc8) (va_cwS 3 hts gX10_chain_X10_within rfl rfl rfl (by decide +kernel) ⟨Nat.le_of_ble_eq_true rfl, Nat.le_of_ble_eq_true rfl⟩) hK hN hP hD kA_0 rfl hl.1 rfl (Nat.le_of_ble_eq_true rfl) dX10_chain_18 ⟨Nat.le_of_ble_eq_true rfl, Nat.le_of_ble_eq_true rfl⟩) hP hD hS hA kI_0 (fun _ H locs hP hD hS => ?_)
      refine lv_if_ne (tgt := 26) hx hb dX10_chain_21 (by decide) (fun c9 => ?_) (fun c9 => ?_)
      · have hf := if_f hf c9
        refine lv_aload_n hx hb dX10_chain_26 rfl (lv_at hl 0 rfl) ?_
        refine va_get (v := .ref (qP 0)) (D := D) (ci := 10) (C := RX10) (T := TX10) (N := 9) hx hb hts huX10 hown hK hP 0 rfl rfl 1 (by decide) fk19 (fun _ h9 => h9) rfl dX10_chain_27 ?_
        refine lv_aload_n hx hb dX10_chain_30 rfl (lv_at hl 0 rfl) ?_
        refine va_get (v := .ref (qG 0)) (D := D) (ci := 10) (C := RX10) (T := TX10) (N := 9) hx hb hts huX10 hown hK hP 0 rfl rfl 0 (by decide) fk10 (fun _ h9 => h9) rfl dX10_chain_31 ?_
        refine lv_iload_n hx hb dX10_chain_34 rfl (lv_at hl 1 rfl) ?_
        refine lv_lload_n hx hb dX10_chain_35 rfl (lv_at hl 2 rfl) ?_
        obtain ⟨r10, hc11, hf⟩ := ob_some hf
        have hI12 : kIn (gX cy qX (qG 0) (qP 0) (qR 0) oS oB oE oN oL x_ways ++ (gP cy qP p_told p_size p_tail p_round ++ (gG cy qG g_base g_worth g_row g_many g_version))) (gP cy qP p_told p_size p_tail p_round ++ (gG cy qG g_base g_worth g_row g_many g_version)) (kpick (gX cy qX (qG 0) (qP 0) (qR 0) oS oB oE oN oL x_ways ++ (gP cy qP p_told p_size p_tail p_round ++ (gG cy qG g_base g_worth g_row g_many g_version))) [0, 1]) (fun _ : Unit => gP cy qP r10.2.2.1 r10.2.2.2.1 r10.2.2.2.2.1 r10.2.2.2.2.2 ++ (gG cy qG g_base g_worth r10.1 r10.2.1 g_version)) (fun _ : Unit => gX cy qX (qG 0) (qP 0) (qR 0) oS oB oE oN oL x_ways ++ (gP cy qP r10.2.2.1 r10.2.2.2.1 r10.2.2.2.2.1 r10.2.2.2.2.2 ++ (gG cy qG g_base g_worth r10.1 r10.2.1 g_version))) [2, 3, 4, 5, 6, 7] [0, 1] [0, 1, 2, 3, 4, 5, 6, 7] := ⟨rfl, rfl, rfl, rfl, by decide, rfl, fun _ => rfl⟩
        refine kc_v (k_run ⟨hx, hb, hml, hown, hts⟩ (c_X6_follow hc11) (cwV 3 hts gX10_chain_X6_follow rfl rfl rfl (by decide +kernel) ⟨Nat.le_of_ble_eq_true rfl, Nat.le_of_ble_eq_true rfl⟩) hK hN hP hD ⟨hI12.1, hI12.2.2.1⟩ (ci := 6) (q0 := 0) rfl rfl rfl rfl hl.1 rfl (Nat.le_of_ble_eq_true rfl) dX10_chain_36 ⟨Nat.le_of_ble_eq_true rfl, Nat.le_of_ble_eq_true rfl⟩) hP hD hS hA hI12 (fun _ H locs hP hD hS => ?_)
        refine lv_iload hx hb dX10_chain_39 (lv_at hl 3 rfl) ?_
        refine lv_if_ne (tgt := 54) hx hb dX10_chain_41 (by decide) (fun c13 => ?_) (fun c13 => ?_)
        · have hf := if_f hf c13
          refine lv_aload_n hx hb dX10_chain_54 rfl (lv_at hl 0 rfl) ?_
          refine va_get (v := .ref (qP 0)) (D := D) (ci := 10) (C := RX10) (T := TX10) (N := 9) hx hb hts huX10 hown hK hP 0 rfl rfl 1 (by decide) fk19 (fun _ h9 => h9) rfl dX10_chain_55 ?_
          refine va_get (D := D) (ci := 6) (C := RX6) (T := TX6) (N := 4) hx hb hts huX6 hown hK hP 2 rfl rfl 3 (by decide) fk87 (fun _ h9 => h9) rfl dX10_chain_58 ?_
          exact hJ61 r10.2.2.2.2.2 r10.1 r10.2.1 r10.2.2.1 r10.2.2.2.1 r10.2.2.2.2.1 r10.2.2.2.2.2 _ _ _ hf hP hD hS (lv_sub hl [] rfl)
        · have hf := if_t hf c13
          refine lv_aload_n hx hb dX10_chain_44 rfl (lv_at hl 0 rfl) ?_
          refine va_get (v := .ref (qP 0)) (D := D) (ci := 10) (C := RX10) (T := TX10) (N := 9) hx hb hts huX10 hown hK hP 0 rfl rfl 1 (by decide) fk19 (fun _ h9 => h9) rfl dX10_chain_45 ?_
          refine va_get (D := D) (ci := 6) (C := RX6) (T := TX6) (N := 4) hx hb hts huX6 hown hK hP 2 rfl rfl 2 (by decide) fk84 (fun _ h9 => h9) rfl dX10_chain_48 ?_
          refine lv_goto (tgt := 61) hx hb dX10_chain_51 (by decide) ?_
          exact hJ61 r10.2.2.2.2.1 r10.1 r10.2.1 r10.2.2.1 r10.2.2.2.1 r10.2.2.2.2.1 r10.2.2.2.2.2 _ _ _ hf hP hD hS (lv_sub hl [] rfl)
      · have hf := if_t hf c9
        exact hJ24 g_row g_many p_told p_size p_tail p_round _ _ _ hf hP hD hS (lv_sub hl [] rfl)
def f_X10_chained_J19 (F : Nat) (g_row : Nat → Int32) (g_many : Nat → Int32) (p_told : Nat → Int64) (p_size : Int32) (p_tail : Int32) (p_round : Int32) : Option (Int64 × (Nat → Int32) × (Nat → Int32) × (Nat → Int64) × Int32 × Int32 × Int32) := some ((-1 : Int64), g_row, g_many, p_told, p_size, p_tail, p_round)
def f_X10_chained (F : Nat) (a1 : Int32) (a2 : Int64) (a4 : Int32) (g_base : Int32) (g_worth : Nat → Int32) (g_row : Nat → Int32) (g_many : Nat → Int32) (p_told : Nat → Int64) (p_size : Int32) (p_tail : Int32) (p_round : Int32) : Option (Int64 × (Nat → Int32) × (Nat → Int32) × (Nat → Int64) × Int32 × Int32 × Int32) := (f_X10_isStep F a1).bind (fun r1 => if r1 = 0 then (f_X10_chained_J19 F g_row g_many p_told p_size p_tail p_round) else ((f_X10_isNumber F a2).bind (fun r4 => if r4 = 0 then (f_X10_chained_J19 F g_row g_many p_told p_size p_tail p_round) else (if 0 ≤ a4 then ((f_X6_follow F a1 a2 g_base g_worth g_row g_many p_told p_size p_tail p_round).bind (fun r8 => (f_X6_numberAt F a4 r8.2.2.1 r8.2.2.2.1 r8.2.2.2.2.1 r8.2.2.2.2.2).bind (fun r11 => some (r11, r8.1, r8.2.1, r8.2.2.1, r8.2.2.2.1, r8.2.2.2.2.1, r8.2.2.2.2.2)))) else (f_X10_chained_J19 F g_row g_many p_told p_size p_tail p_round)))))
abbrev rmX10_chained : Room := { frames := 3, cells := 0, slots := 0, locals := 81 }
set_option maxHeartbeats 1000000 in
set_option maxRecDepth 100000 in
theorem c_X10_chained {l : Launch} {D : va_G} {cy : Nat → ClassId} {qX : Nat → Nat} {qG : Nat → Nat} {qP : Nat → Nat} {qR : Nat → Nat} {oS : Option Nat} {oB : Option Nat} {oE : Option Nat} {oN : Option Nat} {oL : Option Nat} {x_ways : Nat → Option Nat} {p_told : Nat → Int64} {p_size : Int32} {p_tail : Int32} {p_round : Int32} {g_base : Int32} {g_worth : Nat → Int32} {g_row : Nat → Int32} {g_many : Nat → Int32} {g_version : Int32} {a1 : Int32} {a2 : Int64} {a4 : Int32} {F : Nat} {res : Int64 × (Nat → Int32) × (Nat → Int32) × (Nat → Int64) × Int32 × Int32 × Int32} (hf : f_X10_chained F a1 a2 a4 g_base g_worth g_row g_many p_told p_size p_tail p_round = some res) : kM l yX10_chained wsX10_chained rmX10_chained D cy [.ref (qX 0), .int a1, .long a2, .int a4] (gX cy qX (qG 0) (qP 0) (qR 0) oS oB oE oN oL x_ways ++ (gP cy qP p_told p_size p_tail p_round ++ (gG cy qG g_base g_worth g_row g_many g_version))) (kQl D cy (fun _ : Unit => gX cy qX (qG 0) (qP 0) (qR 0) oS oB oE oN oL x_ways ++ (gP cy qP res.2.2.2.1 res.2.2.2.2.1 res.2.2.2.2.2.1 res.2.2.2.2.2.2 ++ (gG cy qG g_base g_worth res.2.1 res.2.2.1 g_version))) res.1) := by
  refine kent_l (cc := cX10_chained) (maxL := 5) (by decide) rfl (Nat.le_of_ble_eq_true rfl) ?_
  intro p e0 s m ar below meth c A Q ls ⟨hx, hb, hml, hr, hts, hown, hlocks, hnm⟩ hA hK hN hQ hP hD hS hl
  have hl : lv_has ls 5 [(0, .ref (qX 0)), (1, .int a1), (2, .long a2), (4, .int a4)] := hl
  have hown : s.vm.findClass RX10 = some m.cls := hown
  have fk74 : (Cond.constantLong RX10 74 (-1)).before ar s = true := hts _ (by decide +kernel)
  have huX10 : ∀ x ∈ u_ws RX10 TX10 9, x ∈ wsX10_chained := by decide +kernel
  have fk19 : (Cond.fieldLink RX10 19 "FigurePlay" "path" "LFigurePlay$Path;").before ar s = true := hts _ (by decide +kernel)
  have fk10 : (Cond.fieldLink RX10 10 "FigurePlay" "figures" "LFigurePlay$Figures;").before ar s = true := hts _ (by decide +kernel)
  unfold f_X10_chained at hf
  have hJ19 : ∀ (g_row : Nat → Int32) (g_many : Nat → Int32) (p_told : Nat → Int64) (p_size : Int32) (p_tail : Int32) (p_round : Int32) (H : Heap) (locs : List Loc) (ls : Array Slot), f_X10_chained_J19 F g_row g_many p_told p_size p_tail p_round = some res → va_P D vwCl (gX cy qX (qG 0) (qP 0) (qR 0) oS oB oE oN oL x_ways ++ (gP cy qP p_told p_size p_tail p_round ++ (gG cy qG g_base g_worth g_row g_many g_version))) H → va_D A (gX cy qX (qG 0) (qP 0) (qR 0) oS oB oE oN oL x_ways ++ (gP cy qP p_told p_size p_tail p_round ++ (gG cy qG g_base g_worth g_row g_many g_version))) → va_S A s.heap H locs → lv_has ls 5 [] → W p l e0 rmX10_chained s m ar below meth c H locs 0 0 Q (F0 m 19 ls []) := by
    intro g_row g_many p_told p_size p_tail p_round H locs ls hf hP hD hS hl
    unfold f_X10_chained_J19 at hf
    refine lv_ldc2 (v := (-1 : Int64)) hx hb hown fk74 dX10_chained_19 ?_
    obtain rfl := Option.some.inj hf
    exact hQ () 22 _ _ _ dX10_chained_22 hP hD hS
  refine lv_iload_n hx hb dX10_chained_0 rfl (lv_at hl 1 rfl) ?_
  obtain ⟨r1, hc2, hf⟩ := ob_some hf
  refine kc_i (k_runS ⟨hx, hb, hml, hown, hts⟩ (c_X10_isStep hc2) (va_cwS 1 hts gX10_chained_X10_isStep rfl rfl rfl (by decide +kernel) ⟨Nat.le_of_ble_eq_true rfl, Nat.le_of_ble_eq_true rfl⟩) hK hN hP hD kA_0 rfl hl.1 rfl (Nat.le_of_ble_eq_true rfl) dX10_chained_1 ⟨Nat.le_of_ble_eq_true rfl, Nat.le_of_ble_eq_true rfl⟩) hP hD hS hA kI_0 (fun _ H locs hP hD hS => ?_)
  refine lv_if_eq (tgt := 19) hx hb dX10_chained_4 (by decide) (fun c3 => ?_) (fun c3 => ?_)
  · have hf := if_t hf c3
    exact hJ19 g_row g_many p_told p_size p_tail p_round _ _ _ hf hP hD hS (lv_sub hl [] rfl)
  · have hf := if_f hf c3
    refine lv_lload_n hx hb dX10_chained_7 rfl (lv_at hl 2 rfl) ?_
    obtain ⟨r4, hc5, hf⟩ := ob_some hf
    refine kc_i (k_runS ⟨hx, hb, hml, hown, hts⟩ (c_X10_isNumber hc5) (va_cwS 1 hts gX10_chained_X10_isNumber rfl rfl rfl (by decide +kernel) ⟨Nat.le_of_ble_eq_true rfl, Nat.le_of_ble_eq_true rfl⟩) hK hN hP hD kA_0 rfl hl.1 rfl (Nat.le_of_ble_eq_true rfl) dX10_chained_8 ⟨Nat.le_of_ble_eq_true rfl, Nat.le_of_ble_eq_true rfl⟩) hP hD hS hA kI_0 (fun _ H locs hP hD hS => ?_)
    refine lv_if_eq (tgt := 19) hx hb dX10_chained_11 (by decide) (fun c6 => ?_) (fun c6 => ?_)
    · have hf := if_t hf c6
      exact hJ19 g_row g_many p_told p_size p_tail p_round _ _ _ hf hP hD hS (lv_sub hl [] rfl)
    · have hf := if_f hf c6
      refine lv_iload hx hb dX10_chained_14 (lv_at hl 3 rfl) ?_
      refine lv_if_ge (tgt := 23) hx hb dX10_chained_16 (by decide) (fun c7 => ?_) (fun c7 => ?_)
      · have hf := if_t hf c7
        refine lv_aload_n hx hb dX10_chained_23 rfl (lv_at hl 0 rfl) ?_
        refine va_get (v := .ref (qP 0)) (D := D) (ci := 10) (C := RX10) (T := TX10) (N := 9) hx hb hts huX10 hown hK hP 0 rfl rfl 1 (by decide) fk19 (fun _ h9 => h9) rfl dX10_chained_24 ?_
        refine lv_aload_n hx hb dX10_chained_27 rfl (lv_at hl 0 rfl) ?_
        refine va_get (v := .ref (qG 0)) (D := D) (ci := 10) (C := RX10) (T := TX10) (N := 9) hx hb hts huX10 hown hK hP 0 rfl rfl 0 (by decide) fk10 (fun _ h9 => h9) rfl dX10_chained_28 ?_
        refine lv_iload_n hx hb dX10_chained_31 rfl (lv_at hl 1 rfl) ?_
        refine lv_lload_n hx hb dX10_chained_32 rfl (lv_at hl 2 rfl) ?_
        obtain ⟨r8, hc9, hf⟩ := ob_some hf
        have hI10 : kIn (gX cy qX (qG 0) (qP 0) (qR 0) oS oB oE oN oL x_ways ++ (gP cy qP p_told p_size p_tail p_round ++ (gG cy qG g_base g_worth g_row g_many g_version))) (gP cy qP p_told p_size p_tail p_round ++ (gG cy qG g_base g_worth g_row g_many g_version)) (kpick (gX cy qX (qG 0) (qP 0) (qR 0) oS oB oE oN oL x_ways ++ (gP cy qP p_told p_size p_tail p_round ++ (gG cy qG g_base g_worth g_row g_many g_version))) [0, 1]) (fun _ : Unit => gP cy qP r8.2.2.1 r8.2.2.2.1 r8.2.2.2.2.1 r8.2.2.2.2.2 ++ (gG cy qG g_base g_worth r8.1 r8.2.1 g_version)) (fun _ : Unit => gX cy qX (qG 0) (qP 0) (qR 0) oS oB oE oN oL x_ways ++ (gP cy qP r8.2.2.1 r8.2.2.2.1 r8.2.2.2.2.1 r8.2.2.2.2.2 ++ (gG cy qG g_base g_worth r8.1 r8.2.1 g_version))) [2, 3, 4, 5, 6, 7] [0, 1] [0, 1, 2, 3, 4, 5, 6, 7] := ⟨rfl, rfl, rfl, rfl, by decide, rfl, fun _ => rfl⟩
        refine kc_v (k_run ⟨hx, hb, hml, hown, hts⟩ (c_X6_follow hc9) (cwV 3 hts gX10_chained_X6_follow rfl rfl rfl (by decide +kernel) ⟨Nat.le_of_ble_eq_true rfl, Nat.le_of_ble_eq_true rfl⟩) hK hN hP hD ⟨hI10.1, hI10.2.2.1⟩ (ci := 6) (q0 := 0) rfl rfl rfl rfl hl.1 rfl (Nat.le_of_ble_eq_true rfl) dX10_chained_33 ⟨Nat.le_of_ble_eq_true rfl, Nat.le_of_ble_eq_true rfl⟩) hP hD hS hA hI10 (fun _ H locs hP hD hS => ?_)
        refine lv_aload_n hx hb dX10_chained_36 rfl (lv_at hl 0 rfl) ?_
        refine va_get (v := .ref (qP 0)) (D := D) (ci := 10) (C := RX10) (T := TX10) (N := 9) hx hb hts huX10 hown hK hP 0 rfl rfl 1 (by decide) fk19 (fun _ h9 => h9) rfl dX10_chained_37 ?_
        refine lv_iload hx hb dX10_chained_40 (lv_at hl 3 rfl) ?_
        obtain ⟨r11, hc12, hf⟩ := ob_some hf
        have hI13 : kIn (gX cy qX (qG 0) (qP 0) (qR 0) oS oB oE oN oL x_ways ++ (gP cy qP r8.2.2.1 r8.2.2.2.1 r8.2.2.2.2.1 r8.2.2.2.2.2 ++ (gG cy qG g_base g_worth r8.1 r8.2.1 g_version))) (gP cy qP r8.2.2.1 r8.2.2.2.1 r8.2.2.2.2.1 r8.2.2.2.2.2) (kpick (gX cy qX (qG 0) (qP 0) (qR 0) oS oB oE oN oL x_ways ++ (gP cy qP r8.2.2.1 r8.2.2.2.1 r8.2.2.2.2.1 r8.2.2.2.2.2 ++ (gG cy qG g_base g_worth r8.1 r8.2.1 g_version))) [0, 1, 4, 5, 6, 7]) (fun _ : Unit => gP cy qP r8.2.2.1 r8.2.2.2.1 r8.2.2.2.2.1 r8.2.2.2.2.2) (fun _ : Unit => gX cy qX (qG 0) (qP 0) (qR 0) oS oB oE oN oL x_ways ++ (gP cy qP r8.2.2.1 r8.2.2.2.1 r8.2.2.2.2.1 r8.2.2.2.2.2 ++ (gG cy qG g_base g_worth r8.1 r8.2.1 g_version))) [2, 3] [0, 1, 4, 5, 6, 7] [0, 1, 6, 7, 2, 3, 4, 5] := ⟨rfl, rfl, rfl, rfl, by decide, rfl, fun _ => rfl⟩
        refine kc_l (k_run ⟨hx, hb, hml, hown, hts⟩ (c_X6_numberAt hc12) (cwV 1 hts gX10_chained_X6_numberAt rfl rfl rfl (by decide +kernel) ⟨Nat.le_of_ble_eq_true rfl, Nat.le_of_ble_eq_true rfl⟩) hK hN hP hD ⟨hI13.1, hI13.2.2.1⟩ (ci := 6) (q0 := 0) rfl rfl rfl rfl hl.1 rfl (Nat.le_of_ble_eq_true rfl) dX10_chained_42 ⟨Nat.le_of_ble_eq_true rfl, Nat.le_of_ble_eq_true rfl⟩) hP hD hS hA hI13 (fun _ H locs hP hD hS => ?_)
        obtain rfl := Option.some.inj hf
        exact hQ () 45 _ _ _ dX10_chained_45 hP hD hS
      · have hf := if_f hf c7
        exact hJ19 g_row g_many p_told p_size p_tail p_round _ _ _ hf hP hD hS (lv_sub hl [] rfl)
def f_X10_alike_J25 (F : Nat) (s0 : Int32) (g_row : Nat → Int32) : Option (Int32 × (Nat → Int32)) := some (s0, g_row)
def f_X10_alike (F : Nat) (a1 : Int64) (g_base : Int32) (g_row : Nat → Int32) : Option (Int32 × (Nat → Int32)) := (f_X10_isNumber F a1).bind (fun r1 => if r1 = 0 then (some ((-1 : Int32), g_row)) else ((f_X3_isMirror F a1 g_base g_row).bind (fun r4 => if r4.1 = 0 then (f_X10_alike_J25 F (0 : Int32) r4.2) else (f_X10_alike_J25 F (1 : Int32) r4.2))))
abbrev rmX10_alike : Room := { frames := 2, cells := 0, slots := 0, locals := 49 }
set_option maxHeartbeats 1000000 in
set_option maxRecDepth 100000 in
theorem c_X10_alike {l : Launch} {D : va_G} {cy : Nat → ClassId} {qX : Nat → Nat} {qG : Nat → Nat} {qP : Nat → Nat} {qR : Nat → Nat} {oS : Option Nat} {oB : Option Nat} {oE : Option Nat} {oN : Option Nat} {oL : Option Nat} {x_ways : Nat → Option Nat} {g_base : Int32} {g_worth : Nat → Int32} {g_row : Nat → Int32} {g_many : Nat → Int32} {g_version : Int32} {a1 : Int64} {F : Nat} {res : Int32 × (Nat → Int32)} (hf : f_X10_alike F a1 g_base g_row = some res) : kM l yX10_alike wsX10_alike rmX10_alike D cy [.ref (qX 0), .long a1] (gX cy qX (qG 0) (qP 0) (qR 0) oS oB oE oN oL x_ways ++ (gR cy qR (qG 0) ++ (gG cy qG g_base g_worth g_row g_many g_version))) (kQi D cy (fun _ : Unit => gX cy qX (qG 0) (qP 0) (qR 0) oS oB oE oN oL x_ways ++ (gR cy qR (qG 0) ++ (gG cy qG g_base g_worth res.2 g_many g_version))) res.1) := by
  refine kent_i (cc := cX10_alike) (maxL := 3) (by decide) rfl (Nat.le_of_ble_eq_true rfl) ?_
  intro p e0 s m ar below meth c A Q ls ⟨hx, hb, hml, hr, hts, hown, hlocks, hnm⟩ hA hK hN hQ hP hD hS hl
  have hl : lv_has ls 3 [(0, .ref (qX 0)), (1, .long a1)] := hl
  have hown : s.vm.findClass RX10 = some m.cls := hown
  have huX10 : ∀ x ∈ u_ws RX10 TX10 9, x ∈ wsX10_alike := by decide +kernel
  have fk28 : (Cond.fieldLink RX10 28 "FigurePlay" "mirrors" "LFigurePlay$Mirrors;").before ar s = true := hts _ (by decide +kernel)
  unfold f_X10_alike at hf
  have hJ25 : ∀ (s0 : Int32) (g_row : Nat → Int32) (H : Heap) (locs : List Loc) (ls : Array Slot), f_X10_alike_J25 F s0 g_row = some res → va_P D vwCl (gX cy qX (qG 0) (qP 0) (qR 0) oS oB oE oN oL x_ways ++ (gR cy qR (qG 0) ++ (gG cy qG g_base g_worth g_row g_many g_version))) H → va_D A (gX cy qX (qG 0) (qP 0) (qR 0) oS oB oE oN oL x_ways ++ (gR cy qR (qG 0) ++ (gG cy qG g_base g_worth g_row g_many g_version))) → va_S A s.heap H locs → lv_has ls 3 [] → W p l e0 rmX10_alike s m ar below meth c H locs 0 0 Q (F0 m 25 ls [.int s0]) := by
    intro s0 g_row H locs ls hf hP hD hS hl
    unfold f_X10_alike_J25 at hf
    obtain rfl := Option.some.inj hf
    exact hQ () 25 _ _ _ dX10_alike_25 hP hD hS
  refine lv_lload_n hx hb dX10_alike_0 rfl (lv_at hl 1 rfl) ?_
  obtain ⟨r1, hc2, hf⟩ := ob_some hf
  refine kc_i (k_runS ⟨hx, hb, hml, hown, hts⟩ (c_X10_isNumber hc2) (va_cwS 1 hts gX10_alike_X10_isNumber rfl rfl rfl (by decide +kernel) ⟨Nat.le_of_ble_eq_true rfl, Nat.le_of_ble_eq_true rfl⟩) hK hN hP hD kA_0 rfl hl.1 rfl (Nat.le_of_ble_eq_true rfl) dX10_alike_1 ⟨Nat.le_of_ble_eq_true rfl, Nat.le_of_ble_eq_true rfl⟩) hP hD hS hA kI_0 (fun _ H locs hP hD hS => ?_)
  refine lv_if_ne (tgt := 9) hx hb dX10_alike_4 (by decide) (fun c3 => ?_) (fun c3 => ?_)
  · have hf := if_f hf c3
    refine lv_aload_n hx hb dX10_alike_9 rfl (lv_at hl 0 rfl) ?_
    refine va_get (v := .ref (qR 0)) (D := D) (ci := 10) (C := RX10) (T := TX10) (N := 9) hx hb hts huX10 hown hK hP 0 rfl rfl 2 (by decide) fk28 (fun _ h9 => h9) rfl dX10_alike_10 ?_
    refine lv_lload_n hx hb dX10_alike_13 rfl (lv_at hl 1 rfl) ?_
    obtain ⟨r4, hc5, hf⟩ := ob_some hf
    have hI6 : kIn (gX cy qX (qG 0) (qP 0) (qR 0) oS oB oE oN oL x_ways ++ (gR cy qR (qG 0) ++ (gG cy qG g_base g_worth g_row g_many g_version))) (gR cy qR (qG 0) ++ (gG cy qG g_base g_worth g_row g_many g_version)) (kpick (gX cy qX (qG 0) (qP 0) (qR 0) oS oB oE oN oL x_ways ++ (gR cy qR (qG 0) ++ (gG cy qG g_base g_worth g_row g_many g_version))) [0, 1]) (fun _ : Unit => gR cy qR (qG 0) ++ (gG cy qG g_base g_worth r4.2 g_many g_version)) (fun _ : Unit => gX cy qX (qG 0) (qP 0) (qR 0) oS oB oE oN oL x_ways ++ (gR cy qR (qG 0) ++ (gG cy qG g_base g_worth r4.2 g_many g_version))) [2, 3, 4, 5, 6] [0, 1] [0, 1, 2, 3, 4, 5, 6] := ⟨rfl, rfl, rfl, rfl, by decide, rfl, fun _ => rfl⟩
    refine kc_i (k_run ⟨hx, hb, hml, hown, hts⟩ (c_X3_isMirror hc5) (cwV 1 hts gX10_alike_X3_isMirror rfl rfl rfl (by decide +kernel) ⟨Nat.le_of_ble_eq_true rfl, Nat.le_of_ble_eq_true rfl⟩) hK hN hP hD ⟨hI6.1, hI6.2.2.1⟩ (ci := 3) (q0 := 0) rfl rfl rfl rfl hl.1 rfl (Nat.le_of_ble_eq_true rfl) dX10_alike_14 ⟨Nat.le_of_ble_eq_true rfl, Nat.le_of_ble_eq_true rfl⟩) hP hD hS hA hI6 (fun _ H locs hP hD hS => ?_)
    refine lv_if_eq (tgt := 24) hx hb dX10_alike_17 (by decide) (fun c7 => ?_) (fun c7 => ?_)
    · have hf := if_t hf c7
      refine lv_iconst (v := (0 : Int32)) hx hb dX10_alike_24 (by decide) ?_
      exact hJ25 (0 : Int32) r4.2 _ _ _ hf hP hD hS (lv_sub hl [] rfl)
    · have hf := if_f hf c7
      refine lv_iconst (v := (1 : Int32)) hx hb dX10_alike_20 (by decide) ?_
      refine lv_goto (tgt := 25) hx hb dX10_alike_21 (by decide) ?_
      exact hJ25 (1 : Int32) r4.2 _ _ _ hf hP hD hS (lv_sub hl [] rfl)
  · have hf := if_t hf c3
    refine lv_iconst (v := (-1 : Int32)) hx hb dX10_alike_7 (by decide) ?_
    obtain rfl := Option.some.inj hf
    exact hQ () 8 _ _ _ dX10_alike_8 hP hD hS
def f_X10_alikes_J21 (F : Nat) (s0 : Int64) (g_row : Nat → Int32) : Option (Int64 × (Nat → Int32)) := some (s0, g_row)
def f_X10_alikes (F : Nat) (a1 : Int64) (g_base : Int32) (g_row : Nat → Int32) : Option (Int64 × (Nat → Int32)) := (f_X10_isNumber F a1).bind (fun r1 => if r1 = 0 then (f_X10_alikes_J21 F (-1 : Int64) g_row) else ((f_X3_manyTo F a1 g_base g_row).bind (fun r4 => f_X10_alikes_J21 F r4.1 r4.2)))
abbrev rmX10_alikes : Room := { frames := 4, cells := 0, slots := 0, locals := 94 }
set_option maxHeartbeats 1000000 in
set_option maxRecDepth 100000 in
theorem c_X10_alikes {l : Launch} {D : va_G} {cy : Nat → ClassId} {qX : Nat → Nat} {qG : Nat → Nat} {qP : Nat → Nat} {qR : Nat → Nat} {oS : Option Nat} {oB : Option Nat} {oE : Option Nat} {oN : Option Nat} {oL : Option Nat} {x_ways : Nat → Option Nat} {g_base : Int32} {g_worth : Nat → Int32} {g_row : Nat → Int32} {g_many : Nat → Int32} {g_version : Int32} {a1 : Int64} {F : Nat} {res : Int64 × (Nat → Int32)} (hf : f_X10_alikes F a1 g_base g_row = some res) : kM l yX10_alikes wsX10_alikes rmX10_alikes D cy [.ref (qX 0), .long a1] (gX cy qX (qG 0) (qP 0) (qR 0) oS oB oE oN oL x_ways ++ (gR cy qR (qG 0) ++ (gG cy qG g_base g_worth g_row g_many g_version))) (kQl D cy (fun _ : Unit => gX cy qX (qG 0) (qP 0) (qR 0) oS oB oE oN oL x_ways ++ (gR cy qR (qG 0) ++ (gG cy qG g_base g_worth res.2 g_many g_version))) res.1) := by
  refine kent_l (cc := cX10_alikes) (maxL := 3) (by decide) rfl (Nat.le_of_ble_eq_true rfl) ?_
  intro p e0 s m ar below meth c A Q ls ⟨hx, hb, hml, hr, hts, hown, hlocks, hnm⟩ hA hK hN hQ hP hD hS hl
  have hl : lv_has ls 3 [(0, .ref (qX 0)), (1, .long a1)] := hl
  have hown : s.vm.findClass RX10 = some m.cls := hown
  have fk74 : (Cond.constantLong RX10 74 (-1)).before ar s = true := hts _ (by decide +kernel)
  have huX10 : ∀ x ∈ u_ws RX10 TX10 9, x ∈ wsX10_alikes := by decide +kernel
  have fk28 : (Cond.fieldLink RX10 28 "FigurePlay" "mirrors" "LFigurePlay$Mirrors;").before ar s = true := hts _ (by decide +kernel)
  unfold f_X10_alikes at hf
  have hJ21 : ∀ (s0 : Int64) (g_row : Nat → Int32) (H : Heap) (locs : List Loc) (ls : Array Slot), f_X10_alikes_J21 F s0 g_row = some res → va_P D vwCl (gX cy qX (qG 0) (qP 0) (qR 0) oS oB oE oN oL x_ways ++ (gR cy qR (qG 0) ++ (gG cy qG g_base g_worth g_row g_many g_version))) H → va_D A (gX cy qX (qG 0) (qP 0) (qR 0) oS oB oE oN oL x_ways ++ (gR cy qR (qG 0) ++ (gG cy qG g_base g_worth g_row g_many g_version))) → va_S A s.heap H locs → lv_has ls 3 [] → W p l e0 rmX10_alikes s m ar below meth c H locs 0 0 Q (F0 m 21 ls [.long s0]) := by
    intro s0 g_row H locs ls hf hP hD hS hl
    unfold f_X10_alikes_J21 at hf
    obtain rfl := Option.some.inj hf
    exact hQ () 21 _ _ _ dX10_alikes_21 hP hD hS
  refine lv_lload_n hx hb dX10_alikes_0 rfl (lv_at hl 1 rfl) ?_
  obtain ⟨r1, hc2, hf⟩ := ob_some hf
  refine kc_i (k_runS ⟨hx, hb, hml, hown, hts⟩ (c_X10_isNumber hc2) (va_cwS 1 hts gX10_alikes_X10_isNumber rfl rfl rfl (by decide +kernel) ⟨Nat.le_of_ble_eq_true rfl, Nat.le_of_ble_eq_true rfl⟩) hK hN hP hD kA_0 rfl hl.1 rfl (Nat.le_of_ble_eq_true rfl) dX10_alikes_1 ⟨Nat.le_of_ble_eq_true rfl, Nat.le_of_ble_eq_true rfl⟩) hP hD hS hA kI_0 (fun _ H locs hP hD hS => ?_)
  refine lv_if_eq (tgt := 18) hx hb dX10_alikes_4 (by decide) (fun c3 => ?_) (fun c3 => ?_)
  · have hf := if_t hf c3
    refine lv_ldc2 (v := (-1 : Int64)) hx hb hown fk74 dX10_alikes_18 ?_
    exact hJ21 (-1 : Int64) g_row _ _ _ hf hP hD hS (lv_sub hl [] rfl)
  · have hf := if_f hf c3
    refine lv_aload_n hx hb dX10_alikes_7 rfl (lv_at hl 0 rfl) ?_
    refine va_get (v := .ref (qR 0)) (D := D) (ci := 10) (C := RX10) (T := TX10) (N := 9) hx hb hts huX10 hown hK hP 0 rfl rfl 2 (by decide) fk28 (fun _ h9 => h9) rfl dX10_alikes_8 ?_
    refine lv_lload_n hx hb dX10_alikes_11 rfl (lv_at hl 1 rfl) ?_
    obtain ⟨r4, hc5, hf⟩ := ob_some hf
    have hI6 : kIn (gX cy qX (qG 0) (qP 0) (qR 0) oS oB oE oN oL x_ways ++ (gR cy qR (qG 0) ++ (gG cy qG g_base g_worth g_row g_many g_version))) (gR cy qR (qG 0) ++ (gG cy qG g_base g_worth g_row g_many g_version)) (kpick (gX cy qX (qG 0) (qP 0) (qR 0) oS oB oE oN oL x_ways ++ (gR cy qR (qG 0) ++ (gG cy qG g_base g_worth g_row g_many g_version))) [0, 1]) (fun _ : Unit => gR cy qR (qG 0) ++ (gG cy qG g_base g_worth r4.2 g_many g_version)) (fun _ : Unit => gX cy qX (qG 0) (qP 0) (qR 0) oS oB oE oN oL x_ways ++ (gR cy qR (qG 0) ++ (gG cy qG g_base g_worth r4.2 g_many g_version))) [2, 3, 4, 5, 6] [0, 1] [0, 1, 2, 3, 4, 5, 6] := ⟨rfl, rfl, rfl, rfl, by decide, rfl, fun _ => rfl⟩
    refine kc_l (k_run ⟨hx, hb, hml, hown, hts⟩ (c_X3_manyTo hc5) (cwV 1 hts gX10_alikes_X3_manyTo rfl rfl rfl (by decide +kernel) ⟨Nat.le_of_ble_eq_true rfl, Nat.le_of_ble_eq_true rfl⟩) hK hN hP hD ⟨hI6.1, hI6.2.2.1⟩ (ci := 3) (q0 := 0) rfl rfl rfl rfl hl.1 rfl (Nat.le_of_ble_eq_true rfl) dX10_alikes_12 ⟨Nat.le_of_ble_eq_true rfl, Nat.le_of_ble_eq_true rfl⟩) hP hD hS hA hI6 (fun _ H locs hP hD hS => ?_)
    refine lv_goto (tgt := 21) hx hb dX10_alikes_15 (by decide) ?_
    exact hJ21 r4.1 r4.2 _ _ _ hf hP hD hS (lv_sub hl [] rfl)
def f_X10_alikeAt_J20 (F : Nat) (s0 : Int64) (g_row : Nat → Int32) : Option (Int64 × (Nat → Int32)) := some (s0, g_row)
def f_X10_alikeAt (F : Nat) (a1 : Int64) (g_base : Int32) (g_row : Nat → Int32) : Option (Int64 × (Nat → Int32)) := if a1 < (0 : Int64) then (f_X10_alikeAt_J20 F (-1 : Int64) g_row) else ((f_X3_at F a1 g_base g_row).bind (fun r2 => f_X10_alikeAt_J20 F r2.1 r2.2))
abbrev rmX10_alikeAt : Room := { frames := 4, cells := 0, slots := 0, locals := 94 }
set_option maxHeartbeats 1000000 in
set_option maxRecDepth 100000 in
theorem c_X10_alikeAt {l : Launch} {D : va_G} {cy : Nat → ClassId} {qX : Nat → Nat} {qG : Nat → Nat} {qP : Nat → Nat} {qR : Nat → Nat} {oS : Option Nat} {oB : Option Nat} {oE : Option Nat} {oN : Option Nat} {oL : Option Nat} {x_ways : Nat → Option Nat} {g_base : Int32} {g_worth : Nat → Int32} {g_row : Nat → Int32} {g_many : Nat → Int32} {g_version : Int32} {a1 : Int64} {F : Nat} {res : Int64 × (Nat → Int32)} (hf : f_X10_alikeAt F a1 g_base g_row = some res) : kM l yX10_alikeAt wsX10_alikeAt rmX10_alikeAt D cy [.ref (qX 0), .long a1] (gX cy qX (qG 0) (qP 0) (qR 0) oS oB oE oN oL x_ways ++ (gR cy qR (qG 0) ++ (gG cy qG g_base g_worth g_row g_many g_version))) (kQl D cy (fun _ : Unit => gX cy qX (qG 0) (qP 0) (qR 0) oS oB oE oN oL x_ways ++ (gR cy qR (qG 0) ++ (gG cy qG g_base g_worth res.2 g_many g_version))) res.1) := by
  refine kent_l (cc := cX10_alikeAt) (maxL := 3) (by decide) rfl (Nat.le_of_ble_eq_true rfl) ?_
  intro p e0 s m ar below meth c A Q ls ⟨hx, hb, hml, hr, hts, hown, hlocks, hnm⟩ hA hK hN hQ hP hD hS hl
  have hl : lv_has ls 3 [(0, .ref (qX 0)), (1, .long a1)] := hl
  have hown : s.vm.findClass RX10 = some m.cls := hown
  have fk74 : (Cond.constantLong RX10 74 (-1)).before ar s = true := hts _ (by decide +kernel)
  have huX10 : ∀ x ∈ u_ws RX10 TX10 9, x ∈ wsX10_alikeAt := by decide +kernel
  have fk28 : (Cond.fieldLink RX10 28 "FigurePlay" "mirrors" "LFigurePlay$Mirrors;").before ar s = true := hts _ (by decide +kernel)
  unfold f_X10_alikeAt at hf
  have hJ20 : ∀ (s0 : Int64) (g_row : Nat → Int32) (H : Heap) (locs : List Loc) (ls : Array Slot), f_X10_alikeAt_J20 F s0 g_row = some res → va_P D vwCl (gX cy qX (qG 0) (qP 0) (qR 0) oS oB oE oN oL x_ways ++ (gR cy qR (qG 0) ++ (gG cy qG g_base g_worth g_row g_many g_version))) H → va_D A (gX cy qX (qG 0) (qP 0) (qR 0) oS oB oE oN oL x_ways ++ (gR cy qR (qG 0) ++ (gG cy qG g_base g_worth g_row g_many g_version))) → va_S A s.heap H locs → lv_has ls 3 [] → W p l e0 rmX10_alikeAt s m ar below meth c H locs 0 0 Q (F0 m 20 ls [.long s0]) := by
    intro s0 g_row H locs ls hf hP hD hS hl
    unfold f_X10_alikeAt_J20 at hf
    obtain rfl := Option.some.inj hf
    exact hQ () 20 _ _ _ dX10_alikeAt_20 hP hD hS
  refine lv_lload_n hx hb dX10_alikeAt_0 rfl (lv_at hl 1 rfl) ?_
  refine lv_lconst (v := (0 : Int64)) hx hb dX10_alikeAt_1 (by decide) ?_
  refine kl_lt (tgt := 17) hx hb dX10_alikeAt_2 dX10_alikeAt_3 (by decide) (fun c1 => ?_) (fun c1 => ?_)
  · have hf := if_t hf c1
    refine lv_ldc2 (v := (-1 : Int64)) hx hb hown fk74 dX10_alikeAt_17 ?_
    exact hJ20 (-1 : Int64) g_row _ _ _ hf hP hD hS (lv_sub hl [] rfl)
  · have hf := if_f hf c1
    refine lv_aload_n hx hb dX10_alikeAt_6 rfl (lv_at hl 0 rfl) ?_
    refine va_get (v := .ref (qR 0)) (D := D) (ci := 10) (C := RX10) (T := TX10) (N := 9) hx hb hts huX10 hown hK hP 0 rfl rfl 2 (by decide) fk28 (fun _ h9 => h9) rfl dX10_alikeAt_7 ?_
    refine lv_lload_n hx hb dX10_alikeAt_10 rfl (lv_at hl 1 rfl) ?_
    obtain ⟨r2, hc3, hf⟩ := ob_some hf
    have hI4 : kIn (gX cy qX (qG 0) (qP 0) (qR 0) oS oB oE oN oL x_ways ++ (gR cy qR (qG 0) ++ (gG cy qG g_base g_worth g_row g_many g_version))) (gR cy qR (qG 0) ++ (gG cy qG g_base g_worth g_row g_many g_version)) (kpick (gX cy qX (qG 0) (qP 0) (qR 0) oS oB oE oN oL x_ways ++ (gR cy qR (qG 0) ++ (gG cy qG g_base g_worth g_row g_many g_version))) [0, 1]) (fun _ : Unit => gR cy qR (qG 0) ++ (gG cy qG g_base g_worth r2.2 g_many g_version)) (fun _ : Unit => gX cy qX (qG 0) (qP 0) (qR 0) oS oB oE oN oL x_ways ++ (gR cy qR (qG 0) ++ (gG cy qG g_base g_worth r2.2 g_many g_version))) [2, 3, 4, 5, 6] [0, 1] [0, 1, 2, 3, 4, 5, 6] := ⟨rfl, rfl, rfl, rfl, by decide, rfl, fun _ => rfl⟩
    refine kc_l (k_run ⟨hx, hb, hml, hown, hts⟩ (c_X3_at hc3) (cwV 1 hts gX10_alikeAt_X3_at rfl rfl rfl (by decide +kernel) ⟨Nat.le_of_ble_eq_true rfl, Nat.le_of_ble_eq_true rfl⟩) hK hN hP hD ⟨hI4.1, hI4.2.2.1⟩ (ci := 3) (q0 := 0) rfl rfl rfl rfl hl.1 rfl (Nat.le_of_ble_eq_true rfl) dX10_alikeAt_11 ⟨Nat.le_of_ble_eq_true rfl, Nat.le_of_ble_eq_true rfl⟩) hP hD hS hA hI4 (fun _ H locs hP hD hS => ?_)
    refine lv_goto (tgt := 20) hx hb dX10_alikeAt_14 (by decide) ?_
    exact hJ20 r2.1 r2.2 _ _ _ hf hP hD hS (lv_sub hl [] rfl)
def f_X10_next_J21 (F : Nat) (s0 : Int64) (g_row : Nat → Int32) : Option (Int64 × (Nat → Int32)) := some (s0, g_row)
def f_X10_next (F : Nat) (a1 : Int64) (g_base : Int32) (g_row : Nat → Int32) : Option (Int64 × (Nat → Int32)) := (f_X10_isNumber F a1).bind (fun r1 => if r1 = 0 then (f_X10_next_J21 F (-1 : Int64) g_row) else ((f_X3_leastFrom F a1 g_base g_row).bind (fun r4 => f_X10_next_J21 F r4.1 r4.2)))
abbrev rmX10_next : Room := { frames := 2, cells := 0, slots := 0, locals := 55 }
set_option maxHeartbeats 1000000 in
set_option maxRecDepth 100000 in
theorem c_X10_next {l : Launch} {D : va_G} {cy : Nat → ClassId} {qX : Nat → Nat} {qG : Nat → Nat} {qP : Nat → Nat} {qR : Nat → Nat} {oS : Option Nat} {oB : Option Nat} {oE : Option Nat} {oN : Option Nat} {oL : Option Nat} {x_ways : Nat → Option Nat} {g_base : Int32} {g_worth : Nat → Int32} {g_row : Nat → Int32} {g_many : Nat → Int32} {g_version : Int32} {a1 : Int64} {F : Nat} {res : Int64 × (Nat → Int32)} (hf : f_X10_next F a1 g_base g_row = some res) : kM l yX10_next wsX10_next rmX10_next D cy [.ref (qX 0), .long a1] (gX cy qX (qG 0) (qP 0) (qR 0) oS oB oE oN oL x_ways ++ (gR cy qR (qG 0) ++ (gG cy qG g_base g_worth g_row g_many g_version))) (kQl D cy (fun _ : Unit => gX cy qX (qG 0) (qP 0) (qR 0) oS oB oE oN oL x_ways ++ (gR cy qR (qG 0) ++ (gG cy qG g_base g_worth res.2 g_many g_version))) res.1) := by
  refine kent_l (cc := cX10_next) (maxL := 3) (by decide) rfl (Nat.le_of_ble_eq_true rfl) ?_
  intro p e0 s m ar below meth c A Q ls ⟨hx, hb, hml, hr, hts, hown, hlocks, hnm⟩ hA hK hN hQ hP hD hS hl
  have hl : lv_has ls 3 [(0, .ref (qX 0)), (1, .long a1)] := hl
  have hown : s.vm.findClass RX10 = some m.cls := hown
  have fk74 : (Cond.constantLong RX10 74 (-1)).before ar s = true := hts _ (by decide +kernel)
  have huX10 : ∀ x ∈ u_ws RX10 TX10 9, x ∈ wsX10_next := by decide +kernel
  have fk28 : (Cond.fieldLink RX10 28 "FigurePlay" "mirrors" "LFigurePlay$Mirrors;").before ar s = true := hts _ (by decide +kernel)
  unfold f_X10_next at hf
  have hJ21 : ∀ (s0 : Int64) (g_row : Nat → Int32) (H : Heap) (locs : List Loc) (ls : Array Slot), f_X10_next_J21 F s0 g_row = some res → va_P D vwCl (gX cy qX (qG 0) (qP 0) (qR 0) oS oB oE oN oL x_ways ++ (gR cy qR (qG 0) ++ (gG cy qG g_base g_worth g_row g_many g_version))) H → va_D A (gX cy qX (qG 0) (qP 0) (qR 0) oS oB oE oN oL x_ways ++ (gR cy qR (qG 0) ++ (gG cy qG g_base g_worth g_row g_many g_version))) → va_S A s.heap H locs → lv_has ls 3 [] → W p l e0 rmX10_next s m ar below meth c H locs 0 0 Q (F0 m 21 ls [.long s0]) := by
    intro s0 g_row H locs ls hf hP hD hS hl
    unfold f_X10_next_J21 at hf
    obtain rfl := Option.some.inj hf
    exact hQ () 21 _ _ _ dX10_next_21 hP hD hS
  refine lv_lload_n hx hb dX10_next_0 rfl (lv_at hl 1 rfl) ?_
  obtain ⟨r1, hc2, hf⟩ := ob_some hf
  refine kc_i (k_runS ⟨hx, hb, hml, hown, hts⟩ (c_X10_isNumber hc2) (va_cwS 1 hts gX10_next_X10_isNumber rfl rfl rfl (by decide +kernel) ⟨Nat.le_of_ble_eq_true rfl, Nat.le_of_ble_eq_true rfl⟩) hK hN hP hD kA_0 rfl hl.1 rfl (Nat.le_of_ble_eq_true rfl) dX10_next_1 ⟨Nat.le_of_ble_eq_true rfl, Nat.le_of_ble_eq_true rfl⟩) hP hD hS hA kI_0 (fun _ H locs hP hD hS => ?_)
  refine lv_if_eq (tgt := 18) hx hb dX10_next_4 (by decide) (fun c3 => ?_) (fun c3 => ?_)
  · have hf := if_t hf c3
    refine lv_ldc2 (v := (-1 : Int64)) hx hb hown fk74 dX10_next_18 ?_
    exact hJ21 (-1 : Int64) g_row _ _ _ hf hP hD hS (lv_sub hl [] rfl)
  · have hf := if_f hf c3
    refine lv_aload_n hx hb dX10_next_7 rfl (lv_at hl 0 rfl) ?_
    refine va_get (v := .ref (qR 0)) (D := D) (ci := 10) (C := RX10) (T := TX10) (N := 9) hx hb hts huX10 hown hK hP 0 rfl rfl 2 (by decide) fk28 (fun _ h9 => h9) rfl dX10_next_8 ?_
    refine lv_lload_n hx hb dX10_next_11 rfl (lv_at hl 1 rfl) ?_
    obtain ⟨r4, hc5, hf⟩ := ob_some hf
    have hI6 : kIn (gX cy qX (qG 0) (qP 0) (qR 0) oS oB oE oN oL x_ways ++ (gR cy qR (qG 0) ++ (gG cy qG g_base g_worth g_row g_many g_version))) (gR cy qR (qG 0) ++ (gG cy qG g_base g_worth g_row g_many g_version)) (kpick (gX cy qX (qG 0) (qP 0) (qR 0) oS oB oE oN oL x_ways ++ (gR cy qR (qG 0) ++ (gG cy qG g_base g_worth g_row g_many g_version))) [0, 1]) (fun _ : Unit => gR cy qR (qG 0) ++ (gG cy qG g_base g_worth r4.2 g_many g_version)) (fun _ : Unit => gX cy qX (qG 0) (qP 0) (qR 0) oS oB oE oN oL x_ways ++ (gR cy qR (qG 0) ++ (gG cy qG g_base g_worth r4.2 g_many g_version))) [2, 3, 4, 5, 6] [0, 1] [0, 1, 2, 3, 4, 5, 6] := ⟨rfl, rfl, rfl, rfl, by decide, rfl, fun _ => rfl⟩
    refine kc_l (k_run ⟨hx, hb, hml, hown, hts⟩ (c_X3_leastFrom hc5) (cwV 1 hts gX10_next_X3_leastFrom rfl rfl rfl (by decide +kernel) ⟨Nat.le_of_ble_eq_true rfl, Nat.le_of_ble_eq_true rfl⟩) hK hN hP hD ⟨hI6.1, hI6.2.2.1⟩ (ci := 3) (q0 := 0) rfl rfl rfl rfl hl.1 rfl (Nat.le_of_ble_eq_true rfl) dX10_next_12 ⟨Nat.le_of_ble_eq_true rfl, Nat.le_of_ble_eq_true rfl⟩) hP hD hS hA hI6 (fun _ H locs hP hD hS => ?_)
    refine lv_goto (tgt := 21) hx hb dX10_next_15 (by decide) ?_
    exact hJ21 r4.1 r4.2 _ _ _ hf hP hD hS (lv_sub hl [] rfl)
def f_X10_made_P (F : Nat) (a1 : Int32) (g_base : Int32) (g_row : Nat → Int32) (b_base : Int32) (b_alone : Nat → Int32) (b_size : Int32) (b_byTwo : Nat → Int32) : Option (Int32 × (Nat → Int32) × Int32 × (Nat → Int32) × Int32 × (Nat → Int32)) := (f_X10_within F a1 (1 : Int32) (10000 : Int32)).bind (fun r1 => if r1 = 0 then (some ((-1 : Int32), g_row, b_base, b_alone, b_size, b_byTwo)) else ((f_X5_fewestFor F a1 g_base g_row b_base b_alone b_size b_byTwo).bind (fun r4 => some (r4.1, r4.2.1, r4.2.2.1, r4.2.2.2.1, r4.2.2.2.2.1, r4.2.2.2.2.2))))
abbrev rmX10_made_P : Room := { frames := 6, cells := 0, slots := 0, locals := 138 }
set_option maxHeartbeats 1000000 in
set_option maxRecDepth 100000 in
theorem c_X10_made_P {l : Launch} {D : va_G} {cy : Nat → ClassId} {qX : Nat → Nat} {qG : Nat → Nat} {qP : Nat → Nat} {qR : Nat → Nat} {qB : Nat → Nat} {oS : Option Nat} {oE : Option Nat} {oN : Option Nat} {oL : Option Nat} {x_ways : Nat → Option Nat} {b_base : Int32} {b_alone : Nat → Int32} {b_size : Int32} {b_byTwo : Nat → Int32} {g_base : Int32} {g_worth : Nat → Int32} {g_row : Nat → Int32} {g_many : Nat → Int32} {g_version : Int32} {a1 : Int32} {F : Nat} {res : Int32 × (Nat → Int32) × Int32 × (Nat → Int32) × Int32 × (Nat → Int32)} (hf : f_X10_made_P F a1 g_base g_row b_base b_alone b_size b_byTwo = some res) : kM l yX10_made wsX10_made rmX10_made_P D cy [.ref (qX 0), .int a1] (gX cy qX (qG 0) (qP 0) (qR 0) oS (some (qB 0)) oE oN oL x_ways ++ (gB cy qB (qR 0) b_base b_alone b_size b_byTwo ++ (gR cy qR (qG 0) ++ (gG cy qG g_base g_worth g_row g_many g_version)))) (kQi D cy (fun _ : Unit => gX cy qX (qG 0) (qP 0) (qR 0) oS (some (qB 0)) oE oN oL x_ways ++ (gB cy qB (qR 0) res.2.2.1 res.2.2.2.1 res.2.2.2.2.1 res.2.2.2.2.2 ++ (gR cy qR (qG 0) ++ (gG cy qG g_base g_worth res.2.1 g_many g_version)))) res.1) := by
  refine kent_i (cc := cX10_made) (maxL := 2) (by decide) rfl (Nat.le_of_ble_eq_true rfl) ?_
  intro p e0 s m ar below meth c A Q ls ⟨hx, hb, hml, hr, hts, hown, hlocks, hnm⟩ hA hK hN hQ hP hD hS hl
  have hl : lv_has ls 2 [(0, .ref (qX 0)), (1, .int a1)] := hl
  have hown : s.vm.findClass RX10 = some m.cls := hown
  have huX10 : ∀ x ∈ u_ws RX10 TX10 9, x ∈ wsX10_made := by decide +kernel
  have fk154 : (Cond.fieldLink RX10 154 "FigurePlay" "parts" "LFigurePlay$Parts;").before ar s = true := hts _ (by decide +kernel)
  unfold f_X10_made_P at hf
  refine lv_iload_n hx hb dX10_made_0 rfl (lv_at hl 1 rfl) ?_
  refine lv_iconst (v := (1 : Int32)) hx hb dX10_made_1 (by decide) ?_
  refine lv_sipush (v := (10000 : Int32)) hx hb dX10_made_2 (by decide) ?_
  obtain ⟨r1, hc2, hf⟩ := ob_some hf
  refine kc_i (k_runS ⟨hx, hb, hml, hown, hts⟩ (c_X10_within hc2) (va_cwS 3 hts gX10_made_X10_within rfl rfl rfl (by decide +kernel) ⟨Nat.le_of_ble_eq_true rfl, Nat.le_of_ble_eq_true rfl⟩) hK hN hP hD kA_0 rfl hl.1 rfl (Nat.le_of_ble_eq_true rfl) dX10_made_5 ⟨Nat.le_of_ble_eq_true rfl, Nat.le_of_ble_eq_true rfl⟩) hP hD hS hA kI_0 (fun _ H locs hP hD hS => ?_)
  refine lv_if_ne (tgt := 13) hx hb dX10_made_8 (by decide) (fun c3 => ?_) (fun c3 => ?_)
  · have hf := if_f hf c3
    refine lv_aload_n hx hb dX10_made_13 rfl (lv_at hl 0 rfl) ?_
    refine va_get (v := .ref (qB 0)) (D := D) (ci := 10) (C := RX10) (T := TX10) (N := 9) hx hb hts huX10 hown hK hP 0 rfl rfl 5 (by decide) fk154 (fun _ h9 => h9) rfl dX10_made_14 ?_
    refine lv_ifnonnull (tgt := 35) hx hb dX10_made_17 (by decide) ?_
    refine lv_aload_n hx hb dX10_made_35 rfl (lv_at hl 0 rfl) ?_
    refine va_get (v := .ref (qB 0)) (D := D) (ci := 10) (C := RX10) (T := TX10) (N := 9) hx hb hts huX10 hown hK hP 0 rfl rfl 5 (by decide) fk154 (fun _ h9 => h9) rfl dX10_made_36 ?_
    refine lv_iload_n hx hb dX10_made_39 rfl (lv_at hl 1 rfl) ?_
    obtain ⟨r4, hc5, hf⟩ := ob_some hf
    have hI6 : kIn (gX cy qX (qG 0) (qP 0) (qR 0) oS (some (qB 0)) oE oN oL x_ways ++ (gB cy qB (qR 0) b_base b_alone b_size b_byTwo ++ (gR cy qR (qG 0) ++ (gG cy qG g_base g_worth g_row g_many g_version)))) (gB cy qB (qR 0) b_base b_alone b_size b_byTwo ++ (gR cy qR (qG 0) ++ (gG cy qG g_base g_worth g_row g_many g_version))) (kpick (gX cy qX (qG 0) (qP 0) (qR 0) oS (some (qB 0)) oE oN oL x_ways ++ (gB cy qB (qR 0) b_base b_alone b_size b_byTwo ++ (gR cy qR (qG 0) ++ (gG cy qG g_base g_worth g_row g_many g_version)))) [0, 1]) (fun _ : Unit => gB cy qB (qR 0) r4.2.2.1 r4.2.2.2.1 r4.2.2.2.2.1 r4.2.2.2.2.2 ++ (gR cy qR (qG 0) ++ (gG cy qG g_base g_worth r4.2.1 g_many g_version))) (fun _ : Unit => gX cy qX (qG 0) (qP 0) (qR 0) oS (some (qB 0)) oE oN oL x_ways ++ (gB cy qB (qR 0) r4.2.2.1 r4.2.2.2.1 r4.2.2.2.2.1 r4.2.2.2.2.2 ++ (gR cy qR (qG 0) ++ (gG cy qG g_base g_worth r4.2.1 g_many g_version)))) [2, 3, 4, 5, 6, 7, 8, 9] [0, 1] [0, 1, 2, 3, 4, 5, 6, 7, 8, 9] := ⟨rfl, rfl, rfl, rfl, by decide, rfl, fun _ => rfl⟩
    refine kc_i (k_run ⟨hx, hb, hml, hown, hts⟩ (c_X5_fewestFor hc5) (cwV 1 hts gX10_made_X5_fewestFor rfl rfl rfl (by decide +kernel) ⟨Nat.le_of_ble_eq_true rfl, Nat.le_of_ble_eq_true rfl⟩) hK hN hP hD ⟨hI6.1, hI6.2.2.1⟩ (ci := 5) (q0 := 0) rfl rfl rfl rfl hl.1 rfl (Nat.le_of_ble_eq_true rfl) dX10_made_40 ⟨Nat.le_of_ble_eq_true rfl, Nat.le_of_ble_eq_true rfl⟩) hP hD hS hA hI6 (fun _ H locs hP hD hS => ?_)
    obtain rfl := Option.some.inj hf
    exact hQ () 43 _ _ _ dX10_made_43 hP hD hS
  · have hf := if_t hf c3
    refine lv_iconst (v := (-1 : Int32)) hx hb dX10_made_11 (by decide) ?_
    obtain rfl := Option.some.inj hf
    exact hQ () 12 _ _ _ dX10_made_12 hP hD hS
def f_X10_searched_P (F : Nat) (a1 : Int32) (a2 : Int32) (a3 : Int32) (a4 : Int32) (g_base : Int32) (e_queue : Nat → Int32) (e_from : Nat → Int32) (e_allowed : Nat → Int32) (e_allowedSize : Int32) (e_kind : Int32) (e_base : Int32) (e_n : Int32) (e_want : Int32) (e_rules : Int32) (e_queued : Int32) (e_goal : Int32) (e_length : Int32) : Option (Int32 × (Nat → Int32) × (Nat → Int32) × (Nat → Int32) × Int32 × Int32 × Int32 × Int32 × Int32 × Int32 × Int32 × Int32 × Int32) := (f_X7_seek F a1 g_base a2 a3 e_queue e_from e_allowed e_allowedSize e_kind e_base e_n e_want e_rules e_queued e_goal e_length).bind (fun r1 => (f_X7_figureAt F a4 r1.2.1 r1.2.2.2.2.2.2.2.2.2.2.1 r1.2.2.2.2.2.2.2.2.2.2.2).bind (fun r4 => some (r4, r1.1, r1.2.1, r1.2.2.1, r1.2.2.2.1, r1.2.2.2.2.1, r1.2.2.2.2.2.1, r1.2.2.2.2.2.2.1, r1.2.2.2.2.2.2.2.1, r1.2.2.2.2.2.2.2.2.1, r1.2.2.2.2.2.2.2.2.2.1, r1.2.2.2.2.2.2.2.2.2.2.1, r1.2.2.2.2.2.2.2.2.2.2.2)))
abbrev rmX10_searched_P : Room := { frames := 4, cells := 0, slots := 0, locals := 95 }
set_option maxHeartbeats 1000000 in
set_option maxRecDepth 100000 in
theorem c_X10_searched_P {l : Launch} {D : va_G} {cy : Nat → ClassId} {qX : Nat → Nat} {qG : Nat → Nat} {qP : Nat → Nat} {qR : Nat → Nat} {qE : Nat → Nat} {oS : Option Nat} {oB : Option Nat} {oN : Option Nat} {oL : Option Nat} {x_ways : Nat → Option Nat} {e_queue : Nat → Int32} {e_from : Nat → Int32} {e_allowed : Nat → Int32} {e_allowedSize : Int32} {e_kind : Int32} {e_base : Int32} {e_n : Int32} {e_want : Int32} {e_rules : Int32} {e_queued : Int32} {e_goal : Int32} {e_length : Int32} {g_base : Int32} {g_worth : Nat → Int32} {g_row : Nat → Int32} {g_many : Nat → Int32} {g_version : Int32} {a1 : Int32} {a2 : Int32} {a3 : Int32} {a4 : Int32} {F : Nat} {res : Int32 × (Nat → Int32) × (Nat → Int32) × (Nat → Int32) × Int32 × Int32 × Int32 × Int32 × Int32 × Int32 × Int32 × Int32 × Int32} (hf : f_X10_searched_P F a1 a2 a3 a4 g_base e_queue e_from e_allowed e_allowedSize e_kind e_base e_n e_want e_rules e_queued e_goal e_length = some res) : kM l yX10_searched wsX10_searched rmX10_searched_P D cy [.ref (qX 0), .int a1, .int a2, .int a3, .int a4] (gX cy qX (qG 0) (qP 0) (qR 0) oS oB (some (qE 0)) oN oL x_ways ++ (gE cy qE e_queue e_from e_allowed e_allowedSize e_kind e_base e_n e_want e_rules e_queued e_goal e_length ++ (gG cy qG g_base g_worth g_row g_many g_version))) (kQi D cy (fun _ : Unit => gX cy qX (qG 0) (qP 0) (qR 0) oS oB (some (qE 0)) oN oL x_ways ++ (gE cy qE res.2.1 res.2.2.1 res.2.2.2.1 res.2.2.2.2.1 res.2.2.2.2.2.1 res.2.2.2.2.2.2.1 res.2.2.2.2.2.2.2.1 res.2.2.2.2.2.2.2.2.1 res.2.2.2.2.2.2.2.2.2.1 res.2.2.2.2.2.2.2.2.2.2.1 res.2.2.2.2.2.2.2.2.2.2.2.1 res.2.2.2.2.2.2.2.2.2.2.2.2 ++ (gG cy qG g_base g_worth g_row g_many g_version))) res.1) := by
  refine kent_i (cc := cX10_searched) (maxL := 5) (by decide) rfl (Nat.le_of_ble_eq_true rfl) ?_
  intro p e0 s m ar below meth c A Q ls ⟨hx, hb, hml, hr, hts, hown, hlocks, hnm⟩ hA hK hN hQ hP hD hS hl
  have hl : lv_has ls 5 [(0, .ref (qX 0)), (1, .int a1), (2, .int a2), (3, .int a3), (4, .int a4)] := hl
  have hown : s.vm.findClass RX10 = some m.cls := hown
  have huX10 : ∀ x ∈ u_ws RX10 TX10 9, x ∈ wsX10_searched := by decide +kernel
  have fk247 : (Cond.fieldLink RX10 247 "FigurePlay" "search" "LFigurePlay$Search;").before ar s = true := hts _ (by decide +kernel)
  have fk10 : (Cond.fieldLink RX10 10 "FigurePlay" "figures" "LFigurePlay$Figures;").before ar s = true := hts _ (by decide +kernel)
  have huX1 : ∀ x ∈ u_ws RX1 TX1 5, x ∈ wsX10_searched := by decide +kernel
  have fk42 : (Cond.fieldLink RX10 42 "FigurePlay$Figures" "base" "I").before ar s = true := hts _ (by decide +kernel)
  unfold f_X10_searched_P at hf
  refine lv_aload_n hx hb dX10_searched_0 rfl (lv_at hl 0 rfl) ?_
  refine va_get (v := .ref (qE 0)) (D := D) (ci := 10) (C := RX10) (T := TX10) (N := 9) hx hb hts huX10 hown hK hP 0 rfl rfl 6 (by decide) fk247 (fun _ h9 => h9) rfl dX10_searched_1 ?_
  refine lv_ifnonnull (tgt := 18) hx hb dX10_searched_4 (by decide) ?_
  refine lv_aload_n hx hb dX10_searched_18 rfl (lv_at hl 0 rfl) ?_
  refine va_get (v := .ref (qE 0)) (D := D) (ci := 10) (C := RX10) (T := TX10) (N := 9) hx hb hts huX10 hown hK hP 0 rfl rfl 6 (by decide) fk247 (fun _ h9 => h9) rfl dX10_searched_19 ?_
  refine lv_iload_n hx hb dX10_searched_22 rfl (lv_at hl 1 rfl) ?_
  refine lv_aload_n hx hb dX10_searched_23 rfl (lv_at hl 0 rfl) ?_
  refine va_get (v := .ref (qG 0)) (D := D) (ci := 10) (C := RX10) (T := TX10) (N := 9) hx hb hts huX10 hown hK hP 0 rfl rfl 0 (by decide) fk10 (fun _ h9 => h9) rfl dX10_searched_24 ?_
  refine va_get (D := D) (ci := 1) (C := RX1) (T := TX1) (N := 5) hx hb hts huX1 hown hK hP 6 rfl rfl 0 (by decide) fk42 (fun _ h9 => h9) rfl dX10_searched_27 ?_
  refine lv_iload_n hx hb dX10_searched_30 rfl (lv_at hl 2 rfl) ?_
  refine lv_iload_n hx hb dX10_searched_31 rfl (lv_at hl 3 rfl) ?_
  obtain ⟨r1, hc2, hf⟩ := ob_some hf
  have hI3 : kIn (gX cy qX (qG 0) (qP 0) (qR 0) oS oB (some (qE 0)) oN oL x_ways ++ (gE cy qE e_queue e_from e_allowed e_allowedSize e_kind e_base e_n e_want e_rules e_queued e_goal e_length ++ (gG cy qG g_base g_worth g_row g_many g_version))) (gE cy qE e_queue e_from e_allowed e_allowedSize e_kind e_base e_n e_want e_rules e_queued e_goal e_length) (kpick (gX cy qX (qG 0) (qP 0) (qR 0) oS oB (some (qE 0)) oN oL x_ways ++ (gE cy qE e_queue e_from e_allowed e_allowedSize e_kind e_base e_n e_want e_rules e_queued e_goal e_length ++ (gG cy qG g_base g_worth g_row g_many g_version))) [0, 1, 6, 7, 8, 9]) (fun _ : Unit => gE cy qE r1.1 r1.2.1 r1.2.2.1 r1.2.2.2.1 r1.2.2.2.2.1 r1.2.2.2.2.2.1 r1.2.2.2.2.2.2.1 r1.2.2.2.2.2.2.2.1 r1.2.2.2.2.2.2.2.2.1 r1.2.2.2.2.2.2.2.2.2.1 r1.2.2.2.2.2.2.2.2.2.2.1 r1.2.2.2.2.2.2.2.2.2.2.2) (fun _ : Unit => gX cy qX (qG 0) (qP 0) (qR 0) oS oB (some (qE 0)) oN oL x_ways ++ (gE cy qE r1.1 r1.2.1 r1.2.2.1 r1.2.2.2.1 r1.2.2.2.2.1 r1.2.2.2.2.2.1 r1.2.2.2.2.2.2.1 r1.2.2.2.2.2.2.2.1 r1.2.2.2.2.2.2.2.2.1 r1.2.2.2.2.2.2.2.2.2.1 r1.2.2.2.2.2.2.2.2.2.2.1 r1.2.2.2.2.2.2.2.2.2.2.2 ++ (gG cy qG g_base g_worth g_row g_many g_version))) [2, 3, 4, 5] [0, 1, 6, 7, 8, 9] [0, 1, 6, 7, 8, 9, 2, 3, 4, 5] := ⟨rfl, rfl, rfl, rfl, by decide, rfl, fun _ => rfl⟩
  refine kc_v (k_run ⟨hx, hb, hml, hown, hts⟩ (c_X7_seek hc2) (cwV 4 hts gX10_searched_X7_seek rfl rfl rfl (by decide +kernel) ⟨Nat.le_of_ble_eq_true rfl, Nat.le_of_ble_eq_true rfl⟩) hK hN hP hD ⟨hI3.1, hI3.2.2.1⟩ (ci := 7) (q0 := 0) rfl rfl rfl rfl hl.1 rfl (Nat.le_of_ble_eq_true rfl) dX10_searched_32 ⟨Nat.le_of_ble_eq_true rfl, Nat.le_of_ble_eq_true rfl⟩) hP hD hS hA hI3 (fun _ H locs hP hD hS => ?_)
  refine lv_aload_n hx hb dX10_searched_35 rfl (lv_at hl 0 rfl) ?_
  refine va_get (v := .ref (qE 0)) (D := D) (ci := 10) (C := RX10) (T := TX10) (N := 9) hx hb hts huX10 hown hK hP 0 rfl rfl 6 (by decide) fk247 (fun _ h9 => h9) rfl dX10_searched_36 ?_
  refine lv_iload hx hb dX10_searched_39 (lv_at hl 4 rfl) ?_
  obtain ⟨r4, hc5, hf⟩ := ob_some hf
  have hI6 : kIn (gX cy qX (qG 0) (qP 0) (qR 0) oS oB (some (qE 0)) oN oL x_ways ++ (gE cy qE r1.1 r1.2.1 r1.2.2.1 r1.2.2.2.1 r1.2.2.2.2.1 r1.2.2.2.2.2.1 r1.2.2.2.2.2.2.1 r1.2.2.2.2.2.2.2.1 r1.2.2.2.2.2.2.2.2.1 r1.2.2.2.2.2.2.2.2.2.1 r1.2.2.2.2.2.2.2.2.2.2.1 r1.2.2.2.2.2.2.2.2.2.2.2 ++ (gG cy qG g_base g_worth g_row g_many g_version))) (gE cy qE r1.1 r1.2.1 r1.2.2.1 r1.2.2.2.1 r1.2.2.2.2.1 r1.2.2.2.2.2.1 r1.2.2.2.2.2.2.1 r1.2.2.2.2.2.2.2.1 r1.2.2.2.2.2.2.2.2.1 r1.2.2.2.2.2.2.2.2.2.1 r1.2.2.2.2.2.2.2.2.2.2.1 r1.2.2.2.2.2.2.2.2.2.2.2) (kpick (gX cy qX (qG 0) (qP 0) (qR 0) oS oB (some (qE 0)) oN oL x_ways ++ (gE cy qE r1.1 r1.2.1 r1.2.2.1 r1.2.2.2.1 r1.2.2.2.2.1 r1.2.2.2.2.2.1 r1.2.2.2.2.2.2.1 r1.2.2.2.2.2.2.2.1 r1.2.2.2.2.2.2.2.2.1 r1.2.2.2.2.2.2.2.2.2.1 r1.2.2.2.2.2.2.2.2.2.2.1 r1.2.2.2.2.2.2.2.2.2.2.2 ++ (gG cy qG g_base g_worth g_row g_many g_version))) [0, 1, 6, 7, 8, 9]) (fun _ : Unit => gE cy qE r1.1 r1.2.1 r1.2.2.1 r1.2.2.2.1 r1.2.2.2.2.1 r1.2.2.2.2.2.1 r1.2.2.2.2.2.2.1 r1.2.2.2.2.2.2.2.1 r1.2.2.2.2.2.2.2.2.1 r1.2.2.2.2.2.2.2.2.2.1 r1.2.2.2.2.2.2.2.2.2.2.1 r1.2.2.2.2.2.2.2.2.2.2.2) (fun _ : Unit => gX cy qX (qG 0) (qP 0) (qR 0) oS oB (some (qE 0)) oN oL x_ways ++ (gE cy qE r1.1 r1.2.1 r1.2.2.1 r1.2.2.2.1 r1.2.2.2.2.1 r1.2.2.2.2.2.1 r1.2.2.2.2.2.2.1 r1.2.2.2.2.2.2.2.1 r1.2.2.2.2.2.2.2.2.1 r1.2.2.2.2.2.2.2.2.2.1 r1.2.2.2.2.2.2.2.2.2.2.1 r1.2.2.2.2.2.2.2.2.2.2.2 ++ (gG cy qG g_base g_worth g_row g_many g_version))) [2, 3, 4, 5] [0, 1, 6, 7, 8, 9] [0, 1, 6, 7, 8, 9, 2, 3, 4, 5] := ⟨rfl, rfl, rfl, rfl, by decide, rfl, fun _ => rfl⟩
  refine kc_i (k_run ⟨hx, hb, hml, hown, hts⟩ (c_X7_figureAt hc5) (cwV 1 hts gX10_searched_X7_figureAt rfl rfl rfl (by decide +kernel) ⟨Nat.le_of_ble_eq_true rfl, Nat.le_of_ble_eq_true rfl⟩) hK hN hP hD ⟨hI6.1, hI6.2.2.1⟩ (ci := 7) (q0 := 0) rfl rfl rfl rfl hl.1 rfl (Nat.le_of_ble_eq_true rfl) dX10_searched_41 ⟨Nat.le_of_ble_eq_true rfl, Nat.le_of_ble_eq_true rfl⟩) hP hD hS hA hI6 (fun _ H locs hP hD hS => ?_)
  obtain rfl := Option.some.inj hf
  exact hQ () 44 _ _ _ dX10_searched_44 hP hD hS
def f_J6_bitCount_0f7a4 (F : Nat) (a0 : Int32) : Option (Int32) := some ((((((((a0 - ((a0.toUInt32 >>> ((1 : Int32).toUInt32 &&& Int32.toUInt32 31)).toInt32 &&& (1431655765 : Int32))) &&& (858993459 : Int32)) + (((a0 - ((a0.toUInt32 >>> ((1 : Int32).toUInt32 &&& Int32.toUInt32 31)).toInt32 &&& (1431655765 : Int32))).toUInt32 >>> ((2 : Int32).toUInt32 &&& Int32.toUInt32 31)).toInt32 &&& (858993459 : Int32))) + ((((a0 - ((a0.toUInt32 >>> ((1 : Int32).toUInt32 &&& Int32.toUInt32 31)).toInt32 &&& (1431655765 : Int32))) &&& (858993459 : Int32)) + (((a0 - ((a0.toUInt32 >>> ((1 : Int32).toUInt32 &&& Int32.toUInt32 31)).toInt32 &&& (1431655765 : Int32))).toUInt32 >>> ((2 : Int32).toUInt32 &&& Int32.toUInt32 31)).toInt32 &&& (858993459 : Int32))).toUInt32 >>> ((4 : Int32).toUInt32 &&& Int32.toUInt32 31)).toInt32) &&& (252645135 : Int32)) + ((((((a0 - ((a0.toUInt32 >>> ((1 : Int32).toUInt32 &&& Int32.toUInt32 31)).toInt32 &&& (1431655765 : Int32))) &&& (858993459 : Int32)) + (((a0 - ((a0.toUInt32 >>> ((1 : Int32).toUInt32 &&& Int32.toUInt32 31)).toInt32 &&& (1431655765 : Int32))).toUInt32 >>> ((2 : Int32).toUInt32 &&& Int32.toUInt32 31)).toInt32 &&& (858993459 : Int32))) + ((((a0 - ((a0.toUInt32 >>> ((1 : Int32).toUInt32 &&& Int32.toUInt32 31)).toInt32 &&& (1431655765 : Int32))) &&& (858993459 : Int32)) + (((a0 - ((a0.toUInt32 >>> ((1 : Int32).toUInt32 &&& Int32.toUInt32 31)).toInt32 &&& (1431655765 : Int32))).toUInt32 >>> ((2 : Int32).toUInt32 &&& Int32.toUInt32 31)).toInt32 &&& (858993459 : Int32))).toUInt32 >>> ((4 : Int32).toUInt32 &&& Int32.toUInt32 31)).toInt32) &&& (252645135 : Int32)).toUInt32 >>> ((8 : Int32).toUInt32 &&& Int32.toUInt32 31)).toInt32) + (((((((a0 - ((a0.toUInt32 >>> ((1 : Int32).toUInt32 &&& Int32.toUInt32 31)).toInt32 &&& (1431655765 : Int32))) &&& (858993459 : Int32)) + (((a0 - ((a0.toUInt32 >>> ((1 : Int32).toUInt32 &&& Int32.toUInt32 31)).toInt32 &&& (1431655765 : Int32))).toUInt32 >>> ((2 : Int32).toUInt32 &&& Int32.toUInt32 31)).toInt32 &&& (858993459 : Int32))) + ((((a0 - ((a0.toUInt32 >>> ((1 : Int32).toUInt32 &&& Int32.toUInt32 31)).toInt32 &&& (1431655765 : Int32))) &&& (858993459 : Int32)) + (((a0 - ((a0.toUInt32 >>> ((1 : Int32).toUInt32 &&& Int32.toUInt32 31)).toInt32 &&& (1431655765 : Int32))).toUInt32 >>> ((2 : Int32).toUInt32 &&& Int32.toUInt32 31)).toInt32 &&& (858993459 : Int32))).toUInt32 >>> ((4 : Int32).toUInt32 &&& Int32.toUInt32 31)).toInt32) &&& (252645135 : Int32)) + ((((((a0 - ((a0.toUInt32 >>> ((1 : Int32).toUInt32 &&& Int32.toUInt32 31)).toInt32 &&& (1431655765 : Int32))) &&& (858993459 : Int32)) + (((a0 - ((a0.toUInt32 >>> ((1 : Int32).toUInt32 &&& Int32.toUInt32 31)).toInt32 &&& (1431655765 : Int32))).toUInt32 >>> ((2 : Int32).toUInt32 &&& Int32.toUInt32 31)).toInt32 &&& (858993459 : Int32))) + ((((a0 - ((a0.toUInt32 >>> ((1 : Int32).toUInt32 &&& Int32.toUInt32 31)).toInt32 &&& (1431655765 : Int32))) &&& (858993459 : Int32)) + (((a0 - ((a0.toUInt32 >>> ((1 : Int32).toUInt32 &&& Int32.toUInt32 31)).toInt32 &&& (1431655765 : Int32))).toUInt32 >>> ((2 : Int32).toUInt32 &&& Int32.toUInt32 31)).toInt32 &&& (858993459 : Int32))).toUInt32 >>> ((4 : Int32).toUInt32 &&& Int32.toUInt32 31)).toInt32) &&& (252645135 : Int32)).toUInt32 >>> ((8 : Int32).toUInt32 &&& Int32.toUInt32 31)).toInt32).toUInt32 >>> ((16 : Int32).toUInt32 &&& Int32.toUInt32 31)).toInt32) &&& (63 : Int32))
abbrev rmJ6_bitCount_0f7a4 : Room := { frames := 0, cells := 0, slots := 0, locals := 0 }
set_option maxHeartbeats 1000000 in
set_option maxRecDepth 100000 in
theorem c_J6_bitCount_0f7a4 {l : Launch} {D : va_G} {cy : Nat → ClassId} {a0 : Int32} {F : Nat} {res : Int32} (hf : f_J6_bitCount_0f7a4 F a0 = some res) : kM l yJ6_bitCount_0f7a4 wsJ6_bitCount_0f7a4 rmJ6_bitCount_0f7a4 D cy [.int a0] ([]) (kQi D cy (fun _ : Unit => []) res) := by
  refine kent_i (cc := cJ6_bitCount_0f7a4) (maxL := 1) (by decide) rfl (Nat.le_of_ble_eq_true rfl) ?_
  intro p e0 s m ar below meth c A Q ls ⟨hx, hb, hml, hr, hts, hown, hlocks, hnm⟩ hA hK hN hQ hP hD hS hl
  have hl : lv_has ls 1 [(0, .int a0)] := hl
  have hown : s.vm.findClass RJ6 = some m.cls := hown
  have fk265 : (Cond.constant RJ6 265 (1431655765)).before ar s = true := hts _ (by decide +kernel)
  have fk266 : (Cond.constant RJ6 266 (858993459)).before ar s = true := hts _ (by decide +kernel)
  have fk267 : (Cond.constant RJ6 267 (252645135)).before ar s = true := hts _ (by decide +kernel)
  unfold f_J6_bitCount_0f7a4 at hf
  refine lv_iload_n hx hb dJ6_bitCount_0f7a4_0 rfl (lv_at hl 0 rfl) ?_
  refine lv_iload_n hx hb dJ6_bitCount_0f7a4_1 rfl (lv_at hl 0 rfl) ?_
  refine lv_iconst (v := (1 : Int32)) hx hb dJ6_bitCount_0f7a4_2 (by decide) ?_
  refine lv_iushr hx hb dJ6_bitCount_0f7a4_3 rfl ?_
  refine lv_ldcw (v := (1431655765 : Int32)) hx hb hown fk265 dJ6_bitCount_0f7a4_4 ?_
  refine lv_iand hx hb dJ6_bitCount_0f7a4_7 ?_
  refine lv_isub hx hb dJ6_bitCount_0f7a4_8 ?_
  refine lv_istore_n (lv' := [(0, .int (a0 - ((a0.toUInt32 >>> ((1 : Int32).toUInt32 &&& Int32.toUInt32 31)).toInt32 &&& (1431655765 : Int32))))]) hx hb dJ6_bitCount_0f7a4_9 rfl hl (by decide) rfl (fun ls hl => ?_)
  refine lv_iload_n hx hb dJ6_bitCount_0f7a4_10 rfl (lv_at hl 0 rfl) ?_
  refine lv_ldcw (v := (858993459 : Int32)) hx hb hown fk266 dJ6_bitCount_0f7a4_11 ?_
  refine lv_iand hx hb dJ6_bitCount_0f7a4_14 ?_
  refine lv_iload_n hx hb dJ6_bitCount_0f7a4_15 rfl (lv_at hl 0 rfl) ?_
  refine lv_iconst (v := (2 : Int32)) hx hb dJ6_bitCount_0f7a4_16 (by decide) ?_
  refine lv_iushr hx hb dJ6_bitCount_0f7a4_17 rfl ?_
  refine lv_ldcw (v := (858993459 : Int32)) hx hb hown fk266 dJ6_bitCount_0f7a4_18 ?_
  refine lv_iand hx hb dJ6_bitCount_0f7a4_21 ?_
  refine lv_iadd hx hb dJ6_bitCount_0f7a4_22 ?_
  refine lv_istore_n (lv' := [(0, .int (((a0 - ((a0.toUInt32 >>> ((1 : Int32).toUInt32 &&& Int32.toUInt32 31)).toInt32 &&& (1431655765 : Int32))) &&& (858993459 : Int32)) + (((a0 - ((a0.toUInt32 >>> ((1 : Int32).toUInt32 &&& Int32.toUInt32 31)).toInt32 &&& (1431655765 : Int32))).toUInt32 >>> ((2 : Int32).toUInt32 &&& Int32.toUInt32 31)).toInt32 &&& (858993459 : Int32))))]) hx hb dJ6_bitCount_0f7a4_23 rfl hl (by decide) rfl (fun ls hl => ?_)
  refine lv_iload_n hx hb dJ6_bitCount_0f7a4_24 rfl (lv_at hl 0 rfl) ?_
  refine lv_iload_n hx hb dJ6_bitCount_0f7a4_25 rfl (lv_at hl 0 rfl) ?_
  refine lv_iconst (v := (4 : Int32)) hx hb dJ6_bitCount_0f7a4_26 (by decide) ?_
  refine lv_iushr hx hb dJ6_bitCount_0f7a4_27 rfl ?_
  refine lv_iadd hx hb dJ6_bitCount_0f7a4_28 ?_
  refine lv_ldcw (v := (252645135 : Int32)) hx hb hown fk267 dJ6_bitCount_0f7a4_29 ?_
  refine lv_iand hx hb dJ6_bitCount_0f7a4_32 ?_
  refine lv_istore_n (lv' := [(0, .int (((((a0 - ((a0.toUInt32 >>> ((1 : Int32).toUInt32 &&& Int32.toUInt32 31)).toInt32 &&& (1431655765 : Int32))) &&& (858993459 : Int32)) + (((a0 - ((a0.toUInt32 >>> ((1 : Int32).toUInt32 &&& Int32.toUInt32 31)).toInt32 &&& (1431655765 : Int32))).toUInt32 >>> ((2 : Int32).toUInt32 &&& Int32.toUInt32 31)).toInt32 &&& (858993459 : Int32))) + ((((a0 - ((a0.toUInt32 >>> ((1 : Int32).toUInt32 &&& Int32.toUInt32 31)).toInt32 &&& (1431655765 : Int32))) &&& (858993459 : Int32)) + (((a0 - ((a0.toUInt32 >>> ((1 : Int32).toUInt32 &&& Int32.toUInt32 31)).toInt32 &&& (1431655765 : Int32))).toUInt32 >>> ((2 : Int32).toUInt32 &&& Int32.toUInt32 31)).toInt32 &&& (858993459 : Int32))).toUInt32 >>> ((4 : Int32).toUInt32 &&& Int32.toUInt32 31)).toInt32) &&& (252645135 : Int32)))]) hx hb dJ6_bitCount_0f7a4_33 rfl hl (by decide) rfl (fun ls hl => ?_)
  refine lv_iload_n hx hb dJ6_bitCount_0f7a4_34 rfl (lv_at hl 0 rfl) ?_
  refine lv_iload_n hx hb dJ6_bitCount_0f7a4_35 rfl (lv_at hl 0 rfl) ?_
  refine lv_bipush (v := (8 : Int32)) hx hb dJ6_bitCount_0f7a4_36 (by decide) ?_
  refine lv_iushr hx hb dJ6_bitCount_0f7a4_38 rfl ?_
  refine lv_iadd hx hb dJ6_bitCount_0f7a4_39 ?_
  refine lv_istore_n (lv' := [(0, .int ((((((a0 - ((a0.toUInt32 >>> ((1 : Int32).toUInt32 &&& Int32.toUInt32 31)).toInt32 &&& (1431655765 : Int32))) &&& (858993459 : Int32)) + (((a0 - ((a0.toUInt32 >>> ((1 : Int32).toUInt32 &&& Int32.toUInt32 31)).toInt32 &&& (1431655765 : Int32))).toUInt32 >>> ((2 : Int32).toUInt32 &&& Int32.toUInt32 31)).toInt32 &&& (858993459 : Int32))) + ((((a0 - ((a0.toUInt32 >>> ((1 : Int32).toUInt32 &&& Int32.toUInt32 31)).toInt32 &&& (1431655765 : Int32))) &&& (858993459 : Int32)) + (((a0 - ((a0.toUInt32 >>> ((1 : Int32).toUInt32 &&& Int32.toUInt32 31)).toInt32 &&& (1431655765 : Int32))).toUInt32 >>> ((2 : Int32).toUInt32 &&& Int32.toUInt32 31)).toInt32 &&& (858993459 : Int32))).toUInt32 >>> ((4 : Int32).toUInt32 &&& Int32.toUInt32 31)).toInt32) &&& (252645135 : Int32)) + ((((((a0 - ((a0.toUInt32 >>> ((1 : Int32).toUInt32 &&& Int32.toUInt32 31)).toInt32 &&& (1431655765 : Int32))) &&& (858993459 : Int32)) + (((a0 - ((a0.toUInt32 >>> ((1 : Int32).toUInt32 &&& Int32.toUInt32 31)).toInt32 &&& (1431655765 : Int32))).toUInt32 >>> ((2 : Int32).toUInt32 &&& Int32.toUInt32 31)).toInt32 &&& (858993459 : Int32))) + ((((a0 - ((a0.toUInt32 >>> ((1 : Int32).toUInt32 &&& Int32.toUInt32 31)).toInt32 &&& (1431655765 : Int32))) &&& (858993459 : Int32)) + (((a0 - ((a0.toUInt32 >>> ((1 : Int32).toUInt32 &&& Int32.toUInt32 31)).toInt32 &&& (1431655765 : Int32))).toUInt32 >>> ((2 : Int32).toUInt32 &&& Int32.toUInt32 31)).toInt32 &&& (858993459 : Int32))).toUInt32 >>> ((4 : Int32).toUInt32 &&& Int32.toUInt32 31)).toInt32) &&& (252645135 : Int32)).toUInt32 >>> ((8 : Int32).toUInt32 &&& Int32.toUInt32 31)).toInt32))]) hx hb dJ6_bitCount_0f7a4_40 rfl hl (by decide) rfl (fun ls hl => ?_)
  refine lv_iload_n hx hb dJ6_bitCount_0f7a4_41 rfl (lv_at hl 0 rfl) ?_
  refine lv_iload_n hx hb dJ6_bitCount_0f7a4_42 rfl (lv_at hl 0 rfl) ?_
  refine lv_bipush (v := (16 : Int32)) hx hb dJ6_bitCount_0f7a4_43 (by decide) ?_
  refine lv_iushr hx hb dJ6_bitCount_0f7a4_45 rfl ?_
  refine lv_iadd hx hb dJ6_bitCount_0f7a4_46 ?_
  refine lv_istore_n (lv' := [(0, .int (((((((a0 - ((a0.toUInt32 >>> ((1 : Int32).toUInt32 &&& Int32.toUInt32 31)).toInt32 &&& (1431655765 : Int32))) &&& (858993459 : Int32)) + (((a0 - ((a0.toUInt32 >>> ((1 : Int32).toUInt32 &&& Int32.toUInt32 31)).toInt32 &&& (1431655765 : Int32))).toUInt32 >>> ((2 : Int32).toUInt32 &&& Int32.toUInt32 31)).toInt32 &&& (858993459 : Int32))) + ((((a0 - ((a0.toUInt32 >>> ((1 : Int32).toUInt32 &&& Int32.toUInt32 31)).toInt32 &&& (1431655765 : Int32))) &&& (858993459 : Int32)) + (((a0 - ((a0.toUInt32 >>> ((1 : Int32).toUInt32 &&& Int32.toUInt32 31)).toInt32 &&& (1431655765 : Int32))).toUInt32 >>> ((2 : Int32).toUInt32 &&& Int32.toUInt32 31)).toInt32 &&& (858993459 : Int32))).toUInt32 >>> ((4 : Int32).toUInt32 &&& Int32.toUInt32 31)).toInt32) &&& (252645135 : Int32)) + ((((((a0 - ((a0.toUInt32 >>> ((1 : Int32).toUInt32 &&& Int32.toUInt32 31)).toInt32 &&& (1431655765 : Int32))) &&& (858993459 : Int32)) + (((a0 - ((a0.toUInt32 >>> ((1 : Int32).toUInt32 &&& Int32.toUInt32 31)).toInt32 &&& (1431655765 : Int32))).toUInt32 >>> ((2 : Int32).toUInt32 &&& Int32.toUInt32 31)).toInt32 &&& (858993459 : Int32))) + ((((a0 - ((a0.toUInt32 >>> ((1 : Int32).toUInt32 &&& Int32.toUInt32 31)).toInt32 &&& (1431655765 : Int32))) &&& (858993459 : Int32)) + (((a0 - ((a0.toUInt32 >>> ((1 : Int32).toUInt32 &&& Int32.toUInt32 31)).toInt32 &&& (1431655765 : Int32))).toUInt32 >>> ((2 : Int32).toUInt32 &&& Int32.toUInt32 31)).toInt32 &&& (858993459 : Int32))).toUInt32 >>> ((4 : Int32).toUInt32 &&& Int32.toUInt32 31)).toInt32) &&& (252645135 : Int32)).toUInt32 >>> ((8 : Int32).toUInt32 &&& Int32.toUInt32 31)).toInt32) + (((((((a0 - ((a0.toUInt32 >>> ((1 : Int32).toUInt32 &&& Int32.toUInt32 31)).toInt32 &&& (1431655765 : Int32))) &&& (858993459 : Int32)) + (((a0 - ((a0.toUInt32 >>> ((1 : Int32).toUInt32 &&& Int32.toUInt32 31)).toInt32 &&& (1431655765 : Int32))).toUInt32 >>> ((2 : Int32).toUInt32 &&& Int32.toUInt32 31)).toInt32 &&& (858993459 : Int32))) + ((((a0 - ((a0.toUInt32 >>> ((1 : Int32).toUInt32 &&& Int32.toUInt32 31)).toInt32 &&& (1431655765 : Int32))) &&& (858993459 : Int32)) + (((a0 - ((a0.toUInt32 >>> ((1 : Int32).toUInt32 &&& Int32.toUInt32 31)).toInt32 &&& (1431655765 : Int32))).toUInt32 >>> ((2 : Int32).toUInt32 &&& Int32.toUInt32 31)).toInt32 &&& (858993459 : Int32))).toUInt32 >>> ((4 : Int32).toUInt32 &&& Int32.toUInt32 31)).toInt32) &&& (252645135 : Int32)) + ((((((a0 - ((a0.toUInt32 >>> ((1 : Int32).toUInt32 &&& Int32.toUInt32 31)).toInt32 &&& (1431655765 : Int32))) &&& (858993459 : Int32)) + (((a0 - ((a0.toUInt32 >>> ((1 : Int32).toUInt32 &&& Int32.toUInt32 31)).toInt32 &&& (1431655765 : Int32))).toUInt32 >>> ((2 : Int32).toUInt32 &&& Int32.toUInt32 31)).toInt32 &&& (858993459 : Int32))) + ((((a0 - ((a0.toUInt32 >>> ((1 : Int32).toUInt32 &&& Int32.toUInt32 31)).toInt32 &&& (1431655765 : Int32))) &&& (858993459 : Int32)) + (((a0 - ((a0.toUInt32 >>> ((1 : Int32).toUInt32 &&& Int32.toUInt32 31)).toInt32 &&& (1431655765 : Int32))).toUInt32 >>> ((2 : Int32).toUInt32 &&& Int32.toUInt32 31)).toInt32 &&& (858993459 : Int32))).toUInt32 >>> ((4 : Int32).toUInt32 &&& Int32.toUInt32 31)).toInt32) &&& (252645135 : Int32)).toUInt32 >>> ((8 : Int32).toUInt32 &&& Int32.toUInt32 31)).toInt32).toUInt32 >>> ((16 : Int32).toUInt32 &&& Int32.toUInt32 31)).toInt32))]) hx hb dJ6_bitCount_0f7a4_47 rfl hl (by decide) rfl (fun ls hl => ?_)
  refine lv_iload_n hx hb dJ6_bitCount_0f7a4_48 rfl (lv_at hl 0 rfl) ?_
  refine lv_bipush (v := (63 : Int32)) hx hb dJ6_bitCount_0f7a4_49 (by decide) ?_
  refine lv_iand hx hb dJ6_bitCount_0f7a4_51 ?_
  obtain rfl := Option.some.inj hf
  exact hQ () 52 _ _ _ dJ6_bitCount_0f7a4_52 hP hD hS
def f_X10_few_P_J28 (F : Nat) (e_queue : Nat → Int32) (e_from : Nat → Int32) (e_allowed : Nat → Int32) (e_allowedSize : Int32) (e_kind : Int32) (e_base : Int32) (e_n : Int32) (e_want : Int32) (e_rules : Int32) (e_queued : Int32) (e_goal : Int32) (e_length : Int32) : Option (Int32 × (Nat → Int32) × (Nat → Int32) × (Nat → Int32) × Int32 × Int32 × Int32 × Int32 × Int32 × Int32 × Int32 × Int32 × Int32) := some ((-1 : Int32), e_queue, e_from, e_allowed, e_allowedSize, e_kind, e_base, e_n, e_want, e_rules, e_queued, e_goal, e_length)
def f_X10_few_P (F : Nat) (a1 : Int32) (a2 : Int32) (a3 : Int32) (g_base : Int32) (e_queue : Nat → Int32) (e_from : Nat → Int32) (e_allowed : Nat → Int32) (e_allowedSize : Int32) (e_kind : Int32) (e_base : Int32) (e_n : Int32) (e_want : Int32) (e_rules : Int32) (e_queued : Int32) (e_goal : Int32) (e_length : Int32) : Option (Int32 × (Nat → Int32) × (Nat → Int32) × (Nat → Int32) × Int32 × Int32 × Int32 × Int32 × Int32 × Int32 × Int32 × Int32 × Int32) := (f_X10_figuresOfBase F a2 g_base).bind (fun r1 => (f_X10_within F a1 (1 : Int32) (2000 : Int32)).bind (fun r4 => if r4 = 0 then (f_X10_few_P_J28 F e_queue e_from e_allowed e_allowedSize e_kind e_base e_n e_want e_rules e_queued e_goal e_length) else (if r1 = 0 then (f_X10_few_P_J28 F e_queue e_from e_allowed e_allowedSize e_kind e_base e_n e_want e_rules e_queued e_goal e_length) else (if (-1 : Int32) ≤ a3 then ((f_X10_searched_P F (0 : Int32) a1 r1 a3 g_base e_queue e_from e_allowed e_allowedSize e_kind e_base e_n e_want e_rules e_queued e_goal e_length).bind (fun r9 => some (r9.1, r9.2.1, r9.2.2.1, r9.2.2.2.1, r9.2.2.2.2.1, r9.2.2.2.2.2.1, r9.2.2.2.2.2.2.1, r9.2.2.2.2.2.2.2.1, r9.2.2.2.2.2.2.2.2.1, r9.2.2.2.2.2.2.2.2.2.1, r9.2.2.2.2.2.2.2.2.2.2.1, r9.2.2.2.2.2.2.2.2.2.2.2.1, r9.2.2.2.2.2.2.2.2.2.2.2.2))) else (f_X10_few_P_J28 F e_queue e_from e_allowed e_allowedSize e_kind e_base e_n e_want e_rules e_queued e_goal e_length)))))
abbrev rmX10_few_P : Room := { frames := 5, cells := 0, slots := 0, locals := 119 }
set_option maxHeartbeats 1000000 in
set_option maxRecDepth 100000 in
theorem c_X10_few_P {l : Launch} {D : va_G} {cy : Nat → ClassId} {qX : Nat → Nat} {qG : Nat → Nat} {qP : Nat → Nat} {qR : Nat → Nat} {qE : Nat → Nat} {oS : Option Nat} {oB : Option Nat} {oN : Option Nat} {oL : Option Nat} {x_ways : Nat → Option Nat} {e_queue : Nat → Int32} {e_from : Nat → Int32} {e_allowed : Nat → Int32} {e_allowedSize : Int32} {e_kind : Int32} {e_base : Int32} {e_n : Int32} {e_want : Int32} {e_rules : Int32} {e_queued : Int32} {e_goal : Int32} {e_length : Int32} {g_base : Int32} {g_worth : Nat → Int32} {g_row : Nat → Int32} {g_many : Nat → Int32} {g_version : Int32} {a1 : Int32} {a2 : Int32} {a3 : Int32} {F : Nat} {res : Int32 × (Nat → Int32) × (Nat → Int32) × (Nat → Int32) × Int32 × Int32 × Int32 × Int32 × Int32 × Int32 × Int32 × Int32 × Int32} (hf : f_X10_few_P F a1 a2 a3 g_base e_queue e_from e_allowed e_allowedSize e_kind e_base e_n e_want e_rules e_queued e_goal e_length = some res) : kM l yX10_few wsX10_few rmX10_few_P D cy [.ref (qX 0), .int a1, .int a2, .int a3] (gX cy qX (qG 0) (qP 0) (qR 0) oS oB (some (qE 0)) oN oL x_ways ++ (gE cy qE e_queue e_from e_allowed e_allowedSize e_kind e_base e_n e_want e_rules e_queued e_goal e_length ++ (gG cy qG g_base g_worth g_row g_many g_version))) (kQi D cy (fun _ : Unit => gX cy qX (qG 0) (qP 0) (qR 0) oS oB (some (qE 0)) oN oL x_ways ++ (gE cy qE res.2.1 res.2.2.1 res.2.2.2.1 res.2.2.2.2.1 res.2.2.2.2.2.1 res.2.2.2.2.2.2.1 res.2.2.2.2.2.2.2.1 res.2.2.2.2.2.2.2.2.1 res.2.2.2.2.2.2.2.2.2.1 res.2.2.2.2.2.2.2.2.2.2.1 res.2.2.2.2.2.2.2.2.2.2.2.1 res.2.2.2.2.2.2.2.2.2.2.2.2 ++ (gG cy qG g_base g_worth g_row g_many g_version))) res.1) := by
  refine kent_i (cc := cX10_few) (maxL := 5) (by decide) rfl (Nat.le_of_ble_eq_true rfl) ?_
  intro p e0 s m ar below meth c A Q ls ⟨hx, hb, hml, hr, hts, hown, hlocks, hnm⟩ hA hK hN hQ hP hD hS hl
  have hl : lv_has ls 5 [(0, .ref (qX 0)), (1, .int a1), (2, .int a2), (3, .int a3)] := hl
  have hown : s.vm.findClass RX10 = some m.cls := hown
  unfold f_X10_few_P at hf
  have hJ28 : ∀ (e_queue : Nat → Int32) (e_from : Nat → Int32) (e_allowed : Nat → Int32) (e_allowedSize : Int32) (e_kind : Int32) (e_base : Int32) (e_n : Int32) (e_want : Int32) (e_rules : Int32) (e_queued : Int32) (e_goal : Int32) (e_length : Int32) (H : Heap) (locs : List Loc) (ls : Array Slot), f_X10_few_P_J28 F e_queue e_from e_allowed e_allowedSize e_kind e_base e_n e_want e_rules e_queued e_goal e_length = some res → va_P D vwCl (gX cy qX (qG 0) (qP 0) (qR 0) oS oB (some (qE 0)) oN oL x_ways ++ (gE cy qE e_queue e_from e_allowed e_allowedSize e_kind e_base e_n e_want e_rules e_queued e_goal e_length ++ (gG cy qG g_base g_worth g_row g_many g_version))) H → va_D A (gX cy qX (qG 0) (qP 0) (qR 0) oS oB (some (qE 0)) oN oL x_ways ++ (gE cy qE e_queue e_from e_allowed e_allowedSize e_kind e_base e_n e_want e_rules e_queued e_goal e_length ++ (gG cy qG g_base g_worth g_row g_many g_version))) → va_S A s.heap H locs → lv_has ls 5 [] → W p l e0 rmX10_few_P s m ar below meth c H locs 0 0 Q (F0 m 28 ls []) := by
    intro e_queue e_from e_allowed e_allowedSize e_kind e_base e_n e_want e_rules e_queued e_goal e_length H locs ls hf hP hD hS hl
    unfold f_X10_few_P_J28 at hf
    refine lv_iconst (v := (-1 : Int32)) hx hb dX10_few_28 (by decide) ?_
    obtain rfl := Option.some.inj hf
    exact hQ () 29 _ _ _ dX10_few_29 hP hD hS
  refine lv_aload_n hx hb dX10_few_0 rfl (lv_at hl 0 rfl) ?_
  refine lv_iload_n hx hb dX10_few_1 rfl (lv_at hl 2 rfl) ?_
  obtain ⟨r1, hc2, hf⟩ := ob_some hf
  have hI3 : kIn (gX cy qX (qG 0) (qP 0) (qR 0) oS oB (some (qE 0)) oN oL x_ways ++ (gE cy qE e_queue e_from e_allowed e_allowedSize e_kind e_base e_n e_want e_rules e_queued e_goal e_length ++ (gG cy qG g_base g_worth g_row g_many g_version))) (gX cy qX (qG 0) (qP 0) (qR 0) oS oB (some (qE 0)) oN oL x_ways ++ (gG cy qG g_base g_worth g_row g_many g_version)) (kpick (gX cy qX (qG 0) (qP 0) (qR 0) oS oB (some (qE 0)) oN oL x_ways ++ (gE cy qE e_queue e_from e_allowed e_allowedSize e_kind e_base e_n e_want e_rules e_queued e_goal e_length ++ (gG cy qG g_base g_worth g_row g_many g_version))) [2, 3, 4, 5]) (fun _ : Unit => gX cy qX (qG 0) (qP 0) (qR 0) oS oB (some (qE 0)) oN oL x_ways ++ (gG cy qG g_base g_worth g_row g_many g_version)) (fun _ : Unit => gX cy qX (qG 0) (qP 0) (qR 0) oS oB (some (qE 0)) oN oL x_ways ++ (gE cy qE e_queue e_from e_allowed e_allowedSize e_kind e_base e_n e_want e_rules e_queued e_goal e_length ++ (gG cy qG g_base g_worth g_row g_many g_version))) [0, 1, 6, 7, 8, 9] [2, 3, 4, 5] [4, 5, 0, 1, 2, 3, 6, 7, 8, 9] := ⟨rfl, rfl, rfl, rfl, by decide, rfl, fun _ => rfl⟩
  refine kc_i (k_run ⟨hx, hb, hml, hown, hts⟩ (c_X10_figuresOfBase hc2) (cwV 1 hts gX10_few_X10_figuresOfBase rfl rfl rfl (by decide +kernel) ⟨Nat.le_of_ble_eq_true rfl, Nat.le_of_ble_eq_true rfl⟩) hK hN hP hD ⟨hI3.1, hI3.2.2.1⟩ (ci := 10) (q0 := 0) rfl rfl rfl rfl hl.1 rfl (Nat.le_of_ble_eq_true rfl) dX10_few_2 ⟨Nat.le_of_ble_eq_true rfl, Nat.le_of_ble_eq_true rfl⟩) hP hD hS hA hI3 (fun _ H locs hP hD hS => ?_)
  refine lv_istore (lv' := [(4, .int r1), (0, .ref (qX 0)), (1, .int a1), (2, .int a2), (3, .int a3)]) hx hb dX10_few_5 hl (by decide) rfl (fun ls hl => ?_)
  refine lv_iload_n hx hb dX10_few_7 rfl (lv_at hl 2 rfl) ?_
  refine lv_iconst (v := (1 : Int32)) hx hb dX10_few_8 (by decide) ?_
  refine lv_sipush (v := (2000 : Int32)) hx hb dX10_few_9 (by decide) ?_
  obtain ⟨r4, hc5, hf⟩ := ob_some hf
  refine kc_i (k_runS ⟨hx, hb, hml, hown, hts⟩ (c_X10_within hc5) (va_cwS 3 hts gX10_few_X10_within rfl rfl rfl (by decide +kernel) ⟨Nat.le_of_ble_eq_true rfl, Nat.le_of_ble_eq_true rfl⟩) hK hN hP hD kA_0 rfl hl.1 rfl (Nat.le_of_ble_eq_true rfl) dX10_few_12 ⟨Nat.le_of_ble_eq_true rfl, Nat.le_of_ble_eq_true rfl⟩) hP hD hS hA kI_0 (fun _ H locs hP hD hS => ?_)
  refine lv_if_eq (tgt := 28) hx hb dX10_few_15 (by decide) (fun c6 => ?_) (fun c6 => ?_)
  · have hf := if_t hf c6
    exact hJ28 e_queue e_from e_allowed e_allowedSize e_kind e_base e_n e_want e_rules e_queued e_goal e_length _ _ _ hf hP hD hS (lv_sub hl [] rfl)
  · have hf := if_f hf c6
    refine lv_iload hx hb dX10_few_18 (lv_at hl 0 rfl) ?_
    refine lv_if_eq (tgt := 28) hx hb dX10_few_20 (by decide) (fun c7 => ?_) (fun c7 => ?_)
    · have hf := if_t hf c7
      exact hJ28 e_queue e_from e_allowed e_allowedSize e_kind e_base e_n e_want e_rules e_queued e_goal e_length _ _ _ hf hP hD hS (lv_sub hl [] rfl)
    · have hf := if_f hf c7
      refine lv_iload_n hx hb dX10_few_23 rfl (lv_at hl 4 rfl) ?_
      refine lv_iconst (v := (-1 : Int32)) hx hb dX10_few_24 (by decide) ?_
      refine lv_icmp_ge (tgt := 30) hx hb dX10_few_25 (by decide) (fun c8 => ?_) (fun c8 => ?_)
      · have hf := if_t hf c8
        refine lv_aload_n hx hb dX10_few_30 rfl (lv_at hl 1 rfl) ?_
        refine lv_iconst (v := (0 : Int32)) hx hb dX10_few_31 (by decide) ?_
        refine lv_iload_n hx hb dX10_few_32 rfl (lv_at hl 2 rfl) ?_
        refine lv_iload hx hb dX10_few_33 (lv_at hl 0 rfl) ?_
        refine lv_iload_n hx hb dX10_few_35 rfl (lv_at hl 4 rfl) ?_
        obtain ⟨r9, hc10, hf⟩ := ob_some hf
        refine kc_i (k_run ⟨hx, hb, hml, hown, hts⟩ (c_X10_searched_P hc10) (cwV 4 hts gX10_few_X10_searched rfl rfl rfl (by decide +kernel) ⟨Nat.le_of_ble_eq_true rfl, Nat.le_of_ble_eq_true rfl⟩) hK hN hP hD kA_s (ci := 10) (q0 := 0) rfl rfl rfl rfl hl.1 rfl (Nat.le_of_ble_eq_true rfl) dX10_few_36 ⟨Nat.le_of_ble_eq_true rfl, Nat.le_of_ble_eq_true rfl⟩) hP hD hS hA kI_s (fun _ H locs hP hD hS => ?_)
        obtain rfl := Option.some.inj hf
        exact hQ () 39 _ _ _ dX10_few_39 hP hD hS
      · have hf := if_f hf c8
        exact hJ28 e_queue e_from e_allowed e_allowedSize e_kind e_base e_n e_want e_rules e_queued e_goal e_length _ _ _ hf hP hD hS (lv_sub hl [] rfl)
def f_X10_withAll_P_J37 (F : Nat) (e_queue : Nat → Int32) (e_from : Nat → Int32) (e_allowed : Nat → Int32) (e_allowedSize : Int32) (e_kind : Int32) (e_base : Int32) (e_n : Int32) (e_want : Int32) (e_rules : Int32) (e_queued : Int32) (e_goal : Int32) (e_length : Int32) : Option (Int32 × (Nat → Int32) × (Nat → Int32) × (Nat → Int32) × Int32 × Int32 × Int32 × Int32 × Int32 × Int32 × Int32 × Int32 × Int32) := some ((-1 : Int32), e_queue, e_from, e_allowed, e_allowedSize, e_kind, e_base, e_n, e_want, e_rules, e_queued, e_goal, e_length)
def f_X10_withAll_P (F : Nat) (a1 : Int32) (a2 : Int32) (a3 : Int32) (g_base : Int32) (e_queue : Nat → Int32) (e_from : Nat → Int32) (e_allowed : Nat → Int32) (e_allowedSize : Int32) (e_kind : Int32) (e_base : Int32) (e_n : Int32) (e_want : Int32) (e_rules : Int32) (e_queued : Int32) (e_goal : Int32) (e_length : Int32) : Option (Int32 × (Nat → Int32) × (Nat → Int32) × (Nat → Int32) × Int32 × Int32 × Int32 × Int32 × Int32 × Int32 × Int32 × Int32 × Int32) := (f_X10_figuresOfBase F a2 g_base).bind (fun r1 => (f_X10_within F a1 (1 : Int32) (200 : Int32)).bind (fun r4 => if r4 = 0 then (f_X10_withAll_P_J37 F e_queue e_from e_allowed e_allowedSize e_kind e_base e_n e_want e_rules e_queued e_goal e_length) else ((f_J6_bitCount_0f7a4 F r1).bind (fun r7 => (f_X10_within F r7 (1 : Int32) (8 : Int32)).bind (fun r9 => if r9 = 0 then (f_X10_withAll_P_J37 F e_queue e_from e_allowed e_allowedSize e_kind e_base e_n e_want e_rules e_queued e_goal e_length) else (if (-1 : Int32) ≤ a3 then ((f_X10_searched_P F (1 : Int32) a1 r1 a3 g_base e_queue e_from e_allowed e_allowedSize e_kind e_base e_n e_want e_rules e_queued e_goal e_length).bind (fun r13 => some (r13.1, r13.2.1, r13.2.2.1, r13.2.2.2.1, r13.2.2.2.2.1, r13.2.2.2.2.2.1, r13.2.2.2.2.2.2.1, r13.2.2.2.2.2.2.2.1, r13.2.2.2.2.2.2.2.2.1, r13.2.2.2.2.2.2.2.2.2.1, r13.2.2.2.2.2.2.2.2.2.2.1, r13.2.2.2.2.2.2.2.2.2.2.2.1, r13.2.2.2.2.2.2.2.2.2.2.2.2))) else (f_X10_withAll_P_J37 F e_queue e_from e_allowed e_allowedSize e_kind e_base e_n e_want e_rules e_queued e_goal e_length)))))))
abbrev rmX10_withAll_P : Room := { frames := 5, cells := 0, slots := 0, locals := 119 }
set_option maxHeartbeats 1000000 in
set_option maxRecDepth 100000 in
theorem c_X10_withAll_P {l : Launch} {D : va_G} {cy : Nat → ClassId} {qX : Nat → Nat} {qG : Nat → Nat} {qP : Nat → Nat} {qR : Nat → Nat} {qE : Nat → Nat} {oS : Option Nat} {oB : Option Nat} {oN : Option Nat} {oL : Option Nat} {x_ways : Nat → Option Nat} {e_queue : Nat → Int32} {e_from : Nat → Int32} {e_allowed : Nat → Int32} {e_allowedSize : Int32} {e_kind : Int32} {e_base : Int32} {e_n : Int32} {e_want : Int32} {e_rules : Int32} {e_queued : Int32} {e_goal : Int32} {e_length : Int32} {g_base : Int32} {g_worth : Nat → Int32} {g_row : Nat → Int32} {g_many : Nat → Int32} {g_version : Int32} {a1 : Int32} {a2 : Int32} {a3 : Int32} {F : Nat} {res : Int32 × (Nat → Int32) × (Nat → Int32) × (Nat → Int32) × Int32 × Int32 × Int32 × Int32 × Int32 × Int32 × Int32 × Int32 × Int32} (hf : f_X10_withAll_P F a1 a2 a3 g_base e_queue e_from e_allowed e_allowedSize e_kind e_base e_n e_want e_rules e_queued e_goal e_length = some res) : kM l yX10_withAll wsX10_withAll rmX10_withAll_P D cy [.ref (qX 0), .int a1, .int a2, .int a3] (gX cy qX (qG 0) (qP 0) (qR 0) oS oB (some (qE 0)) oN oL x_ways ++ (gE cy qE e_queue e_from e_allowed e_allowedSize e_kind e_base e_n e_want e_rules e_queued e_goal e_length ++ (gG cy qG g_base g_worth g_row g_many g_version))) (kQi D cy (fun _ : Unit => gX cy qX (qG 0) (qP 0) (qR 0) oS oB (some (qE 0)) oN oL x_ways ++ (gE cy qE res.2.1 res.2.2.1 res.2.2.2.1 res.2.2.2.2.1 res.2.2.2.2.2.1 res.2.2.2.2.2.2.1 res.2.2.2.2.2.2.2.1 res.2.2.2.2.2.2.2.2.1 res.2.2.2.2.2.2.2.2.2.1 res.2.2.2.2.2.2.2.2.2.2.1 res.2.2.2.2.2.2.2.2.2.2.2.1 res.2.2.2.2.2.2.2.2.2.2.2.2 ++ (gG cy qG g_base g_worth g_row g_many g_version))) res.1) := by
  refine kent_i (cc := cX10_withAll) (maxL := 5) (by decide) rfl (Nat.le_of_ble_eq_true rfl) ?_
  intro p e0 s m ar below meth c A Q ls ⟨hx, hb, hml, hr, hts, hown, hlocks, hnm⟩ hA hK hN hQ hP hD hS hl
  have hl : lv_has ls 5 [(0, .ref (qX 0)), (1, .int a1), (2, .int a2), (3, .int a3)] := hl
  have hown : s.vm.findClass RX10 = some m.cls := hown
  unfold f_X10_withAll_P at hf
  have hJ37 : ∀ (e_queue : Nat → Int32) (e_from : Nat → Int32) (e_allowed : Nat → Int32) (e_allowedSize : Int32) (e_kind : Int32) (e_base : Int32) (e_n : Int32) (e_want : Int32) (e_rules : Int32) (e_queued : Int32) (e_goal : Int32) (e_length : Int32) (H : Heap) (locs : List Loc) (ls : Array Slot), f_X10_withAll_P_J37 F e_queue e_from e_allowed e_allowedSize e_kind e_base e_n e_want e_rules e_queued e_goal e_length = some res → va_P D vwCl (gX cy qX (qG 0) (qP 0) (qR 0) oS oB (some (qE 0)) oN oL x_ways ++ (gE cy qE e_queue e_from e_allowed e_allowedSize e_kind e_base e_n e_want e_rules e_queued e_goal e_length ++ (gG cy qG g_base g_worth g_row g_many g_version))) H → va_D A (gX cy qX (qG 0) (qP 0) (qR 0) oS oB (some (qE 0)) oN oL x_ways ++ (gE cy qE e_queue e_from e_allowed e_allowedSize e_kind e_base e_n e_want e_rules e_queued e_goal e_length ++ (gG cy qG g_base g_worth g_row g_many g_version))) → va_S A s.heap H locs → lv_has ls 5 [] → W p l e0 rmX10_withAll_P s m ar below meth c H locs 0 0 Q (F0 m 37 ls []) := by
    intro e_queue e_from e_allowed e_allowedSize e_kind e_base e_n e_want e_rules e_queued e_goal e_length H locs ls hf hP hD hS hl
    unfold f_X10_withAll_P_J37 at hf
    refine lv_iconst (v := (-1 : Int32)) hx hb dX10_withAll_37 (by decide) ?_
    obtain rfl := Option.some.inj hf
    exact hQ () 38 _ _ _ dX10_withAll_38 hP hD hS
  refine lv_aload_n hx hb dX10_withAll_0 rfl (lv_at hl 0 rfl) ?_
  refine lv_iload_n hx hb dX10_withAll_1 rfl (lv_at hl 2 rfl) ?_
  obtain ⟨r1, hc2, hf⟩ := ob_some hf
  have hI3 : kIn (gX cy qX (qG 0) (qP 0) (qR 0) oS oB (some (qE 0)) oN oL x_ways ++ (gE cy qE e_queue e_from e_allowed e_allowedSize e_kind e_base e_n e_want e_rules e_queued e_goal e_length ++ (gG cy qG g_base g_worth g_row g_many g_version))) (gX cy qX (qG 0) (qP 0) (qR 0) oS oB (some (qE 0)) oN oL x_ways ++ (gG cy qG g_base g_worth g_row g_many g_version)) (kpick (gX cy qX (qG 0) (qP 0) (qR 0) oS oB (some (qE 0)) oN oL x_ways ++ (gE cy qE e_queue e_from e_allowed e_allowedSize e_kind e_base e_n e_want e_rules e_queued e_goal e_length ++ (gG cy qG g_base g_worth g_row g_many g_version))) [2, 3, 4, 5]) (fun _ : Unit => gX cy qX (qG 0) (qP 0) (qR 0) oS oB (some (qE 0)) oN oL x_ways ++ (gG cy qG g_base g_worth g_row g_many g_version)) (fun _ : Unit => gX cy qX (qG 0) (qP 0) (qR 0) oS oB (some (qE 0)) oN oL x_ways ++ (gE cy qE e_queue e_from e_allowed e_allowedSize e_kind e_base e_n e_want e_rules e_queued e_goal e_length ++ (gG cy qG g_base g_worth g_row g_many g_version))) [0, 1, 6, 7, 8, 9] [2, 3, 4, 5] [4, 5, 0, 1, 2, 3, 6, 7, 8, 9] := ⟨rfl, rfl, rfl, rfl, by decide, rfl, fun _ => rfl⟩
  refine kc_i (k_run ⟨hx, hb, hml, hown, hts⟩ (c_X10_figuresOfBase hc2) (cwV 1 hts gX10_withAll_X10_figuresOfBase rfl rfl rfl (by decide +kernel) ⟨Nat.le_of_ble_eq_true rfl, Nat.le_of_ble_eq_true rfl⟩) hK hN hP hD ⟨hI3.1, hI3.2.2.1⟩ (ci := 10) (q0 := 0) rfl rfl rfl rfl hl.1 rfl (Nat.le_of_ble_eq_true rfl) dX10_withAll_2 ⟨Nat.le_of_ble_eq_true rfl, Nat.le_of_ble_eq_true rfl⟩) hP hD hS hA hI3 (fun _ H locs hP hD hS => ?_)
  refine lv_istore (lv' := [(4, .int r1), (0, .ref (qX 0)), (1, .int a1), (2, .int a2), (3, .int a3)]) hx hb dX10_withAll_5 hl (by decide) rfl (fun ls hl => ?_)
  refine lv_iload_n hx hb dX10_withAll_7 rfl (lv_at hl 2 rfl) ?_
  refine lv_iconst (v := (1 : Int32)) hx hb dX10_withAll_8 (by decide) ?_
  refine lv_sipush (v := (200 : Int32)) hx hb dX10_withAll_9 (by decide) ?_
  obtain ⟨r4, hc5, hf⟩ := ob_some hf
  refine kc_i (k_runS ⟨hx, hb, hml, hown, hts⟩ (c_X10_within hc5) (va_cwS 3 hts gX10_withAll_X10_within rfl rfl rfl (by decide +kernel) ⟨Nat.le_of_ble_eq_true rfl, Nat.le_of_ble_eq_true rfl⟩) hK hN hP hD kA_0 rfl hl.1 rfl (Nat.le_of_ble_eq_true rfl) dX10_withAll_12 ⟨Nat.le_of_ble_eq_true rfl, Nat.le_of_ble_eq_true rfl⟩) hP hD hS hA kI_0 (fun _ H locs hP hD hS => ?_)
  refine lv_if_eq (tgt := 37) hx hb dX10_withAll_15 (by decide) (fun c6 => ?_) (fun c6 => ?_)
  · have hf := if_t hf c6
    exact hJ37 e_queue e_from e_allowed e_allowedSize e_kind e_base e_n e_want e_rules e_queued e_goal e_length _ _ _ hf hP hD hS (lv_sub hl [] rfl)
  · have hf := if_f hf c6
    refine lv_iload hx hb dX10_withAll_18 (lv_at hl 0 rfl) ?_
    obtain ⟨r7, hc8, hf⟩ := ob_some hf
    refine kc_i (k_runS ⟨hx, hb, hml, hown, hts⟩ (c_J6_bitCount_0f7a4 hc8) (va_cwS 1 hts gX10_withAll_J6_bitCount_0f7a4 rfl rfl rfl (by decide +kernel) ⟨Nat.le_of_ble_eq_true rfl, Nat.le_of_ble_eq_true rfl⟩) hK hN hP hD kA_0 rfl hl.1 rfl (Nat.le_of_ble_eq_true rfl) dX10_withAll_20 ⟨Nat.le_of_ble_eq_true rfl, Nat.le_of_ble_eq_true rfl⟩) hP hD hS hA kI_0 (fun _ H locs hP hD hS => ?_)
    refine lv_iconst (v := (1 : Int32)) hx hb dX10_withAll_23 (by decide) ?_
    refine lv_bipush (v := (8 : Int32)) hx hb dX10_withAll_24 (by decide) ?_
    obtain ⟨r9, hc10, hf⟩ := ob_some hf
    refine kc_i (k_runS ⟨hx, hb, hml, hown, hts⟩ (c_X10_within hc10) (va_cwS 3 hts gX10_withAll_X10_within rfl rfl rfl (by decide +kernel) ⟨Nat.le_of_ble_eq_true rfl, Nat.le_of_ble_eq_true rfl⟩) hK hN hP hD kA_0 rfl hl.1 rfl (Nat.le_of_ble_eq_true rfl) dX10_withAll_26 ⟨Nat.le_of_ble_eq_true rfl, Nat.le_of_ble_eq_true rfl⟩) hP hD hS hA kI_0 (fun _ H locs hP hD hS => ?_)
    refine lv_if_eq (tgt := 37) hx hb dX10_withAll_29 (by decide) (fun c11 => ?_) (fun c11 => ?_)
    · have hf := if_t hf c11
      exact hJ37 e_queue e_from e_allowed e_allowedSize e_kind e_base e_n e_want e_rules e_queued e_goal e_length _ _ _ hf hP hD hS (lv_sub hl [] rfl)
    · have hf := if_f hf c11
      refine lv_iload_n hx hb dX10_withAll_32 rfl (lv_at hl 4 rfl) ?_
      refine lv_iconst (v := (-1 : Int32)) hx hb dX10_withAll_33 (by decide) ?_
      refine lv_icmp_ge (tgt := 39) hx hb dX10_withAll_34 (by decide) (fun c12 => ?_) (fun c12 => ?_)
      · have hf := if_t hf c12
        refine lv_aload_n hx hb dX10_withAll_39 rfl (lv_at hl 1 rfl) ?_
        refine lv_iconst (v := (1 : Int32)) hx hb dX10_withAll_40 (by decide) ?_
        refine lv_iload_n hx hb dX10_withAll_41 rfl (lv_at hl 2 rfl) ?_
        refine lv_iload hx hb dX10_withAll_42 (lv_at hl 0 rfl) ?_
        refine lv_iload_n hx hb dX10_withAll_44 rfl (lv_at hl 4 rfl) ?_
        obtain ⟨r13, hc14, hf⟩ := ob_some hf
        refine kc_i (k_run ⟨hx, hb, hml, hown, hts⟩ (c_X10_searched_P hc14) (cwV 4 hts gX10_withAll_X10_searched rfl rfl rfl (by decide +kernel) ⟨Nat.le_of_ble_eq_true rfl, Nat.le_of_ble_eq_true rfl⟩) hK hN hP hD kA_s (ci := 10) (q0 := 0) rfl rfl rfl rfl hl.1 rfl (Nat.le_of_ble_eq_true rfl) dX10_withAll_45 ⟨Nat.le_of_ble_eq_true rfl, Nat.le_of_ble_eq_true rfl⟩) hP hD hS hA kI_s (fun _ H locs hP hD hS => ?_)
        obtain rfl := Option.some.inj hf
        exact hQ () 48 _ _ _ dX10_withAll_48 hP hD hS
      · have hf := if_f hf c12
        exact hJ37 e_queue e_from e_allowed e_allowedSize e_kind e_base e_n e_want e_rules e_queued e_goal e_length _ _ _ hf hP hD hS (lv_sub hl [] rfl)
def f_X10_summed_P_J26 (F : Nat) (e_queue : Nat → Int32) (e_from : Nat → Int32) (e_allowed : Nat → Int32) (e_allowedSize : Int32) (e_kind : Int32) (e_base : Int32) (e_n : Int32) (e_want : Int32) (e_rules : Int32) (e_queued : Int32) (e_goal : Int32) (e_length : Int32) : Option (Int32 × (Nat → Int32) × (Nat → Int32) × (Nat → Int32) × Int32 × Int32 × Int32 × Int32 × Int32 × Int32 × Int32 × Int32 × Int32) := some ((-1 : Int32), e_queue, e_from, e_allowed, e_allowedSize, e_kind, e_base, e_n, e_want, e_rules, e_queued, e_goal, e_length)
def f_X10_summed_P (F : Nat) (a1 : Int32) (a2 : Int32) (a3 : Int32) (g_base : Int32) (e_queue : Nat → Int32) (e_from : Nat → Int32) (e_allowed : Nat → Int32) (e_allowedSize : Int32) (e_kind : Int32) (e_base : Int32) (e_n : Int32) (e_want : Int32) (e_rules : Int32) (e_queued : Int32) (e_goal : Int32) (e_length : Int32) : Option (Int32 × (Nat → Int32) × (Nat → Int32) × (Nat → Int32) × Int32 × Int32 × Int32 × Int32 × Int32 × Int32 × Int32 × Int32 × Int32) := (f_X10_within F a1 (1 : Int32) (300 : Int32)).bind (fun r1 => if r1 = 0 then (f_X10_summed_P_J26 F e_queue e_from e_allowed e_allowedSize e_kind e_base e_n e_want e_rules e_queued e_goal e_length) else ((f_X10_within F a2 (1 : Int32) (60 : Int32)).bind (fun r4 => if r4 = 0 then (f_X10_summed_P_J26 F e_queue e_from e_allowed e_allowedSize e_kind e_base e_n e_want e_rules e_queued e_goal e_length) else (if (-1 : Int32) ≤ a3 then ((f_X10_searched_P F (2 : Int32) a1 a2 a3 g_base e_queue e_from e_allowed e_allowedSize e_kind e_base e_n e_want e_rules e_queued e_goal e_length).bind (fun r8 => some (r8.1, r8.2.1, r8.2.2.1, r8.2.2.2.1, r8.2.2.2.2.1, r8.2.2.2.2.2.1, r8.2.2.2.2.2.2.1, r8.2.2.2.2.2.2.2.1, r8.2.2.2.2.2.2.2.2.1, r8.2.2.2.2.2.2.2.2.2.1, r8.2.2.2.2.2.2.2.2.2.2.1, r8.2.2.2.2.2.2.2.2.2.2.2.1, r8.2.2.2.2.2.2.2.2.2.2.2.2))) else (f_X10_summed_P_J26 F e_queue e_from e_allowed e_allowedSize e_kind e_base e_n e_want e_rules e_queued e_goal e_length)))))
abbrev rmX10_summed_P : Room := { frames := 5, cells := 0, slots := 0, locals := 119 }
set_option maxHeartbeats 1000000 in
set_option maxRecDepth 100000 in
theorem c_X10_summed_P {l : Launch} {D : va_G} {cy : Nat → ClassId} {qX : Nat → Nat} {qG : Nat → Nat} {qP : Nat → Nat} {qR : Nat → Nat} {qE : Nat → Nat} {oS : Option Nat} {oB : Option Nat} {oN : Option Nat} {oL : Option Nat} {x_ways : Nat → Option Nat} {e_queue : Nat → Int32} {e_from : Nat → Int32} {e_allowed : Nat → Int32} {e_allowedSize : Int32} {e_kind : Int32} {e_base : Int32} {e_n : Int32} {e_want : Int32} {e_rules : Int32} {e_queued : Int32} {e_goal : Int32} {e_length : Int32} {g_base : Int32} {g_worth : Nat → Int32} {g_row : Nat → Int32} {g_many : Nat → Int32} {g_version : Int32} {a1 : Int32} {a2 : Int32} {a3 : Int32} {F : Nat} {res : Int32 × (Nat → Int32) × (Nat → Int32) × (Nat → Int32) × Int32 × Int32 × Int32 × Int32 × Int32 × Int32 × Int32 × Int32 × Int32} (hf : f_X10_summed_P F a1 a2 a3 g_base e_queue e_from e_allowed e_allowedSize e_kind e_base e_n e_want e_rules e_queued e_goal e_length = some res) : kM l yX10_summed wsX10_summed rmX10_summed_P D cy [.ref (qX 0), .int a1, .int a2, .int a3] (gX cy qX (qG 0) (qP 0) (qR 0) oS oB (some (qE 0)) oN oL x_ways ++ (gE cy qE e_queue e_from e_allowed e_allowedSize e_kind e_base e_n e_want e_rules e_queued e_goal e_length ++ (gG cy qG g_base g_worth g_row g_many g_version))) (kQi D cy (fun _ : Unit => gX cy qX (qG 0) (qP 0) (qR 0) oS oB (some (qE 0)) oN oL x_ways ++ (gE cy qE res.2.1 res.2.2.1 res.2.2.2.1 res.2.2.2.2.1 res.2.2.2.2.2.1 res.2.2.2.2.2.2.1 res.2.2.2.2.2.2.2.1 res.2.2.2.2.2.2.2.2.1 res.2.2.2.2.2.2.2.2.2.1 res.2.2.2.2.2.2.2.2.2.2.1 res.2.2.2.2.2.2.2.2.2.2.2.1 res.2.2.2.2.2.2.2.2.2.2.2.2 ++ (gG cy qG g_base g_worth g_row g_many g_version))) res.1) := by
  refine kent_i (cc := cX10_summed) (maxL := 4) (by decide) rfl (Nat.le_of_ble_eq_true rfl) ?_
  intro p e0 s m ar below meth c A Q ls ⟨hx, hb, hml, hr, hts, hown, hlocks, hnm⟩ hA hK hN hQ hP hD hS hl
  have hl : lv_has ls 4 [(0, .ref (qX 0)), (1, .int a1), (2, .int a2), (3, .int a3)] := hl
  have hown : s.vm.findClass RX10 = some m.cls := hown
  unfold f_X10_summed_P at hf
  have hJ26 : ∀ (e_queue : Nat → Int32) (e_from : Nat → Int32) (e_allowed : Nat → Int32) (e_allowedSize : Int32) (e_kind : Int32) (e_base : Int32) (e_n : Int32) (e_want : Int32) (e_rules : Int32) (e_queued : Int32) (e_goal : Int32) (e_length : Int32) (H : Heap) (locs : List Loc) (ls : Array Slot), f_X10_summed_P_J26 F e_queue e_from e_allowed e_allowedSize e_kind e_base e_n e_want e_rules e_queued e_goal e_length = some res → va_P D vwCl (gX cy qX (qG 0) (qP 0) (qR 0) oS oB (some (qE 0)) oN oL x_ways ++ (gE cy qE e_queue e_from e_allowed e_allowedSize e_kind e_base e_n e_want e_rules e_queued e_goal e_length ++ (gG cy qG g_base g_worth g_row g_many g_version))) H → va_D A (gX cy qX (qG 0) (qP 0) (qR 0) oS oB (some (qE 0)) oN oL x_ways ++ (gE cy qE e_queue e_from e_allowed e_allowedSize e_kind e_base e_n e_want e_rules e_queued e_goal e_length ++ (gG cy qG g_base g_worth g_row g_many g_version))) → va_S A s.heap H locs → lv_has ls 4 [] → W p l e0 rmX10_summed_P s m ar below meth c H locs 0 0 Q (F0 m 26 ls []) := by
    intro e_queue e_from e_allowed e_allowedSize e_kind e_base e_n e_want e_rules e_queued e_goal e_length H locs ls hf hP hD hS hl
    unfold f_X10_summed_P_J26 at hf
    refine lv_iconst (v := (-1 : Int32)) hx hb dX10_summed_26 (by decide) ?_
    obtain rfl := Option.some.inj hf
    exact hQ () 27 _ _ _ dX10_summed_27 hP hD hS
  refine lv_iload_n hx hb dX10_summed_0 rfl (lv_at hl 1 rfl) ?_
  refine lv_iconst (v := (1 : Int32)) hx hb dX10_summed_1 (by decide) ?_
  refine lv_sipush (v := (300 : Int32)) hx hb dX10_summed_2 (by decide) ?_
  obtain ⟨r1, hc2, hf⟩ := ob_some hf
  refine kc_i (k_runS ⟨hx, hb, hml, hown, hts⟩ (c_X10_within hc2) (va_cwS 3 hts gX10_summed_X10_within rfl rfl rfl (by decide +kernel) ⟨Nat.le_of_ble_eq_true rfl, Nat.le_of_ble_eq_true rfl⟩) hK hN hP hD kA_0 rfl hl.1 rfl (Nat.le_of_ble_eq_true rfl) dX10_summed_5 ⟨Nat.le_of_ble_eq_true rfl, Nat.le_of_ble_eq_true rfl⟩) hP hD hS hA kI_0 (fun _ H locs hP hD hS => ?_)
  refine lv_if_eq (tgt := 26) hx hb dX10_summed_8 (by decide) (fun c3 => ?_) (fun c3 => ?_)
  · have hf := if_t hf c3
    exact hJ26 e_queue e_from e_allowed e_allowedSize e_kind e_base e_n e_want e_rules e_queued e_goal e_length _ _ _ hf hP hD hS (lv_sub hl [] rfl)
  · have hf := if_f hf c3
    refine lv_iload_n hx hb dX10_summed_11 rfl (lv_at hl 2 rfl) ?_
    refine lv_iconst (v := (1 : Int32)) hx hb dX10_summed_12 (by decide) ?_
    refine lv_bipush (v := (60 : Int32)) hx hb dX10_summed_13 (by decide) ?_
    obtain ⟨r4, hc5, hf⟩ := ob_some hf
    refine kc_i (k_runS ⟨hx, hb, hml, hown, hts⟩ (c_X10_within hc5) (va_cwS 3 hts gX10_summed_X10_within rfl rfl rfl (by decide +kernel) ⟨Nat.le_of_ble_eq_true rfl, Nat.le_of_ble_eq_true rfl⟩) hK hN hP hD kA_0 rfl hl.1 rfl (Nat.le_of_ble_eq_true rfl) dX10_summed_15 ⟨Nat.le_of_ble_eq_true rfl, Nat.le_of_ble_eq_true rfl⟩) hP hD hS hA kI_0 (fun _ H locs hP hD hS => ?_)
    refine lv_if_eq (tgt := 26) hx hb dX10_summed_18 (by decide) (fun c6 => ?_) (fun c6 => ?_)
    · have hf := if_t hf c6
      exact hJ26 e_queue e_from e_allowed e_allowedSize e_kind e_base e_n e_want e_rules e_queued e_goal e_length _ _ _ hf hP hD hS (lv_sub hl [] rfl)
    · have hf := if_f hf c6
      refine lv_iload_n hx hb dX10_summed_21 rfl (lv_at hl 3 rfl) ?_
      refine lv_iconst (v := (-1 : Int32)) hx hb dX10_summed_22 (by decide) ?_
      refine lv_icmp_ge (tgt := 28) hx hb dX10_summed_23 (by decide) (fun c7 => ?_) (fun c7 => ?_)
      · have hf := if_t hf c7
        refine lv_aload_n hx hb dX10_summed_28 rfl (lv_at hl 0 rfl) ?_
        refine lv_iconst (v := (2 : Int32)) hx hb dX10_summed_29 (by decide) ?_
        refine lv_iload_n hx hb dX10_summed_30 rfl (lv_at hl 1 rfl) ?_
        refine lv_iload_n hx hb dX10_summed_31 rfl (lv_at hl 2 rfl) ?_
        refine lv_iload_n hx hb dX10_summed_32 rfl (lv_at hl 3 rfl) ?_
        obtain ⟨r8, hc9, hf⟩ := ob_some hf
        refine kc_i (k_run ⟨hx, hb, hml, hown, hts⟩ (c_X10_searched_P hc9) (cwV 4 hts gX10_summed_X10_searched rfl rfl rfl (by decide +kernel) ⟨Nat.le_of_ble_eq_true rfl, Nat.le_of_ble_eq_true rfl⟩) hK hN hP hD kA_s (ci := 10) (q0 := 0) rfl rfl rfl rfl hl.1 rfl (Nat.le_of_ble_eq_true rfl) dX10_summed_33 ⟨Nat.le_of_ble_eq_true rfl, Nat.le_of_ble_eq_true rfl⟩) hP hD hS hA kI_s (fun _ H locs hP hD hS => ?_)
        obtain rfl := Option.some.inj hf
        exact hQ () 36 _ _ _ dX10_summed_36 hP hD hS
      · have hf := if_f hf c7
        exact hJ26 e_queue e_from e_allowed e_allowedSize e_kind e_base e_n e_want e_rules e_queued e_goal e_length _ _ _ hf hP hD hS (lv_sub hl [] rfl)
