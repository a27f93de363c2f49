/-! the reference: functions and contracts -/
def f_X11_stepOf (F : Nat) (a1 : Int32) (a2 : Int64) (m_base : Int32) (m_f : Nat → Int32) (m_many : Int32) (m_figures : Nat → Int32) : Option (Int64 × Int32 × (Nat → Int32)) := if a1 = 0 then ((f_X11_sum F a2 m_base m_f m_many m_figures).bind (fun r2 => some (r2.1, r2.2.1, r2.2.2))) else if a1 = 1 then ((f_X11_turned F a2 m_base m_many m_figures).bind (fun r5 => some (r5.1, r5.2.1, r5.2.2))) else if a1 = 2 then ((f_X11_turned F a2 m_base m_many m_figures).bind (fun r8 => some ((a2 + r8.1), r8.2.1, r8.2.2))) else if a1 = 3 then ((f_X11_sorted F a2 m_base m_many m_figures).bind (fun r11 => some (r11.1, r11.2.1, r11.2.2))) else if a1 = 4 then ((f_X11_sum F a2 m_base m_f m_many m_figures).bind (fun r14 => some ((a2 + r14.1), r14.2.1, r14.2.2))) else if a1 = 5 then ((f_X11_product F a2 m_base m_f m_many m_figures).bind (fun r17 => some (r17.1, r17.2.1, r17.2.2))) else ((f_X11_sum F a2 m_base m_f m_many m_figures).bind (fun r19 => some ((a2 + r19.1), r19.2.1, r19.2.2)))
abbrev rmX11_stepOf : Room := { frames := 2, cells := 0, slots := 0, locals := 52 }
set_option maxHeartbeats 1000000 in
set_option maxRecDepth 100000 in
theorem c_X11_stepOf {l : Launch} {D : va_G} {cy : Nat → ClassId} {qM : Nat → Nat} {m_base : Int32} {m_f : Nat → Int32} {m_many : Int32} {m_figures : Nat → Int32} {m_tail : Int32} {m_round : Int32} {m_rounds : Int32} {m_leasts : Nat → Int64} {m_likes : Int32} {m_like : Nat → Int32} {m_isTwo : Nat → Int32} {m_came : Nat → Int32} {m_by : Nat → Int32} {m_queue : Nat → Int32} {m_kind : Int32} {m_parts : Int32} {m_wanted : Int32} {m_allowed : Int32} {m_bitOf : Nat → Int32} {m_met : Int32} {m_row : Nat → Int32} {m_narrows : Int32} {m_narrow : Nat → Int64} {m_isMade : Nat → Int32} {a1 : Int32} {a2 : Int64} {F : Nat} {res : Int64 × Int32 × (Nat → Int32)} (hf : f_X11_stepOf F a1 a2 m_base m_f m_many m_figures = some res) : kM l yX11_stepOf wsX11_stepOf rmX11_stepOf D cy [.ref (qM 0), .int a1, .long a2] (gM cy qM m_base m_f m_many m_figures m_tail m_round m_rounds m_leasts m_likes m_like m_isTwo m_came m_by m_queue m_kind m_parts m_wanted m_allowed m_bitOf m_met m_row m_narrows m_narrow m_isMade) (kQl D cy (fun _ : Unit => gM cy qM m_base m_f res.2.1 res.2.2 m_tail m_round m_rounds m_leasts m_likes m_like m_isTwo m_came m_by m_queue m_kind m_parts m_wanted m_allowed m_bitOf m_met m_row m_narrows m_narrow m_isMade) res.1) := by
  refine kent_l (cc := cX11_stepOf) (maxL := 4) (by decide) rfl (Nat.le_of_ble_eq_true rfl) ?_
  intro p e0 s m ar below meth c A Q ls ⟨hx, hb, hml, hr, hts, hown, hlocks, hnm⟩ hA hK hN hQ hP hD hS hl
  have hl : lv_has ls 4 [(0, .ref (qM 0)), (1, .int a1), (2, .long a2)] := hl
  have hown : s.vm.findClass RX11 = some m.cls := hown
  unfold f_X11_stepOf at hf
  refine lv_iload_n hx hb dX11_stepOf_0 rfl (lv_at hl 1 rfl) ?_
  by_cases c1 : a1 = 0
  · have hf := if_t hf c1
    refine lv_tableIn (tgt := 46) hx hb dX11_stepOf_1 (by rw [c1]; decide) (by rw [c1]; decide) (by rw [c1]; rfl) (by decide) ?_
    refine lv_aload_n hx hb dX11_stepOf_46 rfl (lv_at hl 0 rfl) ?_
    refine lv_lload_n hx hb dX11_stepOf_47 rfl (lv_at hl 2 rfl) ?_
    obtain ⟨r2, hc3, hf⟩ := ob_some hf
    refine kc_l (k_run ⟨hx, hb, hml, hown, hts⟩ (c_X11_sum hc3) (cwV 1 hts gX11_stepOf_X11_sum rfl rfl rfl (by decide +kernel) ⟨Nat.le_of_ble_eq_true rfl, Nat.le_of_ble_eq_true rfl⟩) hK hN hP hD kA_s (ci := 11) (q0 := 0) rfl rfl rfl rfl hl.1 rfl (Nat.le_of_ble_eq_true rfl) dX11_stepOf_48 ⟨Nat.le_of_ble_eq_true rfl, Nat.le_of_ble_eq_true rfl⟩) hP hD hS hA kI_s (fun _ H locs hP hD hS => ?_)
    obtain rfl := Option.some.inj hf
    exact hQ () 51 _ _ _ dX11_stepOf_51 hP hD hS
  have hf := if_f hf c1
  by_cases c4 : a1 = 1
  · have hf := if_t hf c4
    refine lv_tableIn (tgt := 52) hx hb dX11_stepOf_1 (by rw [c4]; decide) (by rw [c4]; decide) (by rw [c4]; rfl) (by decide) ?_
    refine lv_aload_n hx hb dX11_stepOf_52 rfl (lv_at hl 0 rfl) ?_
    refine lv_lload_n hx hb dX11_stepOf_53 rfl (lv_at hl 2 rfl) ?_
    obtain ⟨r5, hc6, hf⟩ := ob_some hf
    refine kc_l (k_run ⟨hx, hb, hml, hown, hts⟩ (c_X11_turned hc6) (cwV 1 hts gX11_stepOf_X11_turned rfl rfl rfl (by decide +kernel) ⟨Nat.le_of_ble_eq_true rfl, Nat.le_of_ble_eq_true rfl⟩) hK hN hP hD kA_s (ci := 11) (q0 := 0) rfl rfl rfl rfl hl.1 rfl (Nat.le_of_ble_eq_true rfl) dX11_stepOf_54 ⟨Nat.le_of_ble_eq_true rfl, Nat.le_of_ble_eq_true rfl⟩) hP hD hS hA kI_s (fun _ H locs hP hD hS => ?_)
    obtain rfl := Option.some.inj hf
    exact hQ () 57 _ _ _ dX11_stepOf_57 hP hD hS
  have hf := if_f hf c4
  by_cases c7 : a1 = 2
  · have hf := if_t hf c7
    refine lv_tableIn (tgt := 58) hx hb dX11_stepOf_1 (by rw [c7]; decide) (by rw [c7]; decide) (by rw [c7]; rfl) (by decide) ?_
    refine lv_lload_n hx hb dX11_stepOf_58 rfl (lv_at hl 2 rfl) ?_
    refine lv_aload_n hx hb dX11_stepOf_59 rfl (lv_at hl 0 rfl) ?_
    refine lv_lload_n hx hb dX11_stepOf_60 rfl (lv_at hl 2 rfl) ?_
    obtain ⟨r8, hc9, hf⟩ := ob_some hf
    refine kc_l (k_run ⟨hx, hb, hml, hown, hts⟩ (c_X11_turned hc9) (cwV 1 hts gX11_stepOf_X11_turned rfl rfl rfl (by decide +kernel) ⟨Nat.le_of_ble_eq_true rfl, Nat.le_of_ble_eq_true rfl⟩) hK hN hP hD kA_s (ci := 11) (q0 := 0) rfl rfl rfl rfl hl.1 rfl (Nat.le_of_ble_eq_true rfl) dX11_stepOf_61 ⟨Nat.le_of_ble_eq_true rfl, Nat.le_of_ble_eq_true rfl⟩) hP hD hS hA kI_s (fun _ H locs hP hD hS => ?_)
    refine lv_ladd hx hb dX11_stepOf_64 ?_
    obtain rfl := Option.some.inj hf
    exact hQ () 65 _ _ _ dX11_stepOf_65 hP hD hS
  have hf := if_f hf c7
  by_cases c10 : a1 = 3
  · have hf := if_t hf c10
    refine lv_tableIn (tgt := 66) hx hb dX11_stepOf_1 (by rw [c10]; decide) (by rw [c10]; decide) (by rw [c10]; rfl) (by decide) ?_
    refine lv_aload_n hx hb dX11_stepOf_66 rfl (lv_at hl 0 rfl) ?_
    refine lv_lload_n hx hb dX11_stepOf_67 rfl (lv_at hl 2 rfl) ?_
    obtain ⟨r11, hc12, hf⟩ := ob_some hf
    refine kc_l (k_run ⟨hx, hb, hml, hown, hts⟩ (c_X11_sorted hc12) (cwV 1 hts gX11_stepOf_X11_sorted rfl rfl rfl (by decide +kernel) ⟨Nat.le_of_ble_eq_true rfl, Nat.le_of_ble_eq_true rfl⟩) hK hN hP hD kA_s (ci := 11) (q0 := 0) rfl rfl rfl rfl hl.1 rfl (Nat.le_of_ble_eq_true rfl) dX11_stepOf_68 ⟨Nat.le_of_ble_eq_true rfl, Nat.le_of_ble_eq_true rfl⟩) hP hD hS hA kI_s (fun _ H locs hP hD hS => ?_)
    obtain rfl := Option.some.inj hf
    exact hQ () 71 _ _ _ dX11_stepOf_71 hP hD hS
  have hf := if_f hf c10
  by_cases c13 : a1 = 4
  · have hf := if_t hf c13
    refine lv_tableIn (tgt := 72) hx hb dX11_stepOf_1 (by rw [c13]; decide) (by rw [c13]; decide) (by rw [c13]; rfl) (by decide) ?_
    refine lv_lload_n hx hb dX11_stepOf_72 rfl (lv_at hl 2 rfl) ?_
    refine lv_aload_n hx hb dX11_stepOf_73 rfl (lv_at hl 0 rfl) ?_
    refine lv_lload_n hx hb dX11_stepOf_74 rfl (lv_at hl 2 rfl) ?_
    obtain ⟨r14, hc15, hf⟩ := ob_some hf
    refine kc_l (k_run ⟨hx, hb, hml, hown, hts⟩ (c_X11_sum hc15) (cwV 1 hts gX11_stepOf_X11_sum rfl rfl rfl (by decide +kernel) ⟨Nat.le_of_ble_eq_true rfl, Nat.le_of_ble_eq_true rfl⟩) hK hN hP hD kA_s (ci := 11) (q0 := 0) rfl rfl rfl rfl hl.1 rfl (Nat.le_of_ble_eq_true rfl) dX11_stepOf_75 ⟨Nat.le_of_ble_eq_true rfl, Nat.le_of_ble_eq_true rfl⟩) hP hD hS hA kI_s (fun _ H locs hP hD hS => ?_)
    refine lv_ladd hx hb dX11_stepOf_78 ?_
    obtain rfl := Option.some.inj hf
    exact hQ () 79 _ _ _ dX11_stepOf_79 hP hD hS
  have hf := if_f hf c13
  by_cases c16 : a1 = 5
  · have hf := if_t hf c16
    refine lv_tableIn (tgt := 40) hx hb dX11_stepOf_1 (by rw [c16]; decide) (by rw [c16]; decide) (by rw [c16]; rfl) (by decide) ?_
    refine lv_aload_n hx hb dX11_stepOf_40 rfl (lv_at hl 0 rfl) ?_
    refine lv_lload_n hx hb dX11_stepOf_41 rfl (lv_at hl 2 rfl) ?_
    obtain ⟨r17, hc18, hf⟩ := ob_some hf
    refine kc_l (k_run ⟨hx, hb, hml, hown, hts⟩ (c_X11_product hc18) (cwV 1 hts gX11_stepOf_X11_product rfl rfl rfl (by decide +kernel) ⟨Nat.le_of_ble_eq_true rfl, Nat.le_of_ble_eq_true rfl⟩) hK hN hP hD kA_s (ci := 11) (q0 := 0) rfl rfl rfl rfl hl.1 rfl (Nat.le_of_ble_eq_true rfl) dX11_stepOf_42 ⟨Nat.le_of_ble_eq_true rfl, Nat.le_of_ble_eq_true rfl⟩) hP hD hS hA kI_s (fun _ H locs hP hD hS => ?_)
    obtain rfl := Option.some.inj hf
    exact hQ () 45 _ _ _ dX11_stepOf_45 hP hD hS
  have hf := if_f hf c16
  have nc1 : a1.toInt ≠ 0 := ts_ne c1
  have nc4 : a1.toInt ≠ 1 := ts_ne c4
  have nc7 : a1.toInt ≠ 2 := ts_ne c7
  have nc10 : a1.toInt ≠ 3 := ts_ne c10
  have nc13 : a1.toInt ≠ 4 := ts_ne c13
  have nc16 : a1.toInt ≠ 5 := ts_ne c16
  refine lv_tableOut (tgt := 72) hx hb dX11_stepOf_1 (by omega) (by decide) ?_
  refine lv_lload_n hx hb dX11_stepOf_72 rfl (lv_at hl 2 rfl) ?_
  refine lv_aload_n hx hb dX11_stepOf_73 rfl (lv_at hl 0 rfl) ?_
  refine lv_lload_n hx hb dX11_stepOf_74 rfl (lv_at hl 2 rfl) ?_
  obtain ⟨r19, hc20, hf⟩ := ob_some hf
  refine kc_l (k_run ⟨hx, hb, hml, hown, hts⟩ (c_X11_sum hc20) (cwV 1 hts gX11_stepOf_X11_sum rfl rfl rfl (by decide +kernel) ⟨Nat.le_of_ble_eq_true rfl, Nat.le_of_ble_eq_true rfl⟩) hK hN hP hD kA_s (ci := 11) (q0 := 0) rfl rfl rfl rfl hl.1 rfl (Nat.le_of_ble_eq_true rfl) dX11_stepOf_75 ⟨Nat.le_of_ble_eq_true rfl, Nat.le_of_ble_eq_true rfl⟩) hP hD hS hA kI_s (fun _ H locs hP hD hS => ?_)
  refine lv_ladd hx hb dX11_stepOf_78 ?_
  obtain rfl := Option.some.inj hf
  exact hQ () 79 _ _ _ dX11_stepOf_79 hP hD hS
def f_X11_step_J35 (F : Nat) (s0 : Int64) (m_many : Int32) (m_figures : Nat → Int32) : Option (Int64 × Int32 × (Nat → Int32)) := some (s0, m_many, m_figures)
def f_X11_step_J32 (F : Nat) (m_many : Int32) (m_figures : Nat → Int32) : Option (Int64 × Int32 × (Nat → Int32)) := f_X11_step_J35 F (-1 : Int64) m_many m_figures
def f_X11_step (F : Nat) (a1 : Int32) (a2 : Int64) (m_base : Int32) (m_f : Nat → Int32) (m_many : Int32) (m_figures : Nat → Int32) : Option (Int64 × Int32 × (Nat → Int32)) := (f_X11_in F a1.toInt64 (0 : Int64) (5 : Int64)).bind (fun r1 => if r1 = 0 then (f_X11_step_J32 F m_many m_figures) else ((f_X11_in F a2 (0 : Int64) (1000000000000000 : Int64)).bind (fun r4 => if r4 = 0 then (f_X11_step_J32 F m_many m_figures) else ((f_X11_stepOf F a1 a2 m_base m_f m_many m_figures).bind (fun r7 => f_X11_step_J35 F r7.1 r7.2.1 r7.2.2)))))
abbrev rmX11_step : Room := { frames := 3, cells := 0, slots := 0, locals := 75 }
set_option maxHeartbeats 1000000 in
set_option maxRecDepth 100000 in
theorem c_X11_step {l : Launch} {D : va_G} {cy : Nat → ClassId} {qM : Nat → Nat} {m_base : Int32} {m_f : Nat → Int32} {m_many : Int32} {m_figures : Nat → Int32} {m_tail : Int32} {m_round : Int32} {m_rounds : Int32} {m_leasts : Nat → Int64} {m_likes : Int32} {m_like : Nat → Int32} {m_isTwo : Nat → Int32} {m_came : Nat → Int32} {m_by : Nat → Int32} {m_queue : Nat → Int32} {m_kind : Int32} {m_parts : Int32} {m_wanted : Int32} {m_allowed : Int32} {m_bitOf : Nat → Int32} {m_met : Int32} {m_row : Nat → Int32} {m_narrows : Int32} {m_narrow : Nat → Int64} {m_isMade : Nat → Int32} {a1 : Int32} {a2 : Int64} {F : Nat} {res : Int64 × Int32 × (Nat → Int32)} (hf : f_X11_step F a1 a2 m_base m_f m_many m_figures = some res) : kM l yX11_step wsX11_step rmX11_step D cy [.ref (qM 0), .int a1, .long a2] (gM cy qM m_base m_f m_many m_figures m_tail m_round m_rounds m_leasts m_likes m_like m_isTwo m_came m_by m_queue m_kind m_parts m_wanted m_allowed m_bitOf m_met m_row m_narrows m_narrow m_isMade) (kQl D cy (fun _ : Unit => gM cy qM m_base m_f res.2.1 res.2.2 m_tail m_round m_rounds m_leasts m_likes m_like m_isTwo m_came m_by m_queue m_kind m_parts m_wanted m_allowed m_bitOf m_met m_row m_narrows m_narrow m_isMade) res.1) := by
  refine kent_l (cc := cX11_step) (maxL := 4) (by decide) rfl (Nat.le_of_ble_eq_true rfl) ?_
  intro p e0 s m ar below meth c A Q ls ⟨hx, hb, hml, hr, hts, hown, hlocks, hnm⟩ hA hK hN hQ hP hD hS hl
  have hl : lv_has ls 4 [(0, .ref (qM 0)), (1, .int a1), (2, .long a2)] := hl
  have hown : s.vm.findClass RX11 = some m.cls := hown
  have fk95 : (Cond.constantLong RX11 95 (-1)).before ar s = true := hts _ (by decide +kernel)
  have fk89 : (Cond.constantLong RX11 89 (5)).before ar s = true := hts _ (by decide +kernel)
  have fk68 : (Cond.constantLong RX11 68 (1000000000000000)).before ar s = true := hts _ (by decide +kernel)
  unfold f_X11_step at hf
  have hJ35 : ∀ (s0 : Int64) (m_many : Int32) (m_figures : Nat → Int32) (H : Heap) (locs : List Loc) (ls : Array Slot), f_X11_step_J35 F s0 m_many m_figures = some res → va_P D vwCl (gM cy qM m_base m_f m_many m_figures m_tail m_round m_rounds m_leasts m_likes m_like m_isTwo m_came m_by m_queue m_kind m_parts m_wanted m_allowed m_bitOf m_met m_row m_narrows m_narrow m_isMade) H → va_D A (gM cy qM m_base m_f m_many m_figures m_tail m_round m_rounds m_leasts m_likes m_like m_isTwo m_came m_by m_queue m_kind m_parts m_wanted m_allowed m_bitOf m_met m_row m_narrows m_narrow m_isMade) → va_S A s.heap H locs → lv_has ls 4 [] → W p l e0 rmX11_step s m ar below meth c H locs 0 0 Q (F0 m 35 ls [.long s0]) := by
    intro s0 m_many m_figures H locs ls hf hP hD hS hl
    unfold f_X11_step_J35 at hf
    obtain rfl := Option.some.inj hf
    exact hQ () 35 _ _ _ dX11_step_35 hP hD hS
  have hJ32 : ∀ (m_many : Int32) (m_figures : Nat → Int32) (H : Heap) (locs : List Loc) (ls : Array Slot), f_X11_step_J32 F m_many m_figures = some res → va_P D vwCl (gM cy qM m_base m_f m_many m_figures m_tail m_round m_rounds m_leasts m_likes m_like m_isTwo m_came m_by m_queue m_kind m_parts m_wanted m_allowed m_bitOf m_met m_row m_narrows m_narrow m_isMade) H → va_D A (gM cy qM m_base m_f m_many m_figures m_tail m_round m_rounds m_leasts m_likes m_like m_isTwo m_came m_by m_queue m_kind m_parts m_wanted m_allowed m_bitOf m_met m_row m_narrows m_narrow m_isMade) → va_S A s.heap H locs → lv_has ls 4 [] → W p l e0 rmX11_step s m ar below meth c H locs 0 0 Q (F0 m 32 ls []) := by
    intro m_many m_figures H locs ls hf hP hD hS hl
    unfold f_X11_step_J32 at hf
    refine lv_ldc2 (v := (-1 : Int64)) hx hb hown fk95 dX11_step_32 ?_
    exact hJ35 (-1 : Int64) m_many m_figures _ _ _ hf hP hD hS (lv_sub hl [] rfl)
  refine lv_iload_n hx hb dX11_step_0 rfl (lv_at hl 1 rfl) ?_
  refine lv_i2l hx hb dX11_step_1 rfl ?_
  refine lv_lconst (v := (0 : Int64)) hx hb dX11_step_2 (by decide) ?_
  refine lv_ldc2 (v := (5 : Int64)) hx hb hown fk89 dX11_step_3 ?_
  obtain ⟨r1, hc2, hf⟩ := ob_some hf
  refine kc_i (k_runS ⟨hx, hb, hml, hown, hts⟩ (c_X11_in hc2) (va_cwS 3 hts gX11_step_X11_in rfl rfl rfl (by decide +kernel) ⟨Nat.le_of_ble_eq_true rfl, Nat.le_of_ble_eq_true rfl⟩) hK hN hP hD kA_0 rfl hl.1 rfl (Nat.le_of_ble_eq_true rfl) dX11_step_6 ⟨Nat.le_of_ble_eq_true rfl, Nat.le_of_ble_eq_true rfl⟩) hP hD hS hA kI_0 (fun _ H locs hP hD hS => ?_)
  refine lv_if_eq (tgt := 32) hx hb dX11_step_9 (by decide) (fun c3 => ?_) (fun c3 => ?_)
  · have hf := if_t hf c3
    exact hJ32 m_many m_figures _ _ _ hf hP hD hS (lv_sub hl [] rfl)
  · have hf := if_f hf c3
    refine lv_lload_n hx hb dX11_step_12 rfl (lv_at hl 2 rfl) ?_
    refine lv_lconst (v := (0 : Int64)) hx hb dX11_step_13 (by decide) ?_
    refine lv_ldc2 (v := (1000000000000000 : Int64)) hx hb hown fk68 dX11_step_14 ?_
    obtain ⟨r4, hc5, hf⟩ := ob_some hf
    refine kc_i (k_runS ⟨hx, hb, hml, hown, hts⟩ (c_X11_in hc5) (va_cwS 3 hts gX11_step_X11_in rfl rfl rfl (by decide +kernel) ⟨Nat.le_of_ble_eq_true rfl, Nat.le_of_ble_eq_true rfl⟩) hK hN hP hD kA_0 rfl hl.1 rfl (Nat.le_of_ble_eq_true rfl) dX11_step_17 ⟨Nat.le_of_ble_eq_true rfl, Nat.le_of_ble_eq_true rfl⟩) hP hD hS hA kI_0 (fun _ H locs hP hD hS => ?_)
    refine lv_if_eq (tgt := 32) hx hb dX11_step_20 (by decide) (fun c6 => ?_) (fun c6 => ?_)
    · have hf := if_t hf c6
      exact hJ32 m_many m_figures _ _ _ hf hP hD hS (lv_sub hl [] rfl)
    · have hf := if_f hf c6
      refine lv_aload_n hx hb dX11_step_23 rfl (lv_at hl 0 rfl) ?_
      refine lv_iload_n hx hb dX11_step_24 rfl (lv_at hl 1 rfl) ?_
      refine lv_lload_n hx hb dX11_step_25 rfl (lv_at hl 2 rfl) ?_
      obtain ⟨r7, hc8, hf⟩ := ob_some hf
      refine kc_l (k_run ⟨hx, hb, hml, hown, hts⟩ (c_X11_stepOf hc8) (cwV 2 hts gX11_step_X11_stepOf rfl rfl rfl (by decide +kernel) ⟨Nat.le_of_ble_eq_true rfl, Nat.le_of_ble_eq_true rfl⟩) hK hN hP hD kA_s (ci := 11) (q0 := 0) rfl rfl rfl rfl hl.1 rfl (Nat.le_of_ble_eq_true rfl) dX11_step_26 ⟨Nat.le_of_ble_eq_true rfl, Nat.le_of_ble_eq_true rfl⟩) hP hD hS hA kI_s (fun _ H locs hP hD hS => ?_)
      refine lv_goto (tgt := 35) hx hb dX11_step_29 (by decide) ?_
      exact hJ35 r7.1 r7.2.1 r7.2.2 _ _ _ hf hP hD hS (lv_sub hl [] rfl)
def f_X11_behind_B6 (F : Nat) (a1 : Int32) (a4 : Int32) (m_base : Int32) (m_f : Nat → Int32) (rec : Int64 × Int32 × Int32 × (Nat → Int32) → Option (Int64 × Int32 × (Nat → Int32))) (x : Int64 × Int32 × Int32 × (Nat → Int32)) : Option (Int64 × Int32 × (Nat → Int32)) := if a4 ≤ x.2.1 then (some (x.1, x.2.2.1, x.2.2.2)) else (if (1000000000000000 : Int64) < x.1 then (some (x.1, x.2.2.1, x.2.2.2)) else ((f_X11_stepOf F a1 x.1 m_base m_f x.2.2.1 x.2.2.2).bind (fun r3 => rec (r3.1, (x.2.1 + (1 : Int32)), r3.2.1, r3.2.2))))
def f_X11_behind (F : Nat) (a1 : Int32) (a2 : Int64) (a4 : Int32) (m_base : Int32) (m_f : Nat → Int32) (m_many : Int32) (m_figures : Nat → Int32) : Option (Int64 × Int32 × (Nat → Int32)) := (lp (f_X11_behind_B6 F a1 a4 m_base m_f) F (a2, (0 : Int32), m_many, m_figures)).bind (fun ex5 => some (ex5.1, ex5.2.1, ex5.2.2))
abbrev rmX11_behind : Room := { frames := 3, cells := 0, slots := 0, locals := 75 }
set_option maxHeartbeats 1000000 in
set_option maxRecDepth 100000 in
theorem c_X11_behind {l : Launch} {D : va_G} {cy : Nat → ClassId} {qM : Nat → Nat} {m_base : Int32} {m_f : Nat → Int32} {m_many : Int32} {m_figures : Nat → Int32} {m_tail : Int32} {m_round : Int32} {m_rounds : Int32} {m_leasts : Nat → Int64} {m_likes : Int32} {m_like : Nat → Int32} {m_isTwo : Nat → Int32} {m_came : Nat → Int32} {m_by : Nat → Int32} {m_queue : Nat → Int32} {m_kind : Int32} {m_parts : Int32} {m_wanted : Int32} {m_allowed : Int32} {m_bitOf : Nat → Int32} {m_met : Int32} {m_row : Nat → Int32} {m_narrows : Int32} {m_narrow : Nat → Int64} {m_isMade : Nat → Int32} {a1 : Int32} {a2 : Int64} {a4 : Int32} {F : Nat} {res : Int64 × Int32 × (Nat → Int32)} (hf : f_X11_behind F a1 a2 a4 m_base m_f m_many m_figures = some res) : kM l yX11_behind wsX11_behind rmX11_behind D cy [.ref (qM 0), .int a1, .long a2, .int a4] (gM cy qM m_base m_f m_many m_figures m_tail m_round m_rounds m_leasts m_likes m_like m_isTwo m_came m_by m_queue m_kind m_parts m_wanted m_allowed m_bitOf m_met m_row m_narrows m_narrow m_isMade) (kQl D cy (fun _ : Unit => gM cy qM m_base m_f res.2.1 res.2.2 m_tail m_round m_rounds m_leasts m_likes m_like m_isTwo m_came m_by m_queue m_kind m_parts m_wanted m_allowed m_bitOf m_met m_row m_narrows m_narrow m_isMade) res.1) := by
  refine kent_l (cc := cX11_behind) (maxL := 8) (by decide) rfl (Nat.le_of_ble_eq_true rfl) ?_
  intro p e0 s m ar below meth c A Q ls ⟨hx, hb, hml, hr, hts, hown, hlocks, hnm⟩ hA hK hN hQ hP hD hS hl
  have hl : lv_has ls 8 [(0, .ref (qM 0)), (1, .int a1), (2, .long a2), (4, .int a4)] := hl
  have hown : s.vm.findClass RX11 = some m.cls := hown
  have fk68 : (Cond.constantLong RX11 68 (1000000000000000)).before ar s = true := hts _ (by decide +kernel)
  unfold f_X11_behind at hf
  have hL6 : ∀ (k : Nat) (x : Int64 × Int32 × Int32 × (Nat → Int32)) (ex : Int64 × Int32 × (Nat → Int32)) (H : Heap) (locs : List Loc) (ls : Array Slot), lp (f_X11_behind_B6 F a1 a4 m_base m_f) k x = some ex → (∀ (H : Heap) (locs : List Loc) (ls : Array Slot), va_P D vwCl (gM cy qM m_base m_f ex.2.1 ex.2.2 m_tail m_round m_rounds m_leasts m_likes m_like m_isTwo m_came m_by m_queue m_kind m_parts m_wanted m_allowed m_bitOf m_met m_row m_narrows m_narrow m_isMade) H → va_D A (gM cy qM m_base m_f ex.2.1 ex.2.2 m_tail m_round m_rounds m_leasts m_likes m_like m_isTwo m_came m_by m_queue m_kind m_parts m_wanted m_allowed m_bitOf m_met m_row m_narrows m_narrow m_isMade) → va_S A s.heap H locs → lv_has ls 8 [(5, .long ex.1)] → W p l e0 rmX11_behind s m ar below meth c H locs 0 0 Q (F0 m 37 ls [])) → va_P D vwCl (gM cy qM m_base m_f x.2.2.1 x.2.2.2 m_tail m_round m_rounds m_leasts m_likes m_like m_isTwo m_came m_by m_queue m_kind m_parts m_wanted m_allowed m_bitOf m_met m_row m_narrows m_narrow m_isMade) H → va_D A (gM cy qM m_base m_f x.2.2.1 x.2.2.2 m_tail m_round m_rounds m_leasts m_likes m_like m_isTwo m_came m_by m_queue m_kind m_parts m_wanted m_allowed m_bitOf m_met m_row m_narrows m_narrow m_isMade) → va_S A s.heap H locs → lv_has ls 8 [(0, .ref (qM 0)), (1, .int a1), (4, .int a4), (5, .long x.1), (7, .int x.2.1)] → W p l e0 rmX11_behind s m ar below meth c H locs 0 0 Q (F0 m 6 ls []) := by
    intro k
    induction k with
    | zero => intro x ex H locs ls hf; exact no_some hf
    | succ k ih =>
      intro x ex H locs ls hf hex hP hD hS hl
      have hf : f_X11_behind_B6 F a1 a4 m_base m_f (lp (f_X11_behind_B6 F a1 a4 m_base m_f) k) x = some ex := hf
      unfold f_X11_behind_B6 at hf
      refine lv_iload hx hb dX11_behind_6 (lv_at hl 4 rfl) ?_
      refine lv_iload hx hb dX11_behind_8 (lv_at hl 2 rfl) ?_
      refine lv_icmp_ge (tgt := 37) hx hb dX11_behind_10 (by decide) (fun c1 => ?_) (fun c1 => ?_)
      · have hf := if_t hf c1
        obtain rfl := Option.some.inj hf
        exact hex _ _ _ hP hD hS (lv_sub hl [3] rfl)
      · have hf := if_f hf c1
        refine lv_lload hx hb dX11_behind_13 (lv_at hl 3 rfl) ?_
        refine lv_ldc2 (v := (1000000000000000 : Int64)) hx hb hown fk68 dX11_behind_15 ?_
        refine kl_gt (tgt := 37) hx hb dX11_behind_18 dX11_behind_19 (by decide) (fun c2 => ?_) (fun c2 => ?_)
        · have hf := if_t hf c2
          obtain rfl := Option.some.inj hf
          exact hex _ _ _ hP hD hS (lv_sub hl [3] rfl)
        · have hf := if_f hf c2
          refine lv_aload_n hx hb dX11_behind_22 rfl (lv_at hl 0 rfl) ?_
          refine lv_iload_n hx hb dX11_behind_23 rfl (lv_at hl 1 rfl) ?_
          refine lv_lload hx hb dX11_behind_24 (lv_at hl 3 rfl) ?_
          obtain ⟨r3, hc4, hf⟩ := ob_some hf
          refine kc_l (k_run ⟨hx, hb, hml, hown, hts⟩ (c_X11_stepOf hc4) (cwV 2 hts gX11_behind_X11_stepOf rfl rfl rfl (by decide +kernel) ⟨Nat.le_of_ble_eq_true rfl, Nat.le_of_ble_eq_true rfl⟩) hK hN hP hD kA_s (ci := 11) (q0 := 0) rfl rfl rfl rfl hl.1 rfl (Nat.le_of_ble_eq_true rfl) dX11_behind_26 ⟨Nat.le_of_ble_eq_true rfl, Nat.le_of_ble_eq_true rfl⟩) hP hD hS hA kI_s (fun _ H locs hP hD hS => ?_)
          refine lv_lstore (lv' := [(5, .long r3.1), (0, .ref (qM 0)), (1, .int a1), (4, .int a4), (7, .int x.2.1)]) hx hb dX11_behind_29 hl (by decide) rfl (fun ls hl => ?_)
          refine lv_iinc (v := (x.2.1 + (1 : Int32))) (lv' := [(7, .int (x.2.1 + (1 : Int32))), (5, .long r3.1), (0, .ref (qM 0)), (1, .int a1), (4, .int a4)]) hx hb dX11_behind_31 hl (k := 4) rfl rfl (by decide) rfl (fun ls hl => ?_)
          refine lv_goto (tgt := 6) hx hb dX11_behind_34 (by decide) ?_
          exact ih (r3.1, (x.2.1 + (1 : Int32)), r3.2.1, r3.2.2) ex _ _ _ hf hex hP hD hS (lv_sub hl [2, 3, 4, 1, 0] rfl)
  refine lv_lload_n hx hb dX11_behind_0 rfl (lv_at hl 2 rfl) ?_
  refine lv_lstore (lv' := [(5, .long a2), (0, .ref (qM 0)), (1, .int a1), (2, .long a2), (4, .int a4)]) hx hb dX11_behind_1 hl (by decide) rfl (fun ls hl => ?_)
  refine lv_iconst (v := (0 : Int32)) hx hb dX11_behind_3 (by decide) ?_
  refine lv_istore (lv' := [(7, .int (0 : Int32)), (5, .long a2), (0, .ref (qM 0)), (1, .int a1), (2, .long a2), (4, .int a4)]) hx hb dX11_behind_4 hl (by decide) rfl (fun ls hl => ?_)
  obtain ⟨ex5, hcl, hf⟩ := ob_some hf
  refine hL6 F (a2, (0 : Int32), m_many, m_figures) ex5 _ _ _ hcl (fun H locs ls hP hD hS hl => ?_) hP hD hS (lv_sub hl [2, 3, 5, 1, 0] rfl)
  refine lv_lload hx hb dX11_behind_37 (lv_at hl 0 rfl) ?_
  obtain rfl := Option.some.inj hf
  exact hQ () 39 _ _ _ dX11_behind_39 hP hD hS
def f_X11_layChain_J244 (F : Nat) (m_many : Int32) (m_figures : Nat → Int32) (m_tail : Int32) (m_round : Int32) : Option (Int32 × (Nat → Int32) × Int32 × Int32) := some (m_many, m_figures, m_tail, m_round)
def f_X11_layChain_J232 (F : Nat) (m_many : Int32) (m_figures : Nat → Int32) (m_tail : Int32) (m_round : Int32) : Option (Int32 × (Nat → Int32) × Int32 × Int32) := f_X11_layChain_J244 F m_many m_figures (301 : Int32) (0 : Int32)
def f_X11_layChain_J222 (F : Nat) (m_many : Int32) (m_figures : Nat → Int32) (m_tail : Int32) (m_round : Int32) : Option (Int32 × (Nat → Int32) × Int32 × Int32) := if m_tail ≤ (301 : Int32) then (f_X11_layChain_J244 F m_many m_figures m_tail m_round) else (f_X11_layChain_J232 F m_many m_figures m_tail m_round)
def f_X11_layChain_J200 (F : Nat) (m_many : Int32) (m_figures : Nat → Int32) (m_tail : Int32) (m_round : Int32) : Option (Int32 × (Nat → Int32) × Int32 × Int32) := if (m_tail + m_round) ≤ (300 : Int32) then (f_X11_layChain_J222 F m_many m_figures m_tail m_round) else (if 0 < m_round then (f_X11_layChain_J232 F m_many m_figures m_tail m_round) else (f_X11_layChain_J222 F m_many m_figures m_tail m_round))
def f_X11_layChain_B133 (F : Nat) (a1 : Int32) (m_base : Int32) (m_f : Nat → Int32) (m_round : Int32) (rec : Int64 × Int64 × Int32 × (Nat → Int32) × Int32 → Option (Int32 × (Nat → Int32) × Int32)) (x : Int64 × Int64 × Int32 × (Nat → Int32) × Int32) : Option (Int32 × (Nat → Int32) × Int32) := if x.1 = x.2.1 then (some (x.2.2.1, x.2.2.2.1, x.2.2.2.2)) else ((f_X11_stepOf F a1 x.1 m_base m_f x.2.2.1 x.2.2.2.1).bind (fun r5 => (f_X11_stepOf F a1 x.2.1 m_base m_f r5.2.1 r5.2.2).bind (fun r7 => rec (r5.1, r7.1, r7.2.1, r7.2.2, (x.2.2.2.2 + (1 : Int32))))))
def f_X11_layChain_J105 (F : Nat) (a1 : Int32) (a2 : Int64) (m_base : Int32) (m_f : Nat → Int32) (x6 : Int64) (x9 : Int32) (x11 : Int32) (s1 : Int32) (m_many : Int32) (m_figures : Nat → Int32) (m_tail : Int32) (m_round : Int32) : Option (Int32 × (Nat → Int32) × Int32 × Int32) := if x11 = 0 then (if x6 ≤ (1000000000000000 : Int64) then (f_X11_layChain_J200 F m_many m_figures (301 : Int32) s1) else (f_X11_layChain_J200 F m_many m_figures x9 s1)) else ((f_X11_behind F a1 a2 s1 m_base m_f m_many m_figures).bind (fun r11 => (lp (f_X11_layChain_B133 F a1 m_base m_f s1) F (a2, r11.1, r11.2.1, r11.2.2, (0 : Int32))).bind (fun ex13 => f_X11_layChain_J200 F ex13.1 ex13.2.1 ex13.2.2 s1)))
def f_X11_layChain_J88 (F : Nat) (rec : (Int64 × Int64 × Int32 × Int32 × Int32 × Int32 × Int32 × (Nat → Int32)) → Option (Int64 × Int32 × Int32 × Int32 × Int32 × (Nat → Int32))) (x4 : Int64) (x6 : Int64) (x8 : Int32) (x9 : Int32) (x10 : Int32) (s0 : Int32) (m_many : Int32) (m_figures : Nat → Int32) : Option (Int64 × Int32 × Int32 × Int32 × Int32 × (Nat → Int32)) := rec (x4, x6, x8, x9, x10, s0, m_many, m_figures)
def f_X11_layChain_J60 (F : Nat) (a1 : Int32) (m_base : Int32) (m_f : Nat → Int32) (rec : (Int64 × Int64 × Int32 × Int32 × Int32 × Int32 × Int32 × (Nat → Int32)) → Option (Int64 × Int32 × Int32 × Int32 × Int32 × (Nat → Int32))) (x4 : Int64) (x6 : Int64) (x8 : Int32) (x9 : Int32) (x10 : Int32) (m_many : Int32) (m_figures : Nat → Int32) : Option (Int64 × Int32 × Int32 × Int32 × Int32 × (Nat → Int32)) := (f_X11_stepOf F a1 x6 m_base m_f m_many m_figures).bind (fun r14 => if r14.1 = x4 then (f_X11_layChain_J88 F rec x4 r14.1 x8 (x9 + (1 : Int32)) (x10 + (1 : Int32)) (1 : Int32) r14.2.1 r14.2.2) else (f_X11_layChain_J88 F rec x4 r14.1 x8 (x9 + (1 : Int32)) (x10 + (1 : Int32)) (0 : Int32) r14.2.1 r14.2.2))
def f_X11_layChain_B18 (F : Nat) (a1 : Int32) (m_base : Int32) (m_f : Nat → Int32) (m_tail : Int32) (m_round : Int32) (rec : Int64 × Int64 × Int32 × Int32 × Int32 × Int32 × Int32 × (Nat → Int32) → Option (Int64 × Int32 × Int32 × Int32 × Int32 × (Nat → Int32))) (x : Int64 × Int64 × Int32 × Int32 × Int32 × Int32 × Int32 × (Nat → Int32)) : Option (Int64 × Int32 × Int32 × Int32 × Int32 × (Nat → Int32)) := if x.2.2.2.2.2.1 = 0 then (if (900 : Int32) ≤ x.2.2.2.1 then (some (x.2.1, x.2.2.2.1, x.2.2.2.2.1, x.2.2.2.2.2.1, x.2.2.2.2.2.2.1, x.2.2.2.2.2.2.2)) else (if (1000000000000000 : Int64) < x.2.1 then (some (x.2.1, x.2.2.2.1, x.2.2.2.2.1, x.2.2.2.2.2.1, x.2.2.2.2.2.2.1, x.2.2.2.2.2.2.2)) else (if x.2.2.2.2.1 = x.2.2.1 then (f_X11_layChain_J60 F a1 m_base m_f rec x.2.1 x.2.1 (x.2.2.1 * (2 : Int32)) x.2.2.2.1 (0 : Int32) x.2.2.2.2.2.2.1 x.2.2.2.2.2.2.2) else (f_X11_layChain_J60 F a1 m_base m_f rec x.1 x.2.1 x.2.2.1 x.2.2.2.1 x.2.2.2.2.1 x.2.2.2.2.2.2.1 x.2.2.2.2.2.2.2)))) else (some (x.2.1, x.2.2.2.1, x.2.2.2.2.1, x.2.2.2.2.2.1, x.2.2.2.2.2.2.1, x.2.2.2.2.2.2.2))
def f_X11_layChain (F : Nat) (a1 : Int32) (a2 : Int64) (m_base : Int32) (m_f : Nat → Int32) (m_many : Int32) (m_figures : Nat → Int32) (m_tail : Int32) (m_round : Int32) : Option (Int32 × (Nat → Int32) × Int32 × Int32) := (lp (f_X11_layChain_B18 F a1 m_base m_f m_tail m_round) F (a2, a2, (1 : Int32), (0 : Int32), (0 : Int32), (0 : Int32), m_many, m_figures)).bind (fun ex21 => if ex21.2.2.2.1 = 0 then (f_X11_layChain_J105 F a1 a2 m_base m_f ex21.1 ex21.2.1 ex21.2.2.2.1 (0 : Int32) ex21.2.2.2.2.1 ex21.2.2.2.2.2 m_tail m_round) else (f_X11_layChain_J105 F a1 a2 m_base m_f ex21.1 ex21.2.1 ex21.2.2.2.1 ex21.2.2.1 ex21.2.2.2.2.1 ex21.2.2.2.2.2 m_tail m_round))
abbrev rmX11_layChain : Room := { frames := 4, cells := 0, slots := 0, locals := 102 }
set_option maxHeartbeats 1000000 in
set_option maxRecDepth 100000 in
theorem c_X11_layChain {l : Launch} {D : va_G} {cy : Nat → ClassId} {qM : Nat → Nat} {m_base : Int32} {m_f : Nat → Int32} {m_many : Int32} {m_figures : Nat → Int32} {m_tail : Int32} {m_round : Int32} {m_rounds : Int32} {m_leasts : Nat → Int64} {m_likes : Int32} {m_like : Nat → Int32} {m_isTwo : Nat → Int32} {m_came : Nat → Int32} {m_by : Nat → Int32} {m_queue : Nat → Int32} {m_kind : Int32} {m_parts : Int32} {m_wanted : Int32} {m_allowed : Int32} {m_bitOf : Nat → Int32} {m_met : Int32} {m_row : Nat → Int32} {m_narrows : Int32} {m_narrow : Nat → Int64} {m_isMade : Nat → Int32} {a1 : Int32} {a2 : Int64} {F : Nat} {res : Int32 × (Nat → Int32) × Int32 × Int32} (hf : f_X11_layChain F a1 a2 m_base m_f m_many m_figures m_tail m_round = some res) : kM l yX11_layChain wsX11_layChain rmX11_layChain D cy [.ref (qM 0), .int a1, .long a2] (gM cy qM m_base m_f m_many m_figures m_tail m_round m_rounds m_leasts m_likes m_like m_isTwo m_came m_by m_queue m_kind m_parts m_wanted m_allowed m_bitOf m_met m_row m_narrows m_narrow m_isMade) (kQv D cy (fun _ : Unit => gM cy qM m_base m_f res.1 res.2.1 res.2.2.1 res.2.2.2 m_rounds m_leasts m_likes m_like m_isTwo m_came m_by m_queue m_kind m_parts m_wanted m_allowed m_bitOf m_met m_row m_narrows m_narrow m_isMade)) := by
  refine kent_v (cc := cX11_layChain) (maxL := 16) (by decide) rfl (Nat.le_of_ble_eq_true rfl) ?_
  intro p e0 s m ar below meth c A Q ls ⟨hx, hb, hml, hr, hts, hown, hlocks, hnm⟩ hA hK hN hQ hP hD hS hl
  have hl : lv_has ls 16 [(0, .ref (qM 0)), (1, .int a1), (2, .long a2)] := hl
  have hown : s.vm.findClass RX11 = some m.cls := hown
  have huX11 : ∀ x ∈ u_ws RX11 TX11 24, x ∈ wsX11_layChain := by decide +kernel
  have fk100 : (Cond.fieldLink RX11 100 "FigurePlayModel" "tail" "I").before ar s = true := hts _ (by decide +kernel)
  have fk97 : (Cond.fieldLink RX11 97 "FigurePlayModel" "round" "I").before ar s = true := hts _ (by decide +kernel)
  have fk68 : (Cond.constantLong RX11 68 (1000000000000000)).before ar s = true := hts _ (by decide +kernel)
  unfold f_X11_layChain at hf
  have hJ244 : ∀ (m_many : Int32) (m_figures : Nat → Int32) (m_tail : Int32) (m_round : Int32) (H : Heap) (locs : List Loc) (ls : Array Slot), f_X11_layChain_J244 F m_many m_figures m_tail m_round = some res → va_P D vwCl (gM cy qM m_base m_f m_many m_figures m_tail m_round m_rounds m_leasts m_likes m_like m_isTwo m_came m_by m_queue m_kind m_parts m_wanted m_allowed m_bitOf m_met m_row m_narrows m_narrow m_isMade) H → va_D A (gM cy qM m_base m_f m_many m_figures m_tail m_round m_rounds m_leasts m_likes m_like m_isTwo m_came m_by m_queue m_kind m_parts m_wanted m_allowed m_bitOf m_met m_row m_narrows m_narrow m_isMade) → va_S A s.heap H locs → lv_has ls 16 [] → W p l e0 rmX11_layChain s m ar below meth c H locs 0 0 Q (F0 m 244 ls []) := by
    intro m_many m_figures m_tail m_round H locs ls hf hP hD hS hl
    unfold f_X11_layChain_J244 at hf
    obtain rfl := Option.some.inj hf
    exact hQ () 244 _ _ _ dX11_layChain_244 hP hD hS
  have hJ232 : ∀ (m_many : Int32) (m_figures : Nat → Int32) (m_tail : Int32) (m_round : Int32) (H : Heap) (locs : List Loc) (ls : Array Slot), f_X11_layChain_J232 F m_many m_figures m_tail m_round = some res → va_P D vwCl (gM cy qM m_base m_f m_many m_figures m_tail m_round m_rounds m_leasts m_likes m_like m_isTwo m_came m_by m_queue m_kind m_parts m_wanted m_allowed m_bitOf m_met m_row m_narrows m_narrow m_isMade) H → va_D A (gM cy qM m_base m_f m_many m_figures m_tail m_round m_rounds m_leasts m_likes m_like m_isTwo m_came m_by m_queue m_kind m_parts m_wanted m_allowed m_bitOf m_met m_row m_narrows m_narrow m_isMade) → va_S A s.heap H locs → lv_has ls 16 [(0, .ref (qM 0))] → W p l e0 rmX11_layChain s m ar below meth c H locs 0 0 Q (F0 m 232 ls []) := by
    intro m_many m_figures m_tail m_round H locs ls hf hP hD hS hl
    unfold f_X11_layChain_J232 at hf
    refine lv_aload_n hx hb dX11_layChain_232 rfl (lv_at hl 0 rfl) ?_
    refine lv_sipush (v := (301 : Int32)) hx hb dX11_layChain_233 (by decide) ?_
    refine va_put (D := D) (ci := 11) (v := .int (301 : Int32)) (ty := .int) (C := RX11) (T := TX11) (N := 24) hx hb hts huX11 tyX11 tyX11_ok nmX11 hown hK hP hD hS 0 rfl rfl 4 (by decide) fk100 (fun _ h9 => h9) rfl (tyX11_ok 4 (by decide)) rfl rfl (Nat.le_of_ble_eq_true rfl) dX11_layChain_236 (fun H locs hP hD hS => ?_)
    have hP : va_P D vwCl (gM cy qM m_base m_f m_many m_figures (301 : Int32) m_round m_rounds m_leasts m_likes m_like m_isTwo m_came m_by m_queue m_kind m_parts m_wanted m_allowed m_bitOf m_met m_row m_narrows m_narrow m_isMade) H := hP
    have hD : va_D A (gM cy qM m_base m_f m_many m_figures (301 : Int32) m_round m_rounds m_leasts m_likes m_like m_isTwo m_came m_by m_queue m_kind m_parts m_wanted m_allowed m_bitOf m_met m_row m_narrows m_narrow m_isMade) := hD
    refine lv_aload_n hx hb dX11_layChain_239 rfl (lv_at hl 0 rfl) ?_
    refine lv_iconst (v := (0 : Int32)) hx hb dX11_layChain_240 (by decide) ?_
    refine va_put (D := D) (ci := 11) (v := .int (0 : Int32)) (ty := .int) (C := RX11) (T := TX11) (N := 24) hx hb hts huX11 tyX11 tyX11_ok nmX11 hown hK hP hD hS 0 rfl rfl 5 (by decide) fk97 (fun _ h9 => h9) rfl (tyX11_ok 5 (by decide)) rfl rfl (Nat.le_of_ble_eq_true rfl) dX11_layChain_241 (fun H locs hP hD hS => ?_)
    have hP : va_P D vwCl (gM cy qM m_base m_f m_many m_figures (301 : Int32) (0 : Int32) m_rounds m_leasts m_likes m_like m_isTwo m_came m_by m_queue m_kind m_parts m_wanted m_allowed m_bitOf m_met m_row m_narrows m_narrow m_isMade) H := hP
    have hD : va_D A (gM cy qM m_base m_f m_many m_figures (301 : Int32) (0 : Int32) m_rounds m_leasts m_likes m_like m_isTwo m_came m_by m_queue m_kind m_parts m_wanted m_allowed m_bitOf m_met m_row m_narrows m_narrow m_isMade) := hD
    exact hJ244 m_many m_figures (301 : Int32) (0 : Int32) _ _ _ hf hP hD hS (lv_sub hl [] rfl)
  have hJ222 : ∀ (m_many : Int32) (m_figures : Nat → Int32) (m_tail : Int32) (m_round : Int32) (H : Heap) (locs : List Loc) (ls : Array Slot), f_X11_layChain_J222 F m_many m_figures m_tail m_round = some res → va_P D vwCl (gM cy qM m_base m_f m_many m_figures m_tail m_round m_rounds m_leasts m_likes m_like m_isTwo m_came m_by m_queue m_kind m_parts m_wanted m_allowed m_bitOf m_met m_row m_narrows m_narrow m_isMade) H → va_D A (gM cy qM m_base m_f m_many m_figures m_tail m_round m_rounds m_leasts m_likes m_like m_isTwo m_came m_by m_queue m_kind m_parts m_wanted m_allowed m_bitOf m_met m_row m_narrows m_narrow m_isMade) → va_S A s.heap H locs → lv_has ls 16 [(0, .ref (qM 0))] → W p l e0 rmX11_layChain s m ar below meth c H locs 0 0 Q (F0 m 222 ls []) := by
    intro m_many m_figures m_tail m_round H locs ls hf hP hD hS hl
    unfold f_X11_layChain_J222 at hf
    refine lv_aload_n hx hb dX11_layChain_222 rfl (lv_at hl 0 rfl) ?_
    refine va_get (D := D) (ci := 11) (C := RX11) (T := TX11) (N := 24) hx hb hts huX11 hown hK hP 0 rfl rfl 4 (by decide) fk100 (fun _ h9 => h9) rfl dX11_layChain_223 ?_
    refine lv_sipush (v := (301 : Int32)) hx hb dX11_layChain_226 (by decide) ?_
    refine lv_icmp_le (tgt := 244) hx hb dX11_layChain_229 (by decide) (fun c1 => ?_) (fun c1 => ?_)
    · have hf := if_t hf c1
      exact hJ244 m_many m_figures m_tail m_round _ _ _ hf hP hD hS (lv_sub hl [] rfl)
    · have hf := if_f hf c1
      exact hJ232 m_many m_figures m_tail m_round _ _ _ hf hP hD hS (lv_sub hl [0] rfl)
  have hJ200 : ∀ (m_many : Int32) (m_figures : Nat → Int32) (m_tail : Int32) (m_round : Int32) (H : Heap) (locs : List Loc) (ls : Array Slot), f_X11_layChain_J200 F m_many m_figures m_tail m_round = some res → va_P D vwCl (gM cy qM m_base m_f m_many m_figures m_tail m_round m_rounds m_leasts m_likes m_like m_isTwo m_came m_by m_queue m_kind m_parts m_wanted m_allowed m_bitOf m_met m_row m_narrows m_narrow m_isMade) H → va_D A (gM cy qM m_base m_f m_many m_figures m_tail m_round m_rounds m_leasts m_likes m_like m_isTwo m_came m_by m_queue m_kind m_parts m_wanted m_allowed m_bitOf m_met m_row m_narrows m_narrow m_isMade) → va_S A s.heap H locs → lv_has ls 16 [(0, .ref (qM 0))] → W p l e0 rmX11_layChain s m ar below meth c H locs 0 0 Q (F0 m 200 ls []) := by
    intro m_many m_figures m_tail m_round H locs ls hf hP hD hS hl
    unfold f_X11_layChain_J200 at hf
    refine lv_aload_n hx hb dX11_layChain_200 rfl (lv_at hl 0 rfl) ?_
    refine va_get (D := D) (ci := 11) (C := RX11) (T := TX11) (N := 24) hx hb hts huX11 hown hK hP 0 rfl rfl 4 (by decide) fk100 (fun _ h9 => h9) rfl dX11_layChain_201 ?_
    refine lv_aload_n hx hb dX11_layChain_204 rfl (lv_at hl 0 rfl) ?_
    refine va_get (D := D) (ci := 11) (C := RX11) (T := TX11) (N := 24) hx hb hts huX11 hown hK hP 0 rfl rfl 5 (by decide) fk97 (fun _ h9 => h9) rfl dX11_layChain_205 ?_
    refine lv_iadd hx hb dX11_layChain_208 ?_
    refine lv_sipush (v := (300 : Int32)) hx hb dX11_layChain_209 (by decide) ?_
    refine lv_icmp_le (tgt := 222) hx hb dX11_layChain_212 (by decide) (fun c2 => ?_) (fun c2 => ?_)
    · have hf := if_t hf c2
      exact hJ222 m_many m_figures m_tail m_round _ _ _ hf hP hD hS (lv_sub hl [0] rfl)
    · have hf := if_f hf c2
      refine lv_aload_n hx hb dX11_layChain_215 rfl (lv_at hl 0 rfl) ?_
      refine va_get (D := D) (ci := 11) (C := RX11) (T := TX11) (N := 24) hx hb hts huX11 hown hK hP 0 rfl rfl 5 (by decide) fk97 (fun _ h9 => h9) rfl dX11_layChain_216 ?_
      refine lv_if_gt (tgt := 232) hx hb dX11_layChain_219 (by decide) (fun c3 => ?_) (fun c3 => ?_)
      · have hf := if_t hf c3
        exact hJ232 m_many m_figures m_tail m_round _ _ _ hf hP hD hS (lv_sub hl [0] rfl)
      · have hf := if_f hf c3
        exact hJ222 m_many m_figures m_tail m_round _ _ _ hf hP hD hS (lv_sub hl [0] rfl)
  have hL133 : ∀ (m_round : Int32) (k : Nat) (x : Int64 × Int64 × Int32 × (Nat → Int32) × Int32) (ex : Int32 × (Nat → Int32) × Int32) (H : Heap) (locs : List Loc) (ls : Array Slot), lp (f_X11_layChain_B133 F a1 m_base m_f m_round) k x = some ex → (∀ (H : Heap) (locs : List Loc) (ls : Array Slot), va_P D vwCl (gM cy qM m_base m_f ex.1 ex.2.1 ex.2.2 m_round m_rounds m_leasts m_likes m_like m_isTwo m_came m_by m_queue m_kind m_parts m_wanted m_allowed m_bitOf m_met m_row m_narrows m_narrow m_isMade) H → va_D A (gM cy qM m_base m_f ex.1 ex.2.1 ex.2.2 m_round m_rounds m_leasts m_likes m_like m_isTwo m_came m_by m_queue m_kind m_parts m_wanted m_allowed m_bitOf m_met m_row m_narrows m_narrow m_isMade) → va_S A s.heap H locs → lv_has ls 16 [(0, .ref (qM 0))] → W p l e0 rmX11_layChain s m ar below meth c H locs 0 0 Q (F0 m 172 ls [])) → va_P D vwCl (gM cy qM m_base m_f x.2.2.1 x.2.2.2.1 x.2.2.2.2 m_round m_rounds m_leasts m_likes m_like m_isTwo m_came m_by m_queue m_kind m_parts m_wanted m_allowed m_bitOf m_met m_row m_narrows m_narrow m_isMade) H → va_D A (gM cy qM m_base m_f x.2.2.1 x.2.2.2.1 x.2.2.2.2 m_round m_rounds m_leasts m_likes m_like m_isTwo m_came m_by m_queue m_kind m_parts m_wanted m_allowed m_bitOf m_met m_row m_narrows m_narrow m_isMade) → va_S A s.heap H locs → lv_has ls 16 [(0, .ref (qM 0)), (1, .int a1), (12, .long x.1), (14, .long x.2.1)] → W p l e0 rmX11_layChain s m ar below meth c H locs 0 0 Q (F0 m 133 ls []) := by
    intro m_round k
    induction k with
    | zero => intro x ex H locs ls hf; exact no_some hf
    | succ k ih =>
      intro x ex H locs ls hf hex hP hD hS hl
      have hf : f_X11_layChain_B133 F a1 m_base m_f m_round (lp (f_X11_layChain_B133 F a1 m_base m_f m_round) k) x = some ex := hf
      unfold f_X11_layChain_B133 at hf
      refine lv_lload hx hb dX11_layChain_133 (lv_at hl 2 rfl) ?_
      refine lv_lload hx hb dX11_layChain_135 (lv_at hl 3 rfl) ?_
      refine kl_eq (tgt := 172) hx hb dX11_layChain_137 dX11_layChain_138 (by decide) (fun c4 => ?_) (fun c4 => ?_)
      · have hf := if_t hf c4
        obtain rfl := Option.some.inj hf
        exact hex _ _ _ hP hD hS (lv_sub hl [0] rfl)
      · have hf := if_f hf c4
        refine lv_aload_n hx hb dX11_layChain_141 rfl (lv_at hl 0 rfl) ?_
        refine lv_iload_n hx hb dX11_layChain_142 rfl (lv_at hl 1 rfl) ?_
        refine lv_lload hx hb dX11_layChain_143 (lv_at hl 2 rfl) ?_
        obtain ⟨r5, hc6, hf⟩ := ob_some hf
        refine kc_l (k_run ⟨hx, hb, hml, hown, hts⟩ (c_X11_stepOf hc6) (cwV 2 hts gX11_layChain_X11_stepOf rfl rfl rfl (by decide +kernel) ⟨Nat.le_of_ble_eq_true rfl, Nat.le_of_ble_eq_true rfl⟩) hK hN hP hD kA_s (ci := 11) (q0 := 0) rfl rfl rfl rfl hl.1 rfl (Nat.le_of_ble_eq_true rfl) dX11_layChain_145 ⟨Nat.le_of_ble_eq_true rfl, Nat.le_of_ble_eq_true rfl⟩) hP hD hS hA kI_s (fun _ H locs hP hD hS => ?_)
        refine lv_lstore (lv' := [(12, .long r5.1), (0, .ref (qM 0)), (1, .int a1), (14, .long x.2.1)]) hx hb dX11_layChain_148 hl (by decide) rfl (fun ls hl => ?_)
        refine lv_aload_n hx hb dX11_layChain_150 rfl (lv_at hl 1 rfl) ?_
        refine lv_iload_n hx hb dX11_layChain_151 rfl (lv_at hl 2 rfl) ?_
        refine lv_lload hx hb dX11_layChain_152 (lv_at hl 3 rfl) ?_
        obtain ⟨r7, hc8, hf⟩ := ob_some hf
        refine kc_l (k_run ⟨hx, hb, hml, hown, hts⟩ (c_X11_stepOf hc8) (cwV 2 hts gX11_layChain_X11_stepOf rfl rfl rfl (by decide +kernel) ⟨Nat.le_of_ble_eq_true rfl, Nat.le_of_ble_eq_true rfl⟩) hK hN hP hD kA_s (ci := 11) (q0 := 0) rfl rfl rfl rfl hl.1 rfl (Nat.le_of_ble_eq_true rfl) dX11_layChain_154 ⟨Nat.le_of_ble_eq_true rfl, Nat.le_of_ble_eq_true rfl⟩) hP hD hS hA kI_s (fun _ H locs hP hD hS => ?_)
        refine lv_lstore (lv' := [(14, .long r7.1), (12, .long r5.1), (0, .ref (qM 0)), (1, .int a1)]) hx hb dX11_layChain_157 hl (by decide) rfl (fun ls hl => ?_)
        refine lv_aload_n hx hb dX11_layChain_159 rfl (lv_at hl 2 rfl) ?_
        refine lv_dup hx hb dX11_layChain_160 rfl ?_
        refine va_get (D := D) (ci := 11) (C := RX11) (T := TX11) (N := 24) hx hb hts huX11 hown hK hP 0 rfl rfl 4 (by decide) fk100 (fun _ h9 => h9) rfl dX11_layChain_161 ?_
        refine lv_iconst (v := (1 : Int32)) hx hb dX11_layChain_164 (by decide) ?_
        refine lv_iadd hx hb dX11_layChain_165 ?_
        refine va_put (D := D) (ci := 11) (v := .int (x.2.2.2.2 + (1 : Int32))) (ty := .int) (C := RX11) (T := TX11) (N := 24) hx hb hts huX11 tyX11 tyX11_ok nmX11 hown hK hP hD hS 0 rfl rfl 4 (by decide) fk100 (fun _ h9 => h9) rfl (tyX11_ok 4 (by decide)) rfl rfl (Nat.le_of_ble_eq_true rfl) dX11_layChain_166 (fun H locs hP hD hS => ?_)
        have hP : va_P D vwCl (gM cy qM m_base m_f r7.2.1 r7.2.2 (x.2.2.2.2 + (1 : Int32)) m_round m_rounds m_leasts m_likes m_like m_isTwo m_came m_by m_queue m_kind m_parts m_wanted m_allowed m_bitOf m_met m_row m_narrows m_narrow m_isMade) H := hP
        have hD : va_D A (gM cy qM m_base m_f r7.2.1 r7.2.2 (x.2.2.2.2 + (1 : Int32)) m_round m_rounds m_leasts m_likes m_like m_isTwo m_came m_by m_queue m_kind m_parts m_wanted m_allowed m_bitOf m_met m_row m_narrows m_narrow m_isMade) := hD
        refine lv_goto (tgt := 133) hx hb dX11_layChain_169 (by decide) ?_
        exact ih (r5.1, r7.1, r7.2.1, r7.2.2, (x.2.2.2.2 + (1 : Int32))) ex _ _ _ hf hex hP hD hS (lv_sub hl [2, 3, 1, 0] rfl)
  have hJ105 : ∀ (x6 : Int64) (x9 : Int32) (x11 : Int32) (s1 : Int32) (m_many : Int32) (m_figures : Nat → Int32) (m_tail : Int32) (m_round : Int32) (H : Heap) (locs : List Loc) (ls : Array Slot), f_X11_layChain_J105 F a1 a2 m_base m_f x6 x9 x11 s1 m_many m_figures m_tail m_round = some res → va_P D vwCl (gM cy qM m_base m_f m_many m_figures m_tail m_round m_rounds m_leasts m_likes m_like m_isTwo m_came m_by m_queue m_kind m_parts m_wanted m_allowed m_bitOf m_met m_row m_narrows m_narrow m_isMade) H → va_D A (gM cy qM m_base m_f m_many m_figures m_tail m_round m_rounds m_leasts m_likes m_like m_isTwo m_came m_by m_queue m_kind m_parts m_wanted m_allowed m_bitOf m_met m_row m_narrows m_narrow m_isMade) → va_S A s.heap H locs → lv_has ls 16 [(0, .ref (qM 0)), (1, .int a1), (2, .long a2), (6, .long x6), (9, .int x9), (11, .int x11)] → W p l e0 rmX11_layChain s m ar below meth c H locs 0 0 Q (F0 m 105 ls [.int s1, .ref (qM 0)]) := by
    intro x6 x9 x11 s1 m_many m_figures m_tail m_round H locs ls hf hP hD hS hl
    unfold f_X11_layChain_J105 at hf
    refine va_put (D := D) (ci := 11) (v := .int s1) (ty := .int) (C := RX11) (T := TX11) (N := 24) hx hb hts huX11 tyX11 tyX11_ok nmX11 hown hK hP hD hS 0 rfl rfl 5 (by decide) fk97 (fun _ h9 => h9) rfl (tyX11_ok 5 (by decide)) rfl rfl (Nat.le_of_ble_eq_true rfl) dX11_layChain_105 (fun H locs hP hD hS => ?_)
    have hP : va_P D vwCl (gM cy qM m_base m_f m_many m_figures m_tail s1 m_rounds m_leasts m_likes m_like m_isTwo m_came m_by m_queue m_kind m_parts m_wanted m_allowed m_bitOf m_met m_row m_narrows m_narrow m_isMade) H := hP
    have hD : va_D A (gM cy qM m_base m_f m_many m_figures m_tail s1 m_rounds m_leasts m_likes m_like m_isTwo m_came m_by m_queue m_kind m_parts m_wanted m_allowed m_bitOf m_met m_row m_narrows m_narrow m_isMade) := hD
    refine lv_aload_n hx hb dX11_layChain_108 rfl (lv_at hl 0 rfl) ?_
    refine lv_iconst (v := (0 : Int32)) hx hb dX11_layChain_109 (by decide) ?_
    refine va_put (D := D) (ci := 11) (v := .int (0 : Int32)) (ty := .int) (C := RX11) (T := TX11) (N := 24) hx hb hts huX11 tyX11 tyX11_ok nmX11 hown hK hP hD hS 0 rfl rfl 4 (by decide) fk100 (fun _ h9 => h9) rfl (tyX11_ok 4 (by decide)) rfl rfl (Nat.le_of_ble_eq_true rfl) dX11_layChain_110 (fun H locs hP hD hS => ?_)
    have hP : va_P D vwCl (gM cy qM m_base m_f m_many m_figures (0 : Int32) s1 m_rounds m_leasts m_likes m_like m_isTwo m_came m_by m_queue m_kind m_parts m_wanted m_allowed m_bitOf m_met m_row m_narrows m_narrow m_isMade) H := hP
    have hD : va_D A (gM cy qM m_base m_f m_many m_figures (0 : Int32) s1 m_rounds m_leasts m_likes m_like m_isTwo m_came m_by m_queue m_kind m_parts m_wanted m_allowed m_bitOf m_met m_row m_narrows m_narrow m_isMade) := hD
    refine lv_iload hx hb dX11_layChain_113 (lv_at hl 5 rfl) ?_
    refine lv_if_eq (tgt := 175) hx hb dX11_layChain_115 (by decide) (fun c9 => ?_) (fun c9 => ?_)
    · have hf := if_t hf c9
      refine lv_lload hx hb dX11_layChain_175 (lv_at hl 3 rfl) ?_
      refine lv_ldc2 (v := (1000000000000000 : Int64)) hx hb hown fk68 dX11_layChain_177 ?_
      refine kl_le (tgt := 193) hx hb dX11_layChain_180 dX11_layChain_181 (by decide) (fun c10 => ?_) (fun c10 => ?_)
      · have hf := if_t hf c10
        refine lv_aload_n hx hb dX11_layChain_193 rfl (lv_at hl 0 rfl) ?_
        refine lv_sipush (v := (301 : Int32)) hx hb dX11_layChain_194 (by decide) ?_
        refine va_put (D := D) (ci := 11) (v := .int (301 : Int32)) (ty := .int) (C := RX11) (T := TX11) (N := 24) hx hb hts huX11 tyX11 tyX11_ok nmX11 hown hK hP hD hS 0 rfl rfl 4 (by decide) fk100 (fun _ h9 => h9) rfl (tyX11_ok 4 (by decide)) rfl rfl (Nat.le_of_ble_eq_true rfl) dX11_layChain_197 (fun H locs hP hD hS => ?_)
        have hP : va_P D vwCl (gM cy qM m_base m_f m_many m_figures (301 : Int32) s1 m_rounds m_leasts m_likes m_like m_isTwo m_came m_by m_queue m_kind m_parts m_wanted m_allowed m_bitOf m_met m_row m_narrows m_narrow m_isMade) H := hP
        have hD : va_D A (gM cy qM m_base m_f m_many m_figures (301 : Int32) s1 m_rounds m_leasts m_likes m_like m_isTwo m_came m_by m_queue m_kind m_parts m_wanted m_allowed m_bitOf m_met m_row m_narrows m_narrow m_isMade) := hD
        exact hJ200 m_many m_figures (301 : Int32) s1 _ _ _ hf hP hD hS (lv_sub hl [0] rfl)
      · have hf := if_f hf c10
        refine lv_aload_n hx hb dX11_layChain_184 rfl (lv_at hl 0 rfl) ?_
        refine lv_iload hx hb dX11_layChain_185 (lv_at hl 4 rfl) ?_
        refine va_put (D := D) (ci := 11) (v := .int x9) (ty := .int) (C := RX11) (T := TX11) (N := 24) hx hb hts huX11 tyX11 tyX11_ok nmX11 hown hK hP hD hS 0 rfl rfl 4 (by decide) fk100 (fun _ h9 => h9) rfl (tyX11_ok 4 (by decide)) rfl rfl (Nat.le_of_ble_eq_true rfl) dX11_layChain_187 (fun H locs hP hD hS => ?_)
        have hP : va_P D vwCl (gM cy qM m_base m_f m_many m_figures x9 s1 m_rounds m_leasts m_likes m_like m_isTwo m_came m_by m_queue m_kind m_parts m_wanted m_allowed m_bitOf m_met m_row m_narrows m_narrow m_isMade) H := hP
        have hD : va_D A (gM cy qM m_base m_f m_many m_figures x9 s1 m_rounds m_leasts m_likes m_like m_isTwo m_came m_by m_queue m_kind m_parts m_wanted m_allowed m_bitOf m_met m_row m_narrows m_narrow m_isMade) := hD
        refine lv_goto (tgt := 200) hx hb dX11_layChain_190 (by decide) ?_
        exact hJ200 m_many m_figures x9 s1 _ _ _ hf hP hD hS (lv_sub hl [0] rfl)
    · have hf := if_f hf c9
      refine lv_lload_n hx hb dX11_layChain_118 rfl (lv_at hl 2 rfl) ?_
      refine lv_lstore (lv' := [(12, .long a2), (0, .ref (qM 0)), (1, .int a1), (2, .long a2), (6, .long x6), (9, .int x9), (11, .int x11)]) hx hb dX11_layChain_119 hl (by decide) rfl (fun ls hl => ?_)
      refine lv_aload_n hx hb dX11_layChain_121 rfl (lv_at hl 1 rfl) ?_
      refine lv_iload_n hx hb dX11_layChain_122 rfl (lv_at hl 2 rfl) ?_
      refine lv_lload_n hx hb dX11_layChain_123 rfl (lv_at hl 3 rfl) ?_
      refine lv_aload_n hx hb dX11_layChain_124 rfl (lv_at hl 1 rfl) ?_
      refine va_get (D := D) (ci := 11) (C := RX11) (T := TX11) (N := 24) hx hb hts huX11 hown hK hP 0 rfl rfl 5 (by decide) fk97 (fun _ h9 => h9) rfl dX11_layChain_125 ?_
      obtain ⟨r11, hc12, hf⟩ := ob_some hf
      refine kc_l (k_run ⟨hx, hb, hml, hown, hts⟩ (c_X11_behind hc12) (cwV 3 hts gX11_layChain_X11_behind rfl rfl rfl (by decide +kernel) ⟨Nat.le_of_ble_eq_true rfl, Nat.le_of_ble_eq_true rfl⟩) hK hN hP hD kA_s (ci := 11) (q0 := 0) rfl rfl rfl rfl hl.1 rfl (Nat.le_of_ble_eq_true rfl) dX11_layChain_128 ⟨Nat.le_of_ble_eq_true rfl, Nat.le_of_ble_eq_true rfl⟩) hP hD hS hA kI_s (fun _ H locs hP hD hS => ?_)
      refine lv_lstore (lv' := [(14, .long r11.1), (12, .long a2), (0, .ref (qM 0)), (1, .int a1), (2, .long a2), (6, .long x6), (9, .int x9), (11, .int x11)]) hx hb dX11_layChain_131 hl (by decide) rfl (fun ls hl => ?_)
      obtain ⟨ex13, hcl, hf⟩ := ob_some hf
      refine hL133 s1 F (a2, r11.1, r11.2.1, r11.2.2, (0 : Int32)) ex13 _ _ _ hcl (fun H locs ls hP hD hS hl => ?_) hP hD hS (lv_sub hl [2, 3, 1, 0] rfl)
      refine lv_goto (tgt := 200) hx hb dX11_layChain_172 (by decide) ?_
      exact hJ200 ex13.1 ex13.2.1 ex13.2.2 s1 _ _ _ hf hP hD hS (lv_sub hl [0] rfl)
  have hL18 : ∀ (m_tail : Int32) (m_round : Int32) (k : Nat) (x : Int64 × Int64 × Int32 × Int32 × Int32 × Int32 × Int32 × (Nat → Int32)) (ex : Int64 × Int32 × Int32 × Int32 × Int32 × (Nat → Int32)) (H : Heap) (locs : List Loc) (ls : Array Slot), lp (f_X11_layChain_B18 F a1 m_base m_f m_tail m_round) k x = some ex → (∀ (H : Heap) (locs : List Loc) (ls : Array Slot), va_P D vwCl (gM cy qM m_base m_f ex.2.2.2.2.1 ex.2.2.2.2.2 m_tail m_round m_rounds m_leasts m_likes m_like m_isTwo m_came m_by m_queue m_kind m_parts m_wanted m_allowed m_bitOf m_met m_row m_narrows m_narrow m_isMade) H → va_D A (gM cy qM m_base m_f ex.2.2.2.2.1 ex.2.2.2.2.2 m_tail m_round m_rounds m_leasts m_likes m_like m_isTwo m_came m_by m_queue m_kind m_parts m_wanted m_allowed m_bitOf m_met m_row m_narrows m_narrow m_isMade) → va_S A s.heap H locs → lv_has ls 16 [(0, .ref (qM 0)), (1, .int a1), (2, .long a2), (6, .long ex.1), (9, .int ex.2.1), (10, .int ex.2.2.1), (11, .int ex.2.2.2.1)] → W p l e0 rmX11_layChain s m ar below meth c H locs 0 0 Q (F0 m 93 ls [])) → va_P D vwCl (gM cy qM m_base m_f x.2.2.2.2.2.2.1 x.2.2.2.2.2.2.2 m_tail m_round m_rounds m_leasts m_likes m_like m_isTwo m_came m_by m_queue m_kind m_parts m_wanted m_allowed m_bitOf m_met m_row m_narrows m_narrow m_isMade) H → va_D A (gM cy qM m_base m_f x.2.2.2.2.2.2.1 x.2.2.2.2.2.2.2 m_tail m_round m_rounds m_leasts m_likes m_like m_isTwo m_came m_by m_queue m_kind m_parts m_wanted m_allowed m_bitOf m_met m_row m_narrows m_narrow m_isMade) → va_S A s.heap H locs → lv_has ls 16 [(0, .ref (qM 0)), (1, .int a1), (2, .long a2), (4, .long x.1), (6, .long x.2.1), (8, .int x.2.2.1), (9, .int x.2.2.2.1), (10, .int x.2.2.2.2.1), (11, .int x.2.2.2.2.2.1)] → W p l e0 rmX11_layChain s m ar below meth c H locs 0 0 Q (F0 m 18 ls []) := by
    intro m_tail m_round k
    induction k with
    | zero => intro x ex H locs ls hf; exact no_some hf
    | succ k ih =>
      intro x ex H locs ls hf hex hP hD hS hl
      have hf : f_X11_layChain_B18 F a1 m_base m_f m_tail m_round (lp (f_X11_layChain_B18 F a1 m_base m_f m_tail m_round) k) x = some ex := hf
      unfold f_X11_layChain_B18 at hf
      have hJ88 : ∀ (x4 : Int64) (x6 : Int64) (x8 : Int32) (x9 : Int32) (x10 : Int32) (s0 : Int32) (m_many : Int32) (m_figures : Nat → Int32) (H : Heap) (locs : List Loc) (ls : Array Slot), f_X11_layChain_J88 F (lp (f_X11_layChain_B18 F a1 m_base m_f m_tail m_round) k) x4 x6 x8 x9 x10 s0 m_many m_figures = some ex → va_P D vwCl (gM cy qM m_base m_f m_many m_figures m_tail m_round m_rounds m_leasts m_likes m_like m_isTwo m_came m_by m_queue m_kind m_parts m_wanted m_allowed m_bitOf m_met m_row m_narrows m_narrow m_isMade) H → va_D A (gM cy qM m_base m_f m_many m_figures m_tail m_round m_rounds m_leasts m_likes m_like m_isTwo m_came m_by m_queue m_kind m_parts m_wanted m_allowed m_bitOf m_met m_row m_narrows m_narrow m_isMade) → va_S A s.heap H locs → lv_has ls 16 [(0, .ref (qM 0)), (1, .int a1), (2, .long a2), (4, .long x4), (6, .long x6), (8, .int x8), (9, .int x9), (10, .int x10)] → W p l e0 rmX11_layChain s m ar below meth c H locs 0 0 Q (F0 m 88 ls [.int s0]) := by
        intro x4 x6 x8 x9 x10 s0 m_many m_figures H locs ls hf hP hD hS hl
        unfold f_X11_layChain_J88 at hf
        refine lv_istore (lv' := [(11, .int s0), (0, .ref (qM 0)), (1, .int a1), (2, .long a2), (4, .long x4), (6, .long x6), (8, .int x8), (9, .int x9), (10, .int x10)]) hx hb dX11_layChain_88 hl (by decide) rfl (fun ls hl => ?_)
        refine lv_goto (tgt := 18) hx hb dX11_layChain_90 (by decide) ?_
        exact ih (x4, x6, x8, x9, x10, s0, m_many, m_figures) ex _ _ _ hf hex hP hD hS (lv_sub hl [1, 2, 3, 4, 5, 6, 7, 8, 0] rfl)
      have hJ60 : ∀ (x4 : Int64) (x6 : Int64) (x8 : Int32) (x9 : Int32) (x10 : Int32) (m_many : Int32) (m_figures : Nat → Int32) (H : Heap) (locs : List Loc) (ls : Array Slot), f_X11_layChain_J60 F a1 m_base m_f (lp (f_X11_layChain_B18 F a1 m_base m_f m_tail m_round) k) x4 x6 x8 x9 x10 m_many m_figures = some ex → va_P D vwCl (gM cy qM m_base m_f m_many m_figures m_tail m_round m_rounds m_leasts m_likes m_like m_isTwo m_came m_by m_queue m_kind m_parts m_wanted m_allowed m_bitOf m_met m_row m_narrows m_narrow m_isMade) H → va_D A (gM cy qM m_base m_f m_many m_figures m_tail m_round m_rounds m_leasts m_likes m_like m_isTwo m_came m_by m_queue m_kind m_parts m_wanted m_allowed m_bitOf m_met m_row m_narrows m_narrow m_isMade) → va_S A s.heap H locs → lv_has ls 16 [(0, .ref (qM 0)), (1, .int a1), (2, .long a2), (4, .long x4), (6, .long x6), (8, .int x8), (9, .int x9), (10, .int x10)] → W p l e0 rmX11_layChain s m ar below meth c H locs 0 0 Q (F0 m 60 ls []) := by
        intro x4 x6 x8 x9 x10 m_many m_figures H locs ls hf hP hD hS hl
        unfold f_X11_layChain_J60 at hf
        refine lv_aload_n hx hb dX11_layChain_60 rfl (lv_at hl 0 rfl) ?_
        refine lv_iload_n hx hb dX11_layChain_61 rfl (lv_at hl 1 rfl) ?_
        refine lv_lload hx hb dX11_layChain_62 (lv_at hl 4 rfl) ?_
        obtain ⟨r14, hc15, hf⟩ := ob_some hf
        refine kc_l (k_run ⟨hx, hb, hml, hown, hts⟩ (c_X11_stepOf hc15) (cwV 2 hts gX11_layChain_X11_stepOf rfl rfl rfl (by decide +kernel) ⟨Nat.le_of_ble_eq_true rfl, Nat.le_of_ble_eq_true rfl⟩) hK hN hP hD kA_s (ci := 11) (q0 := 0) rfl rfl rfl rfl hl.1 rfl (Nat.le_of_ble_eq_true rfl) dX11_layChain_64 ⟨Nat.le_of_ble_eq_true rfl, Nat.le_of_ble_eq_true rfl⟩) hP hD hS hA kI_s (fun _ H locs hP hD hS => ?_)
        refine lv_lstore (lv' := [(6, .long r14.1), (0, .ref (qM 0)), (1, .int a1), (2, .long a2), (4, .long x4), (8, .int x8), (9, .int x9), (10, .int x10)]) hx hb dX11_layChain_67 hl (by decide) rfl (fun ls hl => ?_)
        refine lv_iinc (v := (x10 + (1 : Int32))) (lv' := [(10, .int (x10 + (1 : Int32))), (6, .long r14.1), (0, .ref (qM 0)), (1, .int a1), (2, .long a2), (4, .long x4), (8, .int x8), (9, .int x9)]) hx hb dX11_layChain_69 hl (k := 7) rfl rfl (by decide) rfl (fun ls hl => ?_)
        refine lv_iinc (v := (x9 + (1 : Int32))) (lv' := [(9, .int (x9 + (1 : Int32))), (10, .int (x10 + (1 : Int32))), (6, .long r14.1), (0, .ref (qM 0)), (1, .int a1), (2, .long a2), (4, .long x4), (8, .int x8)]) hx hb dX11_layChain_72 hl (k := 7) rfl rfl (by decide) rfl (fun ls hl => ?_)
        refine lv_lload hx hb dX11_layChain_75 (lv_at hl 2 rfl) ?_
        refine lv_lload hx hb dX11_layChain_77 (lv_at hl 6 rfl) ?_
        refine kl_ne (tgt := 87) hx hb dX11_layChain_79 dX11_layChain_80 (by decide) (fun c16 => ?_) (fun c16 => ?_)
        · have hf := if_f hf c16
          refine lv_iconst (v := (0 : Int32)) hx hb dX11_layChain_87 (by decide) ?_
          exact hJ88 x4 r14.1 x8 (x9 + (1 : Int32)) (x10 + (1 : Int32)) (0 : Int32) r14.2.1 r14.2.2 _ _ _ hf hP hD hS (lv_sub hl [3, 4, 5, 6, 2, 7, 0, 1] rfl)
        · have hf := if_t hf c16
          refine lv_iconst (v := (1 : Int32)) hx hb dX11_layChain_83 (by decide) ?_
          refine lv_goto (tgt := 88) hx hb dX11_layChain_84 (by decide) ?_
          exact hJ88 x4 r14.1 x8 (x9 + (1 : Int32)) (x10 + (1 : Int32)) (1 : Int32) r14.2.1 r14.2.2 _ _ _ hf hP hD hS (lv_sub hl [3, 4, 5, 6, 2, 7, 0, 1] rfl)
      refine lv_iload hx hb dX11_layChain_18 (lv_at hl 8 rfl) ?_
      refine lv_if_ne (tgt := 93) hx hb dX11_layChain_20 (by decide) (fun c17 => ?_) (fun c17 => ?_)
      · have hf := if_f hf c17
        obtain rfl := Option.some.inj hf
        exact hex _ _ _ hP hD hS (lv_sub hl [0, 1, 2, 4, 6, 7, 8] rfl)
      · have hf := if_t hf c17
        refine lv_iload hx hb dX11_layChain_23 (lv_at hl 6 rfl) ?_
        refine lv_sipush (v := (900 : Int32)) hx hb dX11_layChain_25 (by decide) ?_
        refine lv_icmp_ge (tgt := 93) hx hb dX11_layChain_28 (by decide) (fun c18 => ?_) (fun c18 => ?_)
        · have hf := if_t hf c18
          obtain rfl := Option.some.inj hf
          exact hex _ _ _ hP hD hS (lv_sub hl [0, 1, 2, 4, 6, 7, 8] rfl)
        · have hf := if_f hf c18
          refine lv_lload hx hb dX11_layChain_31 (lv_at hl 4 rfl) ?_
          refine lv_ldc2 (v := (1000000000000000 : Int64)) hx hb hown fk68 dX11_layChain_33 ?_
          refine kl_gt (tgt := 93) hx hb dX11_layChain_36 dX11_layChain_37 (by decide) (fun c19 => ?_) (fun c19 => ?_)
          · have hf := if_t hf c19
            obtain rfl := Option.some.inj hf
            exact hex _ _ _ hP hD hS (lv_sub hl [0, 1, 2, 4, 6, 7, 8] rfl)
          · have hf := if_f hf c19
            refine lv_iload hx hb dX11_layChain_40 (lv_at hl 7 rfl) ?_
            refine lv_iload hx hb dX11_layChain_42 (lv_at hl 5 rfl) ?_
            refine lv_icmp_ne (tgt := 60) hx hb dX11_layChain_44 (by decide) (fun c20 => ?_) (fun c20 => ?_)
            · have hf := if_f hf c20
              exact hJ60 x.1 x.2.1 x.2.2.1 x.2.2.2.1 x.2.2.2.2.1 x.2.2.2.2.2.2.1 x.2.2.2.2.2.2.2 _ _ _ hf hP hD hS (lv_sub hl [0, 1, 2, 3, 4, 5, 6, 7] rfl)
            · have hf := if_t hf c20
              refine lv_lload hx hb dX11_layChain_47 (lv_at hl 4 rfl) ?_
              refine lv_lstore (lv' := [(4, .long x.2.1), (0, .ref (qM 0)), (1, .int a1), (2, .long a2), (6, .long x.2.1), (8, .int x.2.2.1), (9, .int x.2.2.2.1), (10, .int x.2.2.2.2.1), (11, .int x.2.2.2.2.2.1)]) hx hb dX11_layChain_49 hl (by decide) rfl (fun ls hl => ?_)
              refine lv_iload hx hb dX11_layChain_51 (lv_at hl 5 rfl) ?_
              refine lv_iconst (v := (2 : Int32)) hx hb dX11_layChain_53 (by decide) ?_
              refine lv_imul hx hb dX11_layChain_54 ?_
              refine lv_istore (lv' := [(8, .int (x.2.2.1 * (2 : Int32))), (4, .long x.2.1), (0, .ref (qM 0)), (1, .int a1), (2, .long a2), (6, .long x.2.1), (9, .int x.2.2.2.1), (10, .int x.2.2.2.2.1), (11, .int x.2.2.2.2.2.1)]) hx hb dX11_layChain_55 hl (by decide) rfl (fun ls hl => ?_)
              refine lv_iconst (v := (0 : Int32)) hx hb dX11_layChain_57 (by decide) ?_
              refine lv_istore (lv' := [(10, .int (0 : Int32)), (8, .int (x.2.2.1 * (2 : Int32))), (4, .long x.2.1), (0, .ref (qM 0)), (1, .int a1), (2, .long a2), (6, .long x.2.1), (9, .int x.2.2.2.1), (11, .int x.2.2.2.2.2.1)]) hx hb dX11_layChain_58 hl (by decide) rfl (fun ls hl => ?_)
              exact hJ60 x.2.1 x.2.1 (x.2.2.1 * (2 : Int32)) x.2.2.2.1 (0 : Int32) x.2.2.2.2.2.2.1 x.2.2.2.2.2.2.2 _ _ _ hf hP hD hS (lv_sub hl [3, 4, 5, 2, 6, 1, 7, 0] rfl)
  refine lv_lload_n hx hb dX11_layChain_0 rfl (lv_at hl 2 rfl) ?_
  refine lv_lstore (lv' := [(4, .long a2), (0, .ref (qM 0)), (1, .int a1), (2, .long a2)]) hx hb dX11_layChain_1 hl (by decide) rfl (fun ls hl => ?_)
  refine lv_lload_n hx hb dX11_layChain_3 rfl (lv_at hl 3 rfl) ?_
  refine lv_lstore (lv' := [(6, .long a2), (4, .long a2), (0, .ref (qM 0)), (1, .int a1), (2, .long a2)]) hx hb dX11_layChain_4 hl (by decide) rfl (fun ls hl => ?_)
  refine lv_iconst (v := (1 : Int32)) hx hb dX11_layChain_6 (by decide) ?_
  refine lv_istore (lv' := [(8, .int (1 : Int32)), (6, .long a2), (4, .long a2), (0, .ref (qM 0)), (1, .int a1), (2, .long a2)]) hx hb dX11_layChain_7 hl (by decide) rfl (fun ls hl => ?_)
  refine lv_iconst (v := (0 : Int32)) hx hb dX11_layChain_9 (by decide) ?_
  refine lv_istore (lv' := [(9, .int (0 : Int32)), (8, .int (1 : Int32)), (6, .long a2), (4, .long a2), (0, .ref (qM 0)), (1, .int a1), (2, .long a2)]) hx hb dX11_layChain_10 hl (by decide) rfl (fun ls hl => ?_)
  refine lv_iconst (v := (0 : Int32)) hx hb dX11_layChain_12 (by decide) ?_
  refine lv_istore (lv' := [(10, .int (0 : Int32)), (9, .int (0 : Int32)), (8, .int (1 : Int32)), (6, .long a2), (4, .long a2), (0, .ref (qM 0)), (1, .int a1), (2, .long a2)]) hx hb dX11_layChain_13 hl (by decide) rfl (fun ls hl => ?_)
  refine lv_iconst (v := (0 : Int32)) hx hb dX11_layChain_15 (by decide) ?_
  refine lv_istore (lv' := [(11, .int (0 : Int32)), (10, .int (0 : Int32)), (9, .int (0 : Int32)), (8, .int (1 : Int32)), (6, .long a2), (4, .long a2), (0, .ref (qM 0)), (1, .int a1), (2, .long a2)]) hx hb dX11_layChain_16 hl (by decide) rfl (fun ls hl => ?_)
  obtain ⟨ex21, hcl, hf⟩ := ob_some hf
  refine hL18 m_tail m_round F (a2, a2, (1 : Int32), (0 : Int32), (0 : Int32), (0 : Int32), m_many, m_figures) ex21 _ _ _ hcl (fun H locs ls hP hD hS hl => ?_) hP hD hS (lv_sub hl [6, 7, 8, 5, 4, 3, 2, 1, 0] rfl)
  refine lv_aload_n hx hb dX11_layChain_93 rfl (lv_at hl 0 rfl) ?_
  refine lv_iload hx hb dX11_layChain_94 (lv_at hl 6 rfl) ?_
  refine lv_if_eq (tgt := 104) hx hb dX11_layChain_96 (by decide) (fun c22 => ?_) (fun c22 => ?_)
  · have hf := if_t hf c22
    refine lv_iconst (v := (0 : Int32)) hx hb dX11_layChain_104 (by decide) ?_
    exact hJ105 ex21.1 ex21.2.1 ex21.2.2.2.1 (0 : Int32) ex21.2.2.2.2.1 ex21.2.2.2.2.2 m_tail m_round _ _ _ hf hP hD hS (lv_sub hl [0, 1, 2, 3, 4, 6] rfl)
  · have hf := if_f hf c22
    refine lv_iload hx hb dX11_layChain_99 (lv_at hl 5 rfl) ?_
    refine lv_goto (tgt := 105) hx hb dX11_layChain_101 (by decide) ?_
    exact hJ105 ex21.1 ex21.2.1 ex21.2.2.2.1 ex21.2.2.1 ex21.2.2.2.2.1 ex21.2.2.2.2.2 m_tail m_round _ _ _ hf hP hD hS (lv_sub hl [0, 1, 2, 3, 4, 6] rfl)
def f_X11_chain_J58 (F : Nat) (s0 : Int32) (m_many : Int32) (m_figures : Nat → Int32) (m_tail : Int32) (m_round : Int32) : Option (Int32 × Int32 × (Nat → Int32) × Int32 × Int32) := some (s0, m_many, m_figures, m_tail, m_round)
def f_X11_chain_J34 (F : Nat) (m_many : Int32) (m_figures : Nat → Int32) (m_tail : Int32) (m_round : Int32) : Option (Int32 × Int32 × (Nat → Int32) × Int32 × Int32) := some ((-1 : Int32), m_many, m_figures, m_tail, m_round)
def f_X11_chain (F : Nat) (a1 : Int32) (a2 : Int64) (a4 : Int32) (m_base : Int32) (m_f : Nat → Int32) (m_many : Int32) (m_figures : Nat → Int32) (m_tail : Int32) (m_round : Int32) : Option (Int32 × Int32 × (Nat → Int32) × Int32 × Int32) := (f_X11_in F a1.toInt64 (0 : Int64) (5 : Int64)).bind (fun r1 => if r1 = 0 then (f_X11_chain_J34 F m_many m_figures m_tail m_round) else ((f_X11_in F a2 (0 : Int64) (1000000000000000 : Int64)).bind (fun r4 => if r4 = 0 then (f_X11_chain_J34 F m_many m_figures m_tail m_round) else ((f_X11_in F a4.toInt64 (0 : Int64) (1 : Int64)).bind (fun r7 => if r7 = 0 then (f_X11_chain_J34 F m_many m_figures m_tail m_round) else ((f_X11_layChain F a1 a2 m_base m_f m_many m_figures m_tail m_round).bind (fun r10 => if a4 = 0 then (f_X11_chain_J58 F r10.2.2.1 r10.1 r10.2.1 r10.2.2.1 r10.2.2.2) else (f_X11_chain_J58 F r10.2.2.2 r10.1 r10.2.1 r10.2.2.1 r10.2.2.2))))))))
abbrev rmX11_chain : Room := { frames := 5, cells := 0, slots := 0, locals := 137 }
set_option maxHeartbeats 1000000 in
set_option maxRecDepth 100000 in
theorem c_X11_chain {l : Launch} {D : va_G} {cy : Nat → ClassId} {qM : Nat → Nat} {m_base : Int32} {m_f : Nat → Int32} {m_many : Int32} {m_figures : Nat → Int32} {m_tail : Int32} {m_round : Int32} {m_rounds : Int32} {m_leasts : Nat → Int64} {m_likes : Int32} {m_like : Nat → Int32} {m_isTwo : Nat → Int32} {m_came : Nat → Int32} {m_by : Nat → Int32} {m_queue : Nat → Int32} {m_kind : Int32} {m_parts : Int32} {m_wanted : Int32} {m_allowed : Int32} {m_bitOf : Nat → Int32} {m_met : Int32} {m_row : Nat → Int32} {m_narrows : Int32} {m_narrow : Nat → Int64} {m_isMade : Nat → Int32} {a1 : Int32} {a2 : Int64} {a4 : Int32} {F : Nat} {res : Int32 × Int32 × (Nat → Int32) × Int32 × Int32} (hf : f_X11_chain F a1 a2 a4 m_base m_f m_many m_figures m_tail m_round = some res) : kM l yX11_chain wsX11_chain rmX11_chain D cy [.ref (qM 0), .int a1, .long a2, .int a4] (gM cy qM m_base m_f m_many m_figures m_tail m_round m_rounds m_leasts m_likes m_like m_isTwo m_came m_by m_queue m_kind m_parts m_wanted m_allowed m_bitOf m_met m_row m_narrows m_narrow m_isMade) (kQi D cy (fun _ : Unit => gM cy qM m_base m_f res.2.1 res.2.2.1 res.2.2.2.1 res.2.2.2.2 m_rounds m_leasts m_likes m_like m_isTwo m_came m_by m_queue m_kind m_parts m_wanted m_allowed m_bitOf m_met m_row m_narrows m_narrow m_isMade) res.1) := by
  refine kent_i (cc := cX11_chain) (maxL := 5) (by decide) rfl (Nat.le_of_ble_eq_true rfl) ?_
  intro p e0 s m ar below meth c A Q ls ⟨hx, hb, hml, hr, hts, hown, hlocks, hnm⟩ hA hK hN hQ hP hD hS hl
  have hl : lv_has ls 5 [(0, .ref (qM 0)), (1, .int a1), (2, .long a2), (4, .int a4)] := hl
  have hown : s.vm.findClass RX11 = some m.cls := hown
  have fk89 : (Cond.constantLong RX11 89 (5)).before ar s = true := hts _ (by decide +kernel)
  have fk68 : (Cond.constantLong RX11 68 (1000000000000000)).before ar s = true := hts _ (by decide +kernel)
  have huX11 : ∀ x ∈ u_ws RX11 TX11 24, x ∈ wsX11_chain := by decide +kernel
  have fk97 : (Cond.fieldLink RX11 97 "FigurePlayModel" "round" "I").before ar s = true := hts _ (by decide +kernel)
  have fk100 : (Cond.fieldLink RX11 100 "FigurePlayModel" "tail" "I").before ar s = true := hts _ (by decide +kernel)
  unfold f_X11_chain at hf
  have hJ58 : ∀ (s0 : Int32) (m_many : Int32) (m_figures : Nat → Int32) (m_tail : Int32) (m_round : Int32) (H : Heap) (locs : List Loc) (ls : Array Slot), f_X11_chain_J58 F s0 m_many m_figures m_tail m_round = some res → va_P D vwCl (gM cy qM m_base m_f m_many m_figures m_tail m_round m_rounds m_leasts m_likes m_like m_isTwo m_came m_by m_queue m_kind m_parts m_wanted m_allowed m_bitOf m_met m_row m_narrows m_narrow m_isMade) H → va_D A (gM cy qM m_base m_f m_many m_figures m_tail m_round m_rounds m_leasts m_likes m_like m_isTwo m_came m_by m_queue m_kind m_parts m_wanted m_allowed m_bitOf m_met m_row m_narrows m_narrow m_isMade) → va_S A s.heap H locs → lv_has ls 5 [] → W p l e0 rmX11_chain s m ar below meth c H locs 0 0 Q (F0 m 58 ls [.int s0]) := by
    intro s0 m_many m_figures m_tail m_round H locs ls hf hP hD hS hl
    unfold f_X11_chain_J58 at hf
    obtain rfl := Option.some.inj hf
    exact hQ () 58 _ _ _ dX11_chain_58 hP hD hS
  have hJ34 : ∀ (m_many : Int32) (m_figures : Nat → Int32) (m_tail : Int32) (m_round : Int32) (H : Heap) (locs : List Loc) (ls : Array Slot), f_X11_chain_J34 F m_many m_figures m_tail m_round = some res → va_P D vwCl (gM cy qM m_base m_f m_many m_figures m_tail m_round m_rounds m_leasts m_likes m_like m_isTwo m_came m_by m_queue m_kind m_parts m_wanted m_allowed m_bitOf m_met m_row m_narrows m_narrow m_isMade) H → va_D A (gM cy qM m_base m_f m_many m_figures m_tail m_round m_rounds m_leasts m_likes m_like m_isTwo m_came m_by m_queue m_kind m_parts m_wanted m_allowed m_bitOf m_met m_row m_narrows m_narrow m_isMade) → va_S A s.heap H locs → lv_has ls 5 [] → W p l e0 rmX11_chain s m ar below meth c H locs 0 0 Q (F0 m 34 ls []) := by
    intro m_many m_figures m_tail m_round H locs ls hf hP hD hS hl
    unfold f_X11_chain_J34 at hf
    refine lv_iconst (v := (-1 : Int32)) hx hb dX11_chain_34 (by decide) ?_
    obtain rfl := Option.some.inj hf
    exact hQ () 35 _ _ _ dX11_chain_35 hP hD hS
  refine lv_iload_n hx hb dX11_chain_0 rfl (lv_at hl 1 rfl) ?_
  refine lv_i2l hx hb dX11_chain_1 rfl ?_
  refine lv_lconst (v := (0 : Int64)) hx hb dX11_chain_2 (by decide) ?_
  refine lv_ldc2 (v := (5 : Int64)) hx hb hown fk89 dX11_chain_3 ?_
  obtain ⟨r1, hc2, hf⟩ := ob_some hf
  refine kc_i (k_runS ⟨hx, hb, hml, hown, hts⟩ (c_X11_in hc2) (va_cwS 3 hts gX11_chain_X11_in rfl rfl rfl (by decide +kernel) ⟨Nat.le_of_ble_eq_true rfl, Nat.le_of_ble_eq_true rfl⟩) hK hN hP hD kA_0 rfl hl.1 rfl (Nat.le_of_ble_eq_true rfl) dX11_chain_6 ⟨Nat.le_of_ble_eq_true rfl, Nat.le_of_ble_eq_true rfl⟩) hP hD hS hA kI_0 (fun _ H locs hP hD hS => ?_)
  refine lv_if_eq (tgt := 34) hx hb dX11_chain_9 (by decide) (fun c3 => ?_) (fun c3 => ?_)
  · have hf := if_t hf c3
    exact hJ34 m_many m_figures m_tail m_round _ _ _ hf hP hD hS (lv_sub hl [] rfl)
  · have hf := if_f hf c3
    refine lv_lload_n hx hb dX11_chain_12 rfl (lv_at hl 2 rfl) ?_
    refine lv_lconst (v := (0 : Int64)) hx hb dX11_chain_13 (by decide) ?_
    refine lv_ldc2 (v := (1000000000000000 : Int64)) hx hb hown fk68 dX11_chain_14 ?_
    obtain ⟨r4, hc5, hf⟩ := ob_some hf
    refine kc_i (k_runS ⟨hx, hb, hml, hown, hts⟩ (c_X11_in hc5) (va_cwS 3 hts gX11_chain_X11_in rfl rfl rfl (by decide +kernel) ⟨Nat.le_of_ble_eq_true rfl, Nat.le_of_ble_eq_true rfl⟩) hK hN hP hD kA_0 rfl hl.1 rfl (Nat.le_of_ble_eq_true rfl) dX11_chain_17 ⟨Nat.le_of_ble_eq_true rfl, Nat.le_of_ble_eq_true rfl⟩) hP hD hS hA kI_0 (fun _ H locs hP hD hS => ?_)
    refine lv_if_eq (tgt := 34) hx hb dX11_chain_20 (by decide) (fun c6 => ?_) (fun c6 => ?_)
    · have hf := if_t hf c6
      exact hJ34 m_many m_figures m_tail m_round _ _ _ hf hP hD hS (lv_sub hl [] rfl)
    · have hf := if_f hf c6
      refine lv_iload hx hb dX11_chain_23 (lv_at hl 3 rfl) ?_
      refine lv_i2l hx hb dX11_chain_25 rfl ?_
      refine lv_lconst (v := (0 : Int64)) hx hb dX11_chain_26 (by decide) ?_
      refine lv_lconst (v := (1 : Int64)) hx hb dX11_chain_27 (by decide) ?_
      obtain ⟨r7, hc8, hf⟩ := ob_some hf
      refine kc_i (k_runS ⟨hx, hb, hml, hown, hts⟩ (c_X11_in hc8) (va_cwS 3 hts gX11_chain_X11_in rfl rfl rfl (by decide +kernel) ⟨Nat.le_of_ble_eq_true rfl, Nat.le_of_ble_eq_true rfl⟩) hK hN hP hD kA_0 rfl hl.1 rfl (Nat.le_of_ble_eq_true rfl) dX11_chain_28 ⟨Nat.le_of_ble_eq_true rfl, Nat.le_of_ble_eq_true rfl⟩) hP hD hS hA kI_0 (fun _ H locs hP hD hS => ?_)
      refine lv_if_ne (tgt := 36) hx hb dX11_chain_31 (by decide) (fun c9 => ?_) (fun c9 => ?_)
      · have hf := if_f hf c9
        refine lv_aload_n hx hb dX11_chain_36 rfl (lv_at hl 0 rfl) ?_
        refine lv_iload_n hx hb dX11_chain_37 rfl (lv_at hl 1 rfl) ?_
        refine lv_lload_n hx hb dX11_chain_38 rfl (lv_at hl 2 rfl) ?_
        obtain ⟨r10, hc11, hf⟩ := ob_some hf
        refine kc_v (k_run ⟨hx, hb, hml, hown, hts⟩ (c_X11_layChain hc11) (cwV 2 hts gX11_chain_X11_layChain rfl rfl rfl (by decide +kernel) ⟨Nat.le_of_ble_eq_true rfl, Nat.le_of_ble_eq_true rfl⟩) hK hN hP hD kA_s (ci := 11) (q0 := 0) rfl rfl rfl rfl hl.1 rfl (Nat.le_of_ble_eq_true rfl) dX11_chain_39 ⟨Nat.le_of_ble_eq_true rfl, Nat.le_of_ble_eq_true rfl⟩) hP hD hS hA kI_s (fun _ H locs hP hD hS => ?_)
        refine lv_iload hx hb dX11_chain_42 (lv_at hl 3 rfl) ?_
        refine lv_if_ne (tgt := 54) hx hb dX11_chain_44 (by decide) (fun c12 => ?_) (fun c12 => ?_)
        · have hf := if_f hf c12
          refine lv_aload_n hx hb dX11_chain_54 rfl (lv_at hl 0 rfl) ?_
          refine va_get (D := D) (ci := 11) (C := RX11) (T := TX11) (N := 24) hx hb hts huX11 hown hK hP 0 rfl rfl 5 (by decide) fk97 (fun _ h9 => h9) rfl dX11_chain_55 ?_
          exact hJ58 r10.2.2.2 r10.1 r10.2.1 r10.2.2.1 r10.2.2.2 _ _ _ hf hP hD hS (lv_sub hl [] rfl)
        · have hf := if_t hf c12
          refine lv_aload_n hx hb dX11_chain_47 rfl (lv_at hl 0 rfl) ?_
          refine va_get (D := D) (ci := 11) (C := RX11) (T := TX11) (N := 24) hx hb hts huX11 hown hK hP 0 rfl rfl 4 (by decide) fk100 (fun _ h9 => h9) rfl dX11_chain_48 ?_
          refine lv_goto (tgt := 58) hx hb dX11_chain_51 (by decide) ?_
          exact hJ58 r10.2.2.1 r10.1 r10.2.1 r10.2.2.1 r10.2.2.2 _ _ _ hf hP hD hS (lv_sub hl [] rfl)
      · have hf := if_t hf c9
        exact hJ34 m_many m_figures m_tail m_round _ _ _ hf hP hD hS (lv_sub hl [] rfl)
def f_X11_chained_J92 (F : Nat) (m_base : Int32) (m_f : Nat → Int32) (s1 : Int32) (s2 : Int64) (s3 : Int32) (m_many : Int32) (m_figures : Nat → Int32) (m_tail : Int32) (m_round : Int32) : Option (Int64 × Int32 × (Nat → Int32) × Int32 × Int32) := (f_X11_behind F s1 s2 s3 m_base m_f m_many m_figures).bind (fun r1 => some (r1.1, r1.2.1, r1.2.2, m_tail, m_round))
def f_X11_chained_J58 (F : Nat) (a1 : Int32) (a2 : Int64) (a4 : Int32) (m_base : Int32) (m_f : Nat → Int32) (m_many : Int32) (m_figures : Nat → Int32) (m_tail : Int32) (m_round : Int32) : Option (Int64 × Int32 × (Nat → Int32) × Int32 × Int32) := if m_tail ≤ a4 then (ck (¬ m_round = 0) (f_X11_chained_J92 F m_base m_f a1 a2 (m_tail + ((a4 - m_tail) - (a4 - m_tail) / m_round * m_round)) m_many m_figures m_tail m_round)) else (f_X11_chained_J92 F m_base m_f a1 a2 a4 m_many m_figures m_tail m_round)
def f_X11_chained_J28 (F : Nat) (m_many : Int32) (m_figures : Nat → Int32) (m_tail : Int32) (m_round : Int32) : Option (Int64 × Int32 × (Nat → Int32) × Int32 × Int32) := some ((-1 : Int64), m_many, m_figures, m_tail, m_round)
def f_X11_chained (F : Nat) (a1 : Int32) (a2 : Int64) (a4 : Int32) (m_base : Int32) (m_f : Nat → Int32) (m_many : Int32) (m_figures : Nat → Int32) (m_tail : Int32) (m_round : Int32) : Option (Int64 × Int32 × (Nat → Int32) × Int32 × Int32) := (f_X11_in F a1.toInt64 (0 : Int64) (5 : Int64)).bind (fun r5 => if r5 = 0 then (f_X11_chained_J28 F m_many m_figures m_tail m_round) else ((f_X11_in F a2 (0 : Int64) (1000000000000000 : Int64)).bind (fun r8 => if r8 = 0 then (f_X11_chained_J28 F m_many m_figures m_tail m_round) else (if 0 ≤ a4 then ((f_X11_layChain F a1 a2 m_base m_f m_many m_figures m_tail m_round).bind (fun r12 => if a4 < r12.2.2.1 then (f_X11_chained_J58 F a1 a2 a4 m_base m_f r12.1 r12.2.1 r12.2.2.1 r12.2.2.2) else (if r12.2.2.2 = 0 then (some ((-4 : Int64), r12.1, r12.2.1, r12.2.2.1, r12.2.2.2)) else (f_X11_chained_J58 F a1 a2 a4 m_base m_f r12.1 r12.2.1 r12.2.2.1 r12.2.2.2)))) else (f_X11_chained_J28 F m_many m_figures m_tail m_round)))))
abbrev rmX11_chained : Room := { frames := 5, cells := 0, slots := 0, locals := 137 }
set_option maxHeartbeats 1000000 in
set_option maxRecDepth 100000 in
theorem c_X11_chained {l : Launch} {D : va_G} {cy : Nat → ClassId} {qM : Nat → Nat} {m_base : Int32} {m_f : Nat → Int32} {m_many : Int32} {m_figures : Nat → Int32} {m_tail : Int32} {m_round : Int32} {m_rounds : Int32} {m_leasts : Nat → Int64} {m_likes : Int32} {m_like : Nat → Int32} {m_isTwo : Nat → Int32} {m_came : Nat → Int32} {m_by : Nat → Int32} {m_queue : Nat → Int32} {m_kind : Int32} {m_parts : Int32} {m_wanted : Int32} {m_allowed : Int32} {m_bitOf : Nat → Int32} {m_met : Int32} {m_row : Nat → Int32} {m_narrows : Int32} {m_narrow : Nat → Int64} {m_isMade : Nat → Int32} {a1 : Int32} {a2 : Int64} {a4 : Int32} {F : Nat} {res : Int64 × Int32 × (Nat → Int32) × Int32 × Int32} (hf : f_X11_chained F a1 a2 a4 m_base m_f m_many m_figures m_tail m_round = some res) : kM l yX11_chained wsX11_chained rmX11_chained D cy [.ref (qM 0), .int a1, .long a2, .int a4] (gM cy qM m_base m_f m_many m_figures m_tail m_round m_rounds m_leasts m_likes m_like m_isTwo m_came m_by m_queue m_kind m_parts m_wanted m_allowed m_bitOf m_met m_row m_narrows m_narrow m_isMade) (kQl D cy (fun _ : Unit => gM cy qM m_base m_f res.2.1 res.2.2.1 res.2.2.2.1 res.2.2.2.2 m_rounds m_leasts m_likes m_like m_isTwo m_came m_by m_queue m_kind m_parts m_wanted m_allowed m_bitOf m_met m_row m_narrows m_narrow m_isMade) res.1) := by
  refine kent_l (cc := cX11_chained) (maxL := 5) (by decide) rfl (Nat.le_of_ble_eq_true rfl) ?_
  intro p e0 s m ar below meth c A Q ls ⟨hx, hb, hml, hr, hts, hown, hlocks, hnm⟩ hA hK hN hQ hP hD hS hl
  have hl : lv_has ls 5 [(0, .ref (qM 0)), (1, .int a1), (2, .long a2), (4, .int a4)] := hl
  have hown : s.vm.findClass RX11 = some m.cls := hown
  have huX11 : ∀ x ∈ u_ws RX11 TX11 24, x ∈ wsX11_chained := by decide +kernel
  have fk100 : (Cond.fieldLink RX11 100 "FigurePlayModel" "tail" "I").before ar s = true := hts _ (by decide +kernel)
  have fk97 : (Cond.fieldLink RX11 97 "FigurePlayModel" "round" "I").before ar s = true := hts _ (by decide +kernel)
  have fk95 : (Cond.constantLong RX11 95 (-1)).before ar s = true := hts _ (by decide +kernel)
  have fk89 : (Cond.constantLong RX11 89 (5)).before ar s = true := hts _ (by decide +kernel)
  have fk68 : (Cond.constantLong RX11 68 (1000000000000000)).before ar s = true := hts _ (by decide +kernel)
  have fk111 : (Cond.constantLong RX11 111 (-4)).before ar s = true := hts _ (by decide +kernel)
  unfold f_X11_chained at hf
  have hJ92 : ∀ (s1 : Int32) (s2 : Int64) (s3 : Int32) (m_many : Int32) (m_figures : Nat → Int32) (m_tail : Int32) (m_round : Int32) (H : Heap) (locs : List Loc) (ls : Array Slot), f_X11_chained_J92 F m_base m_f s1 s2 s3 m_many m_figures m_tail m_round = some res → va_P D vwCl (gM cy qM m_base m_f m_many m_figures m_tail m_round m_rounds m_leasts m_likes m_like m_isTwo m_came m_by m_queue m_kind m_parts m_wanted m_allowed m_bitOf m_met m_row m_narrows m_narrow m_isMade) H → va_D A (gM cy qM m_base m_f m_many m_figures m_tail m_round m_rounds m_leasts m_likes m_like m_isTwo m_came m_by m_queue m_kind m_parts m_wanted m_allowed m_bitOf m_met m_row m_narrows m_narrow m_isMade) → va_S A s.heap H locs → lv_has ls 5 [] → W p l e0 rmX11_chained s m ar below meth c H locs 0 0 Q (F0 m 92 ls [.int s3, .long s2, .int s1, .ref (qM 0)]) := by
    intro s1 s2 s3 m_many m_figures m_tail m_round H locs ls hf hP hD hS hl
    unfold f_X11_chained_J92 at hf
    obtain ⟨r1, hc2, hf⟩ := ob_some hf
    refine kc_l (k_run ⟨hx, hb, hml, hown, hts⟩ (c_X11_behind hc2) (cwV 3 hts gX11_chained_X11_behind rfl rfl rfl (by decide +kernel) ⟨Nat.le_of_ble_eq_true rfl, Nat.le_of_ble_eq_true rfl⟩) hK hN hP hD kA_s (ci := 11) (q0 := 0) rfl rfl rfl rfl hl.1 rfl (Nat.le_of_ble_eq_true rfl) dX11_chained_92 ⟨Nat.le_of_ble_eq_true rfl, Nat.le_of_ble_eq_true rfl⟩) hP hD hS hA kI_s (fun _ H locs hP hD hS => ?_)
    obtain rfl := Option.some.inj hf
    exact hQ () 95 _ _ _ dX11_chained_95 hP hD hS
  have hJ58 : ∀ (m_many : Int32) (m_figures : Nat → Int32) (m_tail : Int32) (m_round : Int32) (H : Heap) (locs : List Loc) (ls : Array Slot), f_X11_chained_J58 F a1 a2 a4 m_base m_f m_many m_figures m_tail m_round = some res → va_P D vwCl (gM cy qM m_base m_f m_many m_figures m_tail m_round m_rounds m_leasts m_likes m_like m_isTwo m_came m_by m_queue m_kind m_parts m_wanted m_allowed m_bitOf m_met m_row m_narrows m_narrow m_isMade) H → va_D A (gM cy qM m_base m_f m_many m_figures m_tail m_round m_rounds m_leasts m_likes m_like m_isTwo m_came m_by m_queue m_kind m_parts m_wanted m_allowed m_bitOf m_met m_row m_narrows m_narrow m_isMade) → va_S A s.heap H locs → lv_has ls 5 [(0, .ref (qM 0)), (1, .int a1), (2, .long a2), (4, .int a4)] → W p l e0 rmX11_chained s m ar below meth c H locs 0 0 Q (F0 m 58 ls []) := by
    intro m_many m_figures m_tail m_round H locs ls hf hP hD hS hl
    unfold f_X11_chained_J58 at hf
    refine lv_aload_n hx hb dX11_chained_58 rfl (lv_at hl 0 rfl) ?_
    refine lv_iload_n hx hb dX11_chained_59 rfl (lv_at hl 1 rfl) ?_
    refine lv_lload_n hx hb dX11_chained_60 rfl (lv_at hl 2 rfl) ?_
    refine lv_iload hx hb dX11_chained_61 (lv_at hl 3 rfl) ?_
    refine lv_aload_n hx hb dX11_chained_63 rfl (lv_at hl 0 rfl) ?_
    refine va_get (D := D) (ci := 11) (C := RX11) (T := TX11) (N := 24) hx hb hts huX11 hown hK hP 0 rfl rfl 4 (by decide) fk100 (fun _ h9 => h9) rfl dX11_chained_64 ?_
    refine lv_icmp_ge (tgt := 75) hx hb dX11_chained_67 (by decide) (fun c3 => ?_) (fun c3 => ?_)
    · have hf := if_t hf c3
      refine lv_aload_n hx hb dX11_chained_75 rfl (lv_at hl 0 rfl) ?_
      refine va_get (D := D) (ci := 11) (C := RX11) (T := TX11) (N := 24) hx hb hts huX11 hown hK hP 0 rfl rfl 4 (by decide) fk100 (fun _ h9 => h9) rfl dX11_chained_76 ?_
      refine lv_iload hx hb dX11_chained_79 (lv_at hl 3 rfl) ?_
      refine lv_aload_n hx hb dX11_chained_81 rfl (lv_at hl 0 rfl) ?_
      refine va_get (D := D) (ci := 11) (C := RX11) (T := TX11) (N := 24) hx hb hts huX11 hown hK hP 0 rfl rfl 4 (by decide) fk100 (fun _ h9 => h9) rfl dX11_chained_82 ?_
      refine lv_isub hx hb dX11_chained_85 ?_
      refine lv_aload_n hx hb dX11_chained_86 rfl (lv_at hl 0 rfl) ?_
      refine va_get (D := D) (ci := 11) (C := RX11) (T := TX11) (N := 24) hx hb hts huX11 hown hK hP 0 rfl rfl 5 (by decide) fk97 (fun _ h9 => h9) rfl dX11_chained_87 ?_
      obtain ⟨c4, hf⟩ := ck_some hf
      refine lv_irem hx hb dX11_chained_90 c4 ?_
      refine lv_iadd hx hb dX11_chained_91 ?_
      exact hJ92 a1 a2 (m_tail + ((a4 - m_tail) - (a4 - m_tail) / m_round * m_round)) m_many m_figures m_tail m_round _ _ _ hf hP hD hS (lv_sub hl [] rfl)
    · have hf := if_f hf c3
      refine lv_iload hx hb dX11_chained_70 (lv_at hl 3 rfl) ?_
      refine lv_goto (tgt := 92) hx hb dX11_chained_72 (by decide) ?_
      exact hJ92 a1 a2 a4 m_many m_figures m_tail m_round _ _ _ hf hP hD hS (lv_sub hl [] rfl)
  have hJ28 : ∀ (m_many : Int32) (m_figures : Nat → Int32) (m_tail : Int32) (m_round : Int32) (H : Heap) (locs : List Loc) (ls : Array Slot), f_X11_chained_J28 F m_many m_figures m_tail m_round = some res → va_P D vwCl (gM cy qM m_base m_f m_many m_figures m_tail m_round m_rounds m_leasts m_likes m_like m_isTwo m_came m_by m_queue m_kind m_parts m_wanted m_allowed m_bitOf m_met m_row m_narrows m_narrow m_isMade) H → va_D A (gM cy qM m_base m_f m_many m_figures m_tail m_round m_rounds m_leasts m_likes m_like m_isTwo m_came m_by m_queue m_kind m_parts m_wanted m_allowed m_bitOf m_met m_row m_narrows m_narrow m_isMade) → va_S A s.heap H locs → lv_has ls 5 [] → W p l e0 rmX11_chained s m ar below meth c H locs 0 0 Q (F0 m 28 ls []) := by
    intro m_many m_figures m_tail m_round H locs ls hf hP hD hS hl
    unfold f_X11_chained_J28 at hf
    refine lv_ldc2 (v := (-1 : Int64)) hx hb hown fk95 dX11_chained_28 ?_
    obtain rfl := Option.some.inj hf
    exact hQ () 31 _ _ _ dX11_chained_31 hP hD hS
  refine lv_iload_n hx hb dX11_chained_0 rfl (lv_at hl 1 rfl) ?_
  refine lv_i2l hx hb dX11_chained_1 rfl ?_
  refine lv_lconst (v := (0 : Int64)) hx hb dX11_chained_2 (by decide) ?_
  refine lv_ldc2 (v := (5 : Int64)) hx hb hown fk89 dX11_chained_3 ?_
  obtain ⟨r5, hc6, hf⟩ := ob_some hf
  refine kc_i (k_runS ⟨hx, hb, hml, hown, hts⟩ (c_X11_in hc6) (va_cwS 3 hts gX11_chained_X11_in rfl rfl rfl (by decide +kernel) ⟨Nat.le_of_ble_eq_true rfl, Nat.le_of_ble_eq_true rfl⟩) hK hN hP hD kA_0 rfl hl.1 rfl (Nat.le_of_ble_eq_true rfl) dX11_chained_6 ⟨Nat.le_of_ble_eq_true rfl, Nat.le_of_ble_eq_true rfl⟩) hP hD hS hA kI_0 (fun _ H locs hP hD hS => ?_)
  refine lv_if_eq (tgt := 28) hx hb dX11_chained_9 (by decide) (fun c7 => ?_) (fun c7 => ?_)
  · have hf := if_t hf c7
    exact hJ28 m_many m_figures m_tail m_round _ _ _ hf hP hD hS (lv_sub hl [] rfl)
  · have hf := if_f hf c7
    refine lv_lload_n hx hb dX11_chained_12 rfl (lv_at hl 2 rfl) ?_
    refine lv_lconst (v := (0 : Int64)) hx hb dX11_chained_13 (by decide) ?_
    refine lv_ldc2 (v := (1000000000000000 : Int64)) hx hb hown fk68 dX11_chained_14 ?_
    obtain ⟨r8, hc9, hf⟩ := ob_some hf
    refine kc_i (k_runS ⟨hx, hb, hml, hown, hts⟩ (c_X11_in hc9) (va_cwS 3 hts gX11_chained_X11_in rfl rfl rfl (by decide +kernel) ⟨Nat.le_of_ble_eq_true rfl, Nat.le_of_ble_eq_true rfl⟩) hK hN hP hD kA_0 rfl hl.1 rfl (Nat.le_of_ble_eq_true rfl) dX11_chained_17 ⟨Nat.le_of_ble_eq_true rfl, Nat.le_of_ble_eq_true rfl⟩) hP hD hS hA kI_0 (fun _ H locs hP hD hS => ?_)
    refine lv_if_eq (tgt := 28) hx hb dX11_chained_20 (by decide) (fun c10 => ?_) (fun c10 => ?_)
    · have hf := if_t hf c10
      exact hJ28 m_many m_figures m_tail m_round _ _ _ hf hP hD hS (lv_sub hl [] rfl)
    · have hf := if_f hf c10
      refine lv_iload hx hb dX11_chained_23 (lv_at hl 3 rfl) ?_
      refine lv_if_ge (tgt := 32) hx hb dX11_chained_25 (by decide) (fun c11 => ?_) (fun c11 => ?_)
      · have hf := if_t hf c11
        refine lv_aload_n hx hb dX11_chained_32 rfl (lv_at hl 0 rfl) ?_
        refine lv_iload_n hx hb dX11_chained_33 rfl (lv_at hl 1 rfl) ?_
        refine lv_lload_n hx hb dX11_chained_34 rfl (lv_at hl 2 rfl) ?_
        obtain ⟨r12, hc13, hf⟩ := ob_some hf
        refine kc_v (k_run ⟨hx, hb, hml, hown, hts⟩ (c_X11_layChain hc13) (cwV 2 hts gX11_chained_X11_layChain rfl rfl rfl (by decide +kernel) ⟨Nat.le_of_ble_eq_true rfl, Nat.le_of_ble_eq_true rfl⟩) hK hN hP hD kA_s (ci := 11) (q0 := 0) rfl rfl rfl rfl hl.1 rfl (Nat.le_of_ble_eq_true rfl) dX11_chained_35 ⟨Nat.le_of_ble_eq_true rfl, Nat.le_of_ble_eq_true rfl⟩) hP hD hS hA kI_s (fun _ H locs hP hD hS => ?_)
        refine lv_iload hx hb dX11_chained_38 (lv_at hl 3 rfl) ?_
        refine lv_aload_n hx hb dX11_chained_40 rfl (lv_at hl 0 rfl) ?_
        refine va_get (D := D) (ci := 11) (C := RX11) (T := TX11) (N := 24) hx hb hts huX11 hown hK hP 0 rfl rfl 4 (by decide) fk100 (fun _ h9 => h9) rfl dX11_chained_41 ?_
        refine lv_icmp_lt (tgt := 58) hx hb dX11_chained_44 (by decide) (fun c14 => ?_) (fun c14 => ?_)
        · have hf := if_t hf c14
          exact hJ58 r12.1 r12.2.1 r12.2.2.1 r12.2.2.2 _ _ _ hf hP hD hS (lv_sub hl [0, 1, 2, 3] rfl)
        · have hf := if_f hf c14
          refine lv_aload_n hx hb dX11_chained_47 rfl (lv_at hl 0 rfl) ?_
          refine va_get (D := D) (ci := 11) (C := RX11) (T := TX11) (N := 24) hx hb hts huX11 hown hK hP 0 rfl rfl 5 (by decide) fk97 (fun _ h9 => h9) rfl dX11_chained_48 ?_
          refine lv_if_ne (tgt := 58) hx hb dX11_chained_51 (by decide) (fun c15 => ?_) (fun c15 => ?_)
          · have hf := if_f hf c15
            exact hJ58 r12.1 r12.2.1 r12.2.2.1 r12.2.2.2 _ _ _ hf hP hD hS (lv_sub hl [0, 1, 2, 3] rfl)
          · have hf := if_t hf c15
            refine lv_ldc2 (v := (-4 : Int64)) hx hb hown fk111 dX11_chained_54 ?_
            obtain rfl := Option.some.inj hf
            exact hQ () 57 _ _ _ dX11_chained_57 hP hD hS
      · have hf := if_f hf c11
        exact hJ28 m_many m_figures m_tail m_round _ _ _ hf hP hD hS (lv_sub hl [] rfl)
