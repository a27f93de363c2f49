/-! the class: functions and contracts -/
def f_X10_slotsOnce_P (F : Nat) : Option (Unit) := some ()
abbrev rmX10_slotsOnce_P : Room := { frames := 0, cells := 0, slots := 0, locals := 0 }
set_option maxHeartbeats 1000000 in
set_option maxRecDepth 100000 in
theorem c_X10_slotsOnce_P {l : Launch} {D : va_G} {cy : Nat → ClassId} {qX : Nat → Nat} {qG : Nat → Nat} {qP : Nat → Nat} {qR : Nat → Nat} {qS : Nat → Nat} {oB : Option Nat} {oE : Option Nat} {oN : Option Nat} {oL : Option Nat} {x_ways : Nat → Option Nat} {s_keys : Nat → Int64} {s_tails : Nat → Int32} {s_homes : Nat → Int32} {s_stamp : Int32} {F : Nat} {res : Unit} (hf : f_X10_slotsOnce_P F = some res) : kM l yX10_slotsOnce wsX10_slotsOnce rmX10_slotsOnce_P D cy [.ref (qX 0)] (gX cy qX (qG 0) (qP 0) (qR 0) (some (qS 0)) oB oE oN oL x_ways ++ (gS cy qS s_keys s_tails s_homes s_stamp)) (kQrx D cy (fun u : Nat → Nat → Nat => gX cy qX (qG 0) (qP 0) (qR 0) (some (qS 0)) oB oE oN oL x_ways ++ (gS cy qS s_keys s_tails s_homes s_stamp)) (fun u : Nat → Nat → Nat => qS 0)) := by
  refine kent_rx (rt := .object "FigurePlay$Slots") (Or.inl ⟨_, rfl⟩) (cc := cX10_slotsOnce) (maxL := 1) (by decide) rfl (Nat.le_of_ble_eq_true rfl) ?_
  intro p e0 s m ar below meth c A Q ls ⟨hx, hb, hml, hr, hts, hown, hlocks, hnm⟩ hA hK hN hQ hP hD hS hl
  have hl : lv_has ls 1 [(0, .ref (qX 0))] := hl
  have hown : s.vm.findClass RX10 = some m.cls := hown
  have huX10 : ∀ x ∈ u_ws RX10 TX10 9, x ∈ wsX10_slotsOnce := by decide +kernel
  have fk232 : (Cond.fieldLink RX10 232 "FigurePlay" "slots" "LFigurePlay$Slots;").before ar s = true := hts _ (by decide +kernel)
  unfold f_X10_slotsOnce_P at hf
  refine lv_aload_n hx hb dX10_slotsOnce_0 rfl (lv_at hl 0 rfl) ?_
  refine va_get (v := .ref (qS 0)) (D := D) (ci := 10) (C := RX10) (T := TX10) (N := 9) hx hb hts huX10 hown hK hP 0 rfl rfl 4 (by decide) fk232 (fun _ h9 => h9) rfl dX10_slotsOnce_1 ?_
  refine lv_ifnonnull (tgt := 18) hx hb dX10_slotsOnce_4 (by decide) ?_
  refine lv_aload_n hx hb dX10_slotsOnce_18 rfl (lv_at hl 0 rfl) ?_
  refine va_get (v := .ref (qS 0)) (D := D) (ci := 10) (C := RX10) (T := TX10) (N := 9) hx hb hts huX10 hown hK hP 0 rfl rfl 4 (by decide) fk232 (fun _ h9 => h9) rfl dX10_slotsOnce_19 ?_
  refine W.widen (k := 0) (n := 0) (Nat.le_of_ble_eq_true rfl) (Nat.le_of_ble_eq_true rfl) ?_
  obtain rfl := Option.some.inj hf
  exact hQ (kU []) 22 _ _ _ dX10_slotsOnce_22 hP hD hS
def f_X10_slotsOnce_N (F : Nat) : Option ((Nat → Int64) × (Nat → Int32) × (Nat → Int32) × Int32) := some ((fun _ => 0), (fun _ => 0), (fun _ => 0), (0 : Int32))
abbrev rmX10_slotsOnce_N : Room := { frames := 2, cells := 4, slots := 98308, locals := 34 }
set_option maxHeartbeats 1000000 in
set_option maxRecDepth 100000 in
theorem c_X10_slotsOnce_N {l : Launch} {D : va_G} {cy : Nat → ClassId} {qX : Nat → Nat} {qG : Nat → Nat} {qP : Nat → Nat} {qR : Nat → Nat} {oB : Option Nat} {oE : Option Nat} {oN : Option Nat} {oL : Option Nat} {x_ways : Nat → Option Nat} {F : Nat} {res : (Nat → Int64) × (Nat → Int32) × (Nat → Int32) × Int32} (hf : f_X10_slotsOnce_N F = some res) : kM l yX10_slotsOnce wsX10_slotsOnce rmX10_slotsOnce_N D cy [.ref (qX 0)] (gX cy qX (qG 0) (qP 0) (qR 0) none oB oE oN oL x_ways) (kQrx D cy (fun u : Nat → Nat → Nat => gX cy qX (qG 0) (qP 0) (qR 0) (some ((u 0) 0)) oB oE oN oL x_ways ++ (gS cy (u 0) res.1 res.2.1 res.2.2.1 res.2.2.2)) (fun u : Nat → Nat → Nat => (u 0) 0)) := by
  refine kent_rx (rt := .object "FigurePlay$Slots") (Or.inl ⟨_, rfl⟩) (cc := cX10_slotsOnce) (maxL := 1) (by decide) rfl (Nat.le_of_ble_eq_true rfl) ?_
  intro p e0 s m ar below meth c A Q ls ⟨hx, hb, hml, hr, hts, hown, hlocks, hnm⟩ hA hK hN hQ hP hD hS hl
  have hl : lv_has ls 1 [(0, .ref (qX 0))] := hl
  have hown : s.vm.findClass RX10 = some m.cls := hown
  have huX10 : ∀ x ∈ u_ws RX10 TX10 9, x ∈ wsX10_slotsOnce := by decide +kernel
  have fk232 : (Cond.fieldLink RX10 232 "FigurePlay" "slots" "LFigurePlay$Slots;").before ar s = true := hts _ (by decide +kernel)
  have huX8 : ∀ x ∈ u_ws RX8 TX8 4, x ∈ wsX10_slotsOnce := by decide +kernel
  unfold f_X10_slotsOnce_N at hf
  refine lv_aload_n hx hb dX10_slotsOnce_0 rfl (lv_at hl 0 rfl) ?_
  refine va_get (v := .null) (D := D) (ci := 10) (C := RX10) (T := TX10) (N := 9) hx hb hts huX10 hown hK hP 0 rfl rfl 4 (by decide) fk232 (fun _ h9 => h9) rfl dX10_slotsOnce_1 ?_
  refine lv_ifnonnullN hx hb dX10_slotsOnce_4 ?_
  refine lv_aload_n hx hb dX10_slotsOnce_7 rfl (lv_at hl 0 rfl) ?_
  refine va_new (ci := 8) (fs := [.null, .null, .null, .int 0]) (C := RX8) (T := TX8) (N := 4) hx hb hts huX8 tyX8 tyX8_ok hown (hts (.classLink RX10 236 RX8) (by decide +kernel)) (hts (.instantiable RX8 4) (by decide +kernel)) (hts (.initialized RX8) (by decide +kernel)) hK hP hD hS hA rfl (fun j hj => match j, hj with | 0, _ => rfl | 1, _ => rfl | 2, _ => rfl | 3, _ => rfl | j + 4, hj => absurd hj (by omega)) (Nat.le_of_ble_eq_true rfl) (Nat.le_of_ble_eq_true rfl) dX10_slotsOnce_8 (fun h1 H hP hD hS => ?_)
  have hP : va_P D vwCl ((gX cy qX (qG 0) (qP 0) (qR 0) none oB oE oN oL x_ways) ++ [(h1, .inr (8, [.null, .null, .null, .int 0]))]) H := hP
  have hD : va_D A ((gX cy qX (qG 0) (qP 0) (qR 0) none oB oE oN oL x_ways) ++ [(h1, .inr (8, [.null, .null, .null, .int 0]))]) := hD
  refine W.widen (k := 1) (n := 4) (Nat.le_of_ble_eq_true rfl) (Nat.le_of_ble_eq_true rfl) ?_
  refine lv_dup hx hb dX10_slotsOnce_11 rfl ?_
  have hI2 : kIn ((gX cy qX (qG 0) (qP 0) (qR 0) none oB oE oN oL x_ways) ++ [(h1, .inr (8, [.null, .null, .null, .int 0]))]) [(h1, .inr (8, [.null, .null, .null, .int 0]))] (kpick ((gX cy qX (qG 0) (qP 0) (qR 0) none oB oE oN oL x_ways) ++ [(h1, .inr (8, [.null, .null, .null, .int 0]))]) [0, 1]) (fun u : Nat → Nat => gS cy (va_up u 0 h1) (fun _ => 0) (fun _ => 0) (fun _ => 0) (0 : Int32)) (fun u : Nat → Nat => (gX cy qX (qG 0) (qP 0) (qR 0) none oB oE oN oL x_ways) ++ (gS cy (va_up u 0 h1) (fun _ => 0) (fun _ => 0) (fun _ => 0) (0 : Int32))) [2] [0, 1] [0, 1, 2, 3, 4, 5] := ⟨rfl, rfl, rfl, rfl, by decide, rfl, fun _ => rfl⟩
  refine kc_v (k_runIN ⟨hx, hb, hml, hown, hts⟩ (c_X8_init) ⟨va_cnB 0 hts ggX10_slotsOnce_X8_init rfl rfl rfl hN.2.1 (hts (.initialized RX8) (by decide +kernel)) (by decide +kernel) ⟨Nat.le_of_ble_eq_true rfl, Nat.le_of_ble_eq_true rfl⟩, rfl, hts (.instanceMethod yX8_init) (by decide +kernel)⟩ hK hN hP hD ⟨hI2.1, hI2.2.2.1⟩ rfl hl.1 rfl (Nat.le_of_ble_eq_true rfl) dX10_slotsOnce_12 ⟨(Nat.le_of_ble_eq_true rfl), (Nat.le_of_ble_eq_true rfl)⟩) hP hD hS hA hI2 (fun u3 H locs hP hD hS => ?_)
  obtain ⟨qS, hq0, hqe⟩ : ∃ z : Nat → Nat, z 0 = h1 ∧ z = va_up u3 0 h1 := ⟨_, rfl, rfl⟩
  rw [← hqe] at hP hD
  rw [← hq0]
  have hP : va_P D vwCl (gX cy qX (qG 0) (qP 0) (qR 0) none oB oE oN oL x_ways ++ (gS cy qS (fun _ => 0) (fun _ => 0) (fun _ => 0) (0 : Int32))) H := hP
  have hD : va_D A (gX cy qX (qG 0) (qP 0) (qR 0) none oB oE oN oL x_ways ++ (gS cy qS (fun _ => 0) (fun _ => 0) (fun _ => 0) (0 : Int32))) := hD
  refine W.widen (k := 4) (n := 98308) (Nat.le_of_ble_eq_true rfl) (Nat.le_of_ble_eq_true rfl) ?_
  refine va_put (D := D) (ci := 10) (v := .ref (qS 0)) (ty := .object "FigurePlay$Slots") (C := RX10) (T := TX10) (N := 9) hx hb hts huX10 tyX10 tyX10_ok nmX10 hown hK hP hD hS 0 rfl rfl 4 (by decide) fk232 (fun _ h9 => h9) rfl (tyX10_ok 4 (by decide)) rfl rfl (Nat.le_of_ble_eq_true rfl) dX10_slotsOnce_15 (fun H locs hP hD hS => ?_)
  have hP : va_P D vwCl (gX cy qX (qG 0) (qP 0) (qR 0) (some (qS 0)) oB oE oN oL x_ways ++ (gS cy qS (fun _ => 0) (fun _ => 0) (fun _ => 0) (0 : Int32))) H := hP
  have hD : va_D A (gX cy qX (qG 0) (qP 0) (qR 0) (some (qS 0)) oB oE oN oL x_ways ++ (gS cy qS (fun _ => 0) (fun _ => 0) (fun _ => 0) (0 : Int32))) := hD
  refine lv_aload_n hx hb dX10_slotsOnce_18 rfl (lv_at hl 0 rfl) ?_
  refine va_get (v := .ref (qS 0)) (D := D) (ci := 10) (C := RX10) (T := TX10) (N := 9) hx hb hts huX10 hown hK hP 0 rfl rfl 4 (by decide) fk232 (fun _ h9 => h9) rfl dX10_slotsOnce_19 ?_
  refine W.widen (k := 4) (n := 98308) (Nat.le_of_ble_eq_true rfl) (Nat.le_of_ble_eq_true rfl) ?_
  obtain rfl := Option.some.inj hf
  exact hQ (kU [qS]) 22 _ _ _ dX10_slotsOnce_22 hP hD hS
def f_X10_liftsNow_P (F : Nat) (g_base : Int32) (g_worth : Nat → Int32) (g_version : Int32) (l_version : Int32) (l_sums : Nat → Int32) (l_reached : Nat → Int32) : Option (Int32 × (Nat → Int32) × (Nat → Int32)) := (f_X2_renew F g_base g_worth g_version l_version l_sums l_reached).bind (fun r1 => some (r1.1, r1.2.1, r1.2.2))
abbrev rmX10_liftsNow_P : Room := { frames := 1, cells := 0, slots := 0, locals := 22 }
set_option maxHeartbeats 1000000 in
set_option maxRecDepth 100000 in
theorem c_X10_liftsNow_P {l : Launch} {D : va_G} {cy : Nat → ClassId} {qX : Nat → Nat} {qG : Nat → Nat} {qP : Nat → Nat} {qR : Nat → Nat} {qL : Nat → Nat} {oS : Option Nat} {oB : Option Nat} {oE : Option Nat} {oN : Option Nat} {x_ways : Nat → Option Nat} {l_version : Int32} {l_sums : Nat → Int32} {l_reached : Nat → Int32} {g_base : Int32} {g_worth : Nat → Int32} {g_row : Nat → Int32} {g_many : Nat → Int32} {g_version : Int32} {F : Nat} {res : Int32 × (Nat → Int32) × (Nat → Int32)} (hf : f_X10_liftsNow_P F g_base g_worth g_version l_version l_sums l_reached = some res) : kM l yX10_liftsNow wsX10_liftsNow rmX10_liftsNow_P D cy [.ref (qX 0)] (gX cy qX (qG 0) (qP 0) (qR 0) oS oB oE oN (some (qL 0)) x_ways ++ (gL cy qL (qG 0) l_version l_sums l_reached ++ (gG cy qG g_base g_worth g_row g_many g_version))) (kQrx D cy (fun u : Nat → Nat → Nat => gX cy qX (qG 0) (qP 0) (qR 0) oS oB oE oN (some (qL 0)) x_ways ++ (gL cy qL (qG 0) res.1 res.2.1 res.2.2 ++ (gG cy qG g_base g_worth g_row g_many g_version))) (fun u : Nat → Nat → Nat => qL 0)) := by
  refine kent_rx (rt := .object "FigurePlay$Lifts") (Or.inl ⟨_, rfl⟩) (cc := cX10_liftsNow) (maxL := 1) (by decide) rfl (Nat.le_of_ble_eq_true rfl) ?_
  intro p e0 s m ar below meth c A Q ls ⟨hx, hb, hml, hr, hts, hown, hlocks, hnm⟩ hA hK hN hQ hP hD hS hl
  have hl : lv_has ls 1 [(0, .ref (qX 0))] := hl
  have hown : s.vm.findClass RX10 = some m.cls := hown
  have huX10 : ∀ x ∈ u_ws RX10 TX10 9, x ∈ wsX10_liftsNow := by decide +kernel
  have fk239 : (Cond.fieldLink RX10 239 "FigurePlay" "lifts" "LFigurePlay$Lifts;").before ar s = true := hts _ (by decide +kernel)
  unfold f_X10_liftsNow_P at hf
  refine lv_aload_n hx hb dX10_liftsNow_0 rfl (lv_at hl 0 rfl) ?_
  refine va_get (v := .ref (qL 0)) (D := D) (ci := 10) (C := RX10) (T := TX10) (N := 9) hx hb hts huX10 hown hK hP 0 rfl rfl 8 (by decide) fk239 (fun _ h9 => h9) rfl dX10_liftsNow_1 ?_
  refine lv_ifnonnull (tgt := 22) hx hb dX10_liftsNow_4 (by decide) ?_
  refine lv_aload_n hx hb dX10_liftsNow_22 rfl (lv_at hl 0 rfl) ?_
  refine va_get (v := .ref (qL 0)) (D := D) (ci := 10) (C := RX10) (T := TX10) (N := 9) hx hb hts huX10 hown hK hP 0 rfl rfl 8 (by decide) fk239 (fun _ h9 => h9) rfl dX10_liftsNow_23 ?_
  obtain ⟨r1, hc2, hf⟩ := ob_some hf
  have hI3 : kIn (gX cy qX (qG 0) (qP 0) (qR 0) oS oB oE oN (some (qL 0)) x_ways ++ (gL cy qL (qG 0) l_version l_sums l_reached ++ (gG cy qG g_base g_worth g_row g_many g_version))) (gL cy qL (qG 0) l_version l_sums l_reached ++ (gG cy qG g_base g_worth g_row g_many g_version)) (kpick (gX cy qX (qG 0) (qP 0) (qR 0) oS oB oE oN (some (qL 0)) x_ways ++ (gL cy qL (qG 0) l_version l_sums l_reached ++ (gG cy qG g_base g_worth g_row g_many g_version))) [0, 1]) (fun _ : Unit => gL cy qL (qG 0) r1.1 r1.2.1 r1.2.2 ++ (gG cy qG g_base g_worth g_row g_many g_version)) (fun _ : Unit => gX cy qX (qG 0) (qP 0) (qR 0) oS oB oE oN (some (qL 0)) x_ways ++ (gL cy qL (qG 0) r1.1 r1.2.1 r1.2.2 ++ (gG cy qG g_base g_worth g_row g_many g_version))) [2, 3, 4, 5, 6, 7, 8] [0, 1] [0, 1, 2, 3, 4, 5, 6, 7, 8] := ⟨rfl, rfl, rfl, rfl, by decide, rfl, fun _ => rfl⟩
  refine kc_v (k_run ⟨hx, hb, hml, hown, hts⟩ (c_X2_renew hc2) (cwV 0 hts gX10_liftsNow_X2_renew rfl rfl rfl (by decide +kernel) ⟨Nat.le_of_ble_eq_true rfl, Nat.le_of_ble_eq_true rfl⟩) hK hN hP hD ⟨hI3.1, hI3.2.2.1⟩ (ci := 2) (q0 := 0) rfl rfl rfl rfl hl.1 rfl (Nat.le_of_ble_eq_true rfl) dX10_liftsNow_26 ⟨(Nat.le_of_ble_eq_true rfl), (Nat.le_of_ble_eq_true rfl)⟩) hP hD hS hA hI3 (fun _ H locs hP hD hS => ?_)
  refine lv_aload_n hx hb dX10_liftsNow_29 rfl (lv_at hl 0 rfl) ?_
  refine va_get (v := .ref (qL 0)) (D := D) (ci := 10) (C := RX10) (T := TX10) (N := 9) hx hb hts huX10 hown hK hP 0 rfl rfl 8 (by decide) fk239 (fun _ h9 => h9) rfl dX10_liftsNow_30 ?_
  refine W.widen (k := 0) (n := 0) (Nat.le_of_ble_eq_true rfl) (Nat.le_of_ble_eq_true rfl) ?_
  obtain rfl := Option.some.inj hf
  exact hQ (kU []) 33 _ _ _ dX10_liftsNow_33 hP hD hS
def f_X10_liftsNow_N (F : Nat) (g_base : Int32) (g_worth : Nat → Int32) (g_version : Int32) : Option (Int32 × (Nat → Int32) × (Nat → Int32)) := (f_X2_renew F g_base g_worth g_version (-1 : Int32) (fun _ => 0) (fun _ => 0)).bind (fun r4 => some (r4.1, r4.2.1, r4.2.2))
abbrev rmX10_liftsNow_N : Room := { frames := 2, cells := 3, slots := 40006, locals := 35 }
set_option maxHeartbeats 1000000 in
set_option maxRecDepth 100000 in
theorem c_X10_liftsNow_N {l : Launch} {D : va_G} {cy : Nat → ClassId} {qX : Nat → Nat} {qG : Nat → Nat} {qP : Nat → Nat} {qR : Nat → Nat} {oS : Option Nat} {oB : Option Nat} {oE : Option Nat} {oN : Option Nat} {x_ways : Nat → Option Nat} {g_base : Int32} {g_worth : Nat → Int32} {g_row : Nat → Int32} {g_many : Nat → Int32} {g_version : Int32} {F : Nat} {res : Int32 × (Nat → Int32) × (Nat → Int32)} (hf : f_X10_liftsNow_N F g_base g_worth g_version = some res) : kM l yX10_liftsNow wsX10_liftsNow rmX10_liftsNow_N D cy [.ref (qX 0)] (gX cy qX (qG 0) (qP 0) (qR 0) oS oB oE oN none x_ways ++ (gG cy qG g_base g_worth g_row g_many g_version)) (kQrx D cy (fun u : Nat → Nat → Nat => gX cy qX (qG 0) (qP 0) (qR 0) oS oB oE oN (some ((u 0) 0)) x_ways ++ (gG cy qG g_base g_worth g_row g_many g_version ++ (gL cy (u 0) (qG 0) res.1 res.2.1 res.2.2))) (fun u : Nat → Nat → Nat => (u 0) 0)) := by
  refine kent_rx (rt := .object "FigurePlay$Lifts") (Or.inl ⟨_, rfl⟩) (cc := cX10_liftsNow) (maxL := 1) (by decide) rfl (Nat.le_of_ble_eq_true rfl) ?_
  intro p e0 s m ar below meth c A Q ls ⟨hx, hb, hml, hr, hts, hown, hlocks, hnm⟩ hA hK hN hQ hP hD hS hl
  have hl : lv_has ls 1 [(0, .ref (qX 0))] := hl
  have hown : s.vm.findClass RX10 = some m.cls := hown
  have huX10 : ∀ x ∈ u_ws RX10 TX10 9, x ∈ wsX10_liftsNow := by decide +kernel
  have fk239 : (Cond.fieldLink RX10 239 "FigurePlay" "lifts" "LFigurePlay$Lifts;").before ar s = true := hts _ (by decide +kernel)
  have huX2 : ∀ x ∈ u_ws RX2 TX2 4, x ∈ wsX10_liftsNow := by decide +kernel
  have fk10 : (Cond.fieldLink RX10 10 "FigurePlay" "figures" "LFigurePlay$Figures;").before ar s = true := hts _ (by decide +kernel)
  unfold f_X10_liftsNow_N at hf
  refine lv_aload_n hx hb dX10_liftsNow_0 rfl (lv_at hl 0 rfl) ?_
  refine va_get (v := .null) (D := D) (ci := 10) (C := RX10) (T := TX10) (N := 9) hx hb hts huX10 hown hK hP 0 rfl rfl 8 (by decide) fk239 (fun _ h9 => h9) rfl dX10_liftsNow_1 ?_
  refine lv_ifnonnullN hx hb dX10_liftsNow_4 ?_
  refine lv_aload_n hx hb dX10_liftsNow_7 rfl (lv_at hl 0 rfl) ?_
  refine va_new (ci := 2) (fs := [.null, .int 0, .null, .null]) (C := RX2) (T := TX2) (N := 4) hx hb hts huX2 tyX2 tyX2_ok hown (hts (.classLink RX10 209 RX2) (by decide +kernel)) (hts (.instantiable RX2 4) (by decide +kernel)) (hts (.initialized RX2) (by decide +kernel)) hK hP hD hS hA rfl (fun j hj => match j, hj with | 0, _ => rfl | 1, _ => rfl | 2, _ => rfl | 3, _ => rfl | j + 4, hj => absurd hj (by omega)) (Nat.le_of_ble_eq_true rfl) (Nat.le_of_ble_eq_true rfl) dX10_liftsNow_8 (fun h1 H hP hD hS => ?_)
  have hP : va_P D vwCl ((gX cy qX (qG 0) (qP 0) (qR 0) oS oB oE oN none x_ways ++ (gG cy qG g_base g_worth g_row g_many g_version)) ++ [(h1, .inr (2, [.null, .int 0, .null, .null]))]) H := hP
  have hD : va_D A ((gX cy qX (qG 0) (qP 0) (qR 0) oS oB oE oN none x_ways ++ (gG cy qG g_base g_worth g_row g_many g_version)) ++ [(h1, .inr (2, [.null, .int 0, .null, .null]))]) := hD
  refine W.widen (k := 1) (n := 4) (Nat.le_of_ble_eq_true rfl) (Nat.le_of_ble_eq_true rfl) ?_
  refine lv_dup hx hb dX10_liftsNow_11 rfl ?_
  refine lv_aload_n hx hb dX10_liftsNow_12 rfl (lv_at hl 0 rfl) ?_
  refine va_get (v := .ref (qG 0)) (D := D) (ci := 10) (C := RX10) (T := TX10) (N := 9) hx hb hts huX10 hown hK hP 0 rfl rfl 0 (by decide) fk10 (fun _ h9 => h9) rfl dX10_liftsNow_13 ?_
  have hI2 : kIn ((gX cy qX (qG 0) (qP 0) (qR 0) oS oB oE oN none x_ways ++ (gG cy qG g_base g_worth g_row g_many g_version)) ++ [(h1, .inr (2, [.null, .int 0, .null, .null]))]) [(h1, .inr (2, [.null, .int 0, .null, .null]))] (kpick ((gX cy qX (qG 0) (qP 0) (qR 0) oS oB oE oN none x_ways ++ (gG cy qG g_base g_worth g_row g_many g_version)) ++ [(h1, .inr (2, [.null, .int 0, .null, .null]))]) [0, 1, 2, 3, 4, 5]) (fun u : Nat → Nat => gL cy (va_up u 0 h1) (qG 0) (-1 : Int32) (fun _ => 0) (fun _ => 0)) (fun u : Nat → Nat => (gX cy qX (qG 0) (qP 0) (qR 0) oS oB oE oN none x_ways ++ (gG cy qG g_base g_worth g_row g_many g_version)) ++ (gL cy (va_up u 0 h1) (qG 0) (-1 : Int32) (fun _ => 0) (fun _ => 0))) [6] [0, 1, 2, 3, 4, 5] [0, 1, 2, 3, 4, 5, 6, 7, 8] := ⟨rfl, rfl, rfl, rfl, by decide, rfl, fun _ => rfl⟩
  refine kc_v (k_runI ⟨hx, hb, hml, hown, hts⟩ (c_X2_init) (cwI 1 hts gX10_liftsNow_X2_init rfl rfl rfl (hts (.initialized RX2) (by decide +kernel)) (hts (.methodLink RX10 243 yX2_init) (by decide +kernel)) (hts (.instanceMethod yX2_init) (by decide +kernel)) rfl (by decide +kernel) ⟨Nat.le_of_ble_eq_true rfl, Nat.le_of_ble_eq_true rfl⟩) hK hN hP hD ⟨hI2.1, hI2.2.2.1⟩ rfl hl.1 rfl (Nat.le_of_ble_eq_true rfl) dX10_liftsNow_16 ⟨(Nat.le_of_ble_eq_true rfl), (Nat.le_of_ble_eq_true rfl)⟩) hP hD hS hA hI2 (fun u3 H locs hP hD hS => ?_)
  obtain ⟨qL, hq0, hqe⟩ : ∃ z : Nat → Nat, z 0 = h1 ∧ z = va_up u3 0 h1 := ⟨_, rfl, rfl⟩
  rw [← hqe] at hP hD
  rw [← hq0]
  have hP : va_P D vwCl (gX cy qX (qG 0) (qP 0) (qR 0) oS oB oE oN none x_ways ++ (gG cy qG g_base g_worth g_row g_many g_version ++ (gL cy qL (qG 0) (-1 : Int32) (fun _ => 0) (fun _ => 0)))) H := hP
  have hD : va_D A (gX cy qX (qG 0) (qP 0) (qR 0) oS oB oE oN none x_ways ++ (gG cy qG g_base g_worth g_row g_many g_version ++ (gL cy qL (qG 0) (-1 : Int32) (fun _ => 0) (fun _ => 0)))) := hD
  refine W.widen (k := 3) (n := 40006) (Nat.le_of_ble_eq_true rfl) (Nat.le_of_ble_eq_true rfl) ?_
  refine va_put (D := D) (ci := 10) (v := .ref (qL 0)) (ty := .object "FigurePlay$Lifts") (C := RX10) (T := TX10) (N := 9) hx hb hts huX10 tyX10 tyX10_ok nmX10 hown hK hP hD hS 0 rfl rfl 8 (by decide) fk239 (fun _ h9 => h9) rfl (tyX10_ok 8 (by decide)) rfl rfl (Nat.le_of_ble_eq_true rfl) dX10_liftsNow_19 (fun H locs hP hD hS => ?_)
  have hP : va_P D vwCl (gX cy qX (qG 0) (qP 0) (qR 0) oS oB oE oN (some (qL 0)) x_ways ++ (gG cy qG g_base g_worth g_row g_many g_version ++ (gL cy qL (qG 0) (-1 : Int32) (fun _ => 0) (fun _ => 0)))) H := hP
  have hD : va_D A (gX cy qX (qG 0) (qP 0) (qR 0) oS oB oE oN (some (qL 0)) x_ways ++ (gG cy qG g_base g_worth g_row g_many g_version ++ (gL cy qL (qG 0) (-1 : Int32) (fun _ => 0) (fun _ => 0)))) := hD
  refine lv_aload_n hx hb dX10_liftsNow_22 rfl (lv_at hl 0 rfl) ?_
  refine va_get (v := .ref (qL 0)) (D := D) (ci := 10) (C := RX10) (T := TX10) (N := 9) hx hb hts huX10 hown hK hP 0 rfl rfl 8 (by decide) fk239 (fun _ h9 => h9) rfl dX10_liftsNow_23 ?_
  obtain ⟨r4, hc5, hf⟩ := ob_some hf
  have hI6 : kIn (gX cy qX (qG 0) (qP 0) (qR 0) oS oB oE oN (some (qL 0)) x_ways ++ (gG cy qG g_base g_worth g_row g_many g_version ++ (gL cy qL (qG 0) (-1 : Int32) (fun _ => 0) (fun _ => 0)))) (gL cy qL (qG 0) (-1 : Int32) (fun _ => 0) (fun _ => 0) ++ (gG cy qG g_base g_worth g_row g_many g_version)) (kpick (gX cy qX (qG 0) (qP 0) (qR 0) oS oB oE oN (some (qL 0)) x_ways ++ (gG cy qG g_base g_worth g_row g_many g_version ++ (gL cy qL (qG 0) (-1 : Int32) (fun _ => 0) (fun _ => 0)))) [0, 1]) (fun _ : Unit => gL cy qL (qG 0) r4.1 r4.2.1 r4.2.2 ++ (gG cy qG g_base g_worth g_row g_many g_version)) (fun _ : Unit => gX cy qX (qG 0) (qP 0) (qR 0) oS oB oE oN (some (qL 0)) x_ways ++ (gG cy qG g_base g_worth g_row g_many g_version ++ (gL cy qL (qG 0) r4.1 r4.2.1 r4.2.2))) [6, 7, 8, 2, 3, 4, 5] [0, 1] [0, 1, 5, 6, 7, 8, 2, 3, 4] := ⟨rfl, rfl, rfl, rfl, by decide, rfl, fun _ => rfl⟩
  refine kc_v (k_run ⟨hx, hb, hml, hown, hts⟩ (c_X2_renew hc5) (cwV 0 hts gX10_liftsNow_X2_renew rfl rfl rfl (by decide +kernel) ⟨Nat.le_of_ble_eq_true rfl, Nat.le_of_ble_eq_true rfl⟩) hK hN hP hD ⟨hI6.1, hI6.2.2.1⟩ (ci := 2) (q0 := 0) rfl rfl rfl rfl hl.1 rfl (Nat.le_of_ble_eq_true rfl) dX10_liftsNow_26 ⟨(Nat.le_of_ble_eq_true rfl), (Nat.le_of_ble_eq_true rfl)⟩) hP hD hS hA hI6 (fun _ H locs hP hD hS => ?_)
  refine lv_aload_n hx hb dX10_liftsNow_29 rfl (lv_at hl 0 rfl) ?_
  refine va_get (v := .ref (qL 0)) (D := D) (ci := 10) (C := RX10) (T := TX10) (N := 9) hx hb hts huX10 hown hK hP 0 rfl rfl 8 (by decide) fk239 (fun _ h9 => h9) rfl dX10_liftsNow_30 ?_
  refine W.widen (k := 3) (n := 40006) (Nat.le_of_ble_eq_true rfl) (Nat.le_of_ble_eq_true rfl) ?_
  obtain rfl := Option.some.inj hf
  exact hQ (kU [qL]) 33 _ _ _ dX10_liftsNow_33 hP hD hS
def f_X10_searched_N (F : Nat) (a1 : Int32) (a2 : Int32) (a3 : Int32) (a4 : Int32) (g_base : Int32) : Option (Int32 × (Nat → Int32) × (Nat → Int32) × (Nat → Int32) × Int32 × Int32 × Int32 × Int32 × Int32 × Int32 × Int32 × Int32 × Int32) := (f_X7_seek F a1 g_base a2 a3 (fun _ => 0) (fun _ => 0) (fun _ => 0) (0 : Int32) (-1 : Int32) (0 : Int32) (0 : Int32) (0 : Int32) (0 : Int32) (0 : Int32) (0 : Int32) (0 : Int32)).bind (fun r4 => (f_X7_figureAt F a4 r4.2.1 r4.2.2.2.2.2.2.2.2.2.2.1 r4.2.2.2.2.2.2.2.2.2.2.2).bind (fun r7 => some (r7, r4.1, r4.2.1, r4.2.2.1, r4.2.2.2.1, r4.2.2.2.2.1, r4.2.2.2.2.2.1, r4.2.2.2.2.2.2.1, r4.2.2.2.2.2.2.2.1, r4.2.2.2.2.2.2.2.2.1, r4.2.2.2.2.2.2.2.2.2.1, r4.2.2.2.2.2.2.2.2.2.2.1, r4.2.2.2.2.2.2.2.2.2.2.2)))
abbrev rmX10_searched_N : Room := { frames := 4, cells := 4, slots := 102428, locals := 95 }
set_option maxHeartbeats 1000000 in
set_option maxRecDepth 100000 in
theorem c_X10_searched_N {l : Launch} {D : va_G} {cy : Nat → ClassId} {qX : Nat → Nat} {qG : Nat → Nat} {qP : Nat → Nat} {qR : Nat → Nat} {oS : Option Nat} {oB : Option Nat} {oN : Option Nat} {oL : Option Nat} {x_ways : Nat → Option Nat} {g_base : Int32} {g_worth : Nat → Int32} {g_row : Nat → Int32} {g_many : Nat → Int32} {g_version : Int32} {a1 : Int32} {a2 : Int32} {a3 : Int32} {a4 : Int32} {F : Nat} {res : Int32 × (Nat → Int32) × (Nat → Int32) × (Nat → Int32) × Int32 × Int32 × Int32 × Int32 × Int32 × Int32 × Int32 × Int32 × Int32} (hf : f_X10_searched_N F a1 a2 a3 a4 g_base = some res) : kM l yX10_searched wsX10_searched rmX10_searched_N D cy [.ref (qX 0), .int a1, .int a2, .int a3, .int a4] (gX cy qX (qG 0) (qP 0) (qR 0) oS oB none oN oL x_ways ++ (gG cy qG g_base g_worth g_row g_many g_version)) (kQi D cy (fun u : Nat → Nat → Nat => gX cy qX (qG 0) (qP 0) (qR 0) oS oB (some ((u 0) 0)) oN oL x_ways ++ (gG cy qG g_base g_worth g_row g_many g_version ++ (gE cy (u 0) res.2.1 res.2.2.1 res.2.2.2.1 res.2.2.2.2.1 res.2.2.2.2.2.1 res.2.2.2.2.2.2.1 res.2.2.2.2.2.2.2.1 res.2.2.2.2.2.2.2.2.1 res.2.2.2.2.2.2.2.2.2.1 res.2.2.2.2.2.2.2.2.2.2.1 res.2.2.2.2.2.2.2.2.2.2.2.1 res.2.2.2.2.2.2.2.2.2.2.2.2))) res.1) := by
  refine kent_i (cc := cX10_searched) (maxL := 5) (by decide) rfl (Nat.le_of_ble_eq_true rfl) ?_
  intro p e0 s m ar below meth c A Q ls ⟨hx, hb, hml, hr, hts, hown, hlocks, hnm⟩ hA hK hN hQ hP hD hS hl
  have hl : lv_has ls 5 [(0, .ref (qX 0)), (1, .int a1), (2, .int a2), (3, .int a3), (4, .int a4)] := hl
  have hown : s.vm.findClass RX10 = some m.cls := hown
  have huX10 : ∀ x ∈ u_ws RX10 TX10 9, x ∈ wsX10_searched := by decide +kernel
  have fk247 : (Cond.fieldLink RX10 247 "FigurePlay" "search" "LFigurePlay$Search;").before ar s = true := hts _ (by decide +kernel)
  have huX7 : ∀ x ∈ u_ws RX7 TX7 12, x ∈ wsX10_searched := by decide +kernel
  have fk10 : (Cond.fieldLink RX10 10 "FigurePlay" "figures" "LFigurePlay$Figures;").before ar s = true := hts _ (by decide +kernel)
  have huX1 : ∀ x ∈ u_ws RX1 TX1 5, x ∈ wsX10_searched := by decide +kernel
  have fk42 : (Cond.fieldLink RX10 42 "FigurePlay$Figures" "base" "I").before ar s = true := hts _ (by decide +kernel)
  unfold f_X10_searched_N at hf
  refine lv_aload_n hx hb dX10_searched_0 rfl (lv_at hl 0 rfl) ?_
  refine va_get (v := .null) (D := D) (ci := 10) (C := RX10) (T := TX10) (N := 9) hx hb hts huX10 hown hK hP 0 rfl rfl 6 (by decide) fk247 (fun _ h9 => h9) rfl dX10_searched_1 ?_
  refine lv_ifnonnullN hx hb dX10_searched_4 ?_
  refine lv_aload_n hx hb dX10_searched_7 rfl (lv_at hl 0 rfl) ?_
  refine va_new (ci := 7) (fs := [.null, .null, .null, .int 0, .int 0, .int 0, .int 0, .int 0, .int 0, .int 0, .int 0, .int 0]) (C := RX7) (T := TX7) (N := 12) hx hb hts huX7 tyX7 tyX7_ok hown (hts (.classLink RX10 173 RX7) (by decide +kernel)) (hts (.instantiable RX7 12) (by decide +kernel)) (hts (.initialized RX7) (by decide +kernel)) hK hP hD hS hA rfl (fun j hj => match j, hj with | 0, _ => rfl | 1, _ => rfl | 2, _ => rfl | 3, _ => rfl | 4, _ => rfl | 5, _ => rfl | 6, _ => rfl | 7, _ => rfl | 8, _ => rfl | 9, _ => rfl | 10, _ => rfl | 11, _ => rfl | j + 12, hj => absurd hj (by omega)) (Nat.le_of_ble_eq_true rfl) (Nat.le_of_ble_eq_true rfl) dX10_searched_8 (fun h1 H hP hD hS => ?_)
  have hP : va_P D vwCl ((gX cy qX (qG 0) (qP 0) (qR 0) oS oB none oN oL x_ways ++ (gG cy qG g_base g_worth g_row g_many g_version)) ++ [(h1, .inr (7, [.null, .null, .null, .int 0, .int 0, .int 0, .int 0, .int 0, .int 0, .int 0, .int 0, .int 0]))]) H := hP
  have hD : va_D A ((gX cy qX (qG 0) (qP 0) (qR 0) oS oB none oN oL x_ways ++ (gG cy qG g_base g_worth g_row g_many g_version)) ++ [(h1, .inr (7, [.null, .null, .null, .int 0, .int 0, .int 0, .int 0, .int 0, .int 0, .int 0, .int 0, .int 0]))]) := hD
  refine W.widen (k := 1) (n := 12) (Nat.le_of_ble_eq_true rfl) (Nat.le_of_ble_eq_true rfl) ?_
  refine lv_dup hx hb dX10_searched_11 rfl ?_
  have hI2 : kIn ((gX cy qX (qG 0) (qP 0) (qR 0) oS oB none oN oL x_ways ++ (gG cy qG g_base g_worth g_row g_many g_version)) ++ [(h1, .inr (7, [.null, .null, .null, .int 0, .int 0, .int 0, .int 0, .int 0, .int 0, .int 0, .int 0, .int 0]))]) [(h1, .inr (7, [.null, .null, .null, .int 0, .int 0, .int 0, .int 0, .int 0, .int 0, .int 0, .int 0, .int 0]))] (kpick ((gX cy qX (qG 0) (qP 0) (qR 0) oS oB none oN oL x_ways ++ (gG cy qG g_base g_worth g_row g_many g_version)) ++ [(h1, .inr (7, [.null, .null, .null, .int 0, .int 0, .int 0, .int 0, .int 0, .int 0, .int 0, .int 0, .int 0]))]) [0, 1, 2, 3, 4, 5]) (fun u : Nat → Nat => gE cy (va_up u 0 h1) (fun _ => 0) (fun _ => 0) (fun _ => 0) (0 : Int32) (-1 : Int32) (0 : Int32) (0 : Int32) (0 : Int32) (0 : Int32) (0 : Int32) (0 : Int32) (0 : Int32)) (fun u : Nat → Nat => (gX cy qX (qG 0) (qP 0) (qR 0) oS oB none oN oL x_ways ++ (gG cy qG g_base g_worth g_row g_many g_version)) ++ (gE cy (va_up u 0 h1) (fun _ => 0) (fun _ => 0) (fun _ => 0) (0 : Int32) (-1 : Int32) (0 : Int32) (0 : Int32) (0 : Int32) (0 : Int32) (0 : Int32) (0 : Int32) (0 : Int32))) [6] [0, 1, 2, 3, 4, 5] [0, 1, 2, 3, 4, 5, 6, 7, 8, 9] := ⟨rfl, rfl, rfl, rfl, by decide, rfl, fun _ => rfl⟩
  refine kc_v (k_runIN ⟨hx, hb, hml, hown, hts⟩ (c_X7_init) ⟨va_cnB 0 hts ggX10_searched_X7_init rfl rfl rfl hN.2.2.2.2.1 (hts (.initialized RX7) (by decide +kernel)) (by decide +kernel) ⟨Nat.le_of_ble_eq_true rfl, Nat.le_of_ble_eq_true rfl⟩, rfl, hts (.instanceMethod yX7_init) (by decide +kernel)⟩ hK hN hP hD ⟨hI2.1, hI2.2.2.1⟩ rfl hl.1 rfl (Nat.le_of_ble_eq_true rfl) dX10_searched_12 ⟨(Nat.le_of_ble_eq_true rfl), (Nat.le_of_ble_eq_true rfl)⟩) hP hD hS hA hI2 (fun u3 H locs hP hD hS => ?_)
  obtain ⟨qE, hq0, hqe⟩ : ∃ z : Nat → Nat, z 0 = h1 ∧ z = va_up u3 0 h1 := ⟨_, rfl, rfl⟩
  rw [← hqe] at hP hD
  rw [← hq0]
  have hP : va_P D vwCl (gX cy qX (qG 0) (qP 0) (qR 0) oS oB none oN oL x_ways ++ (gG cy qG g_base g_worth g_row g_many g_version ++ (gE cy qE (fun _ => 0) (fun _ => 0) (fun _ => 0) (0 : Int32) (-1 : Int32) (0 : Int32) (0 : Int32) (0 : Int32) (0 : Int32) (0 : Int32) (0 : Int32) (0 : Int32)))) H := hP
  have hD : va_D A (gX cy qX (qG 0) (qP 0) (qR 0) oS oB none oN oL x_ways ++ (gG cy qG g_base g_worth g_row g_many g_version ++ (gE cy qE (fun _ => 0) (fun _ => 0) (fun _ => 0) (0 : Int32) (-1 : Int32) (0 : Int32) (0 : Int32) (0 : Int32) (0 : Int32) (0 : Int32) (0 : Int32) (0 : Int32)))) := hD
  refine W.widen (k := 4) (n := 102428) (Nat.le_of_ble_eq_true rfl) (Nat.le_of_ble_eq_true rfl) ?_
  refine va_put (D := D) (ci := 10) (v := .ref (qE 0)) (ty := .object "FigurePlay$Search") (C := RX10) (T := TX10) (N := 9) hx hb hts huX10 tyX10 tyX10_ok nmX10 hown hK hP hD hS 0 rfl rfl 6 (by decide) fk247 (fun _ h9 => h9) rfl (tyX10_ok 6 (by decide)) rfl rfl (Nat.le_of_ble_eq_true rfl) dX10_searched_15 (fun H locs hP hD hS => ?_)
  have hP : va_P D vwCl (gX cy qX (qG 0) (qP 0) (qR 0) oS oB (some (qE 0)) oN oL x_ways ++ (gG cy qG g_base g_worth g_row g_many g_version ++ (gE cy qE (fun _ => 0) (fun _ => 0) (fun _ => 0) (0 : Int32) (-1 : Int32) (0 : Int32) (0 : Int32) (0 : Int32) (0 : Int32) (0 : Int32) (0 : Int32) (0 : Int32)))) H := hP
  have hD : va_D A (gX cy qX (qG 0) (qP 0) (qR 0) oS oB (some (qE 0)) oN oL x_ways ++ (gG cy qG g_base g_worth g_row g_many g_version ++ (gE cy qE (fun _ => 0) (fun _ => 0) (fun _ => 0) (0 : Int32) (-1 : Int32) (0 : Int32) (0 : Int32) (0 : Int32) (0 : Int32) (0 : Int32) (0 : Int32) (0 : Int32)))) := hD
  refine lv_aload_n hx hb dX10_searched_18 rfl (lv_at hl 0 rfl) ?_
  refine va_get (v := .ref (qE 0)) (D := D) (ci := 10) (C := RX10) (T := TX10) (N := 9) hx hb hts huX10 hown hK hP 0 rfl rfl 6 (by decide) fk247 (fun _ h9 => h9) rfl dX10_searched_19 ?_
  refine lv_iload_n hx hb dX10_searched_22 rfl (lv_at hl 1 rfl) ?_
  refine lv_aload_n hx hb dX10_searched_23 rfl (lv_at hl 0 rfl) ?_
  refine va_get (v := .ref (qG 0)) (D := D) (ci := 10) (C := RX10) (T := TX10) (N := 9) hx hb hts huX10 hown hK hP 0 rfl rfl 0 (by decide) fk10 (fun _ h9 => h9) rfl dX10_searched_24 ?_
  refine va_get (D := D) (ci := 1) (C := RX1) (T := TX1) (N := 5) hx hb hts huX1 hown hK hP 2 rfl rfl 0 (by decide) fk42 (fun _ h9 => h9) rfl dX10_searched_27 ?_
  refine lv_iload_n hx hb dX10_searched_30 rfl (lv_at hl 2 rfl) ?_
  refine lv_iload_n hx hb dX10_searched_31 rfl (lv_at hl 3 rfl) ?_
  obtain ⟨r4, hc5, hf⟩ := ob_some hf
  have hI6 : kIn (gX cy qX (qG 0) (qP 0) (qR 0) oS oB (some (qE 0)) oN oL x_ways ++ (gG cy qG g_base g_worth g_row g_many g_version ++ (gE cy qE (fun _ => 0) (fun _ => 0) (fun _ => 0) (0 : Int32) (-1 : Int32) (0 : Int32) (0 : Int32) (0 : Int32) (0 : Int32) (0 : Int32) (0 : Int32) (0 : Int32)))) (gE cy qE (fun _ => 0) (fun _ => 0) (fun _ => 0) (0 : Int32) (-1 : Int32) (0 : Int32) (0 : Int32) (0 : Int32) (0 : Int32) (0 : Int32) (0 : Int32) (0 : Int32)) (kpick (gX cy qX (qG 0) (qP 0) (qR 0) oS oB (some (qE 0)) oN oL x_ways ++ (gG cy qG g_base g_worth g_row g_many g_version ++ (gE cy qE (fun _ => 0) (fun _ => 0) (fun _ => 0) (0 : Int32) (-1 : Int32) (0 : Int32) (0 : Int32) (0 : Int32) (0 : Int32) (0 : Int32) (0 : Int32) (0 : Int32)))) [0, 1, 2, 3, 4, 5]) (fun _ : Unit => gE cy qE r4.1 r4.2.1 r4.2.2.1 r4.2.2.2.1 r4.2.2.2.2.1 r4.2.2.2.2.2.1 r4.2.2.2.2.2.2.1 r4.2.2.2.2.2.2.2.1 r4.2.2.2.2.2.2.2.2.1 r4.2.2.2.2.2.2.2.2.2.1 r4.2.2.2.2.2.2.2.2.2.2.1 r4.2.2.2.2.2.2.2.2.2.2.2) (fun _ : Unit => gX cy qX (qG 0) (qP 0) (qR 0) oS oB (some (qE 0)) oN oL x_ways ++ (gG cy qG g_base g_worth g_row g_many g_version ++ (gE cy qE r4.1 r4.2.1 r4.2.2.1 r4.2.2.2.1 r4.2.2.2.2.1 r4.2.2.2.2.2.1 r4.2.2.2.2.2.2.1 r4.2.2.2.2.2.2.2.1 r4.2.2.2.2.2.2.2.2.1 r4.2.2.2.2.2.2.2.2.2.1 r4.2.2.2.2.2.2.2.2.2.2.1 r4.2.2.2.2.2.2.2.2.2.2.2))) [6, 7, 8, 9] [0, 1, 2, 3, 4, 5] [0, 1, 2, 3, 4, 5, 6, 7, 8, 9] := ⟨rfl, rfl, rfl, rfl, by decide, rfl, fun _ => rfl⟩
  refine kc_v (k_run ⟨hx, hb, hml, hown, hts⟩ (c_X7_seek hc5) (cwV 4 hts gX10_searched_X7_seek rfl rfl rfl (by decide +kernel) ⟨Nat.le_of_ble_eq_true rfl, Nat.le_of_ble_eq_true rfl⟩) hK hN hP hD ⟨hI6.1, hI6.2.2.1⟩ (ci := 7) (q0 := 0) rfl rfl rfl rfl hl.1 rfl (Nat.le_of_ble_eq_true rfl) dX10_searched_32 ⟨(Nat.le_of_ble_eq_true rfl), (Nat.le_of_ble_eq_true rfl)⟩) hP hD hS hA hI6 (fun _ H locs hP hD hS => ?_)
  refine lv_aload_n hx hb dX10_searched_35 rfl (lv_at hl 0 rfl) ?_
  refine va_get (v := .ref (qE 0)) (D := D) (ci := 10) (C := RX10) (T := TX10) (N := 9) hx hb hts huX10 hown hK hP 0 rfl rfl 6 (by decide) fk247 (fun _ h9 => h9) rfl dX10_searched_36 ?_
  refine lv_iload hx hb dX10_searched_39 (lv_at hl 4 rfl) ?_
  obtain ⟨r7, hc8, hf⟩ := ob_some hf
  have hI9 : kIn (gX cy qX (qG 0) (qP 0) (qR 0) oS oB (some (qE 0)) oN oL x_ways ++ (gG cy qG g_base g_worth g_row g_many g_version ++ (gE cy qE r4.1 r4.2.1 r4.2.2.1 r4.2.2.2.1 r4.2.2.2.2.1 r4.2.2.2.2.2.1 r4.2.2.2.2.2.2.1 r4.2.2.2.2.2.2.2.1 r4.2.2.2.2.2.2.2.2.1 r4.2.2.2.2.2.2.2.2.2.1 r4.2.2.2.2.2.2.2.2.2.2.1 r4.2.2.2.2.2.2.2.2.2.2.2))) (gE cy qE r4.1 r4.2.1 r4.2.2.1 r4.2.2.2.1 r4.2.2.2.2.1 r4.2.2.2.2.2.1 r4.2.2.2.2.2.2.1 r4.2.2.2.2.2.2.2.1 r4.2.2.2.2.2.2.2.2.1 r4.2.2.2.2.2.2.2.2.2.1 r4.2.2.2.2.2.2.2.2.2.2.1 r4.2.2.2.2.2.2.2.2.2.2.2) (kpick (gX cy qX (qG 0) (qP 0) (qR 0) oS oB (some (qE 0)) oN oL x_ways ++ (gG cy qG g_base g_worth g_row g_many g_version ++ (gE cy qE r4.1 r4.2.1 r4.2.2.1 r4.2.2.2.1 r4.2.2.2.2.1 r4.2.2.2.2.2.1 r4.2.2.2.2.2.2.1 r4.2.2.2.2.2.2.2.1 r4.2.2.2.2.2.2.2.2.1 r4.2.2.2.2.2.2.2.2.2.1 r4.2.2.2.2.2.2.2.2.2.2.1 r4.2.2.2.2.2.2.2.2.2.2.2))) [0, 1, 2, 3, 4, 5]) (fun _ : Unit => gE cy qE r4.1 r4.2.1 r4.2.2.1 r4.2.2.2.1 r4.2.2.2.2.1 r4.2.2.2.2.2.1 r4.2.2.2.2.2.2.1 r4.2.2.2.2.2.2.2.1 r4.2.2.2.2.2.2.2.2.1 r4.2.2.2.2.2.2.2.2.2.1 r4.2.2.2.2.2.2.2.2.2.2.1 r4.2.2.2.2.2.2.2.2.2.2.2) (fun _ : Unit => gX cy qX (qG 0) (qP 0) (qR 0) oS oB (some (qE 0)) oN oL x_ways ++ (gG cy qG g_base g_worth g_row g_many g_version ++ (gE cy qE r4.1 r4.2.1 r4.2.2.1 r4.2.2.2.1 r4.2.2.2.2.1 r4.2.2.2.2.2.1 r4.2.2.2.2.2.2.1 r4.2.2.2.2.2.2.2.1 r4.2.2.2.2.2.2.2.2.1 r4.2.2.2.2.2.2.2.2.2.1 r4.2.2.2.2.2.2.2.2.2.2.1 r4.2.2.2.2.2.2.2.2.2.2.2))) [6, 7, 8, 9] [0, 1, 2, 3, 4, 5] [0, 1, 2, 3, 4, 5, 6, 7, 8, 9] := ⟨rfl, rfl, rfl, rfl, by decide, rfl, fun _ => rfl⟩
  refine kc_i (k_run ⟨hx, hb, hml, hown, hts⟩ (c_X7_figureAt hc8) (cwV 1 hts gX10_searched_X7_figureAt rfl rfl rfl (by decide +kernel) ⟨Nat.le_of_ble_eq_true rfl, Nat.le_of_ble_eq_true rfl⟩) hK hN hP hD ⟨hI9.1, hI9.2.2.1⟩ (ci := 7) (q0 := 0) rfl rfl rfl rfl hl.1 rfl (Nat.le_of_ble_eq_true rfl) dX10_searched_41 ⟨(Nat.le_of_ble_eq_true rfl), (Nat.le_of_ble_eq_true rfl)⟩) hP hD hS hA hI9 (fun _ H locs hP hD hS => ?_)
  refine W.widen (k := 4) (n := 102428) (Nat.le_of_ble_eq_true rfl) (Nat.le_of_ble_eq_true rfl) ?_
  obtain rfl := Option.some.inj hf
  exact hQ (kU [qE]) 44 _ _ _ dX10_searched_44 hP hD hS
def f_X10_made_N (F : Nat) (a1 : Int32) (g_base : Int32) (g_row : Nat → Int32) : Option (Int32 × (Nat → Int32) × Int32 × (Nat → Int32) × Int32 × (Nat → Int32)) := (f_X10_within F a1 (1 : Int32) (10000 : Int32)).bind (fun r1 => if r1 = 0 then (none) else ((f_X5_fewestFor F a1 g_base g_row (0 : Int32) (fun _ => 0) (0 : Int32) (fun _ => 0)).bind (fun r7 => some (r7.1, r7.2.1, r7.2.2.1, r7.2.2.2.1, r7.2.2.2.2.1, r7.2.2.2.2.2))))
abbrev rmX10_made_N : Room := { frames := 6, cells := 3, slots := 10518, locals := 138 }
set_option maxHeartbeats 1000000 in
set_option maxRecDepth 100000 in
theorem c_X10_made_N {l : Launch} {D : va_G} {cy : Nat → ClassId} {qX : Nat → Nat} {qG : Nat → Nat} {qP : Nat → Nat} {qR : Nat → Nat} {oS : Option Nat} {oE : Option Nat} {oN : Option Nat} {oL : Option Nat} {x_ways : Nat → Option Nat} {g_base : Int32} {g_worth : Nat → Int32} {g_row : Nat → Int32} {g_many : Nat → Int32} {g_version : Int32} {a1 : Int32} {F : Nat} {res : Int32 × (Nat → Int32) × Int32 × (Nat → Int32) × Int32 × (Nat → Int32)} (hf : f_X10_made_N F a1 g_base g_row = some res) : kM l yX10_made wsX10_made rmX10_made_N D cy [.ref (qX 0), .int a1] (gX cy qX (qG 0) (qP 0) (qR 0) oS none oE oN oL x_ways ++ (gR cy qR (qG 0) ++ (gG cy qG g_base g_worth g_row g_many g_version))) (kQi D cy (fun u : Nat → Nat → Nat => gX cy qX (qG 0) (qP 0) (qR 0) oS (some ((u 0) 0)) oE oN oL x_ways ++ (gR cy qR (qG 0) ++ (gG cy qG g_base g_worth res.2.1 g_many g_version ++ (gB cy (u 0) (qR 0) res.2.2.1 res.2.2.2.1 res.2.2.2.2.1 res.2.2.2.2.2)))) res.1) := by
  refine kent_i (cc := cX10_made) (maxL := 2) (by decide) rfl (Nat.le_of_ble_eq_true rfl) ?_
  intro p e0 s m ar below meth c A Q ls ⟨hx, hb, hml, hr, hts, hown, hlocks, hnm⟩ hA hK hN hQ hP hD hS hl
  have hl : lv_has ls 2 [(0, .ref (qX 0)), (1, .int a1)] := hl
  have hown : s.vm.findClass RX10 = some m.cls := hown
  have huX10 : ∀ x ∈ u_ws RX10 TX10 9, x ∈ wsX10_made := by decide +kernel
  have fk154 : (Cond.fieldLink RX10 154 "FigurePlay" "parts" "LFigurePlay$Parts;").before ar s = true := hts _ (by decide +kernel)
  have huX5 : ∀ x ∈ u_ws RX5 TX5 5, x ∈ wsX10_made := by decide +kernel
  have fk28 : (Cond.fieldLink RX10 28 "FigurePlay" "mirrors" "LFigurePlay$Mirrors;").before ar s = true := hts _ (by decide +kernel)
  unfold f_X10_made_N at hf
  refine lv_iload_n hx hb dX10_made_0 rfl (lv_at hl 1 rfl) ?_
  refine lv_iconst (v := (1 : Int32)) hx hb dX10_made_1 (by decide) ?_
  refine lv_sipush (v := (10000 : Int32)) hx hb dX10_made_2 (by decide) ?_
  obtain ⟨r1, hc2, hf⟩ := ob_some hf
  refine kc_i (k_runS ⟨hx, hb, hml, hown, hts⟩ (c_X10_within hc2) (va_cwS 3 hts gX10_made_X10_within rfl rfl rfl (by decide +kernel) ⟨Nat.le_of_ble_eq_true rfl, Nat.le_of_ble_eq_true rfl⟩) hK hN hP hD kA_0 rfl hl.1 rfl (Nat.le_of_ble_eq_true rfl) dX10_made_5 ⟨(Nat.le_of_ble_eq_true rfl), (Nat.le_of_ble_eq_true rfl)⟩) hP hD hS hA kI_0 (fun _ H locs hP hD hS => ?_)
  refine lv_if_ne (tgt := 13) hx hb dX10_made_8 (by decide) (fun c3 => ?_) (fun c3 => ?_)
  · have hf := if_f hf c3
    refine lv_aload_n hx hb dX10_made_13 rfl (lv_at hl 0 rfl) ?_
    refine va_get (v := .null) (D := D) (ci := 10) (C := RX10) (T := TX10) (N := 9) hx hb hts huX10 hown hK hP 0 rfl rfl 5 (by decide) fk154 (fun _ h9 => h9) rfl dX10_made_14 ?_
    refine lv_ifnonnullN hx hb dX10_made_17 ?_
    refine lv_aload_n hx hb dX10_made_20 rfl (lv_at hl 0 rfl) ?_
    refine va_new (ci := 5) (fs := [.null, .int 0, .null, .int 0, .null]) (C := RX5) (T := TX5) (N := 5) hx hb hts huX5 tyX5 tyX5_ok hown (hts (.classLink RX10 158 RX5) (by decide +kernel)) (hts (.instantiable RX5 5) (by decide +kernel)) (hts (.initialized RX5) (by decide +kernel)) hK hP hD hS hA rfl (fun j hj => match j, hj with | 0, _ => rfl | 1, _ => rfl | 2, _ => rfl | 3, _ => rfl | 4, _ => rfl | j + 5, hj => absurd hj (by omega)) (Nat.le_of_ble_eq_true rfl) (Nat.le_of_ble_eq_true rfl) dX10_made_21 (fun h4 H hP hD hS => ?_)
    have hP : va_P D vwCl ((gX cy qX (qG 0) (qP 0) (qR 0) oS none oE oN oL x_ways ++ (gR cy qR (qG 0) ++ (gG cy qG g_base g_worth g_row g_many g_version))) ++ [(h4, .inr (5, [.null, .int 0, .null, .int 0, .null]))]) H := hP
    have hD : va_D A ((gX cy qX (qG 0) (qP 0) (qR 0) oS none oE oN oL x_ways ++ (gR cy qR (qG 0) ++ (gG cy qG g_base g_worth g_row g_many g_version))) ++ [(h4, .inr (5, [.null, .int 0, .null, .int 0, .null]))]) := hD
    refine W.widen (k := 1) (n := 5) (Nat.le_of_ble_eq_true rfl) (Nat.le_of_ble_eq_true rfl) ?_
    refine lv_dup hx hb dX10_made_24 rfl ?_
    refine lv_aload_n hx hb dX10_made_25 rfl (lv_at hl 0 rfl) ?_
    refine va_get (v := .ref (qR 0)) (D := D) (ci := 10) (C := RX10) (T := TX10) (N := 9) hx hb hts huX10 hown hK hP 0 rfl rfl 2 (by decide) fk28 (fun _ h9 => h9) rfl dX10_made_26 ?_
    have hI5 : kIn ((gX cy qX (qG 0) (qP 0) (qR 0) oS none oE oN oL x_ways ++ (gR cy qR (qG 0) ++ (gG cy qG g_base g_worth g_row g_many g_version))) ++ [(h4, .inr (5, [.null, .int 0, .null, .int 0, .null]))]) [(h4, .inr (5, [.null, .int 0, .null, .int 0, .null]))] (kpick ((gX cy qX (qG 0) (qP 0) (qR 0) oS none oE oN oL x_ways ++ (gR cy qR (qG 0) ++ (gG cy qG g_base g_worth g_row g_many g_version))) ++ [(h4, .inr (5, [.null, .int 0, .null, .int 0, .null]))]) [0, 1, 2, 3, 4, 5, 6]) (fun u : Nat → Nat => gB cy (va_up u 0 h4) (qR 0) (0 : Int32) (fun _ => 0) (0 : Int32) (fun _ => 0)) (fun u : Nat → Nat => (gX cy qX (qG 0) (qP 0) (qR 0) oS none oE oN oL x_ways ++ (gR cy qR (qG 0) ++ (gG cy qG g_base g_worth g_row g_many g_version))) ++ (gB cy (va_up u 0 h4) (qR 0) (0 : Int32) (fun _ => 0) (0 : Int32) (fun _ => 0))) [7] [0, 1, 2, 3, 4, 5, 6] [0, 1, 2, 3, 4, 5, 6, 7, 8, 9] := ⟨rfl, rfl, rfl, rfl, by decide, rfl, fun _ => rfl⟩
    refine kc_v (k_runI ⟨hx, hb, hml, hown, hts⟩ (c_X5_init) (cwI 1 hts gX10_made_X5_init rfl rfl rfl (hts (.initialized RX5) (by decide +kernel)) (hts (.methodLink RX10 160 yX5_init) (by decide +kernel)) (hts (.instanceMethod yX5_init) (by decide +kernel)) rfl (by decide +kernel) ⟨Nat.le_of_ble_eq_true rfl, Nat.le_of_ble_eq_true rfl⟩) hK hN hP hD ⟨hI5.1, hI5.2.2.1⟩ rfl hl.1 rfl (Nat.le_of_ble_eq_true rfl) dX10_made_29 ⟨(Nat.le_of_ble_eq_true rfl), (Nat.le_of_ble_eq_true rfl)⟩) hP hD hS hA hI5 (fun u6 H locs hP hD hS => ?_)
    obtain ⟨qB, hq0, hqe⟩ : ∃ z : Nat → Nat, z 0 = h4 ∧ z = va_up u6 0 h4 := ⟨_, rfl, rfl⟩
    rw [← hqe] at hP hD
    rw [← hq0]
    have hP : va_P D vwCl (gX cy qX (qG 0) (qP 0) (qR 0) oS none oE oN oL x_ways ++ (gR cy qR (qG 0) ++ (gG cy qG g_base g_worth g_row g_many g_version ++ (gB cy qB (qR 0) (0 : Int32) (fun _ => 0) (0 : Int32) (fun _ => 0))))) H := hP
    have hD : va_D A (gX cy qX (qG 0) (qP 0) (qR 0) oS none oE oN oL x_ways ++ (gR cy qR (qG 0) ++ (gG cy qG g_base g_worth g_row g_many g_version ++ (gB cy qB (qR 0) (0 : Int32) (fun _ => 0) (0 : Int32) (fun _ => 0))))) := hD
    refine W.widen (k := 3) (n := 10518) (Nat.le_of_ble_eq_true rfl) (Nat.le_of_ble_eq_true rfl) ?_
    refine va_put (D := D) (ci := 10) (v := .ref (qB 0)) (ty := .object "FigurePlay$Parts") (C := RX10) (T := TX10) (N := 9) hx hb hts huX10 tyX10 tyX10_ok nmX10 hown hK hP hD hS 0 rfl rfl 5 (by decide) fk154 (fun _ h9 => h9) rfl (tyX10_ok 5 (by decide)) rfl rfl (Nat.le_of_ble_eq_true rfl) dX10_made_32 (fun H locs hP hD hS => ?_)
    have hP : va_P D vwCl (gX cy qX (qG 0) (qP 0) (qR 0) oS (some (qB 0)) oE oN oL x_ways ++ (gR cy qR (qG 0) ++ (gG cy qG g_base g_worth g_row g_many g_version ++ (gB cy qB (qR 0) (0 : Int32) (fun _ => 0) (0 : Int32) (fun _ => 0))))) H := hP
    have hD : va_D A (gX cy qX (qG 0) (qP 0) (qR 0) oS (some (qB 0)) oE oN oL x_ways ++ (gR cy qR (qG 0) ++ (gG cy qG g_base g_worth g_row g_many g_version ++ (gB cy qB (qR 0) (0 : Int32) (fun _ => 0) (0 : Int32) (fun _ => 0))))) := hD
    refine lv_aload_n hx hb dX10_made_35 rfl (lv_at hl 0 rfl) ?_
    refine va_get (v := .ref (qB 0)) (D := D) (ci := 10) (C := RX10) (T := TX10) (N := 9) hx hb hts huX10 hown hK hP 0 rfl rfl 5 (by decide) fk154 (fun _ h9 => h9) rfl dX10_made_36 ?_
    refine lv_iload_n hx hb dX10_made_39 rfl (lv_at hl 1 rfl) ?_
    obtain ⟨r7, hc8, hf⟩ := ob_some hf
    have hI9 : kIn (gX cy qX (qG 0) (qP 0) (qR 0) oS (some (qB 0)) oE oN oL x_ways ++ (gR cy qR (qG 0) ++ (gG cy qG g_base g_worth g_row g_many g_version ++ (gB cy qB (qR 0) (0 : Int32) (fun _ => 0) (0 : Int32) (fun _ => 0))))) (gB cy qB (qR 0) (0 : Int32) (fun _ => 0) (0 : Int32) (fun _ => 0) ++ (gR cy qR (qG 0) ++ (gG cy qG g_base g_worth g_row g_many g_version))) (kpick (gX cy qX (qG 0) (qP 0) (qR 0) oS (some (qB 0)) oE oN oL x_ways ++ (gR cy qR (qG 0) ++ (gG cy qG g_base g_worth g_row g_many g_version ++ (gB cy qB (qR 0) (0 : Int32) (fun _ => 0) (0 : Int32) (fun _ => 0))))) [0, 1]) (fun _ : Unit => gB cy qB (qR 0) r7.2.2.1 r7.2.2.2.1 r7.2.2.2.2.1 r7.2.2.2.2.2 ++ (gR cy qR (qG 0) ++ (gG cy qG g_base g_worth r7.2.1 g_many g_version))) (fun _ : Unit => gX cy qX (qG 0) (qP 0) (qR 0) oS (some (qB 0)) oE oN oL x_ways ++ (gR cy qR (qG 0) ++ (gG cy qG g_base g_worth r7.2.1 g_many g_version ++ (gB cy qB (qR 0) r7.2.2.1 r7.2.2.2.1 r7.2.2.2.2.1 r7.2.2.2.2.2)))) [7, 8, 9, 2, 3, 4, 5, 6] [0, 1] [0, 1, 5, 6, 7, 8, 9, 2, 3, 4] := ⟨rfl, rfl, rfl, rfl, by decide, rfl, fun _ => rfl⟩
    refine kc_i (k_run ⟨hx, hb, hml, hown, hts⟩ (c_X5_fewestFor hc8) (cwV 1 hts gX10_made_X5_fewestFor rfl rfl rfl (by decide +kernel) ⟨Nat.le_of_ble_eq_true rfl, Nat.le_of_ble_eq_true rfl⟩) hK hN hP hD ⟨hI9.1, hI9.2.2.1⟩ (ci := 5) (q0 := 0) rfl rfl rfl rfl hl.1 rfl (Nat.le_of_ble_eq_true rfl) dX10_made_40 ⟨(Nat.le_of_ble_eq_true rfl), (Nat.le_of_ble_eq_true rfl)⟩) hP hD hS hA hI9 (fun _ H locs hP hD hS => ?_)
    refine W.widen (k := 3) (n := 10518) (Nat.le_of_ble_eq_true rfl) (Nat.le_of_ble_eq_true rfl) ?_
    obtain rfl := Option.some.inj hf
    exact hQ (kU [qB]) 43 _ _ _ dX10_made_43 hP hD hS
  · have hf := if_t hf c3
    refine lv_iconst (v := (-1 : Int32)) hx hb dX10_made_11 (by decide) ?_
    exact no_some hf
def f_X10_made_B (F : Nat) (a1 : Int32) : Option (Int32) := (f_X10_within F a1 (1 : Int32) (10000 : Int32)).bind (fun r1 => if r1 = 0 then (some (-1 : Int32)) else (none))
abbrev rmX10_made_B : Room := { frames := 1, cells := 0, slots := 0, locals := 22 }
set_option maxHeartbeats 1000000 in
set_option maxRecDepth 100000 in
theorem c_X10_made_B {l : Launch} {D : va_G} {cy : Nat → ClassId} {qX : Nat → Nat} {qG : Nat → Nat} {qP : Nat → Nat} {qR : Nat → Nat} {oS : Option Nat} {oB : Option Nat} {oE : Option Nat} {oN : Option Nat} {oL : Option Nat} {x_ways : Nat → Option Nat} {a1 : Int32} {F : Nat} {res : Int32} (hf : f_X10_made_B F a1 = some res) : kM l yX10_made wsX10_made rmX10_made_B D cy [.ref (qX 0), .int a1] (gX cy qX (qG 0) (qP 0) (qR 0) oS oB oE oN oL x_ways) (kQi D cy (fun u : Nat → Nat → Nat => gX cy qX (qG 0) (qP 0) (qR 0) oS oB oE oN oL x_ways) res) := by
  refine kent_i (cc := cX10_made) (maxL := 2) (by decide) rfl (Nat.le_of_ble_eq_true rfl) ?_
  intro p e0 s m ar below meth c A Q ls ⟨hx, hb, hml, hr, hts, hown, hlocks, hnm⟩ hA hK hN hQ hP hD hS hl
  have hl : lv_has ls 2 [(0, .ref (qX 0)), (1, .int a1)] := hl
  have hown : s.vm.findClass RX10 = some m.cls := hown
  unfold f_X10_made_B at hf
  refine lv_iload_n hx hb dX10_made_0 rfl (lv_at hl 1 rfl) ?_
  refine lv_iconst (v := (1 : Int32)) hx hb dX10_made_1 (by decide) ?_
  refine lv_sipush (v := (10000 : Int32)) hx hb dX10_made_2 (by decide) ?_
  obtain ⟨r1, hc2, hf⟩ := ob_some hf
  refine kc_i (k_runS ⟨hx, hb, hml, hown, hts⟩ (c_X10_within hc2) (va_cwS 3 hts gX10_made_X10_within rfl rfl rfl (by decide +kernel) ⟨Nat.le_of_ble_eq_true rfl, Nat.le_of_ble_eq_true rfl⟩) hK hN hP hD kA_0 rfl hl.1 rfl (Nat.le_of_ble_eq_true rfl) dX10_made_5 ⟨(Nat.le_of_ble_eq_true rfl), (Nat.le_of_ble_eq_true rfl)⟩) hP hD hS hA kI_0 (fun _ H locs hP hD hS => ?_)
  refine lv_if_ne (tgt := 13) hx hb dX10_made_8 (by decide) (fun c3 => ?_) (fun c3 => ?_)
  · have hf := if_f hf c3
    refine lv_aload_n hx hb dX10_made_13 rfl (lv_at hl 0 rfl) ?_
    exact no_some hf
  · have hf := if_t hf c3
    refine lv_iconst (v := (-1 : Int32)) hx hb dX10_made_11 (by decide) ?_
    refine W.widen (k := 0) (n := 0) (Nat.le_of_ble_eq_true rfl) (Nat.le_of_ble_eq_true rfl) ?_
    obtain rfl := Option.some.inj hf
    exact hQ (kU []) 12 _ _ _ dX10_made_12 hP hD hS
def f_X10_few_N (F : Nat) (a1 : Int32) (a2 : Int32) (a3 : Int32) (g_base : Int32) : Option (Int32 × (Nat → Int32) × (Nat → Int32) × (Nat → Int32) × Int32 × Int32 × Int32 × Int32 × Int32 × Int32 × Int32 × Int32 × Int32) := (f_X10_figuresOfBase F a2 g_base).bind (fun r1 => (f_X10_within F a1 (1 : Int32) (2000 : Int32)).bind (fun r3 => if r3 = 0 then (none) else (if r1 = 0 then (none) else (if (-1 : Int32) ≤ a3 then ((f_X10_searched_N F (0 : Int32) a1 r1 a3 g_base).bind (fun r8 => some (r8.1, r8.2.1, r8.2.2.1, r8.2.2.2.1, r8.2.2.2.2.1, r8.2.2.2.2.2.1, r8.2.2.2.2.2.2.1, r8.2.2.2.2.2.2.2.1, r8.2.2.2.2.2.2.2.2.1, r8.2.2.2.2.2.2.2.2.2.1, r8.2.2.2.2.2.2.2.2.2.2.1, r8.2.2.2.2.2.2.2.2.2.2.2.1, r8.2.2.2.2.2.2.2.2.2.2.2.2))) else (none)))))
abbrev rmX10_few_N : Room := { frames := 5, cells := 4, slots := 102428, locals := 119 }
set_option maxHeartbeats 1000000 in
set_option maxRecDepth 100000 in
theorem c_X10_few_N {l : Launch} {D : va_G} {cy : Nat → ClassId} {qX : Nat → Nat} {qG : Nat → Nat} {qP : Nat → Nat} {qR : Nat → Nat} {oS : Option Nat} {oB : Option Nat} {oN : Option Nat} {oL : Option Nat} {x_ways : Nat → Option Nat} {g_base : Int32} {g_worth : Nat → Int32} {g_row : Nat → Int32} {g_many : Nat → Int32} {g_version : Int32} {a1 : Int32} {a2 : Int32} {a3 : Int32} {F : Nat} {res : Int32 × (Nat → Int32) × (Nat → Int32) × (Nat → Int32) × Int32 × Int32 × Int32 × Int32 × Int32 × Int32 × Int32 × Int32 × Int32} (hf : f_X10_few_N F a1 a2 a3 g_base = some res) : kM l yX10_few wsX10_few rmX10_few_N D cy [.ref (qX 0), .int a1, .int a2, .int a3] (gX cy qX (qG 0) (qP 0) (qR 0) oS oB none oN oL x_ways ++ (gG cy qG g_base g_worth g_row g_many g_version)) (kQi D cy (fun u : Nat → Nat → Nat => gX cy qX (qG 0) (qP 0) (qR 0) oS oB (some ((u 0) 0)) oN oL x_ways ++ (gG cy qG g_base g_worth g_row g_many g_version ++ (gE cy (u 0) res.2.1 res.2.2.1 res.2.2.2.1 res.2.2.2.2.1 res.2.2.2.2.2.1 res.2.2.2.2.2.2.1 res.2.2.2.2.2.2.2.1 res.2.2.2.2.2.2.2.2.1 res.2.2.2.2.2.2.2.2.2.1 res.2.2.2.2.2.2.2.2.2.2.1 res.2.2.2.2.2.2.2.2.2.2.2.1 res.2.2.2.2.2.2.2.2.2.2.2.2))) res.1) := by
  refine kent_i (cc := cX10_few) (maxL := 5) (by decide) rfl (Nat.le_of_ble_eq_true rfl) ?_
  intro p e0 s m ar below meth c A Q ls ⟨hx, hb, hml, hr, hts, hown, hlocks, hnm⟩ hA hK hN hQ hP hD hS hl
  have hl : lv_has ls 5 [(0, .ref (qX 0)), (1, .int a1), (2, .int a2), (3, .int a3)] := hl
  have hown : s.vm.findClass RX10 = some m.cls := hown
  unfold f_X10_few_N at hf
  refine lv_aload_n hx hb dX10_few_0 rfl (lv_at hl 0 rfl) ?_
  refine lv_iload_n hx hb dX10_few_1 rfl (lv_at hl 2 rfl) ?_
  obtain ⟨r1, hc2, hf⟩ := ob_some hf
  refine kc_i (k_run ⟨hx, hb, hml, hown, hts⟩ (c_X10_figuresOfBase hc2) (cwV 1 hts gX10_few_X10_figuresOfBase rfl rfl rfl (by decide +kernel) ⟨Nat.le_of_ble_eq_true rfl, Nat.le_of_ble_eq_true rfl⟩) hK hN hP hD kA_s (ci := 10) (q0 := 0) rfl rfl rfl rfl hl.1 rfl (Nat.le_of_ble_eq_true rfl) dX10_few_2 ⟨(Nat.le_of_ble_eq_true rfl), (Nat.le_of_ble_eq_true rfl)⟩) hP hD hS hA kI_s (fun _ H locs hP hD hS => ?_)
  refine lv_istore (lv' := [(4, .int r1), (0, .ref (qX 0)), (1, .int a1), (2, .int a2), (3, .int a3)]) hx hb dX10_few_5 hl (by decide) rfl (fun ls hl => ?_)
  refine lv_iload_n hx hb dX10_few_7 rfl (lv_at hl 2 rfl) ?_
  refine lv_iconst (v := (1 : Int32)) hx hb dX10_few_8 (by decide) ?_
  refine lv_sipush (v := (2000 : Int32)) hx hb dX10_few_9 (by decide) ?_
  obtain ⟨r3, hc4, hf⟩ := ob_some hf
  refine kc_i (k_runS ⟨hx, hb, hml, hown, hts⟩ (c_X10_within hc4) (va_cwS 3 hts gX10_few_X10_within rfl rfl rfl (by decide +kernel) ⟨Nat.le_of_ble_eq_true rfl, Nat.le_of_ble_eq_true rfl⟩) hK hN hP hD kA_0 rfl hl.1 rfl (Nat.le_of_ble_eq_true rfl) dX10_few_12 ⟨(Nat.le_of_ble_eq_true rfl), (Nat.le_of_ble_eq_true rfl)⟩) hP hD hS hA kI_0 (fun _ H locs hP hD hS => ?_)
  refine lv_if_eq (tgt := 28) hx hb dX10_few_15 (by decide) (fun c5 => ?_) (fun c5 => ?_)
  · have hf := if_t hf c5
    refine lv_iconst (v := (-1 : Int32)) hx hb dX10_few_28 (by decide) ?_
    exact no_some hf
  · have hf := if_f hf c5
    refine lv_iload hx hb dX10_few_18 (lv_at hl 0 rfl) ?_
    refine lv_if_eq (tgt := 28) hx hb dX10_few_20 (by decide) (fun c6 => ?_) (fun c6 => ?_)
    · have hf := if_t hf c6
      refine lv_iconst (v := (-1 : Int32)) hx hb dX10_few_28 (by decide) ?_
      exact no_some hf
    · have hf := if_f hf c6
      refine lv_iload_n hx hb dX10_few_23 rfl (lv_at hl 4 rfl) ?_
      refine lv_iconst (v := (-1 : Int32)) hx hb dX10_few_24 (by decide) ?_
      refine lv_icmp_ge (tgt := 30) hx hb dX10_few_25 (by decide) (fun c7 => ?_) (fun c7 => ?_)
      · have hf := if_t hf c7
        refine lv_aload_n hx hb dX10_few_30 rfl (lv_at hl 1 rfl) ?_
        refine lv_iconst (v := (0 : Int32)) hx hb dX10_few_31 (by decide) ?_
        refine lv_iload_n hx hb dX10_few_32 rfl (lv_at hl 2 rfl) ?_
        refine lv_iload hx hb dX10_few_33 (lv_at hl 0 rfl) ?_
        refine lv_iload_n hx hb dX10_few_35 rfl (lv_at hl 4 rfl) ?_
        obtain ⟨r8, hc9, hf⟩ := ob_some hf
        have hI10 : kIn (gX cy qX (qG 0) (qP 0) (qR 0) oS oB none oN oL x_ways ++ (gG cy qG g_base g_worth g_row g_many g_version)) (gX cy qX (qG 0) (qP 0) (qR 0) oS oB none oN oL x_ways ++ (gG cy qG g_base g_worth g_row g_many g_version)) (kpick (gX cy qX (qG 0) (qP 0) (qR 0) oS oB none oN oL x_ways ++ (gG cy qG g_base g_worth g_row g_many g_version)) []) (fun u : Nat → Nat → Nat => gX cy qX (qG 0) (qP 0) (qR 0) oS oB (some ((u 0) 0)) oN oL x_ways ++ (gG cy qG g_base g_worth g_row g_many g_version ++ (gE cy (u 0) r8.2.1 r8.2.2.1 r8.2.2.2.1 r8.2.2.2.2.1 r8.2.2.2.2.2.1 r8.2.2.2.2.2.2.1 r8.2.2.2.2.2.2.2.1 r8.2.2.2.2.2.2.2.2.1 r8.2.2.2.2.2.2.2.2.2.1 r8.2.2.2.2.2.2.2.2.2.2.1 r8.2.2.2.2.2.2.2.2.2.2.2.1 r8.2.2.2.2.2.2.2.2.2.2.2.2))) (fun u : Nat → Nat → Nat => gX cy qX (qG 0) (qP 0) (qR 0) oS oB (some ((u 0) 0)) oN oL x_ways ++ (gG cy qG g_base g_worth g_row g_many g_version ++ (gE cy (u 0) r8.2.1 r8.2.2.1 r8.2.2.2.1 r8.2.2.2.2.1 r8.2.2.2.2.2.1 r8.2.2.2.2.2.2.1 r8.2.2.2.2.2.2.2.1 r8.2.2.2.2.2.2.2.2.1 r8.2.2.2.2.2.2.2.2.2.1 r8.2.2.2.2.2.2.2.2.2.2.1 r8.2.2.2.2.2.2.2.2.2.2.2.1 r8.2.2.2.2.2.2.2.2.2.2.2.2))) [0, 1, 2, 3, 4, 5] [] [0, 1, 2, 3, 4, 5, 6, 7, 8, 9] := ⟨rfl, rfl, rfl, rfl, by decide, rfl, fun _ => rfl⟩
        refine kc_i (k_run ⟨hx, hb, hml, hown, hts⟩ (c_X10_searched_N hc9) (cwV 4 hts gX10_few_X10_searched rfl rfl rfl (by decide +kernel) ⟨Nat.le_of_ble_eq_true rfl, Nat.le_of_ble_eq_true rfl⟩) hK hN hP hD ⟨hI10.1, hI10.2.2.1⟩ (ci := 10) (q0 := 0) rfl rfl rfl rfl hl.1 rfl (Nat.le_of_ble_eq_true rfl) dX10_few_36 ⟨(Nat.le_of_ble_eq_true rfl), (Nat.le_of_ble_eq_true rfl)⟩) hP hD hS hA hI10 (fun u11 H locs hP hD hS => ?_)
        obtain ⟨qE, hqE⟩ : ∃ z : Nat → Nat, z = u11 0 := ⟨_, rfl⟩
        rw [← hqE] at hP hD
        have hP : va_P D vwCl (gX cy qX (qG 0) (qP 0) (qR 0) oS oB (some (qE 0)) oN oL x_ways ++ (gG cy qG g_base g_worth g_row g_many g_version ++ (gE cy qE r8.2.1 r8.2.2.1 r8.2.2.2.1 r8.2.2.2.2.1 r8.2.2.2.2.2.1 r8.2.2.2.2.2.2.1 r8.2.2.2.2.2.2.2.1 r8.2.2.2.2.2.2.2.2.1 r8.2.2.2.2.2.2.2.2.2.1 r8.2.2.2.2.2.2.2.2.2.2.1 r8.2.2.2.2.2.2.2.2.2.2.2.1 r8.2.2.2.2.2.2.2.2.2.2.2.2))) H := hP
        have hD : va_D A (gX cy qX (qG 0) (qP 0) (qR 0) oS oB (some (qE 0)) oN oL x_ways ++ (gG cy qG g_base g_worth g_row g_many g_version ++ (gE cy qE r8.2.1 r8.2.2.1 r8.2.2.2.1 r8.2.2.2.2.1 r8.2.2.2.2.2.1 r8.2.2.2.2.2.2.1 r8.2.2.2.2.2.2.2.1 r8.2.2.2.2.2.2.2.2.1 r8.2.2.2.2.2.2.2.2.2.1 r8.2.2.2.2.2.2.2.2.2.2.1 r8.2.2.2.2.2.2.2.2.2.2.2.1 r8.2.2.2.2.2.2.2.2.2.2.2.2))) := hD
        refine W.widen (k := 4) (n := 102428) (Nat.le_of_ble_eq_true rfl) (Nat.le_of_ble_eq_true rfl) ?_
        refine W.widen (k := 4) (n := 102428) (Nat.le_of_ble_eq_true rfl) (Nat.le_of_ble_eq_true rfl) ?_
        obtain rfl := Option.some.inj hf
        exact hQ (kU [qE]) 39 _ _ _ dX10_few_39 hP hD hS
      · have hf := if_f hf c7
        refine lv_iconst (v := (-1 : Int32)) hx hb dX10_few_28 (by decide) ?_
        exact no_some hf
def f_X10_few_B (F : Nat) (a1 : Int32) (a2 : Int32) (a3 : Int32) (g_base : Int32) : Option (Int32) := (f_X10_figuresOfBase F a2 g_base).bind (fun r1 => (f_X10_within F a1 (1 : Int32) (2000 : Int32)).bind (fun r3 => if r3 = 0 then (some (-1 : Int32)) else (if r1 = 0 then (some (-1 : Int32)) else (if (-1 : Int32) ≤ a3 then (none) else (some (-1 : Int32))))))
abbrev rmX10_few_B : Room := { frames := 1, cells := 0, slots := 0, locals := 22 }
set_option maxHeartbeats 1000000 in
set_option maxRecDepth 100000 in
theorem c_X10_few_B {l : Launch} {D : va_G} {cy : Nat → ClassId} {qX : Nat → Nat} {qG : Nat → Nat} {qP : Nat → Nat} {qR : Nat → Nat} {oS : Option Nat} {oB : Option Nat} {oE : Option Nat} {oN : Option Nat} {oL : Option Nat} {x_ways : Nat → Option Nat} {g_base : Int32} {g_worth : Nat → Int32} {g_row : Nat → Int32} {g_many : Nat → Int32} {g_version : Int32} {a1 : Int32} {a2 : Int32} {a3 : Int32} {F : Nat} {res : Int32} (hf : f_X10_few_B F a1 a2 a3 g_base = some res) : kM l yX10_few wsX10_few rmX10_few_B D cy [.ref (qX 0), .int a1, .int a2, .int a3] (gX cy qX (qG 0) (qP 0) (qR 0) oS oB oE oN oL x_ways ++ (gG cy qG g_base g_worth g_row g_many g_version)) (kQi D cy (fun u : Nat → Nat → Nat => gX cy qX (qG 0) (qP 0) (qR 0) oS oB oE oN oL x_ways ++ (gG cy qG g_base g_worth g_row g_many g_version)) res) := by
  refine kent_i (cc := cX10_few) (maxL := 5) (by decide) rfl (Nat.le_of_ble_eq_true rfl) ?_
  intro p e0 s m ar below meth c A Q ls ⟨hx, hb, hml, hr, hts, hown, hlocks, hnm⟩ hA hK hN hQ hP hD hS hl
  have hl : lv_has ls 5 [(0, .ref (qX 0)), (1, .int a1), (2, .int a2), (3, .int a3)] := hl
  have hown : s.vm.findClass RX10 = some m.cls := hown
  unfold f_X10_few_B at hf
  refine lv_aload_n hx hb dX10_few_0 rfl (lv_at hl 0 rfl) ?_
  refine lv_iload_n hx hb dX10_few_1 rfl (lv_at hl 2 rfl) ?_
  obtain ⟨r1, hc2, hf⟩ := ob_some hf
  refine kc_i (k_run ⟨hx, hb, hml, hown, hts⟩ (c_X10_figuresOfBase hc2) (cwV 1 hts gX10_few_X10_figuresOfBase rfl rfl rfl (by decide +kernel) ⟨Nat.le_of_ble_eq_true rfl, Nat.le_of_ble_eq_true rfl⟩) hK hN hP hD kA_s (ci := 10) (q0 := 0) rfl rfl rfl rfl hl.1 rfl (Nat.le_of_ble_eq_true rfl) dX10_few_2 ⟨(Nat.le_of_ble_eq_true rfl), (Nat.le_of_ble_eq_true rfl)⟩) hP hD hS hA kI_s (fun _ H locs hP hD hS => ?_)
  refine lv_istore (lv' := [(4, .int r1), (0, .ref (qX 0)), (1, .int a1), (2, .int a2), (3, .int a3)]) hx hb dX10_few_5 hl (by decide) rfl (fun ls hl => ?_)
  refine lv_iload_n hx hb dX10_few_7 rfl (lv_at hl 2 rfl) ?_
  refine lv_iconst (v := (1 : Int32)) hx hb dX10_few_8 (by decide) ?_
  refine lv_sipush (v := (2000 : Int32)) hx hb dX10_few_9 (by decide) ?_
  obtain ⟨r3, hc4, hf⟩ := ob_some hf
  refine kc_i (k_runS ⟨hx, hb, hml, hown, hts⟩ (c_X10_within hc4) (va_cwS 3 hts gX10_few_X10_within rfl rfl rfl (by decide +kernel) ⟨Nat.le_of_ble_eq_true rfl, Nat.le_of_ble_eq_true rfl⟩) hK hN hP hD kA_0 rfl hl.1 rfl (Nat.le_of_ble_eq_true rfl) dX10_few_12 ⟨(Nat.le_of_ble_eq_true rfl), (Nat.le_of_ble_eq_true rfl)⟩) hP hD hS hA kI_0 (fun _ H locs hP hD hS => ?_)
  refine lv_if_eq (tgt := 28) hx hb dX10_few_15 (by decide) (fun c5 => ?_) (fun c5 => ?_)
  · have hf := if_t hf c5
    refine lv_iconst (v := (-1 : Int32)) hx hb dX10_few_28 (by decide) ?_
    refine W.widen (k := 0) (n := 0) (Nat.le_of_ble_eq_true rfl) (Nat.le_of_ble_eq_true rfl) ?_
    obtain rfl := Option.some.inj hf
    exact hQ (kU []) 29 _ _ _ dX10_few_29 hP hD hS
  · have hf := if_f hf c5
    refine lv_iload hx hb dX10_few_18 (lv_at hl 0 rfl) ?_
    refine lv_if_eq (tgt := 28) hx hb dX10_few_20 (by decide) (fun c6 => ?_) (fun c6 => ?_)
    · have hf := if_t hf c6
      refine lv_iconst (v := (-1 : Int32)) hx hb dX10_few_28 (by decide) ?_
      refine W.widen (k := 0) (n := 0) (Nat.le_of_ble_eq_true rfl) (Nat.le_of_ble_eq_true rfl) ?_
      obtain rfl := Option.some.inj hf
      exact hQ (kU []) 29 _ _ _ dX10_few_29 hP hD hS
    · have hf := if_f hf c6
      refine lv_iload_n hx hb dX10_few_23 rfl (lv_at hl 4 rfl) ?_
      refine lv_iconst (v := (-1 : Int32)) hx hb dX10_few_24 (by decide) ?_
      refine lv_icmp_ge (tgt := 30) hx hb dX10_few_25 (by decide) (fun c7 => ?_) (fun c7 => ?_)
      · have hf := if_t hf c7
        refine lv_aload_n hx hb dX10_few_30 rfl (lv_at hl 1 rfl) ?_
        refine lv_iconst (v := (0 : Int32)) hx hb dX10_few_31 (by decide) ?_
        refine lv_iload_n hx hb dX10_few_32 rfl (lv_at hl 2 rfl) ?_
        refine lv_iload hx hb dX10_few_33 (lv_at hl 0 rfl) ?_
        refine lv_iload_n hx hb dX10_few_35 rfl (lv_at hl 4 rfl) ?_
        exact no_some hf
      · have hf := if_f hf c7
        refine lv_iconst (v := (-1 : Int32)) hx hb dX10_few_28 (by decide) ?_
        refine W.widen (k := 0) (n := 0) (Nat.le_of_ble_eq_true rfl) (Nat.le_of_ble_eq_true rfl) ?_
        obtain rfl := Option.some.inj hf
        exact hQ (kU []) 29 _ _ _ dX10_few_29 hP hD hS
def f_X10_withAll_N (F : Nat) (a1 : Int32) (a2 : Int32) (a3 : Int32) (g_base : Int32) : Option (Int32 × (Nat → Int32) × (Nat → Int32) × (Nat → Int32) × Int32 × Int32 × Int32 × Int32 × Int32 × Int32 × Int32 × Int32 × Int32) := (f_X10_figuresOfBase F a2 g_base).bind (fun r1 => (f_X10_within F a1 (1 : Int32) (200 : Int32)).bind (fun r3 => if r3 = 0 then (none) else ((f_J6_bitCount_0f7a4 F r1).bind (fun r6 => (f_X10_within F r6 (1 : Int32) (8 : Int32)).bind (fun r8 => if r8 = 0 then (none) else (if (-1 : Int32) ≤ a3 then ((f_X10_searched_N F (1 : Int32) a1 r1 a3 g_base).bind (fun r12 => some (r12.1, r12.2.1, r12.2.2.1, r12.2.2.2.1, r12.2.2.2.2.1, r12.2.2.2.2.2.1, r12.2.2.2.2.2.2.1, r12.2.2.2.2.2.2.2.1, r12.2.2.2.2.2.2.2.2.1, r12.2.2.2.2.2.2.2.2.2.1, r12.2.2.2.2.2.2.2.2.2.2.1, r12.2.2.2.2.2.2.2.2.2.2.2.1, r12.2.2.2.2.2.2.2.2.2.2.2.2))) else (none)))))))
abbrev rmX10_withAll_N : Room := { frames := 5, cells := 4, slots := 102428, locals := 119 }
set_option maxHeartbeats 1000000 in
set_option maxRecDepth 100000 in
theorem c_X10_withAll_N {l : Launch} {D : va_G} {cy : Nat → ClassId} {qX : Nat → Nat} {qG : Nat → Nat} {qP : Nat → Nat} {qR : Nat → Nat} {oS : Option Nat} {oB : Option Nat} {oN : Option Nat} {oL : Option Nat} {x_ways : Nat → Option Nat} {g_base : Int32} {g_worth : Nat → Int32} {g_row : Nat → Int32} {g_many : Nat → Int32} {g_version : Int32} {a1 : Int32} {a2 : Int32} {a3 : Int32} {F : Nat} {res : Int32 × (Nat → Int32) × (Nat → Int32) × (Nat → Int32) × Int32 × Int32 × Int32 × Int32 × Int32 × Int32 × Int32 × Int32 × Int32} (hf : f_X10_withAll_N F a1 a2 a3 g_base = some res) : kM l yX10_withAll wsX10_withAll rmX10_withAll_N D cy [.ref (qX 0), .int a1, .int a2, .int a3] (gX cy qX (qG 0) (qP 0) (qR 0) oS oB none oN oL x_ways ++ (gG cy qG g_base g_worth g_row g_many g_version)) (kQi D cy (fun u : Nat → Nat → Nat => gX cy qX (qG 0) (qP 0) (qR 0) oS oB (some ((u 0) 0)) oN oL x_ways ++ (gG cy qG g_base g_worth g_row g_many g_version ++ (gE cy (u 0) res.2.1 res.2.2.1 res.2.2.2.1 res.2.2.2.2.1 res.2.2.2.2.2.1 res.2.2.2.2.2.2.1 res.2.2.2.2.2.2.2.1 res.2.2.2.2.2.2.2.2.1 res.2.2.2.2.2.2.2.2.2.1 res.2.2.2.2.2.2.2.2.2.2.1 res.2.2.2.2.2.2.2.2.2.2.2.1 res.2.2.2.2.2.2.2.2.2.2.2.2))) res.1) := by
  refine kent_i (cc := cX10_withAll) (maxL := 5) (by decide) rfl (Nat.le_of_ble_eq_true rfl) ?_
  intro p e0 s m ar below meth c A Q ls ⟨hx, hb, hml, hr, hts, hown, hlocks, hnm⟩ hA hK hN hQ hP hD hS hl
  have hl : lv_has ls 5 [(0, .ref (qX 0)), (1, .int a1), (2, .int a2), (3, .int a3)] := hl
  have hown : s.vm.findClass RX10 = some m.cls := hown
  unfold f_X10_withAll_N at hf
  refine lv_aload_n hx hb dX10_withAll_0 rfl (lv_at hl 0 rfl) ?_
  refine lv_iload_n hx hb dX10_withAll_1 rfl (lv_at hl 2 rfl) ?_
  obtain ⟨r1, hc2, hf⟩ := ob_some hf
  refine kc_i (k_run ⟨hx, hb, hml, hown, hts⟩ (c_X10_figuresOfBase hc2) (cwV 1 hts gX10_withAll_X10_figuresOfBase rfl rfl rfl (by decide +kernel) ⟨Nat.le_of_ble_eq_true rfl, Nat.le_of_ble_eq_true rfl⟩) hK hN hP hD kA_s (ci := 10) (q0 := 0) rfl rfl rfl rfl hl.1 rfl (Nat.le_of_ble_eq_true rfl) dX10_withAll_2 ⟨(Nat.le_of_ble_eq_true rfl), (Nat.le_of_ble_eq_true rfl)⟩) hP hD hS hA kI_s (fun _ H locs hP hD hS => ?_)
  refine lv_istore (lv' := [(4, .int r1), (0, .ref (qX 0)), (1, .int a1), (2, .int a2), (3, .int a3)]) hx hb dX10_withAll_5 hl (by decide) rfl (fun ls hl => ?_)
  refine lv_iload_n hx hb dX10_withAll_7 rfl (lv_at hl 2 rfl) ?_
  refine lv_iconst (v := (1 : Int32)) hx hb dX10_withAll_8 (by decide) ?_
  refine lv_sipush (v := (200 : Int32)) hx hb dX10_withAll_9 (by decide) ?_
  obtain ⟨r3, hc4, hf⟩ := ob_some hf
  refine kc_i (k_runS ⟨hx, hb, hml, hown, hts⟩ (c_X10_within hc4) (va_cwS 3 hts gX10_withAll_X10_within rfl rfl rfl (by decide +kernel) ⟨Nat.le_of_ble_eq_true rfl, Nat.le_of_ble_eq_true rfl⟩) hK hN hP hD kA_0 rfl hl.1 rfl (Nat.le_of_ble_eq_true rfl) dX10_withAll_12 ⟨(Nat.le_of_ble_eq_true rfl), (Nat.le_of_ble_eq_true rfl)⟩) hP hD hS hA kI_0 (fun _ H locs hP hD hS => ?_)
  refine lv_if_eq (tgt := 37) hx hb dX10_withAll_15 (by decide) (fun c5 => ?_) (fun c5 => ?_)
  · have hf := if_t hf c5
    refine lv_iconst (v := (-1 : Int32)) hx hb dX10_withAll_37 (by decide) ?_
    exact no_some hf
  · have hf := if_f hf c5
    refine lv_iload hx hb dX10_withAll_18 (lv_at hl 0 rfl) ?_
    obtain ⟨r6, hc7, hf⟩ := ob_some hf
    refine kc_i (k_runS ⟨hx, hb, hml, hown, hts⟩ (c_J6_bitCount_0f7a4 hc7) (va_cwS 1 hts gX10_withAll_J6_bitCount_0f7a4 rfl rfl rfl (by decide +kernel) ⟨Nat.le_of_ble_eq_true rfl, Nat.le_of_ble_eq_true rfl⟩) hK hN hP hD kA_0 rfl hl.1 rfl (Nat.le_of_ble_eq_true rfl) dX10_withAll_20 ⟨(Nat.le_of_ble_eq_true rfl), (Nat.le_of_ble_eq_true rfl)⟩) hP hD hS hA kI_0 (fun _ H locs hP hD hS => ?_)
    refine lv_iconst (v := (1 : Int32)) hx hb dX10_withAll_23 (by decide) ?_
    refine lv_bipush (v := (8 : Int32)) hx hb dX10_withAll_24 (by decide) ?_
    obtain ⟨r8, hc9, hf⟩ := ob_some hf
    refine kc_i (k_runS ⟨hx, hb, hml, hown, hts⟩ (c_X10_within hc9) (va_cwS 3 hts gX10_withAll_X10_within rfl rfl rfl (by decide +kernel) ⟨Nat.le_of_ble_eq_true rfl, Nat.le_of_ble_eq_true rfl⟩) hK hN hP hD kA_0 rfl hl.1 rfl (Nat.le_of_ble_eq_true rfl) dX10_withAll_26 ⟨(Nat.le_of_ble_eq_true rfl), (Nat.le_of_ble_eq_true rfl)⟩) hP hD hS hA kI_0 (fun _ H locs hP hD hS => ?_)
    refine lv_if_eq (tgt := 37) hx hb dX10_withAll_29 (by decide) (fun c10 => ?_) (fun c10 => ?_)
    · have hf := if_t hf c10
      refine lv_iconst (v := (-1 : Int32)) hx hb dX10_withAll_37 (by decide) ?_
      exact no_some hf
    · have hf := if_f hf c10
      refine lv_iload_n hx hb dX10_withAll_32 rfl (lv_at hl 4 rfl) ?_
      refine lv_iconst (v := (-1 : Int32)) hx hb dX10_withAll_33 (by decide) ?_
      refine lv_icmp_ge (tgt := 39) hx hb dX10_withAll_34 (by decide) (fun c11 => ?_) (fun c11 => ?_)
      · have hf := if_t hf c11
        refine lv_aload_n hx hb dX10_withAll_39 rfl (lv_at hl 1 rfl) ?_
        refine lv_iconst (v := (1 : Int32)) hx hb dX10_withAll_40 (by decide) ?_
        refine lv_iload_n hx hb dX10_withAll_41 rfl (lv_at hl 2 rfl) ?_
        refine lv_iload hx hb dX10_withAll_42 (lv_at hl 0 rfl) ?_
        refine lv_iload_n hx hb dX10_withAll_44 rfl (lv_at hl 4 rfl) ?_
        obtain ⟨r12, hc13, hf⟩ := ob_some hf
        have hI14 : kIn (gX cy qX (qG 0) (qP 0) (qR 0) oS oB none oN oL x_ways ++ (gG cy qG g_base g_worth g_row g_many g_version)) (gX cy qX (qG 0) (qP 0) (qR 0) oS oB none oN oL x_ways ++ (gG cy qG g_base g_worth g_row g_many g_version)) (kpick (gX cy qX (qG 0) (qP 0) (qR 0) oS oB none oN oL x_ways ++ (gG cy qG g_base g_worth g_row g_many g_version)) []) (fun u : Nat → Nat → Nat => gX cy qX (qG 0) (qP 0) (qR 0) oS oB (some ((u 0) 0)) oN oL x_ways ++ (gG cy qG g_base g_worth g_row g_many g_version ++ (gE cy (u 0) r12.2.1 r12.2.2.1 r12.2.2.2.1 r12.2.2.2.2.1 r12.2.2.2.2.2.1 r12.2.2.2.2.2.2.1 r12.2.2.2.2.2.2.2.1 r12.2.2.2.2.2.2.2.2.1 r12.2.2.2.2.2.2.2.2.2.1 r12.2.2.2.2.2.2.2.2.2.2.1 r12.2.2.2.2.2.2.2.2.2.2.2.1 r12.2.2.2.2.2.2.2.2.2.2.2.2))) (fun u : Nat → Nat → Nat => gX cy qX (qG 0) (qP 0) (qR 0) oS oB (some ((u 0) 0)) oN oL x_ways ++ (gG cy qG g_base g_worth g_row g_many g_version ++ (gE cy (u 0) r12.2.1 r12.2.2.1 r12.2.2.2.1 r12.2.2.2.2.1 r12.2.2.2.2.2.1 r12.2.2.2.2.2.2.1 r12.2.2.2.2.2.2.2.1 r12.2.2.2.2.2.2.2.2.1 r12.2.2.2.2.2.2.2.2.2.1 r12.2.2.2.2.2.2.2.2.2.2.1 r12.2.2.2.2.2.2.2.2.2.2.2.1 r12.2.2.2.2.2.2.2.2.2.2.2.2))) [0, 1, 2, 3, 4, 5] [] [0, 1, 2, 3, 4, 5, 6, 7, 8, 9] := ⟨rfl, rfl, rfl, rfl, by decide, rfl, fun _ => rfl⟩
        refine kc_i (k_run ⟨hx, hb, hml, hown, hts⟩ (c_X10_searched_N hc13) (cwV 4 hts gX10_withAll_X10_searched rfl rfl rfl (by decide +kernel) ⟨Nat.le_of_ble_eq_true rfl, Nat.le_of_ble_eq_true rfl⟩) hK hN hP hD ⟨hI14.1, hI14.2.2.1⟩ (ci := 10) (q0 := 0) rfl rfl rfl rfl hl.1 rfl (Nat.le_of_ble_eq_true rfl) dX10_withAll_45 ⟨(Nat.le_of_ble_eq_true rfl), (Nat.le_of_ble_eq_true rfl)⟩) hP hD hS hA hI14 (fun u15 H locs hP hD hS => ?_)
        obtain ⟨qE, hqE⟩ : ∃ z : Nat → Nat, z = u15 0 := ⟨_, rfl⟩
        rw [← hqE] at hP hD
        have hP : va_P D vwCl (gX cy qX (qG 0) (qP 0) (qR 0) oS oB (some (qE 0)) oN oL x_ways ++ (gG cy qG g_base g_worth g_row g_many g_version ++ (gE cy qE r12.2.1 r12.2.2.1 r12.2.2.2.1 r12.2.2.2.2.1 r12.2.2.2.2.2.1 r12.2.2.2.2.2.2.1 r12.2.2.2.2.2.2.2.1 r12.2.2.2.2.2.2.2.2.1 r12.2.2.2.2.2.2.2.2.2.1 r12.2.2.2.2.2.2.2.2.2.2.1 r12.2.2.2.2.2.2.2.2.2.2.2.1 r12.2.2.2.2.2.2.2.2.2.2.2.2))) H := hP
        have hD : va_D A (gX cy qX (qG 0) (qP 0) (qR 0) oS oB (some (qE 0)) oN oL x_ways ++ (gG cy qG g_base g_worth g_row g_many g_version ++ (gE cy qE r12.2.1 r12.2.2.1 r12.2.2.2.1 r12.2.2.2.2.1 r12.2.2.2.2.2.1 r12.2.2.2.2.2.2.1 r12.2.2.2.2.2.2.2.1 r12.2.2.2.2.2.2.2.2.1 r12.2.2.2.2.2.2.2.2.2.1 r12.2.2.2.2.2.2.2.2.2.2.1 r12.2.2.2.2.2.2.2.2.2.2.2.1 r12.2.2.2.2.2.2.2.2.2.2.2.2))) := hD
        refine W.widen (k := 4) (n := 102428) (Nat.le_of_ble_eq_true rfl) (Nat.le_of_ble_eq_true rfl) ?_
        refine W.widen (k := 4) (n := 102428) (Nat.le_of_ble_eq_true rfl) (Nat.le_of_ble_eq_true rfl) ?_
        obtain rfl := Option.some.inj hf
        exact hQ (kU [qE]) 48 _ _ _ dX10_withAll_48 hP hD hS
      · have hf := if_f hf c11
        refine lv_iconst (v := (-1 : Int32)) hx hb dX10_withAll_37 (by decide) ?_
        exact no_some hf
def f_X10_withAll_B (F : Nat) (a1 : Int32) (a2 : Int32) (a3 : Int32) (g_base : Int32) : Option (Int32) := (f_X10_figuresOfBase F a2 g_base).bind (fun r1 => (f_X10_within F a1 (1 : Int32) (200 : Int32)).bind (fun r3 => if r3 = 0 then (some (-1 : Int32)) else ((f_J6_bitCount_0f7a4 F r1).bind (fun r6 => (f_X10_within F r6 (1 : Int32) (8 : Int32)).bind (fun r8 => if r8 = 0 then (some (-1 : Int32)) else (if (-1 : Int32) ≤ a3 then (none) else (some (-1 : Int32))))))))
abbrev rmX10_withAll_B : Room := { frames := 1, cells := 0, slots := 0, locals := 22 }
set_option maxHeartbeats 1000000 in
set_option maxRecDepth 100000 in
theorem c_X10_withAll_B {l : Launch} {D : va_G} {cy : Nat → ClassId} {qX : Nat → Nat} {qG : Nat → Nat} {qP : Nat → Nat} {qR : Nat → Nat} {oS : Option Nat} {oB : Option Nat} {oE : Option Nat} {oN : Option Nat} {oL : Option Nat} {x_ways : Nat → Option Nat} {g_base : Int32} {g_worth : Nat → Int32} {g_row : Nat → Int32} {g_many : Nat → Int32} {g_version : Int32} {a1 : Int32} {a2 : Int32} {a3 : Int32} {F : Nat} {res : Int32} (hf : f_X10_withAll_B F a1 a2 a3 g_base = some res) : kM l yX10_withAll wsX10_withAll rmX10_withAll_B D cy [.ref (qX 0), .int a1, .int a2, .int a3] (gX cy qX (qG 0) (qP 0) (qR 0) oS oB oE oN oL x_ways ++ (gG cy qG g_base g_worth g_row g_many g_version)) (kQi D cy (fun u : Nat → Nat → Nat => gX cy qX (qG 0) (qP 0) (qR 0) oS oB oE oN oL x_ways ++ (gG cy qG g_base g_worth g_row g_many g_version)) res) := by
  refine kent_i (cc := cX10_withAll) (maxL := 5) (by decide) rfl (Nat.le_of_ble_eq_true rfl) ?_
  intro p e0 s m ar below meth c A Q ls ⟨hx, hb, hml, hr, hts, hown, hlocks, hnm⟩ hA hK hN hQ hP hD hS hl
  have hl : lv_has ls 5 [(0, .ref (qX 0)), (1, .int a1), (2, .int a2), (3, .int a3)] := hl
  have hown : s.vm.findClass RX10 = some m.cls := hown
  unfold f_X10_withAll_B at hf
  refine lv_aload_n hx hb dX10_withAll_0 rfl (lv_at hl 0 rfl) ?_
  refine lv_iload_n hx hb dX10_withAll_1 rfl (lv_at hl 2 rfl) ?_
  obtain ⟨r1, hc2, hf⟩ := ob_some hf
  refine kc_i (k_run ⟨hx, hb, hml, hown, hts⟩ (c_X10_figuresOfBase hc2) (cwV 1 hts gX10_withAll_X10_figuresOfBase rfl rfl rfl (by decide +kernel) ⟨Nat.le_of_ble_eq_true rfl, Nat.le_of_ble_eq_true rfl⟩) hK hN hP hD kA_s (ci := 10) (q0 := 0) rfl rfl rfl rfl hl.1 rfl (Nat.le_of_ble_eq_true rfl) dX10_withAll_2 ⟨(Nat.le_of_ble_eq_true rfl), (Nat.le_of_ble_eq_true rfl)⟩) hP hD hS hA kI_s (fun _ H locs hP hD hS => ?_)
  refine lv_istore (lv' := [(4, .int r1), (0, .ref (qX 0)), (1, .int a1), (2, .int a2), (3, .int a3)]) hx hb dX10_withAll_5 hl (by decide) rfl (fun ls hl => ?_)
  refine lv_iload_n hx hb dX10_withAll_7 rfl (lv_at hl 2 rfl) ?_
  refine lv_iconst (v := (1 : Int32)) hx hb dX10_withAll_8 (by decide) ?_
  refine lv_sipush (v := (200 : Int32)) hx hb dX10_withAll_9 (by decide) ?_
  obtain ⟨r3, hc4, hf⟩ := ob_some hf
  refine kc_i (k_runS ⟨hx, hb, hml, hown, hts⟩ (c_X10_within hc4) (va_cwS 3 hts gX10_withAll_X10_within rfl rfl rfl (by decide +kernel) ⟨Nat.le_of_ble_eq_true rfl, Nat.le_of_ble_eq_true rfl⟩) hK hN hP hD kA_0 rfl hl.1 rfl (Nat.le_of_ble_eq_true rfl) dX10_withAll_12 ⟨(Nat.le_of_ble_eq_true rfl), (Nat.le_of_ble_eq_true rfl)⟩) hP hD hS hA kI_0 (fun _ H locs hP hD hS => ?_)
  refine lv_if_eq (tgt := 37) hx hb dX10_withAll_15 (by decide) (fun c5 => ?_) (fun c5 => ?_)
  · have hf := if_t hf c5
    refine lv_iconst (v := (-1 : Int32)) hx hb dX10_withAll_37 (by decide) ?_
    refine W.widen (k := 0) (n := 0) (Nat.le_of_ble_eq_true rfl) (Nat.le_of_ble_eq_true rfl) ?_
    obtain rfl := Option.some.inj hf
    exact hQ (kU []) 38 _ _ _ dX10_withAll_38 hP hD hS
  · have hf := if_f hf c5
    refine lv_iload hx hb dX10_withAll_18 (lv_at hl 0 rfl) ?_
    obtain ⟨r6, hc7, hf⟩ := ob_some hf
    refine kc_i (k_runS ⟨hx, hb, hml, hown, hts⟩ (c_J6_bitCount_0f7a4 hc7) (va_cwS 1 hts gX10_withAll_J6_bitCount_0f7a4 rfl rfl rfl (by decide +kernel) ⟨Nat.le_of_ble_eq_true rfl, Nat.le_of_ble_eq_true rfl⟩) hK hN hP hD kA_0 rfl hl.1 rfl (Nat.le_of_ble_eq_true rfl) dX10_withAll_20 ⟨(Nat.le_of_ble_eq_true rfl), (Nat.le_of_ble_eq_true rfl)⟩) hP hD hS hA kI_0 (fun _ H locs hP hD hS => ?_)
    refine lv_iconst (v := (1 : Int32)) hx hb dX10_withAll_23 (by decide) ?_
    refine lv_bipush (v := (8 : Int32)) hx hb dX10_withAll_24 (by decide) ?_
    obtain ⟨r8, hc9, hf⟩ := ob_some hf
    refine kc_i (k_runS ⟨hx, hb, hml, hown, hts⟩ (c_X10_within hc9) (va_cwS 3 hts gX10_withAll_X10_within rfl rfl rfl (by decide +kernel) ⟨Nat.le_of_ble_eq_true rfl, Nat.le_of_ble_eq_true rfl⟩) hK hN hP hD kA_0 rfl hl.1 rfl (Nat.le_of_ble_eq_true rfl) dX10_withAll_26 ⟨(Nat.le_of_ble_eq_true rfl), (Nat.le_of_ble_eq_true rfl)⟩) hP hD hS hA kI_0 (fun _ H locs hP hD hS => ?_)
    refine lv_if_eq (tgt := 37) hx hb dX10_withAll_29 (by decide) (fun c10 => ?_) (fun c10 => ?_)
    · have hf := if_t hf c10
      refine lv_iconst (v := (-1 : Int32)) hx hb dX10_withAll_37 (by decide) ?_
      refine W.widen (k := 0) (n := 0) (Nat.le_of_ble_eq_true rfl) (Nat.le_of_ble_eq_true rfl) ?_
      obtain rfl := Option.some.inj hf
      exact hQ (kU []) 38 _ _ _ dX10_withAll_38 hP hD hS
    · have hf := if_f hf c10
      refine lv_iload_n hx hb dX10_withAll_32 rfl (lv_at hl 4 rfl) ?_
      refine lv_iconst (v := (-1 : Int32)) hx hb dX10_withAll_33 (by decide) ?_
      refine lv_icmp_ge (tgt := 39) hx hb dX10_withAll_34 (by decide) (fun c11 => ?_) (fun c11 => ?_)
      · have hf := if_t hf c11
        refine lv_aload_n hx hb dX10_withAll_39 rfl (lv_at hl 1 rfl) ?_
        refine lv_iconst (v := (1 : Int32)) hx hb dX10_withAll_40 (by decide) ?_
        refine lv_iload_n hx hb dX10_withAll_41 rfl (lv_at hl 2 rfl) ?_
        refine lv_iload hx hb dX10_withAll_42 (lv_at hl 0 rfl) ?_
        refine lv_iload_n hx hb dX10_withAll_44 rfl (lv_at hl 4 rfl) ?_
        exact no_some hf
      · have hf := if_f hf c11
        refine lv_iconst (v := (-1 : Int32)) hx hb dX10_withAll_37 (by decide) ?_
        refine W.widen (k := 0) (n := 0) (Nat.le_of_ble_eq_true rfl) (Nat.le_of_ble_eq_true rfl) ?_
        obtain rfl := Option.some.inj hf
        exact hQ (kU []) 38 _ _ _ dX10_withAll_38 hP hD hS
def f_X10_summed_N (F : Nat) (a1 : Int32) (a2 : Int32) (a3 : Int32) (g_base : Int32) : Option (Int32 × (Nat → Int32) × (Nat → Int32) × (Nat → Int32) × Int32 × Int32 × Int32 × Int32 × Int32 × Int32 × Int32 × Int32 × Int32) := (f_X10_within F a1 (1 : Int32) (300 : Int32)).bind (fun r1 => if r1 = 0 then (none) else ((f_X10_within F a2 (1 : Int32) (60 : Int32)).bind (fun r4 => if r4 = 0 then (none) else (if (-1 : Int32) ≤ a3 then ((f_X10_searched_N F (2 : Int32) a1 a2 a3 g_base).bind (fun r8 => some (r8.1, r8.2.1, r8.2.2.1, r8.2.2.2.1, r8.2.2.2.2.1, r8.2.2.2.2.2.1, r8.2.2.2.2.2.2.1, r8.2.2.2.2.2.2.2.1, r8.2.2.2.2.2.2.2.2.1, r8.2.2.2.2.2.2.2.2.2.1, r8.2.2.2.2.2.2.2.2.2.2.1, r8.2.2.2.2.2.2.2.2.2.2.2.1, r8.2.2.2.2.2.2.2.2.2.2.2.2))) else (none)))))
abbrev rmX10_summed_N : Room := { frames := 5, cells := 4, slots := 102428, locals := 119 }
set_option maxHeartbeats 1000000 in
set_option maxRecDepth 100000 in
theorem c_X10_summed_N {l : Launch} {D : va_G} {cy : Nat → ClassId} {qX : Nat → Nat} {qG : Nat → Nat} {qP : Nat → Nat} {qR : Nat → Nat} {oS : Option Nat} {oB : Option Nat} {oN : Option Nat} {oL : Option Nat} {x_ways : Nat → Option Nat} {g_base : Int32} {g_worth : Nat → Int32} {g_row : Nat → Int32} {g_many : Nat → Int32} {g_version : Int32} {a1 : Int32} {a2 : Int32} {a3 : Int32} {F : Nat} {res : Int32 × (Nat → Int32) × (Nat → Int32) × (Nat → Int32) × Int32 × Int32 × Int32 × Int32 × Int32 × Int32 × Int32 × Int32 × Int32} (hf : f_X10_summed_N F a1 a2 a3 g_base = some res) : kM l yX10_summed wsX10_summed rmX10_summed_N D cy [.ref (qX 0), .int a1, .int a2, .int a3] (gX cy qX (qG 0) (qP 0) (qR 0) oS oB none oN oL x_ways ++ (gG cy qG g_base g_worth g_row g_many g_version)) (kQi D cy (fun u : Nat → Nat → Nat => gX cy qX (qG 0) (qP 0) (qR 0) oS oB (some ((u 0) 0)) oN oL x_ways ++ (gG cy qG g_base g_worth g_row g_many g_version ++ (gE cy (u 0) res.2.1 res.2.2.1 res.2.2.2.1 res.2.2.2.2.1 res.2.2.2.2.2.1 res.2.2.2.2.2.2.1 res.2.2.2.2.2.2.2.1 res.2.2.2.2.2.2.2.2.1 res.2.2.2.2.2.2.2.2.2.1 res.2.2.2.2.2.2.2.2.2.2.1 res.2.2.2.2.2.2.2.2.2.2.2.1 res.2.2.2.2.2.2.2.2.2.2.2.2))) res.1) := by
  refine kent_i (cc := cX10_summed) (maxL := 4) (by decide) rfl (Nat.le_of_ble_eq_true rfl) ?_
  intro p e0 s m ar below meth c A Q ls ⟨hx, hb, hml, hr, hts, hown, hlocks, hnm⟩ hA hK hN hQ hP hD hS hl
  have hl : lv_has ls 4 [(0, .ref (qX 0)), (1, .int a1), (2, .int a2), (3, .int a3)] := hl
  have hown : s.vm.findClass RX10 = some m.cls := hown
  unfold f_X10_summed_N at hf
  refine lv_iload_n hx hb dX10_summed_0 rfl (lv_at hl 1 rfl) ?_
  refine lv_iconst (v := (1 : Int32)) hx hb dX10_summed_1 (by decide) ?_
  refine lv_sipush (v := (300 : Int32)) hx hb dX10_summed_2 (by decide) ?_
  obtain ⟨r1, hc2, hf⟩ := ob_some hf
  refine kc_i (k_runS ⟨hx, hb, hml, hown, hts⟩ (c_X10_within hc2) (va_cwS 3 hts gX10_summed_X10_within rfl rfl rfl (by decide +kernel) ⟨Nat.le_of_ble_eq_true rfl, Nat.le_of_ble_eq_true rfl⟩) hK hN hP hD kA_0 rfl hl.1 rfl (Nat.le_of_ble_eq_true rfl) dX10_summed_5 ⟨(Nat.le_of_ble_eq_true rfl), (Nat.le_of_ble_eq_true rfl)⟩) hP hD hS hA kI_0 (fun _ H locs hP hD hS => ?_)
  refine lv_if_eq (tgt := 26) hx hb dX10_summed_8 (by decide) (fun c3 => ?_) (fun c3 => ?_)
  · have hf := if_t hf c3
    refine lv_iconst (v := (-1 : Int32)) hx hb dX10_summed_26 (by decide) ?_
    exact no_some hf
  · have hf := if_f hf c3
    refine lv_iload_n hx hb dX10_summed_11 rfl (lv_at hl 2 rfl) ?_
    refine lv_iconst (v := (1 : Int32)) hx hb dX10_summed_12 (by decide) ?_
    refine lv_bipush (v := (60 : Int32)) hx hb dX10_summed_13 (by decide) ?_
    obtain ⟨r4, hc5, hf⟩ := ob_some hf
    refine kc_i (k_runS ⟨hx, hb, hml, hown, hts⟩ (c_X10_within hc5) (va_cwS 3 hts gX10_summed_X10_within rfl rfl rfl (by decide +kernel) ⟨Nat.le_of_ble_eq_true rfl, Nat.le_of_ble_eq_true rfl⟩) hK hN hP hD kA_0 rfl hl.1 rfl (Nat.le_of_ble_eq_true rfl) dX10_summed_15 ⟨(Nat.le_of_ble_eq_true rfl), (Nat.le_of_ble_eq_true rfl)⟩) hP hD hS hA kI_0 (fun _ H locs hP hD hS => ?_)
    refine lv_if_eq (tgt := 26) hx hb dX10_summed_18 (by decide) (fun c6 => ?_) (fun c6 => ?_)
    · have hf := if_t hf c6
      refine lv_iconst (v := (-1 : Int32)) hx hb dX10_summed_26 (by decide) ?_
      exact no_some hf
    · have hf := if_f hf c6
      refine lv_iload_n hx hb dX10_summed_21 rfl (lv_at hl 3 rfl) ?_
      refine lv_iconst (v := (-1 : Int32)) hx hb dX10_summed_22 (by decide) ?_
      refine lv_icmp_ge (tgt := 28) hx hb dX10_summed_23 (by decide) (fun c7 => ?_) (fun c7 => ?_)
      · have hf := if_t hf c7
        refine lv_aload_n hx hb dX10_summed_28 rfl (lv_at hl 0 rfl) ?_
        refine lv_iconst (v := (2 : Int32)) hx hb dX10_summed_29 (by decide) ?_
        refine lv_iload_n hx hb dX10_summed_30 rfl (lv_at hl 1 rfl) ?_
        refine lv_iload_n hx hb dX10_summed_31 rfl (lv_at hl 2 rfl) ?_
        refine lv_iload_n hx hb dX10_summed_32 rfl (lv_at hl 3 rfl) ?_
        obtain ⟨r8, hc9, hf⟩ := ob_some hf
        have hI10 : kIn (gX cy qX (qG 0) (qP 0) (qR 0) oS oB none oN oL x_ways ++ (gG cy qG g_base g_worth g_row g_many g_version)) (gX cy qX (qG 0) (qP 0) (qR 0) oS oB none oN oL x_ways ++ (gG cy qG g_base g_worth g_row g_many g_version)) (kpick (gX cy qX (qG 0) (qP 0) (qR 0) oS oB none oN oL x_ways ++ (gG cy qG g_base g_worth g_row g_many g_version)) []) (fun u : Nat → Nat → Nat => gX cy qX (qG 0) (qP 0) (qR 0) oS oB (some ((u 0) 0)) oN oL x_ways ++ (gG cy qG g_base g_worth g_row g_many g_version ++ (gE cy (u 0) r8.2.1 r8.2.2.1 r8.2.2.2.1 r8.2.2.2.2.1 r8.2.2.2.2.2.1 r8.2.2.2.2.2.2.1 r8.2.2.2.2.2.2.2.1 r8.2.2.2.2.2.2.2.2.1 r8.2.2.2.2.2.2.2.2.2.1 r8.2.2.2.2.2.2.2.2.2.2.1 r8.2.2.2.2.2.2.2.2.2.2.2.1 r8.2.2.2.2.2.2.2.2.2.2.2.2))) (fun u : Nat → Nat → Nat => gX cy qX (qG 0) (qP 0) (qR 0) oS oB (some ((u 0) 0)) oN oL x_ways ++ (gG cy qG g_base g_worth g_row g_many g_version ++ (gE cy (u 0) r8.2.1 r8.2.2.1 r8.2.2.2.1 r8.2.2.2.2.1 r8.2.2.2.2.2.1 r8.2.2.2.2.2.2.1 r8.2.2.2.2.2.2.2.1 r8.2.2.2.2.2.2.2.2.1 r8.2.2.2.2.2.2.2.2.2.1 r8.2.2.2.2.2.2.2.2.2.2.1 r8.2.2.2.2.2.2.2.2.2.2.2.1 r8.2.2.2.2.2.2.2.2.2.2.2.2))) [0, 1, 2, 3, 4, 5] [] [0, 1, 2, 3, 4, 5, 6, 7, 8, 9] := ⟨rfl, rfl, rfl, rfl, by decide, rfl, fun _ => rfl⟩
        refine kc_i (k_run ⟨hx, hb, hml, hown, hts⟩ (c_X10_searched_N hc9) (cwV 4 hts gX10_summed_X10_searched rfl rfl rfl (by decide +kernel) ⟨Nat.le_of_ble_eq_true rfl, Nat.le_of_ble_eq_true rfl⟩) hK hN hP hD ⟨hI10.1, hI10.2.2.1⟩ (ci := 10) (q0 := 0) rfl rfl rfl rfl hl.1 rfl (Nat.le_of_ble_eq_true rfl) dX10_summed_33 ⟨(Nat.le_of_ble_eq_true rfl), (Nat.le_of_ble_eq_true rfl)⟩) hP hD hS hA hI10 (fun u11 H locs hP hD hS => ?_)
        obtain ⟨qE, hqE⟩ : ∃ z : Nat → Nat, z = u11 0 := ⟨_, rfl⟩
        rw [← hqE] at hP hD
        have hP : va_P D vwCl (gX cy qX (qG 0) (qP 0) (qR 0) oS oB (some (qE 0)) oN oL x_ways ++ (gG cy qG g_base g_worth g_row g_many g_version ++ (gE cy qE r8.2.1 r8.2.2.1 r8.2.2.2.1 r8.2.2.2.2.1 r8.2.2.2.2.2.1 r8.2.2.2.2.2.2.1 r8.2.2.2.2.2.2.2.1 r8.2.2.2.2.2.2.2.2.1 r8.2.2.2.2.2.2.2.2.2.1 r8.2.2.2.2.2.2.2.2.2.2.1 r8.2.2.2.2.2.2.2.2.2.2.2.1 r8.2.2.2.2.2.2.2.2.2.2.2.2))) H := hP
        have hD : va_D A (gX cy qX (qG 0) (qP 0) (qR 0) oS oB (some (qE 0)) oN oL x_ways ++ (gG cy qG g_base g_worth g_row g_many g_version ++ (gE cy qE r8.2.1 r8.2.2.1 r8.2.2.2.1 r8.2.2.2.2.1 r8.2.2.2.2.2.1 r8.2.2.2.2.2.2.1 r8.2.2.2.2.2.2.2.1 r8.2.2.2.2.2.2.2.2.1 r8.2.2.2.2.2.2.2.2.2.1 r8.2.2.2.2.2.2.2.2.2.2.1 r8.2.2.2.2.2.2.2.2.2.2.2.1 r8.2.2.2.2.2.2.2.2.2.2.2.2))) := hD
        refine W.widen (k := 4) (n := 102428) (Nat.le_of_ble_eq_true rfl) (Nat.le_of_ble_eq_true rfl) ?_
        refine W.widen (k := 4) (n := 102428) (Nat.le_of_ble_eq_true rfl) (Nat.le_of_ble_eq_true rfl) ?_
        obtain rfl := Option.some.inj hf
        exact hQ (kU [qE]) 36 _ _ _ dX10_summed_36 hP hD hS
      · have hf := if_f hf c7
        refine lv_iconst (v := (-1 : Int32)) hx hb dX10_summed_26 (by decide) ?_
        exact no_some hf
def f_X10_summed_B (F : Nat) (a1 : Int32) (a2 : Int32) (a3 : Int32) : Option (Int32) := (f_X10_within F a1 (1 : Int32) (300 : Int32)).bind (fun r1 => if r1 = 0 then (some (-1 : Int32)) else ((f_X10_within F a2 (1 : Int32) (60 : Int32)).bind (fun r4 => if r4 = 0 then (some (-1 : Int32)) else (if (-1 : Int32) ≤ a3 then (none) else (some (-1 : Int32))))))
abbrev rmX10_summed_B : Room := { frames := 1, cells := 0, slots := 0, locals := 22 }
set_option maxHeartbeats 1000000 in
set_option maxRecDepth 100000 in
theorem c_X10_summed_B {l : Launch} {D : va_G} {cy : Nat → ClassId} {qX : Nat → Nat} {qG : Nat → Nat} {qP : Nat → Nat} {qR : Nat → Nat} {oS : Option Nat} {oB : Option Nat} {oE : Option Nat} {oN : Option Nat} {oL : Option Nat} {x_ways : Nat → Option Nat} {g_base : Int32} {g_worth : Nat → Int32} {g_row : Nat → Int32} {g_many : Nat → Int32} {g_version : Int32} {a1 : Int32} {a2 : Int32} {a3 : Int32} {F : Nat} {res : Int32} (hf : f_X10_summed_B F a1 a2 a3 = some res) : kM l yX10_summed wsX10_summed rmX10_summed_B D cy [.ref (qX 0), .int a1, .int a2, .int a3] (gX cy qX (qG 0) (qP 0) (qR 0) oS oB oE oN oL x_ways ++ (gG cy qG g_base g_worth g_row g_many g_version)) (kQi D cy (fun u : Nat → Nat → Nat => gX cy qX (qG 0) (qP 0) (qR 0) oS oB oE oN oL x_ways ++ (gG cy qG g_base g_worth g_row g_many g_version)) res) := by
  refine kent_i (cc := cX10_summed) (maxL := 4) (by decide) rfl (Nat.le_of_ble_eq_true rfl) ?_
  intro p e0 s m ar below meth c A Q ls ⟨hx, hb, hml, hr, hts, hown, hlocks, hnm⟩ hA hK hN hQ hP hD hS hl
  have hl : lv_has ls 4 [(0, .ref (qX 0)), (1, .int a1), (2, .int a2), (3, .int a3)] := hl
  have hown : s.vm.findClass RX10 = some m.cls := hown
  unfold f_X10_summed_B at hf
  refine lv_iload_n hx hb dX10_summed_0 rfl (lv_at hl 1 rfl) ?_
  refine lv_iconst (v := (1 : Int32)) hx hb dX10_summed_1 (by decide) ?_
  refine lv_sipush (v := (300 : Int32)) hx hb dX10_summed_2 (by decide) ?_
  obtain ⟨r1, hc2, hf⟩ := ob_some hf
  refine kc_i (k_runS ⟨hx, hb, hml, hown, hts⟩ (c_X10_within hc2) (va_cwS 3 hts gX10_summed_X10_within rfl rfl rfl (by decide +kernel) ⟨Nat.le_of_ble_eq_true rfl, Nat.le_of_ble_eq_true rfl⟩) hK hN hP hD kA_0 rfl hl.1 rfl (Nat.le_of_ble_eq_true rfl) dX10_summed_5 ⟨(Nat.le_of_ble_eq_true rfl), (Nat.le_of_ble_eq_true rfl)⟩) hP hD hS hA kI_0 (fun _ H locs hP hD hS => ?_)
  refine lv_if_eq (tgt := 26) hx hb dX10_summed_8 (by decide) (fun c3 => ?_) (fun c3 => ?_)
  · have hf := if_t hf c3
    refine lv_iconst (v := (-1 : Int32)) hx hb dX10_summed_26 (by decide) ?_
    refine W.widen (k := 0) (n := 0) (Nat.le_of_ble_eq_true rfl) (Nat.le_of_ble_eq_true rfl) ?_
    obtain rfl := Option.some.inj hf
    exact hQ (kU []) 27 _ _ _ dX10_summed_27 hP hD hS
  · have hf := if_f hf c3
    refine lv_iload_n hx hb dX10_summed_11 rfl (lv_at hl 2 rfl) ?_
    refine lv_iconst (v := (1 : Int32)) hx hb dX10_summed_12 (by decide) ?_
    refine lv_bipush (v := (60 : Int32)) hx hb dX10_summed_13 (by decide) ?_
    obtain ⟨r4, hc5, hf⟩ := ob_some hf
    refine kc_i (k_runS ⟨hx, hb, hml, hown, hts⟩ (c_X10_within hc5) (va_cwS 3 hts gX10_summed_X10_within rfl rfl rfl (by decide +kernel) ⟨Nat.le_of_ble_eq_true rfl, Nat.le_of_ble_eq_true rfl⟩) hK hN hP hD kA_0 rfl hl.1 rfl (Nat.le_of_ble_eq_true rfl) dX10_summed_15 ⟨(Nat.le_of_ble_eq_true rfl), (Nat.le_of_ble_eq_true rfl)⟩) hP hD hS hA kI_0 (fun _ H locs hP hD hS => ?_)
    refine lv_if_eq (tgt := 26) hx hb dX10_summed_18 (by decide) (fun c6 => ?_) (fun c6 => ?_)
    · have hf := if_t hf c6
      refine lv_iconst (v := (-1 : Int32)) hx hb dX10_summed_26 (by decide) ?_
      refine W.widen (k := 0) (n := 0) (Nat.le_of_ble_eq_true rfl) (Nat.le_of_ble_eq_true rfl) ?_
      obtain rfl := Option.some.inj hf
      exact hQ (kU []) 27 _ _ _ dX10_summed_27 hP hD hS
    · have hf := if_f hf c6
      refine lv_iload_n hx hb dX10_summed_21 rfl (lv_at hl 3 rfl) ?_
      refine lv_iconst (v := (-1 : Int32)) hx hb dX10_summed_22 (by decide) ?_
      refine lv_icmp_ge (tgt := 28) hx hb dX10_summed_23 (by decide) (fun c7 => ?_) (fun c7 => ?_)
      · have hf := if_t hf c7
        refine lv_aload_n hx hb dX10_summed_28 rfl (lv_at hl 0 rfl) ?_
        refine lv_iconst (v := (2 : Int32)) hx hb dX10_summed_29 (by decide) ?_
        refine lv_iload_n hx hb dX10_summed_30 rfl (lv_at hl 1 rfl) ?_
        refine lv_iload_n hx hb dX10_summed_31 rfl (lv_at hl 2 rfl) ?_
        refine lv_iload_n hx hb dX10_summed_32 rfl (lv_at hl 3 rfl) ?_
        exact no_some hf
      · have hf := if_f hf c7
        refine lv_iconst (v := (-1 : Int32)) hx hb dX10_summed_26 (by decide) ?_
        refine W.widen (k := 0) (n := 0) (Nat.le_of_ble_eq_true rfl) (Nat.le_of_ble_eq_true rfl) ?_
        obtain rfl := Option.some.inj hf
        exact hQ (kU []) 27 _ _ _ dX10_summed_27 hP hD hS
def f_X10_bare_P (F : Nat) (a1 : Int32) (a2 : Int32) (g_base : Int32) (g_worth : Nat → Int32) (g_version : Int32) (l_version : Int32) (l_sums : Nat → Int32) (l_reached : Nat → Int32) : Option (Int32 × Int32 × (Nat → Int32) × (Nat → Int32)) := (f_X10_within F a1 (0 : Int32) (20000 : Int32)).bind (fun r1 => if r1 = 0 then (some ((-1 : Int32), l_version, l_sums, l_reached)) else (if (-1 : Int32) ≤ a2 then ((f_X10_liftsNow_P F g_base g_worth g_version l_version l_sums l_reached).bind (fun r5 => (f_X2_unreachedAt F a1 a2 r5.2.2).bind (fun r9 => some (r9, r5.1, r5.2.1, r5.2.2)))) else (some ((-1 : Int32), l_version, l_sums, l_reached))))
abbrev rmX10_bare_P : Room := { frames := 2, cells := 0, slots := 0, locals := 45 }
set_option maxHeartbeats 1000000 in
set_option maxRecDepth 100000 in
theorem c_X10_bare_P {l : Launch} {D : va_G} {cy : Nat → ClassId} {qX : Nat → Nat} {qG : Nat → Nat} {qP : Nat → Nat} {qR : Nat → Nat} {qL : Nat → Nat} {oS : Option Nat} {oB : Option Nat} {oE : Option Nat} {oN : Option Nat} {x_ways : Nat → Option Nat} {l_version : Int32} {l_sums : Nat → Int32} {l_reached : Nat → Int32} {g_base : Int32} {g_worth : Nat → Int32} {g_row : Nat → Int32} {g_many : Nat → Int32} {g_version : Int32} {a1 : Int32} {a2 : Int32} {F : Nat} {res : Int32 × Int32 × (Nat → Int32) × (Nat → Int32)} (hf : f_X10_bare_P F a1 a2 g_base g_worth g_version l_version l_sums l_reached = some res) : kM l yX10_bare wsX10_bare rmX10_bare_P D cy [.ref (qX 0), .int a1, .int a2] (gX cy qX (qG 0) (qP 0) (qR 0) oS oB oE oN (some (qL 0)) x_ways ++ (gL cy qL (qG 0) l_version l_sums l_reached ++ (gG cy qG g_base g_worth g_row g_many g_version))) (kQi D cy (fun u : Nat → Nat → Nat => gX cy qX (qG 0) (qP 0) (qR 0) oS oB oE oN (some (qL 0)) x_ways ++ (gL cy qL (qG 0) res.2.1 res.2.2.1 res.2.2.2 ++ (gG cy qG g_base g_worth g_row g_many g_version))) res.1) := by
  refine kent_i (cc := cX10_bare) (maxL := 3) (by decide) rfl (Nat.le_of_ble_eq_true rfl) ?_
  intro p e0 s m ar below meth c A Q ls ⟨hx, hb, hml, hr, hts, hown, hlocks, hnm⟩ hA hK hN hQ hP hD hS hl
  have hl : lv_has ls 3 [(0, .ref (qX 0)), (1, .int a1), (2, .int a2)] := hl
  have hown : s.vm.findClass RX10 = some m.cls := hown
  unfold f_X10_bare_P at hf
  refine lv_iload_n hx hb dX10_bare_0 rfl (lv_at hl 1 rfl) ?_
  refine lv_iconst (v := (0 : Int32)) hx hb dX10_bare_1 (by decide) ?_
  refine lv_sipush (v := (20000 : Int32)) hx hb dX10_bare_2 (by decide) ?_
  obtain ⟨r1, hc2, hf⟩ := ob_some hf
  refine kc_i (k_runS ⟨hx, hb, hml, hown, hts⟩ (c_X10_within hc2) (va_cwS 3 hts gX10_bare_X10_within rfl rfl rfl (by decide +kernel) ⟨Nat.le_of_ble_eq_true rfl, Nat.le_of_ble_eq_true rfl⟩) hK hN hP hD kA_0 rfl hl.1 rfl (Nat.le_of_ble_eq_true rfl) dX10_bare_5 ⟨(Nat.le_of_ble_eq_true rfl), (Nat.le_of_ble_eq_true rfl)⟩) hP hD hS hA kI_0 (fun _ H locs hP hD hS => ?_)
  refine lv_if_eq (tgt := 16) hx hb dX10_bare_8 (by decide) (fun c3 => ?_) (fun c3 => ?_)
  · have hf := if_t hf c3
    refine lv_iconst (v := (-1 : Int32)) hx hb dX10_bare_16 (by decide) ?_
    refine W.widen (k := 0) (n := 0) (Nat.le_of_ble_eq_true rfl) (Nat.le_of_ble_eq_true rfl) ?_
    obtain rfl := Option.some.inj hf
    exact hQ (kU []) 17 _ _ _ dX10_bare_17 hP hD hS
  · have hf := if_f hf c3
    refine lv_iload_n hx hb dX10_bare_11 rfl (lv_at hl 2 rfl) ?_
    refine lv_iconst (v := (-1 : Int32)) hx hb dX10_bare_12 (by decide) ?_
    refine lv_icmp_ge (tgt := 18) hx hb dX10_bare_13 (by decide) (fun c4 => ?_) (fun c4 => ?_)
    · have hf := if_t hf c4
      refine lv_aload_n hx hb dX10_bare_18 rfl (lv_at hl 0 rfl) ?_
      obtain ⟨r5, hc6, hf⟩ := ob_some hf
      have hI7 : kIn (gX cy qX (qG 0) (qP 0) (qR 0) oS oB oE oN (some (qL 0)) x_ways ++ (gL cy qL (qG 0) l_version l_sums l_reached ++ (gG cy qG g_base g_worth g_row g_many g_version))) (gX cy qX (qG 0) (qP 0) (qR 0) oS oB oE oN (some (qL 0)) x_ways ++ (gL cy qL (qG 0) l_version l_sums l_reached ++ (gG cy qG g_base g_worth g_row g_many g_version))) (kpick (gX cy qX (qG 0) (qP 0) (qR 0) oS oB oE oN (some (qL 0)) x_ways ++ (gL cy qL (qG 0) l_version l_sums l_reached ++ (gG cy qG g_base g_worth g_row g_many g_version))) []) (fun u : Nat → Nat → Nat => gX cy qX (qG 0) (qP 0) (qR 0) oS oB oE oN (some (qL 0)) x_ways ++ (gL cy qL (qG 0) r5.1 r5.2.1 r5.2.2 ++ (gG cy qG g_base g_worth g_row g_many g_version))) (fun u : Nat → Nat → Nat => gX cy qX (qG 0) (qP 0) (qR 0) oS oB oE oN (some (qL 0)) x_ways ++ (gL cy qL (qG 0) r5.1 r5.2.1 r5.2.2 ++ (gG cy qG g_base g_worth g_row g_many g_version))) [0, 1, 2, 3, 4, 5, 6, 7, 8] [] [0, 1, 2, 3, 4, 5, 6, 7, 8] := ⟨rfl, rfl, rfl, rfl, by decide, rfl, fun _ => rfl⟩
      refine kc_rx (k_run ⟨hx, hb, hml, hown, hts⟩ (c_X10_liftsNow_P hc6) (cwV 0 hts gX10_bare_X10_liftsNow rfl rfl rfl (by decide +kernel) ⟨Nat.le_of_ble_eq_true rfl, Nat.le_of_ble_eq_true rfl⟩) hK hN hP hD ⟨hI7.1, hI7.2.2.1⟩ (ci := 10) (q0 := 0) rfl rfl rfl rfl hl.1 rfl (Nat.le_of_ble_eq_true rfl) dX10_bare_19 ⟨(Nat.le_of_ble_eq_true rfl), (Nat.le_of_ble_eq_true rfl)⟩) hP hD hS hA hI7 (fun u8 H locs hP hD hS => ?_)
      have hP : va_P D vwCl (gX cy qX (qG 0) (qP 0) (qR 0) oS oB oE oN (some (qL 0)) x_ways ++ (gL cy qL (qG 0) r5.1 r5.2.1 r5.2.2 ++ (gG cy qG g_base g_worth g_row g_many g_version))) H := hP
      have hD : va_D A (gX cy qX (qG 0) (qP 0) (qR 0) oS oB oE oN (some (qL 0)) x_ways ++ (gL cy qL (qG 0) r5.1 r5.2.1 r5.2.2 ++ (gG cy qG g_base g_worth g_row g_many g_version))) := hD
      refine lv_iload_n hx hb dX10_bare_22 rfl (lv_at hl 1 rfl) ?_
      refine lv_iload_n hx hb dX10_bare_23 rfl (lv_at hl 2 rfl) ?_
      obtain ⟨r9, hc10, hf⟩ := ob_some hf
      have hI11 : kIn (gX cy qX (qG 0) (qP 0) (qR 0) oS oB oE oN (some (qL 0)) x_ways ++ (gL cy qL (qG 0) r5.1 r5.2.1 r5.2.2 ++ (gG cy qG g_base g_worth g_row g_many g_version))) (gL cy qL (qG 0) r5.1 r5.2.1 r5.2.2 ++ (gG cy qG g_base g_worth g_row g_many g_version)) (kpick (gX cy qX (qG 0) (qP 0) (qR 0) oS oB oE oN (some (qL 0)) x_ways ++ (gL cy qL (qG 0) r5.1 r5.2.1 r5.2.2 ++ (gG cy qG g_base g_worth g_row g_many g_version))) [0, 1]) (fun _ : Unit => gL cy qL (qG 0) r5.1 r5.2.1 r5.2.2 ++ (gG cy qG g_base g_worth g_row g_many g_version)) (fun _ : Unit => gX cy qX (qG 0) (qP 0) (qR 0) oS oB oE oN (some (qL 0)) x_ways ++ (gL cy qL (qG 0) r5.1 r5.2.1 r5.2.2 ++ (gG cy qG g_base g_worth g_row g_many g_version))) [2, 3, 4, 5, 6, 7, 8] [0, 1] [0, 1, 2, 3, 4, 5, 6, 7, 8] := ⟨rfl, rfl, rfl, rfl, by decide, rfl, fun _ => rfl⟩
      refine kc_i (k_run ⟨hx, hb, hml, hown, hts⟩ (c_X2_unreachedAt hc10) (cwV 2 hts gX10_bare_X2_unreachedAt rfl rfl rfl (by decide +kernel) ⟨Nat.le_of_ble_eq_true rfl, Nat.le_of_ble_eq_true rfl⟩) hK hN hP hD ⟨hI11.1, hI11.2.2.1⟩ (ci := 2) (q0 := 0) rfl rfl rfl rfl hl.1 rfl (Nat.le_of_ble_eq_true rfl) dX10_bare_24 ⟨(Nat.le_of_ble_eq_true rfl), (Nat.le_of_ble_eq_true rfl)⟩) hP hD hS hA hI11 (fun _ H locs hP hD hS => ?_)
      refine W.widen (k := 0) (n := 0) (Nat.le_of_ble_eq_true rfl) (Nat.le_of_ble_eq_true rfl) ?_
      obtain rfl := Option.some.inj hf
      exact hQ (kU []) 27 _ _ _ dX10_bare_27 hP hD hS
    · have hf := if_f hf c4
      refine lv_iconst (v := (-1 : Int32)) hx hb dX10_bare_16 (by decide) ?_
      refine W.widen (k := 0) (n := 0) (Nat.le_of_ble_eq_true rfl) (Nat.le_of_ble_eq_true rfl) ?_
      obtain rfl := Option.some.inj hf
      exact hQ (kU []) 17 _ _ _ dX10_bare_17 hP hD hS
def f_X10_bare_N (F : Nat) (a1 : Int32) (a2 : Int32) (g_base : Int32) (g_worth : Nat → Int32) (g_version : Int32) : Option (Int32 × Int32 × (Nat → Int32) × (Nat → Int32)) := (f_X10_within F a1 (0 : Int32) (20000 : Int32)).bind (fun r1 => if r1 = 0 then (none) else (if (-1 : Int32) ≤ a2 then ((f_X10_liftsNow_N F g_base g_worth g_version).bind (fun r5 => (f_X2_unreachedAt F a1 a2 r5.2.2).bind (fun r9 => some (r9, r5.1, r5.2.1, r5.2.2)))) else (none)))
abbrev rmX10_bare_N : Room := { frames := 3, cells := 3, slots := 40006, locals := 55 }
set_option maxHeartbeats 1000000 in
set_option maxRecDepth 100000 in
theorem c_X10_bare_N {l : Launch} {D : va_G} {cy : Nat → ClassId} {qX : Nat → Nat} {qG : Nat → Nat} {qP : Nat → Nat} {qR : Nat → Nat} {oS : Option Nat} {oB : Option Nat} {oE : Option Nat} {oN : Option Nat} {x_ways : Nat → Option Nat} {g_base : Int32} {g_worth : Nat → Int32} {g_row : Nat → Int32} {g_many : Nat → Int32} {g_version : Int32} {a1 : Int32} {a2 : Int32} {F : Nat} {res : Int32 × Int32 × (Nat → Int32) × (Nat → Int32)} (hf : f_X10_bare_N F a1 a2 g_base g_worth g_version = some res) : kM l yX10_bare wsX10_bare rmX10_bare_N D cy [.ref (qX 0), .int a1, .int a2] (gX cy qX (qG 0) (qP 0) (qR 0) oS oB oE oN none x_ways ++ (gG cy qG g_base g_worth g_row g_many g_version)) (kQi D cy (fun u : Nat → Nat → Nat => gX cy qX (qG 0) (qP 0) (qR 0) oS oB oE oN (some ((u 0) 0)) x_ways ++ (gG cy qG g_base g_worth g_row g_many g_version ++ (gL cy (u 0) (qG 0) res.2.1 res.2.2.1 res.2.2.2))) res.1) := by
  refine kent_i (cc := cX10_bare) (maxL := 3) (by decide) rfl (Nat.le_of_ble_eq_true rfl) ?_
  intro p e0 s m ar below meth c A Q ls ⟨hx, hb, hml, hr, hts, hown, hlocks, hnm⟩ hA hK hN hQ hP hD hS hl
  have hl : lv_has ls 3 [(0, .ref (qX 0)), (1, .int a1), (2, .int a2)] := hl
  have hown : s.vm.findClass RX10 = some m.cls := hown
  unfold f_X10_bare_N at hf
  refine lv_iload_n hx hb dX10_bare_0 rfl (lv_at hl 1 rfl) ?_
  refine lv_iconst (v := (0 : Int32)) hx hb dX10_bare_1 (by decide) ?_
  refine lv_sipush (v := (20000 : Int32)) hx hb dX10_bare_2 (by decide) ?_
  obtain ⟨r1, hc2, hf⟩ := ob_some hf
  refine kc_i (k_runS ⟨hx, hb, hml, hown, hts⟩ (c_X10_within hc2) (va_cwS 3 hts gX10_bare_X10_within rfl rfl rfl (by decide +kernel) ⟨Nat.le_of_ble_eq_true rfl, Nat.le_of_ble_eq_true rfl⟩) hK hN hP hD kA_0 rfl hl.1 rfl (Nat.le_of_ble_eq_true rfl) dX10_bare_5 ⟨(Nat.le_of_ble_eq_true rfl), (Nat.le_of_ble_eq_true rfl)⟩) hP hD hS hA kI_0 (fun _ H locs hP hD hS => ?_)
  refine lv_if_eq (tgt := 16) hx hb dX10_bare_8 (by decide) (fun c3 => ?_) (fun c3 => ?_)
  · have hf := if_t hf c3
    refine lv_iconst (v := (-1 : Int32)) hx hb dX10_bare_16 (by decide) ?_
    exact no_some hf
  · have hf := if_f hf c3
    refine lv_iload_n hx hb dX10_bare_11 rfl (lv_at hl 2 rfl) ?_
    refine lv_iconst (v := (-1 : Int32)) hx hb dX10_bare_12 (by decide) ?_
    refine lv_icmp_ge (tgt := 18) hx hb dX10_bare_13 (by decide) (fun c4 => ?_) (fun c4 => ?_)
    · have hf := if_t hf c4
      refine lv_aload_n hx hb dX10_bare_18 rfl (lv_at hl 0 rfl) ?_
      obtain ⟨r5, hc6, hf⟩ := ob_some hf
      have hI7 : kIn (gX cy qX (qG 0) (qP 0) (qR 0) oS oB oE oN none x_ways ++ (gG cy qG g_base g_worth g_row g_many g_version)) (gX cy qX (qG 0) (qP 0) (qR 0) oS oB oE oN none x_ways ++ (gG cy qG g_base g_worth g_row g_many g_version)) (kpick (gX cy qX (qG 0) (qP 0) (qR 0) oS oB oE oN none x_ways ++ (gG cy qG g_base g_worth g_row g_many g_version)) []) (fun u : Nat → Nat → Nat => gX cy qX (qG 0) (qP 0) (qR 0) oS oB oE oN (some ((u 0) 0)) x_ways ++ (gG cy qG g_base g_worth g_row g_many g_version ++ (gL cy (u 0) (qG 0) r5.1 r5.2.1 r5.2.2))) (fun u : Nat → Nat → Nat => gX cy qX (qG 0) (qP 0) (qR 0) oS oB oE oN (some ((u 0) 0)) x_ways ++ (gG cy qG g_base g_worth g_row g_many g_version ++ (gL cy (u 0) (qG 0) r5.1 r5.2.1 r5.2.2))) [0, 1, 2, 3, 4, 5] [] [0, 1, 2, 3, 4, 5, 6, 7, 8] := ⟨rfl, rfl, rfl, rfl, by decide, rfl, fun _ => rfl⟩
      refine kc_rx (k_run ⟨hx, hb, hml, hown, hts⟩ (c_X10_liftsNow_N hc6) (cwV 0 hts gX10_bare_X10_liftsNow rfl rfl rfl (by decide +kernel) ⟨Nat.le_of_ble_eq_true rfl, Nat.le_of_ble_eq_true rfl⟩) hK hN hP hD ⟨hI7.1, hI7.2.2.1⟩ (ci := 10) (q0 := 0) rfl rfl rfl rfl hl.1 rfl (Nat.le_of_ble_eq_true rfl) dX10_bare_19 ⟨(Nat.le_of_ble_eq_true rfl), (Nat.le_of_ble_eq_true rfl)⟩) hP hD hS hA hI7 (fun u8 H locs hP hD hS => ?_)
      obtain ⟨qL, hqL⟩ : ∃ z : Nat → Nat, z = u8 0 := ⟨_, rfl⟩
      rw [← hqL] at hP hD ⊢
      have hP : va_P D vwCl (gX cy qX (qG 0) (qP 0) (qR 0) oS oB oE oN (some (qL 0)) x_ways ++ (gG cy qG g_base g_worth g_row g_many g_version ++ (gL cy qL (qG 0) r5.1 r5.2.1 r5.2.2))) H := hP
      have hD : va_D A (gX cy qX (qG 0) (qP 0) (qR 0) oS oB oE oN (some (qL 0)) x_ways ++ (gG cy qG g_base g_worth g_row g_many g_version ++ (gL cy qL (qG 0) r5.1 r5.2.1 r5.2.2))) := hD
      refine W.widen (k := 3) (n := 40006) (Nat.le_of_ble_eq_true rfl) (Nat.le_of_ble_eq_true rfl) ?_
      refine lv_iload_n hx hb dX10_bare_22 rfl (lv_at hl 1 rfl) ?_
      refine lv_iload_n hx hb dX10_bare_23 rfl (lv_at hl 2 rfl) ?_
      obtain ⟨r9, hc10, hf⟩ := ob_some hf
      have hI11 : kIn (gX cy qX (qG 0) (qP 0) (qR 0) oS oB oE oN (some (qL 0)) x_ways ++ (gG cy qG g_base g_worth g_row g_many g_version ++ (gL cy qL (qG 0) r5.1 r5.2.1 r5.2.2))) (gL cy qL (qG 0) r5.1 r5.2.1 r5.2.2 ++ (gG cy qG g_base g_worth g_row g_many g_version)) (kpick (gX cy qX (qG 0) (qP 0) (qR 0) oS oB oE oN (some (qL 0)) x_ways ++ (gG cy qG g_base g_worth g_row g_many g_version ++ (gL cy qL (qG 0) r5.1 r5.2.1 r5.2.2))) [0, 1]) (fun _ : Unit => gL cy qL (qG 0) r5.1 r5.2.1 r5.2.2 ++ (gG cy qG g_base g_worth g_row g_many g_version)) (fun _ : Unit => gX cy qX (qG 0) (qP 0) (qR 0) oS oB oE oN (some (qL 0)) x_ways ++ (gG cy qG g_base g_worth g_row g_many g_version ++ (gL cy qL (qG 0) r5.1 r5.2.1 r5.2.2))) [6, 7, 8, 2, 3, 4, 5] [0, 1] [0, 1, 5, 6, 7, 8, 2, 3, 4] := ⟨rfl, rfl, rfl, rfl, by decide, rfl, fun _ => rfl⟩
      refine kc_i (k_run ⟨hx, hb, hml, hown, hts⟩ (c_X2_unreachedAt hc10) (cwV 2 hts gX10_bare_X2_unreachedAt rfl rfl rfl (by decide +kernel) ⟨Nat.le_of_ble_eq_true rfl, Nat.le_of_ble_eq_true rfl⟩) hK hN hP hD ⟨hI11.1, hI11.2.2.1⟩ (ci := 2) (q0 := 0) rfl rfl rfl rfl hl.1 rfl (Nat.le_of_ble_eq_true rfl) dX10_bare_24 ⟨(Nat.le_of_ble_eq_true rfl), (Nat.le_of_ble_eq_true rfl)⟩) hP hD hS hA hI11 (fun _ H locs hP hD hS => ?_)
      refine W.widen (k := 3) (n := 40006) (Nat.le_of_ble_eq_true rfl) (Nat.le_of_ble_eq_true rfl) ?_
      obtain rfl := Option.some.inj hf
      exact hQ (kU [qL]) 27 _ _ _ dX10_bare_27 hP hD hS
    · have hf := if_f hf c4
      refine lv_iconst (v := (-1 : Int32)) hx hb dX10_bare_16 (by decide) ?_
      exact no_some hf
def f_X10_bare_B (F : Nat) (a1 : Int32) (a2 : Int32) : Option (Int32) := (f_X10_within F a1 (0 : Int32) (20000 : Int32)).bind (fun r1 => if r1 = 0 then (some (-1 : Int32)) else (if (-1 : Int32) ≤ a2 then (none) else (some (-1 : Int32))))
abbrev rmX10_bare_B : Room := { frames := 1, cells := 0, slots := 0, locals := 22 }
set_option maxHeartbeats 1000000 in
set_option maxRecDepth 100000 in
theorem c_X10_bare_B {l : Launch} {D : va_G} {cy : Nat → ClassId} {qX : Nat → Nat} {qG : Nat → Nat} {qP : Nat → Nat} {qR : Nat → Nat} {oS : Option Nat} {oB : Option Nat} {oE : Option Nat} {oN : Option Nat} {oL : Option Nat} {x_ways : Nat → Option Nat} {a1 : Int32} {a2 : Int32} {F : Nat} {res : Int32} (hf : f_X10_bare_B F a1 a2 = some res) : kM l yX10_bare wsX10_bare rmX10_bare_B D cy [.ref (qX 0), .int a1, .int a2] (gX cy qX (qG 0) (qP 0) (qR 0) oS oB oE oN oL x_ways) (kQi D cy (fun u : Nat → Nat → Nat => gX cy qX (qG 0) (qP 0) (qR 0) oS oB oE oN oL x_ways) res) := by
  refine kent_i (cc := cX10_bare) (maxL := 3) (by decide) rfl (Nat.le_of_ble_eq_true rfl) ?_
  intro p e0 s m ar below meth c A Q ls ⟨hx, hb, hml, hr, hts, hown, hlocks, hnm⟩ hA hK hN hQ hP hD hS hl
  have hl : lv_has ls 3 [(0, .ref (qX 0)), (1, .int a1), (2, .int a2)] := hl
  have hown : s.vm.findClass RX10 = some m.cls := hown
  unfold f_X10_bare_B at hf
  refine lv_iload_n hx hb dX10_bare_0 rfl (lv_at hl 1 rfl) ?_
  refine lv_iconst (v := (0 : Int32)) hx hb dX10_bare_1 (by decide) ?_
  refine lv_sipush (v := (20000 : Int32)) hx hb dX10_bare_2 (by decide) ?_
  obtain ⟨r1, hc2, hf⟩ := ob_some hf
  refine kc_i (k_runS ⟨hx, hb, hml, hown, hts⟩ (c_X10_within hc2) (va_cwS 3 hts gX10_bare_X10_within rfl rfl rfl (by decide +kernel) ⟨Nat.le_of_ble_eq_true rfl, Nat.le_of_ble_eq_true rfl⟩) hK hN hP hD kA_0 rfl hl.1 rfl (Nat.le_of_ble_eq_true rfl) dX10_bare_5 ⟨(Nat.le_of_ble_eq_true rfl), (Nat.le_of_ble_eq_true rfl)⟩) hP hD hS hA kI_0 (fun _ H locs hP hD hS => ?_)
  refine lv_if_eq (tgt := 16) hx hb dX10_bare_8 (by decide) (fun c3 => ?_) (fun c3 => ?_)
  · have hf := if_t hf c3
    refine lv_iconst (v := (-1 : Int32)) hx hb dX10_bare_16 (by decide) ?_
    refine W.widen (k := 0) (n := 0) (Nat.le_of_ble_eq_true rfl) (Nat.le_of_ble_eq_true rfl) ?_
    obtain rfl := Option.some.inj hf
    exact hQ (kU []) 17 _ _ _ dX10_bare_17 hP hD hS
  · have hf := if_f hf c3
    refine lv_iload_n hx hb dX10_bare_11 rfl (lv_at hl 2 rfl) ?_
    refine lv_iconst (v := (-1 : Int32)) hx hb dX10_bare_12 (by decide) ?_
    refine lv_icmp_ge (tgt := 18) hx hb dX10_bare_13 (by decide) (fun c4 => ?_) (fun c4 => ?_)
    · have hf := if_t hf c4
      refine lv_aload_n hx hb dX10_bare_18 rfl (lv_at hl 0 rfl) ?_
      exact no_some hf
    · have hf := if_f hf c4
      refine lv_iconst (v := (-1 : Int32)) hx hb dX10_bare_16 (by decide) ?_
      refine W.widen (k := 0) (n := 0) (Nat.le_of_ble_eq_true rfl) (Nat.le_of_ble_eq_true rfl) ?_
      obtain rfl := Option.some.inj hf
      exact hQ (kU []) 17 _ _ _ dX10_bare_17 hP hD hS
def f_X10_raised_P (F : Nat) (a1 : Int32) (a2 : Int32) (g_base : Int32) (g_worth : Nat → Int32) (g_version : Int32) (l_version : Int32) (l_sums : Nat → Int32) (l_reached : Nat → Int32) : Option (Int32 × Int32 × (Nat → Int32) × (Nat → Int32)) := (f_X10_within F a1 (0 : Int32) (20000 : Int32)).bind (fun r1 => if r1 = 0 then (some ((-1 : Int32), l_version, l_sums, l_reached)) else (if (-1 : Int32) ≤ a2 then ((f_X10_liftsNow_P F g_base g_worth g_version l_version l_sums l_reached).bind (fun r5 => (f_X2_liftedTo F a1 a2 r5.2.1).bind (fun r9 => some (r9, r5.1, r5.2.1, r5.2.2)))) else (some ((-1 : Int32), l_version, l_sums, l_reached))))
abbrev rmX10_raised_P : Room := { frames := 2, cells := 0, slots := 0, locals := 45 }
set_option maxHeartbeats 1000000 in
set_option maxRecDepth 100000 in
theorem c_X10_raised_P {l : Launch} {D : va_G} {cy : Nat → ClassId} {qX : Nat → Nat} {qG : Nat → Nat} {qP : Nat → Nat} {qR : Nat → Nat} {qL : Nat → Nat} {oS : Option Nat} {oB : Option Nat} {oE : Option Nat} {oN : Option Nat} {x_ways : Nat → Option Nat} {l_version : Int32} {l_sums : Nat → Int32} {l_reached : Nat → Int32} {g_base : Int32} {g_worth : Nat → Int32} {g_row : Nat → Int32} {g_many : Nat → Int32} {g_version : Int32} {a1 : Int32} {a2 : Int32} {F : Nat} {res : Int32 × Int32 × (Nat → Int32) × (Nat → Int32)} (hf : f_X10_raised_P F a1 a2 g_base g_worth g_version l_version l_sums l_reached = some res) : kM l yX10_raised wsX10_raised rmX10_raised_P D cy [.ref (qX 0), .int a1, .int a2] (gX cy qX (qG 0) (qP 0) (qR 0) oS oB oE oN (some (qL 0)) x_ways ++ (gL cy qL (qG 0) l_version l_sums l_reached ++ (gG cy qG g_base g_worth g_row g_many g_version))) (kQi D cy (fun u : Nat → Nat → Nat => gX cy qX (qG 0) (qP 0) (qR 0) oS oB oE oN (some (qL 0)) x_ways ++ (gL cy qL (qG 0) res.2.1 res.2.2.1 res.2.2.2 ++ (gG cy qG g_base g_worth g_row g_many g_version))) res.1) := by
  refine kent_i (cc := cX10_raised) (maxL := 3) (by decide) rfl (Nat.le_of_ble_eq_true rfl) ?_
  intro p e0 s m ar below meth c A Q ls ⟨hx, hb, hml, hr, hts, hown, hlocks, hnm⟩ hA hK hN hQ hP hD hS hl
  have hl : lv_has ls 3 [(0, .ref (qX 0)), (1, .int a1), (2, .int a2)] := hl
  have hown : s.vm.findClass RX10 = some m.cls := hown
  unfold f_X10_raised_P at hf
  refine lv_iload_n hx hb dX10_raised_0 rfl (lv_at hl 1 rfl) ?_
  refine lv_iconst (v := (0 : Int32)) hx hb dX10_raised_1 (by decide) ?_
  refine lv_sipush (v := (20000 : Int32)) hx hb dX10_raised_2 (by decide) ?_
  obtain ⟨r1, hc2, hf⟩ := ob_some hf
  refine kc_i (k_runS ⟨hx, hb, hml, hown, hts⟩ (c_X10_within hc2) (va_cwS 3 hts gX10_raised_X10_within rfl rfl rfl (by decide +kernel) ⟨Nat.le_of_ble_eq_true rfl, Nat.le_of_ble_eq_true rfl⟩) hK hN hP hD kA_0 rfl hl.1 rfl (Nat.le_of_ble_eq_true rfl) dX10_raised_5 ⟨(Nat.le_of_ble_eq_true rfl), (Nat.le_of_ble_eq_true rfl)⟩) hP hD hS hA kI_0 (fun _ H locs hP hD hS => ?_)
  refine lv_if_eq (tgt := 16) hx hb dX10_raised_8 (by decide) (fun c3 => ?_) (fun c3 => ?_)
  · have hf := if_t hf c3
    refine lv_iconst (v := (-1 : Int32)) hx hb dX10_raised_16 (by decide) ?_
    refine W.widen (k := 0) (n := 0) (Nat.le_of_ble_eq_true rfl) (Nat.le_of_ble_eq_true rfl) ?_
    obtain rfl := Option.some.inj hf
    exact hQ (kU []) 17 _ _ _ dX10_raised_17 hP hD hS
  · have hf := if_f hf c3
    refine lv_iload_n hx hb dX10_raised_11 rfl (lv_at hl 2 rfl) ?_
    refine lv_iconst (v := (-1 : Int32)) hx hb dX10_raised_12 (by decide) ?_
    refine lv_icmp_ge (tgt := 18) hx hb dX10_raised_13 (by decide) (fun c4 => ?_) (fun c4 => ?_)
    · have hf := if_t hf c4
      refine lv_aload_n hx hb dX10_raised_18 rfl (lv_at hl 0 rfl) ?_
      obtain ⟨r5, hc6, hf⟩ := ob_some hf
      have hI7 : kIn (gX cy qX (qG 0) (qP 0) (qR 0) oS oB oE oN (some (qL 0)) x_ways ++ (gL cy qL (qG 0) l_version l_sums l_reached ++ (gG cy qG g_base g_worth g_row g_many g_version))) (gX cy qX (qG 0) (qP 0) (qR 0) oS oB oE oN (some (qL 0)) x_ways ++ (gL cy qL (qG 0) l_version l_sums l_reached ++ (gG cy qG g_base g_worth g_row g_many g_version))) (kpick (gX cy qX (qG 0) (qP 0) (qR 0) oS oB oE oN (some (qL 0)) x_ways ++ (gL cy qL (qG 0) l_version l_sums l_reached ++ (gG cy qG g_base g_worth g_row g_many g_version))) []) (fun u : Nat → Nat → Nat => gX cy qX (qG 0) (qP 0) (qR 0) oS oB oE oN (some (qL 0)) x_ways ++ (gL cy qL (qG 0) r5.1 r5.2.1 r5.2.2 ++ (gG cy qG g_base g_worth g_row g_many g_version))) (fun u : Nat → Nat → Nat => gX cy qX (qG 0) (qP 0) (qR 0) oS oB oE oN (some (qL 0)) x_ways ++ (gL cy qL (qG 0) r5.1 r5.2.1 r5.2.2 ++ (gG cy qG g_base g_worth g_row g_many g_version))) [0, 1, 2, 3, 4, 5, 6, 7, 8] [] [0, 1, 2, 3, 4, 5, 6, 7, 8] := ⟨rfl, rfl, rfl, rfl, by decide, rfl, fun _ => rfl⟩
      refine kc_rx (k_run ⟨hx, hb, hml, hown, hts⟩ (c_X10_liftsNow_P hc6) (cwV 0 hts gX10_raised_X10_liftsNow rfl rfl rfl (by decide +kernel) ⟨Nat.le_of_ble_eq_true rfl, Nat.le_of_ble_eq_true rfl⟩) hK hN hP hD ⟨hI7.1, hI7.2.2.1⟩ (ci := 10) (q0 := 0) rfl rfl rfl rfl hl.1 rfl (Nat.le_of_ble_eq_true rfl) dX10_raised_19 ⟨(Nat.le_of_ble_eq_true rfl), (Nat.le_of_ble_eq_true rfl)⟩) hP hD hS hA hI7 (fun u8 H locs hP hD hS => ?_)
      have hP : va_P D vwCl (gX cy qX (qG 0) (qP 0) (qR 0) oS oB oE oN (some (qL 0)) x_ways ++ (gL cy qL (qG 0) r5.1 r5.2.1 r5.2.2 ++ (gG cy qG g_base g_worth g_row g_many g_version))) H := hP
      have hD : va_D A (gX cy qX (qG 0) (qP 0) (qR 0) oS oB oE oN (some (qL 0)) x_ways ++ (gL cy qL (qG 0) r5.1 r5.2.1 r5.2.2 ++ (gG cy qG g_base g_worth g_row g_many g_version))) := hD
      refine lv_iload_n hx hb dX10_raised_22 rfl (lv_at hl 1 rfl) ?_
      refine lv_iload_n hx hb dX10_raised_23 rfl (lv_at hl 2 rfl) ?_
      obtain ⟨r9, hc10, hf⟩ := ob_some hf
      have hI11 : kIn (gX cy qX (qG 0) (qP 0) (qR 0) oS oB oE oN (some (qL 0)) x_ways ++ (gL cy qL (qG 0) r5.1 r5.2.1 r5.2.2 ++ (gG cy qG g_base g_worth g_row g_many g_version))) (gL cy qL (qG 0) r5.1 r5.2.1 r5.2.2 ++ (gG cy qG g_base g_worth g_row g_many g_version)) (kpick (gX cy qX (qG 0) (qP 0) (qR 0) oS oB oE oN (some (qL 0)) x_ways ++ (gL cy qL (qG 0) r5.1 r5.2.1 r5.2.2 ++ (gG cy qG g_base g_worth g_row g_many g_version))) [0, 1]) (fun _ : Unit => gL cy qL (qG 0) r5.1 r5.2.1 r5.2.2 ++ (gG cy qG g_base g_worth g_row g_many g_version)) (fun _ : Unit => gX cy qX (qG 0) (qP 0) (qR 0) oS oB oE oN (some (qL 0)) x_ways ++ (gL cy qL (qG 0) r5.1 r5.2.1 r5.2.2 ++ (gG cy qG g_base g_worth g_row g_many g_version))) [2, 3, 4, 5, 6, 7, 8] [0, 1] [0, 1, 2, 3, 4, 5, 6, 7, 8] := ⟨rfl, rfl, rfl, rfl, by decide, rfl, fun _ => rfl⟩
      refine kc_i (k_run ⟨hx, hb, hml, hown, hts⟩ (c_X2_liftedTo hc10) (cwV 2 hts gX10_raised_X2_liftedTo rfl rfl rfl (by decide +kernel) ⟨Nat.le_of_ble_eq_true rfl, Nat.le_of_ble_eq_true rfl⟩) hK hN hP hD ⟨hI11.1, hI11.2.2.1⟩ (ci := 2) (q0 := 0) rfl rfl rfl rfl hl.1 rfl (Nat.le_of_ble_eq_true rfl) dX10_raised_24 ⟨(Nat.le_of_ble_eq_true rfl), (Nat.le_of_ble_eq_true rfl)⟩) hP hD hS hA hI11 (fun _ H locs hP hD hS => ?_)
      refine W.widen (k := 0) (n := 0) (Nat.le_of_ble_eq_true rfl) (Nat.le_of_ble_eq_true rfl) ?_
      obtain rfl := Option.some.inj hf
      exact hQ (kU []) 27 _ _ _ dX10_raised_27 hP hD hS
    · have hf := if_f hf c4
      refine lv_iconst (v := (-1 : Int32)) hx hb dX10_raised_16 (by decide) ?_
      refine W.widen (k := 0) (n := 0) (Nat.le_of_ble_eq_true rfl) (Nat.le_of_ble_eq_true rfl) ?_
      obtain rfl := Option.some.inj hf
      exact hQ (kU []) 17 _ _ _ dX10_raised_17 hP hD hS
def f_X10_raised_N (F : Nat) (a1 : Int32) (a2 : Int32) (g_base : Int32) (g_worth : Nat → Int32) (g_version : Int32) : Option (Int32 × Int32 × (Nat → Int32) × (Nat → Int32)) := (f_X10_within F a1 (0 : Int32) (20000 : Int32)).bind (fun r1 => if r1 = 0 then (none) else (if (-1 : Int32) ≤ a2 then ((f_X10_liftsNow_N F g_base g_worth g_version).bind (fun r5 => (f_X2_liftedTo F a1 a2 r5.2.1).bind (fun r9 => some (r9, r5.1, r5.2.1, r5.2.2)))) else (none)))
abbrev rmX10_raised_N : Room := { frames := 3, cells := 3, slots := 40006, locals := 55 }
set_option maxHeartbeats 1000000 in
set_option maxRecDepth 100000 in
theorem c_X10_raised_N {l : Launch} {D : va_G} {cy : Nat → ClassId} {qX : Nat → Nat} {qG : Nat → Nat} {qP : Nat → Nat} {qR : Nat → Nat} {oS : Option Nat} {oB : Option Nat} {oE : Option Nat} {oN : Option Nat} {x_ways : Nat → Option Nat} {g_base : Int32} {g_worth : Nat → Int32} {g_row : Nat → Int32} {g_many : Nat → Int32} {g_version : Int32} {a1 : Int32} {a2 : Int32} {F : Nat} {res : Int32 × Int32 × (Nat → Int32) × (Nat → Int32)} (hf : f_X10_raised_N F a1 a2 g_base g_worth g_version = some res) : kM l yX10_raised wsX10_raised rmX10_raised_N D cy [.ref (qX 0), .int a1, .int a2] (gX cy qX (qG 0) (qP 0) (qR 0) oS oB oE oN none x_ways ++ (gG cy qG g_base g_worth g_row g_many g_version)) (kQi D cy (fun u : Nat → Nat → Nat => gX cy qX (qG 0) (qP 0) (qR 0) oS oB oE oN (some ((u 0) 0)) x_ways ++ (gG cy qG g_base g_worth g_row g_many g_version ++ (gL cy (u 0) (qG 0) res.2.1 res.2.2.1 res.2.2.2))) res.1) := by
  refine kent_i (cc := cX10_raised) (maxL := 3) (by decide) rfl (Nat.le_of_ble_eq_true rfl) ?_
  intro p e0 s m ar below meth c A Q ls ⟨hx, hb, hml, hr, hts, hown, hlocks, hnm⟩ hA hK hN hQ hP hD hS hl
  have hl : lv_has ls 3 [(0, .ref (qX 0)), (1, .int a1), (2, .int a2)] := hl
  have hown : s.vm.findClass RX10 = some m.cls := hown
  unfold f_X10_raised_N at hf
  refine lv_iload_n hx hb dX10_raised_0 rfl (lv_at hl 1 rfl) ?_
  refine lv_iconst (v := (0 : Int32)) hx hb dX10_raised_1 (by decide) ?_
  refine lv_sipush (v := (20000 : Int32)) hx hb dX10_raised_2 (by decide) ?_
  obtain ⟨r1, hc2, hf⟩ := ob_some hf
  refine kc_i (k_runS ⟨hx, hb, hml, hown, hts⟩ (c_X10_within hc2) (va_cwS 3 hts gX10_raised_X10_within rfl rfl rfl (by decide +kernel) ⟨Nat.le_of_ble_eq_true rfl, Nat.le_of_ble_eq_true rfl⟩) hK hN hP hD kA_0 rfl hl.1 rfl (Nat.le_of_ble_eq_true rfl) dX10_raised_5 ⟨(Nat.le_of_ble_eq_true rfl), (Nat.le_of_ble_eq_true rfl)⟩) hP hD hS hA kI_0 (fun _ H locs hP hD hS => ?_)
  refine lv_if_eq (tgt := 16) hx hb dX10_raised_8 (by decide) (fun c3 => ?_) (fun c3 => ?_)
  · have hf := if_t hf c3
    refine lv_iconst (v := (-1 : Int32)) hx hb dX10_raised_16 (by decide) ?_
    exact no_some hf
  · have hf := if_f hf c3
    refine lv_iload_n hx hb dX10_raised_11 rfl (lv_at hl 2 rfl) ?_
    refine lv_iconst (v := (-1 : Int32)) hx hb dX10_raised_12 (by decide) ?_
    refine lv_icmp_ge (tgt := 18) hx hb dX10_raised_13 (by decide) (fun c4 => ?_) (fun c4 => ?_)
    · have hf := if_t hf c4
      refine lv_aload_n hx hb dX10_raised_18 rfl (lv_at hl 0 rfl) ?_
      obtain ⟨r5, hc6, hf⟩ := ob_some hf
      have hI7 : kIn (gX cy qX (qG 0) (qP 0) (qR 0) oS oB oE oN none x_ways ++ (gG cy qG g_base g_worth g_row g_many g_version)) (gX cy qX (qG 0) (qP 0) (qR 0) oS oB oE oN none x_ways ++ (gG cy qG g_base g_worth g_row g_many g_version)) (kpick (gX cy qX (qG 0) (qP 0) (qR 0) oS oB oE oN none x_ways ++ (gG cy qG g_base g_worth g_row g_many g_version)) []) (fun u : Nat → Nat → Nat => gX cy qX (qG 0) (qP 0) (qR 0) oS oB oE oN (some ((u 0) 0)) x_ways ++ (gG cy qG g_base g_worth g_row g_many g_version ++ (gL cy (u 0) (qG 0) r5.1 r5.2.1 r5.2.2))) (fun u : Nat → Nat → Nat => gX cy qX (qG 0) (qP 0) (qR 0) oS oB oE oN (some ((u 0) 0)) x_ways ++ (gG cy qG g_base g_worth g_row g_many g_version ++ (gL cy (u 0) (qG 0) r5.1 r5.2.1 r5.2.2))) [0, 1, 2, 3, 4, 5] [] [0, 1, 2, 3, 4, 5, 6, 7, 8] := ⟨rfl, rfl, rfl, rfl, by decide, rfl, fun _ => rfl⟩
      refine kc_rx (k_run ⟨hx, hb, hml, hown, hts⟩ (c_X10_liftsNow_N hc6) (cwV 0 hts gX10_raised_X10_liftsNow rfl rfl rfl (by decide +kernel) ⟨Nat.le_of_ble_eq_true rfl, Nat.le_of_ble_eq_true rfl⟩) hK hN hP hD ⟨hI7.1, hI7.2.2.1⟩ (ci := 10) (q0 := 0) rfl rfl rfl rfl hl.1 rfl (Nat.le_of_ble_eq_true rfl) dX10_raised_19 ⟨(Nat.le_of_ble_eq_true rfl), (Nat.le_of_ble_eq_true rfl)⟩) hP hD hS hA hI7 (fun u8 H locs hP hD hS => ?_)
      obtain ⟨qL, hqL⟩ : ∃ z : Nat → Nat, z = u8 0 := ⟨_, rfl⟩
      rw [← hqL] at hP hD ⊢
      have hP : va_P D vwCl (gX cy qX (qG 0) (qP 0) (qR 0) oS oB oE oN (some (qL 0)) x_ways ++ (gG cy qG g_base g_worth g_row g_many g_version ++ (gL cy qL (qG 0) r5.1 r5.2.1 r5.2.2))) H := hP
      have hD : va_D A (gX cy qX (qG 0) (qP 0) (qR 0) oS oB oE oN (some (qL 0)) x_ways ++ (gG cy qG g_base g_worth g_row g_many g_version ++ (gL cy qL (qG 0) r5.1 r5.2.1 r5.2.2))) := hD
      refine W.widen (k := 3) (n := 40006) (Nat.le_of_ble_eq_true rfl) (Nat.le_of_ble_eq_true rfl) ?_
      refine lv_iload_n hx hb dX10_raised_22 rfl (lv_at hl 1 rfl) ?_
      refine lv_iload_n hx hb dX10_raised_23 rfl (lv_at hl 2 rfl) ?_
      obtain ⟨r9, hc10, hf⟩ := ob_some hf
      have hI11 : kIn (gX cy qX (qG 0) (qP 0) (qR 0) oS oB oE oN (some (qL 0)) x_ways ++ (gG cy qG g_base g_worth g_row g_many g_version ++ (gL cy qL (qG 0) r5.1 r5.2.1 r5.2.2))) (gL cy qL (qG 0) r5.1 r5.2.1 r5.2.2 ++ (gG cy qG g_base g_worth g_row g_many g_version)) (kpick (gX cy qX (qG 0) (qP 0) (qR 0) oS oB oE oN (some (qL 0)) x_ways ++ (gG cy qG g_base g_worth g_row g_many g_version ++ (gL cy qL (qG 0) r5.1 r5.2.1 r5.2.2))) [0, 1]) (fun _ : Unit => gL cy qL (qG 0) r5.1 r5.2.1 r5.2.2 ++ (gG cy qG g_base g_worth g_row g_many g_version)) (fun _ : Unit => gX cy qX (qG 0) (qP 0) (qR 0) oS oB oE oN (some (qL 0)) x_ways ++ (gG cy qG g_base g_worth g_row g_many g_version ++ (gL cy qL (qG 0) r5.1 r5.2.1 r5.2.2))) [6, 7, 8, 2, 3, 4, 5] [0, 1] [0, 1, 5, 6, 7, 8, 2, 3, 4] := ⟨rfl, rfl, rfl, rfl, by decide, rfl, fun _ => rfl⟩
      refine kc_i (k_run ⟨hx, hb, hml, hown, hts⟩ (c_X2_liftedTo hc10) (cwV 2 hts gX10_raised_X2_liftedTo rfl rfl rfl (by decide +kernel) ⟨Nat.le_of_ble_eq_true rfl, Nat.le_of_ble_eq_true rfl⟩) hK hN hP hD ⟨hI11.1, hI11.2.2.1⟩ (ci := 2) (q0 := 0) rfl rfl rfl rfl hl.1 rfl (Nat.le_of_ble_eq_true rfl) dX10_raised_24 ⟨(Nat.le_of_ble_eq_true rfl), (Nat.le_of_ble_eq_true rfl)⟩) hP hD hS hA hI11 (fun _ H locs hP hD hS => ?_)
      refine W.widen (k := 3) (n := 40006) (Nat.le_of_ble_eq_true rfl) (Nat.le_of_ble_eq_true rfl) ?_
      obtain rfl := Option.some.inj hf
      exact hQ (kU [qL]) 27 _ _ _ dX10_raised_27 hP hD hS
    · have hf := if_f hf c4
      refine lv_iconst (v := (-1 : Int32)) hx hb dX10_raised_16 (by decide) ?_
      exact no_some hf
def f_X10_raised_B (F : Nat) (a1 : Int32) (a2 : Int32) : Option (Int32) := (f_X10_within F a1 (0 : Int32) (20000 : Int32)).bind (fun r1 => if r1 = 0 then (some (-1 : Int32)) else (if (-1 : Int32) ≤ a2 then (none) else (some (-1 : Int32))))
abbrev rmX10_raised_B : Room := { frames := 1, cells := 0, slots := 0, locals := 22 }
set_option maxHeartbeats 1000000 in
set_option maxRecDepth 100000 in
theorem c_X10_raised_B {l : Launch} {D : va_G} {cy : Nat → ClassId} {qX : Nat → Nat} {qG : Nat → Nat} {qP : Nat → Nat} {qR : Nat → Nat} {oS : Option Nat} {oB : Option Nat} {oE : Option Nat} {oN : Option Nat} {oL : Option Nat} {x_ways : Nat → Option Nat} {a1 : Int32} {a2 : Int32} {F : Nat} {res : Int32} (hf : f_X10_raised_B F a1 a2 = some res) : kM l yX10_raised wsX10_raised rmX10_raised_B D cy [.ref (qX 0), .int a1, .int a2] (gX cy qX (qG 0) (qP 0) (qR 0) oS oB oE oN oL x_ways) (kQi D cy (fun u : Nat → Nat → Nat => gX cy qX (qG 0) (qP 0) (qR 0) oS oB oE oN oL x_ways) res) := by
  refine kent_i (cc := cX10_raised) (maxL := 3) (by decide) rfl (Nat.le_of_ble_eq_true rfl) ?_
  intro p e0 s m ar below meth c A Q ls ⟨hx, hb, hml, hr, hts, hown, hlocks, hnm⟩ hA hK hN hQ hP hD hS hl
  have hl : lv_has ls 3 [(0, .ref (qX 0)), (1, .int a1), (2, .int a2)] := hl
  have hown : s.vm.findClass RX10 = some m.cls := hown
  unfold f_X10_raised_B at hf
  refine lv_iload_n hx hb dX10_raised_0 rfl (lv_at hl 1 rfl) ?_
  refine lv_iconst (v := (0 : Int32)) hx hb dX10_raised_1 (by decide) ?_
  refine lv_sipush (v := (20000 : Int32)) hx hb dX10_raised_2 (by decide) ?_
  obtain ⟨r1, hc2, hf⟩ := ob_some hf
  refine kc_i (k_runS ⟨hx, hb, hml, hown, hts⟩ (c_X10_within hc2) (va_cwS 3 hts gX10_raised_X10_within rfl rfl rfl (by decide +kernel) ⟨Nat.le_of_ble_eq_true rfl, Nat.le_of_ble_eq_true rfl⟩) hK hN hP hD kA_0 rfl hl.1 rfl (Nat.le_of_ble_eq_true rfl) dX10_raised_5 ⟨(Nat.le_of_ble_eq_true rfl), (Nat.le_of_ble_eq_true rfl)⟩) hP hD hS hA kI_0 (fun _ H locs hP hD hS => ?_)
  refine lv_if_eq (tgt := 16) hx hb dX10_raised_8 (by decide) (fun c3 => ?_) (fun c3 => ?_)
  · have hf := if_t hf c3
    refine lv_iconst (v := (-1 : Int32)) hx hb dX10_raised_16 (by decide) ?_
    refine W.widen (k := 0) (n := 0) (Nat.le_of_ble_eq_true rfl) (Nat.le_of_ble_eq_true rfl) ?_
    obtain rfl := Option.some.inj hf
    exact hQ (kU []) 17 _ _ _ dX10_raised_17 hP hD hS
  · have hf := if_f hf c3
    refine lv_iload_n hx hb dX10_raised_11 rfl (lv_at hl 2 rfl) ?_
    refine lv_iconst (v := (-1 : Int32)) hx hb dX10_raised_12 (by decide) ?_
    refine lv_icmp_ge (tgt := 18) hx hb dX10_raised_13 (by decide) (fun c4 => ?_) (fun c4 => ?_)
    · have hf := if_t hf c4
      refine lv_aload_n hx hb dX10_raised_18 rfl (lv_at hl 0 rfl) ?_
      exact no_some hf
    · have hf := if_f hf c4
      refine lv_iconst (v := (-1 : Int32)) hx hb dX10_raised_16 (by decide) ?_
      refine W.widen (k := 0) (n := 0) (Nat.le_of_ble_eq_true rfl) (Nat.le_of_ble_eq_true rfl) ?_
      obtain rfl := Option.some.inj hf
      exact hQ (kU []) 17 _ _ _ dX10_raised_17 hP hD hS
def f_X10_narrow_B (F : Nat) (a1 : Int32) (a2 : Int32) (a3 : Int32) : Option (Int64) := (f_X10_within F a1 (1 : Int32) (6 : Int32)).bind (fun r1 => if r1 = 0 then (some (-1 : Int64)) else ((f_X10_within F a2 (1 : Int32) (6 : Int32)).bind (fun r4 => if r4 = 0 then (some (-1 : Int64)) else (if (-1 : Int32) ≤ a3 then (none) else (some (-1 : Int64))))))
abbrev rmX10_narrow_B : Room := { frames := 1, cells := 0, slots := 0, locals := 22 }
set_option maxHeartbeats 1000000 in
set_option maxRecDepth 100000 in
theorem c_X10_narrow_B {l : Launch} {D : va_G} {cy : Nat → ClassId} {qX : Nat → Nat} {qG : Nat → Nat} {qP : Nat → Nat} {qR : Nat → Nat} {oS : Option Nat} {oB : Option Nat} {oE : Option Nat} {oN : Option Nat} {oL : Option Nat} {x_ways : Nat → Option Nat} {a1 : Int32} {a2 : Int32} {a3 : Int32} {F : Nat} {res : Int64} (hf : f_X10_narrow_B F a1 a2 a3 = some res) : kM l yX10_narrow wsX10_narrow rmX10_narrow_B D cy [.ref (qX 0), .int a1, .int a2, .int a3] (gX cy qX (qG 0) (qP 0) (qR 0) oS oB oE oN oL x_ways) (kQl D cy (fun u : Nat → Nat → Nat => gX cy qX (qG 0) (qP 0) (qR 0) oS oB oE oN oL x_ways) res) := by
  refine kent_l (cc := cX10_narrow) (maxL := 4) (by decide) rfl (Nat.le_of_ble_eq_true rfl) ?_
  intro p e0 s m ar below meth c A Q ls ⟨hx, hb, hml, hr, hts, hown, hlocks, hnm⟩ hA hK hN hQ hP hD hS hl
  have hl : lv_has ls 4 [(0, .ref (qX 0)), (1, .int a1), (2, .int a2), (3, .int a3)] := hl
  have hown : s.vm.findClass RX10 = some m.cls := hown
  have fk74 : (Cond.constantLong RX10 74 (-1)).before ar s = true := hts _ (by decide +kernel)
  unfold f_X10_narrow_B at hf
  refine lv_iload_n hx hb dX10_narrow_0 rfl (lv_at hl 1 rfl) ?_
  refine lv_iconst (v := (1 : Int32)) hx hb dX10_narrow_1 (by decide) ?_
  refine lv_bipush (v := (6 : Int32)) hx hb dX10_narrow_2 (by decide) ?_
  obtain ⟨r1, hc2, hf⟩ := ob_some hf
  refine kc_i (k_runS ⟨hx, hb, hml, hown, hts⟩ (c_X10_within hc2) (va_cwS 3 hts gX10_narrow_X10_within rfl rfl rfl (by decide +kernel) ⟨Nat.le_of_ble_eq_true rfl, Nat.le_of_ble_eq_true rfl⟩) hK hN hP hD kA_0 rfl hl.1 rfl (Nat.le_of_ble_eq_true rfl) dX10_narrow_4 ⟨(Nat.le_of_ble_eq_true rfl), (Nat.le_of_ble_eq_true rfl)⟩) hP hD hS hA kI_0 (fun _ H locs hP hD hS => ?_)
  refine lv_if_eq (tgt := 25) hx hb dX10_narrow_7 (by decide) (fun c3 => ?_) (fun c3 => ?_)
  · have hf := if_t hf c3
    refine lv_ldc2 (v := (-1 : Int64)) hx hb hown fk74 dX10_narrow_25 ?_
    refine W.widen (k := 0) (n := 0) (Nat.le_of_ble_eq_true rfl) (Nat.le_of_ble_eq_true rfl) ?_
    obtain rfl := Option.some.inj hf
    exact hQ (kU []) 28 _ _ _ dX10_narrow_28 hP hD hS
  · have hf := if_f hf c3
    refine lv_iload_n hx hb dX10_narrow_10 rfl (lv_at hl 2 rfl) ?_
    refine lv_iconst (v := (1 : Int32)) hx hb dX10_narrow_11 (by decide) ?_
    refine lv_bipush (v := (6 : Int32)) hx hb dX10_narrow_12 (by decide) ?_
    obtain ⟨r4, hc5, hf⟩ := ob_some hf
    refine kc_i (k_runS ⟨hx, hb, hml, hown, hts⟩ (c_X10_within hc5) (va_cwS 3 hts gX10_narrow_X10_within rfl rfl rfl (by decide +kernel) ⟨Nat.le_of_ble_eq_true rfl, Nat.le_of_ble_eq_true rfl⟩) hK hN hP hD kA_0 rfl hl.1 rfl (Nat.le_of_ble_eq_true rfl) dX10_narrow_14 ⟨(Nat.le_of_ble_eq_true rfl), (Nat.le_of_ble_eq_true rfl)⟩) hP hD hS hA kI_0 (fun _ H locs hP hD hS => ?_)
    refine lv_if_eq (tgt := 25) hx hb dX10_narrow_17 (by decide) (fun c6 => ?_) (fun c6 => ?_)
    · have hf := if_t hf c6
      refine lv_ldc2 (v := (-1 : Int64)) hx hb hown fk74 dX10_narrow_25 ?_
      refine W.widen (k := 0) (n := 0) (Nat.le_of_ble_eq_true rfl) (Nat.le_of_ble_eq_true rfl) ?_
      obtain rfl := Option.some.inj hf
      exact hQ (kU []) 28 _ _ _ dX10_narrow_28 hP hD hS
    · have hf := if_f hf c6
      refine lv_iload_n hx hb dX10_narrow_20 rfl (lv_at hl 3 rfl) ?_
      refine lv_iconst (v := (-1 : Int32)) hx hb dX10_narrow_21 (by decide) ?_
      refine lv_icmp_ge (tgt := 29) hx hb dX10_narrow_22 (by decide) (fun c7 => ?_) (fun c7 => ?_)
      · have hf := if_t hf c7
        refine lv_aload_n hx hb dX10_narrow_29 rfl (lv_at hl 0 rfl) ?_
        exact no_some hf
      · have hf := if_f hf c7
        refine lv_ldc2 (v := (-1 : Int64)) hx hb hown fk74 dX10_narrow_25 ?_
        refine W.widen (k := 0) (n := 0) (Nat.le_of_ble_eq_true rfl) (Nat.le_of_ble_eq_true rfl) ?_
        obtain rfl := Option.some.inj hf
        exact hQ (kU []) 28 _ _ _ dX10_narrow_28 hP hD hS
def f_X10_narrow_N (F : Nat) (pm : Nat) (pl : List Nat) (a1 : Int32) (a2 : Int32) (a3 : Int32) (g_base : Int32) : Option (Int64 × (Nat → Int32) × (Nat → Int32) × (Nat → Int32) × Nat × (Nat → Int32) × Int32 × Int32 × Int32 × Int32 × Int32 × Int32) := (f_X10_within F a1 (1 : Int32) (6 : Int32)).bind (fun r1 => if r1 = 0 then (none) else ((f_X10_within F a2 (1 : Int32) (6 : Int32)).bind (fun r4 => if r4 = 0 then (none) else (if (-1 : Int32) ≤ a3 then (ck ((32) ≤ pm ∧ pm ≤ pm) ((f_X4_seek F pm pl g_base a1 a2 (fun _ => 0) (fun _ => 0) (fun _ => 0) 32 (fun _ => 0) (0 : Int32) (0 : Int32) (0 : Int32) (0 : Int32) (0 : Int32) (0 : Int32)).bind (fun r12 => ck ((r12.2.2.2.1) = pm) (if a3 < 0 then ((f_X10_countOrNone F a3 r12.2.2.2.2.2.1).bind (fun r17 => some (r17.toInt64, r12.1, r12.2.1, r12.2.2.1, r12.2.2.2.1, r12.2.2.2.2.1, r12.2.2.2.2.2.1, r12.2.2.2.2.2.2.1, r12.2.2.2.2.2.2.2.1, r12.2.2.2.2.2.2.2.2.1, r12.2.2.2.2.2.2.2.2.2.1, r12.2.2.2.2.2.2.2.2.2.2))) else (if r12.2.2.2.2.2.1 ≤ a3 then ((f_X10_countOrNone F a3 r12.2.2.2.2.2.1).bind (fun r20 => some (r20.toInt64, r12.1, r12.2.1, r12.2.2.1, r12.2.2.2.1, r12.2.2.2.2.1, r12.2.2.2.2.2.1, r12.2.2.2.2.2.2.1, r12.2.2.2.2.2.2.2.1, r12.2.2.2.2.2.2.2.2.1, r12.2.2.2.2.2.2.2.2.2.1, r12.2.2.2.2.2.2.2.2.2.2))) else (ck (¬ (a3 < 0 ∨ r12.2.2.2.1 ≤ a3.toNatClampNeg)) (some ((r12.2.2.2.2.1 a3.toNatClampNeg).toInt64, r12.1, r12.2.1, r12.2.2.1, r12.2.2.2.1, r12.2.2.2.2.1, r12.2.2.2.2.2.1, r12.2.2.2.2.2.2.1, r12.2.2.2.2.2.2.2.1, r12.2.2.2.2.2.2.2.2.1, r12.2.2.2.2.2.2.2.2.2.1, r12.2.2.2.2.2.2.2.2.2.2)))))))) else (none)))))
abbrev rmX10_narrow_N (k : Nat) : Room := { frames := 13, cells := 5 + k, slots := 90 + 2 * k, locals := 370 }
set_option maxHeartbeats 1000000 in
set_option maxRecDepth 100000 in
theorem c_X10_narrow_N {l : Launch} {D : va_G} {cy : Nat → ClassId} {qX : Nat → Nat} {qG : Nat → Nat} {qP : Nat → Nat} {qR : Nat → Nat} {oS : Option Nat} {oB : Option Nat} {oE : Option Nat} {oL : Option Nat} {x_ways : Nat → Option Nat} {g_base : Int32} {g_worth : Nat → Int32} {g_row : Nat → Int32} {g_many : Nat → Int32} {g_version : Int32} {a1 : Int32} {a2 : Int32} {a3 : Int32} {F : Nat} {pm pot0 : Nat} {pl : List Nat} {res : Int64 × (Nat → Int32) × (Nat → Int32) × (Nat → Int32) × Nat × (Nat → Int32) × Int32 × Int32 × Int32 × Int32 × Int32 × Int32} (hf : f_X10_narrow_N F pm pl a1 a2 a3 g_base = some res) (hp0 : pot0 = 32) : kM l yX10_narrow wsX10_narrow (rmX10_narrow_N (pm - pot0)) D cy [.ref (qX 0), .int a1, .int a2, .int a3] (gX cy qX (qG 0) (qP 0) (qR 0) oS oB oE none oL x_ways ++ (gG cy qG g_base g_worth g_row g_many g_version)) (kQl D cy (fun u : Nat → Nat → Nat => gX cy qX (qG 0) (qP 0) (qR 0) oS oB oE (some ((u 0) 0)) oL x_ways ++ (gG cy qG g_base g_worth g_row g_many g_version ++ (gN cy (u 0) (u 1) res.2.1 res.2.2.1 res.2.2.2.1 res.2.2.2.2.1 res.2.2.2.2.2.1 res.2.2.2.2.2.2.1 res.2.2.2.2.2.2.2.1 res.2.2.2.2.2.2.2.2.1 res.2.2.2.2.2.2.2.2.2.1 res.2.2.2.2.2.2.2.2.2.2.1 res.2.2.2.2.2.2.2.2.2.2.2))) res.1) := by
  refine kent_l (cc := cX10_narrow) (maxL := 4) (by decide) rfl (Nat.le_of_ble_eq_true rfl) ?_
  intro p e0 s m ar below meth c A Q ls ⟨hx, hb, hml, hr, hts, hown, hlocks, hnm⟩ hA hK hN hQ hP hD hS hl
  have hl : lv_has ls 4 [(0, .ref (qX 0)), (1, .int a1), (2, .int a2), (3, .int a3)] := hl
  have hown : s.vm.findClass RX10 = some m.cls := hown
  have fk74 : (Cond.constantLong RX10 74 (-1)).before ar s = true := hts _ (by decide +kernel)
  have huX10 : ∀ x ∈ u_ws RX10 TX10 9, x ∈ wsX10_narrow := by decide +kernel
  have fk187 : (Cond.fieldLink RX10 187 "FigurePlay" "narrows" "LFigurePlay$Narrows;").before ar s = true := hts _ (by decide +kernel)
  have huX4 : ∀ x ∈ u_ws RX4 TX4 10, x ∈ wsX10_narrow := by decide +kernel
  have fk10 : (Cond.fieldLink RX10 10 "FigurePlay" "figures" "LFigurePlay$Figures;").before ar s = true := hts _ (by decide +kernel)
  have huX1 : ∀ x ∈ u_ws RX1 TX1 5, x ∈ wsX10_narrow := by decide +kernel
  have fk42 : (Cond.fieldLink RX10 42 "FigurePlay$Figures" "base" "I").before ar s = true := hts _ (by decide +kernel)
  have fk198 : (Cond.fieldLink RX10 198 "FigurePlay$Narrows" "size" "I").before ar s = true := hts _ (by decide +kernel)
  have fk201 : (Cond.fieldLink RX10 201 "FigurePlay$Narrows" "found" "[I").before ar s = true := hts _ (by decide +kernel)
  unfold f_X10_narrow_N at hf
  refine lv_iload_n hx hb dX10_narrow_0 rfl (lv_at hl 1 rfl) ?_
  refine lv_iconst (v := (1 : Int32)) hx hb dX10_narrow_1 (by decide) ?_
  refine lv_bipush (v := (6 : Int32)) hx hb dX10_narrow_2 (by decide) ?_
  obtain ⟨r1, hc2, hf⟩ := ob_some hf
  refine kc_i (k_runS ⟨hx, hb, hml, hown, hts⟩ (c_X10_within hc2) (va_cwS 3 hts gX10_narrow_X10_within rfl rfl rfl (by decide +kernel) ⟨Nat.le_of_ble_eq_true rfl, Nat.le_of_ble_eq_true rfl⟩) hK hN hP hD kA_0 rfl hl.1 rfl (Nat.le_of_ble_eq_true rfl) dX10_narrow_4 ⟨(by show 0 + 0 ≤ 5 + (pm - pot0); omega), (by show 0 + 0 ≤ 90 + 2 * (pm - pot0); omega)⟩) hP hD hS hA kI_0 (fun _ H locs hP hD hS => ?_)
  refine W.widen (k := 0) (n := 0) (Nat.le_refl _) (Nat.le_refl _) ?_
  refine lv_if_eq (tgt := 25) hx hb dX10_narrow_7 (by decide) (fun c3 => ?_) (fun c3 => ?_)
  · have hf := if_t hf c3
    refine lv_ldc2 (v := (-1 : Int64)) hx hb hown fk74 dX10_narrow_25 ?_
    exact no_some hf
  · have hf := if_f hf c3
    refine lv_iload_n hx hb dX10_narrow_10 rfl (lv_at hl 2 rfl) ?_
    refine lv_iconst (v := (1 : Int32)) hx hb dX10_narrow_11 (by decide) ?_
    refine lv_bipush (v := (6 : Int32)) hx hb dX10_narrow_12 (by decide) ?_
    obtain ⟨r4, hc5, hf⟩ := ob_some hf
    refine kc_i (k_runS ⟨hx, hb, hml, hown, hts⟩ (c_X10_within hc5) (va_cwS 3 hts gX10_narrow_X10_within rfl rfl rfl (by decide +kernel) ⟨Nat.le_of_ble_eq_true rfl, Nat.le_of_ble_eq_true rfl⟩) hK hN hP hD kA_0 rfl hl.1 rfl (Nat.le_of_ble_eq_true rfl) dX10_narrow_14 ⟨(by show 0 + 0 ≤ 5 + (pm - pot0); omega), (by show 0 + 0 ≤ 90 + 2 * (pm - pot0); omega)⟩) hP hD hS hA kI_0 (fun _ H locs hP hD hS => ?_)
    refine W.widen (k := 0) (n := 0) (Nat.le_refl _) (Nat.le_refl _) ?_
    refine lv_if_eq (tgt := 25) hx hb dX10_narrow_17 (by decide) (fun c6 => ?_) (fun c6 => ?_)
    · have hf := if_t hf c6
      refine lv_ldc2 (v := (-1 : Int64)) hx hb hown fk74 dX10_narrow_25 ?_
      exact no_some hf
    · have hf := if_f hf c6
      refine lv_iload_n hx hb dX10_narrow_20 rfl (lv_at hl 3 rfl) ?_
      refine lv_iconst (v := (-1 : Int32)) hx hb dX10_narrow_21 (by decide) ?_
      refine lv_icmp_ge (tgt := 29) hx hb dX10_narrow_22 (by decide) (fun c7 => ?_) (fun c7 => ?_)
      · have hf := if_t hf c7
        refine lv_aload_n hx hb dX10_narrow_29 rfl (lv_at hl 0 rfl) ?_
        refine va_get (v := .null) (D := D) (ci := 10) (C := RX10) (T := TX10) (N := 9) hx hb hts huX10 hown hK hP 0 rfl rfl 7 (by decide) fk187 (fun _ h9 => h9) rfl dX10_narrow_30 ?_
        refine lv_ifnonnullN hx hb dX10_narrow_33 ?_
        refine lv_aload_n hx hb dX10_narrow_36 rfl (lv_at hl 0 rfl) ?_
        refine va_new (ci := 4) (fs := [.null, .null, .null, .null, .int 0, .int 0, .int 0, .int 0, .int 0, .int 0]) (C := RX4) (T := TX4) (N := 10) hx hb hts huX4 tyX4 tyX4_ok hown (hts (.classLink RX10 191 RX4) (by decide +kernel)) (hts (.instantiable RX4 10) (by decide +kernel)) (hts (.initialized RX4) (by decide +kernel)) hK hP hD hS hA rfl (fun j hj => match j, hj with | 0, _ => rfl | 1, _ => rfl | 2, _ => rfl | 3, _ => rfl | 4, _ => rfl | 5, _ => rfl | 6, _ => rfl | 7, _ => rfl | 8, _ => rfl | 9, _ => rfl | j + 10, hj => absurd hj (by omega)) (by show 0 + 1 ≤ 5 + (pm - pot0); omega) (by show 0 + 10 ≤ 90 + 2 * (pm - pot0); omega) dX10_narrow_37 (fun h8 H hP hD hS => ?_)
        have hP : va_P D vwCl ((gX cy qX (qG 0) (qP 0) (qR 0) oS oB oE none oL x_ways ++ (gG cy qG g_base g_worth g_row g_many g_version)) ++ [(h8, .inr (4, [.null, .null, .null, .null, .int 0, .int 0, .int 0, .int 0, .int 0, .int 0]))]) H := hP
        have hD : va_D A ((gX cy qX (qG 0) (qP 0) (qR 0) oS oB oE none oL x_ways ++ (gG cy qG g_base g_worth g_row g_many g_version)) ++ [(h8, .inr (4, [.null, .null, .null, .null, .int 0, .int 0, .int 0, .int 0, .int 0, .int 0]))]) := hD
        refine W.widen (k := 1) (n := 10) (by show 0 + 1 ≤ 1; omega) (by show 0 + 10 ≤ 10; omega) ?_
        refine lv_dup hx hb dX10_narrow_40 rfl ?_
        have hI9 : kIn ((gX cy qX (qG 0) (qP 0) (qR 0) oS oB oE none oL x_ways ++ (gG cy qG g_base g_worth g_row g_many g_version)) ++ [(h8, .inr (4, [.null, .null, .null, .null, .int 0, .int 0, .int 0, .int 0, .int 0, .int 0]))]) [(h8, .inr (4, [.null, .null, .null, .null, .int 0, .int 0, .int 0, .int 0, .int 0, .int 0]))] (kpick ((gX cy qX (qG 0) (qP 0) (qR 0) oS oB oE none oL x_ways ++ (gG cy qG g_base g_worth g_row g_many g_version)) ++ [(h8, .inr (4, [.null, .null, .null, .null, .int 0, .int 0, .int 0, .int 0, .int 0, .int 0]))]) [0, 1, 2, 3, 4, 5]) (fun u : (Nat → Nat) × (Nat → Nat) => gN cy (va_up u.1 0 h8) u.2 (fun _ => 0) (fun _ => 0) (fun _ => 0) 32 (fun _ => 0) (0 : Int32) (0 : Int32) (0 : Int32) (0 : Int32) (0 : Int32) (0 : Int32)) (fun u : (Nat → Nat) × (Nat → Nat) => (gX cy qX (qG 0) (qP 0) (qR 0) oS oB oE none oL x_ways ++ (gG cy qG g_base g_worth g_row g_many g_version)) ++ (gN cy (va_up u.1 0 h8) u.2 (fun _ => 0) (fun _ => 0) (fun _ => 0) 32 (fun _ => 0) (0 : Int32) (0 : Int32) (0 : Int32) (0 : Int32) (0 : Int32) (0 : Int32))) [6] [0, 1, 2, 3, 4, 5] [0, 1, 2, 3, 4, 5, 6, 7, 8, 9, 10] := ⟨rfl, rfl, rfl, rfl, by decide, rfl, fun _ => rfl⟩
        refine kc_v (k_runIN ⟨hx, hb, hml, hown, hts⟩ (c_X4_init) ⟨va_cnB 0 hts ggX10_narrow_X4_init rfl rfl rfl hN.2.2.2.2.2.1 (hts (.initialized RX4) (by decide +kernel)) (by decide +kernel) ⟨Nat.le_of_ble_eq_true rfl, Nat.le_of_ble_eq_true rfl⟩, rfl, hts (.instanceMethod yX4_init) (by decide +kernel)⟩ hK hN hP hD ⟨hI9.1, hI9.2.2.1⟩ rfl hl.1 rfl (Nat.le_of_ble_eq_true rfl) dX10_narrow_41 ⟨(by show 1 + 4 ≤ 5 + (pm - pot0); omega), (by show 10 + 80 ≤ 90 + 2 * (pm - pot0); omega)⟩) hP hD hS hA hI9 (fun u10 H locs hP hD hS => ?_)
        obtain ⟨qN, hq0, hqe⟩ : ∃ z : Nat → Nat, z 0 = h8 ∧ z = va_up u10.1 0 h8 := ⟨_, rfl, rfl⟩
        rw [← hqe] at hP hD
        rw [← hq0]
        obtain ⟨uN, hue⟩ : ∃ z : Nat → Nat, z = u10.2 := ⟨_, rfl⟩
        rw [← hue] at hP hD
        have hP : va_P D vwCl (gX cy qX (qG 0) (qP 0) (qR 0) oS oB oE none oL x_ways ++ (gG cy qG g_base g_worth g_row g_many g_version ++ (gN cy qN uN (fun _ => 0) (fun _ => 0) (fun _ => 0) 32 (fun _ => 0) (0 : Int32) (0 : Int32) (0 : Int32) (0 : Int32) (0 : Int32) (0 : Int32)))) H := hP
        have hD : va_D A (gX cy qX (qG 0) (qP 0) (qR 0) oS oB oE none oL x_ways ++ (gG cy qG g_base g_worth g_row g_many g_version ++ (gN cy qN uN (fun _ => 0) (fun _ => 0) (fun _ => 0) 32 (fun _ => 0) (0 : Int32) (0 : Int32) (0 : Int32) (0 : Int32) (0 : Int32) (0 : Int32)))) := hD
        refine W.widen (k := 5) (n := 90) (by show 1 + 4 ≤ 5; omega) (by show 10 + 80 ≤ 90; omega) ?_
        refine va_put (D := D) (ci := 10) (v := .ref (qN 0)) (ty := .object "FigurePlay$Narrows") (C := RX10) (T := TX10) (N := 9) hx hb hts huX10 tyX10 tyX10_ok nmX10 hown hK hP hD hS 0 rfl rfl 7 (by decide) fk187 (fun _ h9 => h9) rfl (tyX10_ok 7 (by decide)) rfl rfl (Nat.le_of_ble_eq_true rfl) dX10_narrow_44 (fun H locs hP hD hS => ?_)
        have hP : va_P D vwCl (gX cy qX (qG 0) (qP 0) (qR 0) oS oB oE (some (qN 0)) oL x_ways ++ (gG cy qG g_base g_worth g_row g_many g_version ++ (gN cy qN uN (fun _ => 0) (fun _ => 0) (fun _ => 0) 32 (fun _ => 0) (0 : Int32) (0 : Int32) (0 : Int32) (0 : Int32) (0 : Int32) (0 : Int32)))) H := hP
        have hD : va_D A (gX cy qX (qG 0) (qP 0) (qR 0) oS oB oE (some (qN 0)) oL x_ways ++ (gG cy qG g_base g_worth g_row g_many g_version ++ (gN cy qN uN (fun _ => 0) (fun _ => 0) (fun _ => 0) 32 (fun _ => 0) (0 : Int32) (0 : Int32) (0 : Int32) (0 : Int32) (0 : Int32) (0 : Int32)))) := hD
        refine lv_aload_n hx hb dX10_narrow_47 rfl (lv_at hl 0 rfl) ?_
        refine va_get (v := .ref (qN 0)) (D := D) (ci := 10) (C := RX10) (T := TX10) (N := 9) hx hb hts huX10 hown hK hP 0 rfl rfl 7 (by decide) fk187 (fun _ h9 => h9) rfl dX10_narrow_48 ?_
        refine lv_aload_n hx hb dX10_narrow_51 rfl (lv_at hl 0 rfl) ?_
        refine va_get (v := .ref (qG 0)) (D := D) (ci := 10) (C := RX10) (T := TX10) (N := 9) hx hb hts huX10 hown hK hP 0 rfl rfl 0 (by decide) fk10 (fun _ h9 => h9) rfl dX10_narrow_52 ?_
        refine va_get (D := D) (ci := 1) (C := RX1) (T := TX1) (N := 5) hx hb hts huX1 hown hK hP 2 rfl rfl 0 (by decide) fk42 (fun _ h9 => h9) rfl dX10_narrow_55 ?_
        refine lv_iload_n hx hb dX10_narrow_58 rfl (lv_at hl 1 rfl) ?_
        refine lv_iload_n hx hb dX10_narrow_59 rfl (lv_at hl 2 rfl) ?_
        obtain ⟨cg11, hf⟩ := ck_some hf
        obtain ⟨r12, hc13, hf⟩ := ob_some hf
        have hI14 : kIn (gX cy qX (qG 0) (qP 0) (qR 0) oS oB oE (some (qN 0)) oL x_ways ++ (gG cy qG g_base g_worth g_row g_many g_version ++ (gN cy qN uN (fun _ => 0) (fun _ => 0) (fun _ => 0) 32 (fun _ => 0) (0 : Int32) (0 : Int32) (0 : Int32) (0 : Int32) (0 : Int32) (0 : Int32)))) (gN cy qN uN (fun _ => 0) (fun _ => 0) (fun _ => 0) 32 (fun _ => 0) (0 : Int32) (0 : Int32) (0 : Int32) (0 : Int32) (0 : Int32) (0 : Int32)) (kpick (gX cy qX (qG 0) (qP 0) (qR 0) oS oB oE (some (qN 0)) oL x_ways ++ (gG cy qG g_base g_worth g_row g_many g_version ++ (gN cy qN uN (fun _ => 0) (fun _ => 0) (fun _ => 0) 32 (fun _ => 0) (0 : Int32) (0 : Int32) (0 : Int32) (0 : Int32) (0 : Int32) (0 : Int32)))) [0, 1, 2, 3, 4, 5]) (fun uN : Nat → Nat => gN cy qN uN r12.1 r12.2.1 r12.2.2.1 r12.2.2.2.1 r12.2.2.2.2.1 r12.2.2.2.2.2.1 r12.2.2.2.2.2.2.1 r12.2.2.2.2.2.2.2.1 r12.2.2.2.2.2.2.2.2.1 r12.2.2.2.2.2.2.2.2.2.1 r12.2.2.2.2.2.2.2.2.2.2) (fun uN : Nat → Nat => gX cy qX (qG 0) (qP 0) (qR 0) oS oB oE (some (qN 0)) oL x_ways ++ (gG cy qG g_base g_worth g_row g_many g_version ++ (gN cy qN uN r12.1 r12.2.1 r12.2.2.1 r12.2.2.2.1 r12.2.2.2.2.1 r12.2.2.2.2.2.1 r12.2.2.2.2.2.2.1 r12.2.2.2.2.2.2.2.1 r12.2.2.2.2.2.2.2.2.1 r12.2.2.2.2.2.2.2.2.2.1 r12.2.2.2.2.2.2.2.2.2.2))) [6, 7, 8, 9, 10] [0, 1, 2, 3, 4, 5] [0, 1, 2, 3, 4, 5, 6, 7, 8, 9, 10] := ⟨rfl, rfl, rfl, rfl, by decide, rfl, fun _ => rfl⟩
        refine kc_v (k_run ⟨hx, hb, hml, hown, hts⟩ (c_X4_seek hc13 rfl) (cwV 3 hts gX10_narrow_X4_seek rfl rfl rfl (by decide +kernel) ⟨Nat.le_of_ble_eq_true rfl, Nat.le_of_ble_eq_true rfl⟩) hK hN hP hD ⟨hI14.1, hI14.2.2.1⟩ (ci := 4) (q0 := 0) rfl rfl rfl rfl hl.1 rfl (Nat.le_of_ble_eq_true rfl) dX10_narrow_60 ⟨(by show 5 + (pm - (32)) ≤ 5 + (pm - pot0); omega), (by show 90 + 2 * (pm - (32)) ≤ 90 + 2 * (pm - pot0); omega)⟩) hP hD hS hA hI14 (fun uN H locs hP hD hS => ?_)
        obtain ⟨cq15, hf⟩ := ck_some hf
        refine W.widen (k := 5 + (pm - (32))) (n := 90 + 2 * (pm - (32))) (by show 5 + (pm - (32)) ≤ 5 + (pm - (32)); omega) (by show 90 + 2 * (pm - (32)) ≤ 90 + 2 * (pm - (32)); omega) ?_
        refine lv_iload_n hx hb dX10_narrow_63 rfl (lv_at hl 3 rfl) ?_
        refine lv_if_lt (tgt := 91) hx hb dX10_narrow_64 (by decide) (fun c16 => ?_) (fun c16 => ?_)
        · have hf := if_t hf c16
          refine lv_iload_n hx hb dX10_narrow_91 rfl (lv_at hl 3 rfl) ?_
          refine lv_aload_n hx hb dX10_narrow_92 rfl (lv_at hl 0 rfl) ?_
          refine va_get (v := .ref (qN 0)) (D := D) (ci := 10) (C := RX10) (T := TX10) (N := 9) hx hb hts huX10 hown hK hP 0 rfl rfl 7 (by decide) fk187 (fun _ h9 => h9) rfl dX10_narrow_93 ?_
          refine va_get (D := D) (ci := 4) (C := RX4) (T := TX4) (N := 10) hx hb hts huX4 hown hK hP 6 rfl rfl 4 (by decide) fk198 (fun _ h9 => h9) rfl dX10_narrow_96 ?_
          obtain ⟨r17, hc18, hf⟩ := ob_some hf
          refine kc_i (k_runS ⟨hx, hb, hml, hown, hts⟩ (c_X10_countOrNone hc18) (va_cwS 2 hts gX10_narrow_X10_countOrNone rfl rfl rfl (by decide +kernel) ⟨Nat.le_of_ble_eq_true rfl, Nat.le_of_ble_eq_true rfl⟩) hK hN hP hD kA_0 rfl hl.1 rfl (Nat.le_of_ble_eq_true rfl) dX10_narrow_99 ⟨(by show 5 + (pm - (32)) + 0 ≤ 5 + (pm - pot0); omega), (by show 90 + 2 * (pm - (32)) + 0 ≤ 90 + 2 * (pm - pot0); omega)⟩) hP hD hS hA kI_0 (fun _ H locs hP hD hS => ?_)
          refine W.widen (k := 5 + (pm - (32))) (n := 90 + 2 * (pm - (32))) (Nat.le_refl _) (Nat.le_refl _) ?_
          refine lv_i2l hx hb dX10_narrow_102 rfl ?_
          refine W.widen (k := 5 + (pm - pot0)) (n := 90 + 2 * (pm - pot0)) (by show 5 + (pm - (32)) ≤ 5 + (pm - pot0); omega) (by show 90 + 2 * (pm - (32)) ≤ 90 + 2 * (pm - pot0); omega) ?_
          obtain rfl := Option.some.inj hf
          exact hQ (kU [qN, uN]) 103 _ _ _ dX10_narrow_103 hP hD hS
        · have hf := if_f hf c16
          refine lv_iload_n hx hb dX10_narrow_67 rfl (lv_at hl 3 rfl) ?_
          refine lv_aload_n hx hb dX10_narrow_68 rfl (lv_at hl 0 rfl) ?_
          refine va_get (v := .ref (qN 0)) (D := D) (ci := 10) (C := RX10) (T := TX10) (N := 9) hx hb hts huX10 hown hK hP 0 rfl rfl 7 (by decide) fk187 (fun _ h9 => h9) rfl dX10_narrow_69 ?_
          refine va_get (D := D) (ci := 4) (C := RX4) (T := TX4) (N := 10) hx hb hts huX4 hown hK hP 6 rfl rfl 4 (by decide) fk198 (fun _ h9 => h9) rfl dX10_narrow_72 ?_
          refine lv_icmp_ge (tgt := 91) hx hb dX10_narrow_75 (by decide) (fun c19 => ?_) (fun c19 => ?_)
          · have hf := if_t hf c19
            refine lv_iload_n hx hb dX10_narrow_91 rfl (lv_at hl 3 rfl) ?_
            refine lv_aload_n hx hb dX10_narrow_92 rfl (lv_at hl 0 rfl) ?_
            refine va_get (v := .ref (qN 0)) (D := D) (ci := 10) (C := RX10) (T := TX10) (N := 9) hx hb hts huX10 hown hK hP 0 rfl rfl 7 (by decide) fk187 (fun _ h9 => h9) rfl dX10_narrow_93 ?_
            refine va_get (D := D) (ci := 4) (C := RX4) (T := TX4) (N := 10) hx hb hts huX4 hown hK hP 6 rfl rfl 4 (by decide) fk198 (fun _ h9 => h9) rfl dX10_narrow_96 ?_
            obtain ⟨r20, hc21, hf⟩ := ob_some hf
            refine kc_i (k_runS ⟨hx, hb, hml, hown, hts⟩ (c_X10_countOrNone hc21) (va_cwS 2 hts gX10_narrow_X10_countOrNone rfl rfl rfl (by decide +kernel) ⟨Nat.le_of_ble_eq_true rfl, Nat.le_of_ble_eq_true rfl⟩) hK hN hP hD kA_0 rfl hl.1 rfl (Nat.le_of_ble_eq_true rfl) dX10_narrow_99 ⟨(by show 5 + (pm - (32)) + 0 ≤ 5 + (pm - pot0); omega), (by show 90 + 2 * (pm - (32)) + 0 ≤ 90 + 2 * (pm - pot0); omega)⟩) hP hD hS hA kI_0 (fun _ H locs hP hD hS => ?_)
            refine W.widen (k := 5 + (pm - (32))) (n := 90 + 2 * (pm - (32))) (Nat.le_refl _) (Nat.le_refl _) ?_
            refine lv_i2l hx hb dX10_narrow_102 rfl ?_
            refine W.widen (k := 5 + (pm - pot0)) (n := 90 + 2 * (pm - pot0)) (by show 5 + (pm - (32)) ≤ 5 + (pm - pot0); omega) (by show 90 + 2 * (pm - (32)) ≤ 90 + 2 * (pm - pot0); omega) ?_
            obtain rfl := Option.some.inj hf
            exact hQ (kU [qN, uN]) 103 _ _ _ dX10_narrow_103 hP hD hS
          · have hf := if_f hf c19
            refine lv_aload_n hx hb dX10_narrow_78 rfl (lv_at hl 0 rfl) ?_
            refine va_get (v := .ref (qN 0)) (D := D) (ci := 10) (C := RX10) (T := TX10) (N := 9) hx hb hts huX10 hown hK hP 0 rfl rfl 7 (by decide) fk187 (fun _ h9 => h9) rfl dX10_narrow_79 ?_
            refine va_get (v := .ref (uN 0)) (D := D) (ci := 4) (C := RX4) (T := TX4) (N := 10) hx hb hts huX4 hown hK hP 6 rfl rfl 3 (by decide) fk201 (fun _ h9 => h9) rfl dX10_narrow_82 ?_
            refine lv_iload_n hx hb dX10_narrow_85 rfl (lv_at hl 3 rfl) ?_
            obtain ⟨c22, hf⟩ := ck_some hf
            refine va_iald hx hb hK hP 10 0 rfl rfl c22 dX10_narrow_86 ?_
            refine lv_i2l hx hb dX10_narrow_87 rfl ?_
            refine lv_goto (tgt := 103) hx hb dX10_narrow_88 (by decide) ?_
            refine W.widen (k := 5 + (pm - pot0)) (n := 90 + 2 * (pm - pot0)) (by show 5 + (pm - (32)) ≤ 5 + (pm - pot0); omega) (by show 90 + 2 * (pm - (32)) ≤ 90 + 2 * (pm - pot0); omega) ?_
            obtain rfl := Option.some.inj hf
            exact hQ (kU [qN, uN]) 103 _ _ _ dX10_narrow_103 hP hD hS
      · have hf := if_f hf c7
        refine lv_ldc2 (v := (-1 : Int64)) hx hb hown fk74 dX10_narrow_25 ?_
        exact no_some hf
def f_X10_narrow_P (F : Nat) (pm : Nat) (pl : List Nat) (a1 : Int32) (a2 : Int32) (a3 : Int32) (g_base : Int32) (n_powers : Nat → Int32) (n_taken : Nat → Int32) (n_left : Nat → Int32) (n_n_found : Nat) (n_found : Nat → Int32) (n_size : Int32) (n_base : Int32) (n_width : Int32) (n_exponent : Int32) (n_least : Int32) (n_most : Int32) : Option (Int64 × (Nat → Int32) × (Nat → Int32) × (Nat → Int32) × Nat × (Nat → Int32) × Int32 × Int32 × Int32 × Int32 × Int32 × Int32) := (f_X10_within F a1 (1 : Int32) (6 : Int32)).bind (fun r1 => if r1 = 0 then (some ((-1 : Int64), n_powers, n_taken, n_left, n_n_found, n_found, n_size, n_base, n_width, n_exponent, n_least, n_most)) else ((f_X10_within F a2 (1 : Int32) (6 : Int32)).bind (fun r4 => if r4 = 0 then (some ((-1 : Int64), n_powers, n_taken, n_left, n_n_found, n_found, n_size, n_base, n_width, n_exponent, n_least, n_most)) else (if (-1 : Int32) ≤ a3 then (ck ((n_n_found) ≤ pm ∧ pm ≤ pm) ((f_X4_seek F pm pl g_base a1 a2 n_powers n_taken n_left n_n_found n_found n_size n_base n_width n_exponent n_least n_most).bind (fun r9 => ck ((r9.2.2.2.1) = pm) (if a3 < 0 then ((f_X10_countOrNone F a3 r9.2.2.2.2.2.1).bind (fun r14 => some (r14.toInt64, r9.1, r9.2.1, r9.2.2.1, r9.2.2.2.1, r9.2.2.2.2.1, r9.2.2.2.2.2.1, r9.2.2.2.2.2.2.1, r9.2.2.2.2.2.2.2.1, r9.2.2.2.2.2.2.2.2.1, r9.2.2.2.2.2.2.2.2.2.1, r9.2.2.2.2.2.2.2.2.2.2))) else (if r9.2.2.2.2.2.1 ≤ a3 then ((f_X10_countOrNone F a3 r9.2.2.2.2.2.1).bind (fun r17 => some (r17.toInt64, r9.1, r9.2.1, r9.2.2.1, r9.2.2.2.1, r9.2.2.2.2.1, r9.2.2.2.2.2.1, r9.2.2.2.2.2.2.1, r9.2.2.2.2.2.2.2.1, r9.2.2.2.2.2.2.2.2.1, r9.2.2.2.2.2.2.2.2.2.1, r9.2.2.2.2.2.2.2.2.2.2))) else (ck (¬ (a3 < 0 ∨ r9.2.2.2.1 ≤ a3.toNatClampNeg)) (some ((r9.2.2.2.2.1 a3.toNatClampNeg).toInt64, r9.1, r9.2.1, r9.2.2.1, r9.2.2.2.1, r9.2.2.2.2.1, r9.2.2.2.2.2.1, r9.2.2.2.2.2.2.1, r9.2.2.2.2.2.2.2.1, r9.2.2.2.2.2.2.2.2.1, r9.2.2.2.2.2.2.2.2.2.1, r9.2.2.2.2.2.2.2.2.2.2)))))))) else (some ((-1 : Int64), n_powers, n_taken, n_left, n_n_found, n_found, n_size, n_base, n_width, n_exponent, n_least, n_most))))))
abbrev rmX10_narrow_P (k : Nat) : Room := { frames := 13, cells := 0 + k, slots := 0 + 2 * k, locals := 370 }
set_option maxHeartbeats 1000000 in
set_option maxRecDepth 100000 in
theorem c_X10_narrow_P {l : Launch} {D : va_G} {cy : Nat → ClassId} {qX : Nat → Nat} {qG : Nat → Nat} {qP : Nat → Nat} {qR : Nat → Nat} {qN : Nat → Nat} {uN : Nat → Nat} {oS : Option Nat} {oB : Option Nat} {oE : Option Nat} {oL : Option Nat} {x_ways : Nat → Option Nat} {n_powers : Nat → Int32} {n_taken : Nat → Int32} {n_left : Nat → Int32} {n_n_found : Nat} {n_found : Nat → Int32} {n_size : Int32} {n_base : Int32} {n_width : Int32} {n_exponent : Int32} {n_least : Int32} {n_most : Int32} {g_base : Int32} {g_worth : Nat → Int32} {g_row : Nat → Int32} {g_many : Nat → Int32} {g_version : Int32} {a1 : Int32} {a2 : Int32} {a3 : Int32} {F : Nat} {pm pot0 : Nat} {pl : List Nat} {res : Int64 × (Nat → Int32) × (Nat → Int32) × (Nat → Int32) × Nat × (Nat → Int32) × Int32 × Int32 × Int32 × Int32 × Int32 × Int32} (hf : f_X10_narrow_P F pm pl a1 a2 a3 g_base n_powers n_taken n_left n_n_found n_found n_size n_base n_width n_exponent n_least n_most = some res) (hp0 : pot0 = n_n_found) : kM l yX10_narrow wsX10_narrow (rmX10_narrow_P (pm - pot0)) D cy [.ref (qX 0), .int a1, .int a2, .int a3] (gX cy qX (qG 0) (qP 0) (qR 0) oS oB oE (some (qN 0)) oL x_ways ++ (gN cy qN uN n_powers n_taken n_left n_n_found n_found n_size n_base n_width n_exponent n_least n_most ++ (gG cy qG g_base g_worth g_row g_many g_version))) (kQl D cy (fun u : Nat → Nat → Nat => gX cy qX (qG 0) (qP 0) (qR 0) oS oB oE (some (qN 0)) oL x_ways ++ (gN cy qN (u 0) res.2.1 res.2.2.1 res.2.2.2.1 res.2.2.2.2.1 res.2.2.2.2.2.1 res.2.2.2.2.2.2.1 res.2.2.2.2.2.2.2.1 res.2.2.2.2.2.2.2.2.1 res.2.2.2.2.2.2.2.2.2.1 res.2.2.2.2.2.2.2.2.2.2.1 res.2.2.2.2.2.2.2.2.2.2.2 ++ (gG cy qG g_base g_worth g_row g_many g_version))) res.1) := by
  refine kent_l (cc := cX10_narrow) (maxL := 4) (by decide) rfl (Nat.le_of_ble_eq_true rfl) ?_
  intro p e0 s m ar below meth c A Q ls ⟨hx, hb, hml, hr, hts, hown, hlocks, hnm⟩ hA hK hN hQ hP hD hS hl
  have hl : lv_has ls 4 [(0, .ref (qX 0)), (1, .int a1), (2, .int a2), (3, .int a3)] := hl
  have hown : s.vm.findClass RX10 = some m.cls := hown
  have fk74 : (Cond.constantLong RX10 74 (-1)).before ar s = true := hts _ (by decide +kernel)
  have huX10 : ∀ x ∈ u_ws RX10 TX10 9, x ∈ wsX10_narrow := by decide +kernel
  have fk187 : (Cond.fieldLink RX10 187 "FigurePlay" "narrows" "LFigurePlay$Narrows;").before ar s = true := hts _ (by decide +kernel)
  have fk10 : (Cond.fieldLink RX10 10 "FigurePlay" "figures" "LFigurePlay$Figures;").before ar s = true := hts _ (by decide +kernel)
  have huX1 : ∀ x ∈ u_ws RX1 TX1 5, x ∈ wsX10_narrow := by decide +kernel
  have fk42 : (Cond.fieldLink RX10 42 "FigurePlay$Figures" "base" "I").before ar s = true := hts _ (by decide +kernel)
  have huX4 : ∀ x ∈ u_ws RX4 TX4 10, x ∈ wsX10_narrow := by decide +kernel
  have fk198 : (Cond.fieldLink RX10 198 "FigurePlay$Narrows" "size" "I").before ar s = true := hts _ (by decide +kernel)
  have fk201 : (Cond.fieldLink RX10 201 "FigurePlay$Narrows" "found" "[I").before ar s = true := hts _ (by decide +kernel)
  unfold f_X10_narrow_P at hf
  refine lv_iload_n hx hb dX10_narrow_0 rfl (lv_at hl 1 rfl) ?_
  refine lv_iconst (v := (1 : Int32)) hx hb dX10_narrow_1 (by decide) ?_
  refine lv_bipush (v := (6 : Int32)) hx hb dX10_narrow_2 (by decide) ?_
  obtain ⟨r1, hc2, hf⟩ := ob_some hf
  refine kc_i (k_runS ⟨hx, hb, hml, hown, hts⟩ (c_X10_within hc2) (va_cwS 3 hts gX10_narrow_X10_within rfl rfl rfl (by decide +kernel) ⟨Nat.le_of_ble_eq_true rfl, Nat.le_of_ble_eq_true rfl⟩) hK hN hP hD kA_0 rfl hl.1 rfl (Nat.le_of_ble_eq_true rfl) dX10_narrow_4 ⟨(by show 0 + 0 ≤ 0 + (pm - pot0); omega), (by show 0 + 0 ≤ 0 + 2 * (pm - pot0); omega)⟩) hP hD hS hA kI_0 (fun _ H locs hP hD hS => ?_)
  refine W.widen (k := 0) (n := 0) (Nat.le_refl _) (Nat.le_refl _) ?_
  refine lv_if_eq (tgt := 25) hx hb dX10_narrow_7 (by decide) (fun c3 => ?_) (fun c3 => ?_)
  · have hf := if_t hf c3
    refine lv_ldc2 (v := (-1 : Int64)) hx hb hown fk74 dX10_narrow_25 ?_
    refine W.widen (k := 0 + (pm - pot0)) (n := 0 + 2 * (pm - pot0)) (by show 0 ≤ 0 + (pm - pot0); omega) (by show 0 ≤ 0 + 2 * (pm - pot0); omega) ?_
    obtain rfl := Option.some.inj hf
    exact hQ (kU [uN]) 28 _ _ _ dX10_narrow_28 hP hD hS
  · have hf := if_f hf c3
    refine lv_iload_n hx hb dX10_narrow_10 rfl (lv_at hl 2 rfl) ?_
    refine lv_iconst (v := (1 : Int32)) hx hb dX10_narrow_11 (by decide) ?_
    refine lv_bipush (v := (6 : Int32)) hx hb dX10_narrow_12 (by decide) ?_
    obtain ⟨r4, hc5, hf⟩ := ob_some hf
    refine kc_i (k_runS ⟨hx, hb, hml, hown, hts⟩ (c_X10_within hc5) (va_cwS 3 hts gX10_narrow_X10_within rfl rfl rfl (by decide +kernel) ⟨Nat.le_of_ble_eq_true rfl, Nat.le_of_ble_eq_true rfl⟩) hK hN hP hD kA_0 rfl hl.1 rfl (Nat.le_of_ble_eq_true rfl) dX10_narrow_14 ⟨(by show 0 + 0 ≤ 0 + (pm - pot0); omega), (by show 0 + 0 ≤ 0 + 2 * (pm - pot0); omega)⟩) hP hD hS hA kI_0 (fun _ H locs hP hD hS => ?_)
    refine W.widen (k := 0) (n := 0) (Nat.le_refl _) (Nat.le_refl _) ?_
    refine lv_if_eq (tgt := 25) hx hb dX10_narrow_17 (by decide) (fun c6 => ?_) (fun c6 => ?_)
    · have hf := if_t hf c6
      refine lv_ldc2 (v := (-1 : Int64)) hx hb hown fk74 dX10_narrow_25 ?_
      refine W.widen (k := 0 + (pm - pot0)) (n := 0 + 2 * (pm - pot0)) (by show 0 ≤ 0 + (pm - pot0); omega) (by show 0 ≤ 0 + 2 * (pm - pot0); omega) ?_
      obtain rfl := Option.some.inj hf
      exact hQ (kU [uN]) 28 _ _ _ dX10_narrow_28 hP hD hS
    · have hf := if_f hf c6
      refine lv_iload_n hx hb dX10_narrow_20 rfl (lv_at hl 3 rfl) ?_
      refine lv_iconst (v := (-1 : Int32)) hx hb dX10_narrow_21 (by decide) ?_
      refine lv_icmp_ge (tgt := 29) hx hb dX10_narrow_22 (by decide) (fun c7 => ?_) (fun c7 => ?_)
      · have hf := if_t hf c7
        refine lv_aload_n hx hb dX10_narrow_29 rfl (lv_at hl 0 rfl) ?_
        refine va_get (v := .ref (qN 0)) (D := D) (ci := 10) (C := RX10) (T := TX10) (N := 9) hx hb hts huX10 hown hK hP 0 rfl rfl 7 (by decide) fk187 (fun _ h9 => h9) rfl dX10_narrow_30 ?_
        refine lv_ifnonnull (tgt := 47) hx hb dX10_narrow_33 (by decide) ?_
        refine lv_aload_n hx hb dX10_narrow_47 rfl (lv_at hl 0 rfl) ?_
        refine va_get (v := .ref (qN 0)) (D := D) (ci := 10) (C := RX10) (T := TX10) (N := 9) hx hb hts huX10 hown hK hP 0 rfl rfl 7 (by decide) fk187 (fun _ h9 => h9) rfl dX10_narrow_48 ?_
        refine lv_aload_n hx hb dX10_narrow_51 rfl (lv_at hl 0 rfl) ?_
        refine va_get (v := .ref (qG 0)) (D := D) (ci := 10) (C := RX10) (T := TX10) (N := 9) hx hb hts huX10 hown hK hP 0 rfl rfl 0 (by decide) fk10 (fun _ h9 => h9) rfl dX10_narrow_52 ?_
        refine va_get (D := D) (ci := 1) (C := RX1) (T := TX1) (N := 5) hx hb hts huX1 hown hK hP 7 rfl rfl 0 (by decide) fk42 (fun _ h9 => h9) rfl dX10_narrow_55 ?_
        refine lv_iload_n hx hb dX10_narrow_58 rfl (lv_at hl 1 rfl) ?_
        refine lv_iload_n hx hb dX10_narrow_59 rfl (lv_at hl 2 rfl) ?_
        obtain ⟨cg8, hf⟩ := ck_some hf
        obtain ⟨r9, hc10, hf⟩ := ob_some hf
        have hI11 : kIn (gX cy qX (qG 0) (qP 0) (qR 0) oS oB oE (some (qN 0)) oL x_ways ++ (gN cy qN uN n_powers n_taken n_left n_n_found n_found n_size n_base n_width n_exponent n_least n_most ++ (gG cy qG g_base g_worth g_row g_many g_version))) (gN cy qN uN n_powers n_taken n_left n_n_found n_found n_size n_base n_width n_exponent n_least n_most) (kpick (gX cy qX (qG 0) (qP 0) (qR 0) oS oB oE (some (qN 0)) oL x_ways ++ (gN cy qN uN n_powers n_taken n_left n_n_found n_found n_size n_base n_width n_exponent n_least n_most ++ (gG cy qG g_base g_worth g_row g_many g_version))) [0, 1, 7, 8, 9, 10]) (fun uN : Nat → Nat => gN cy qN uN r9.1 r9.2.1 r9.2.2.1 r9.2.2.2.1 r9.2.2.2.2.1 r9.2.2.2.2.2.1 r9.2.2.2.2.2.2.1 r9.2.2.2.2.2.2.2.1 r9.2.2.2.2.2.2.2.2.1 r9.2.2.2.2.2.2.2.2.2.1 r9.2.2.2.2.2.2.2.2.2.2) (fun uN : Nat → Nat => gX cy qX (qG 0) (qP 0) (qR 0) oS oB oE (some (qN 0)) oL x_ways ++ (gN cy qN uN r9.1 r9.2.1 r9.2.2.1 r9.2.2.2.1 r9.2.2.2.2.1 r9.2.2.2.2.2.1 r9.2.2.2.2.2.2.1 r9.2.2.2.2.2.2.2.1 r9.2.2.2.2.2.2.2.2.1 r9.2.2.2.2.2.2.2.2.2.1 r9.2.2.2.2.2.2.2.2.2.2 ++ (gG cy qG g_base g_worth g_row g_many g_version))) [2, 3, 4, 5, 6] [0, 1, 7, 8, 9, 10] [0, 1, 6, 7, 8, 9, 10, 2, 3, 4, 5] := ⟨rfl, rfl, rfl, rfl, by decide, rfl, fun _ => rfl⟩
        refine kc_v (k_run ⟨hx, hb, hml, hown, hts⟩ (c_X4_seek hc10 rfl) (cwV 3 hts gX10_narrow_X4_seek rfl rfl rfl (by decide +kernel) ⟨Nat.le_of_ble_eq_true rfl, Nat.le_of_ble_eq_true rfl⟩) hK hN hP hD ⟨hI11.1, hI11.2.2.1⟩ (ci := 4) (q0 := 0) rfl rfl rfl rfl hl.1 rfl (Nat.le_of_ble_eq_true rfl) dX10_narrow_60 ⟨(by show 0 + (pm - (n_n_found)) ≤ 0 + (pm - pot0); omega), (by show 0 + 2 * (pm - (n_n_found)) ≤ 0 + 2 * (pm - pot0); omega)⟩) hP hD hS hA hI11 (fun uN H locs hP hD hS => ?_)
        obtain ⟨cq12, hf⟩ := ck_some hf
        refine W.widen (k := 0 + (pm - (n_n_found))) (n := 0 + 2 * (pm - (n_n_found))) (by show 0 + (pm - (n_n_found)) ≤ 0 + (pm - (n_n_found)); omega) (by show 0 + 2 * (pm - (n_n_found)) ≤ 0 + 2 * (pm - (n_n_found)); omega) ?_
        refine lv_iload_n hx hb dX10_narrow_63 rfl (lv_at hl 3 rfl) ?_
        refine lv_if_lt (tgt := 91) hx hb dX10_narrow_64 (by decide) (fun c13 => ?_) (fun c13 => ?_)
        · have hf := if_t hf c13
          refine lv_iload_n hx hb dX10_narrow_91 rfl (lv_at hl 3 rfl) ?_
          refine lv_aload_n hx hb dX10_narrow_92 rfl (lv_at hl 0 rfl) ?_
          refine va_get (v := .ref (qN 0)) (D := D) (ci := 10) (C := RX10) (T := TX10) (N := 9) hx hb hts huX10 hown hK hP 0 rfl rfl 7 (by decide) fk187 (fun _ h9 => h9) rfl dX10_narrow_93 ?_
          refine va_get (D := D) (ci := 4) (C := RX4) (T := TX4) (N := 10) hx hb hts huX4 hown hK hP 2 rfl rfl 4 (by decide) fk198 (fun _ h9 => h9) rfl dX10_narrow_96 ?_
          obtain ⟨r14, hc15, hf⟩ := ob_some hf
          refine kc_i (k_runS ⟨hx, hb, hml, hown, hts⟩ (c_X10_countOrNone hc15) (va_cwS 2 hts gX10_narrow_X10_countOrNone rfl rfl rfl (by decide +kernel) ⟨Nat.le_of_ble_eq_true rfl, Nat.le_of_ble_eq_true rfl⟩) hK hN hP hD kA_0 rfl hl.1 rfl (Nat.le_of_ble_eq_true rfl) dX10_narrow_99 ⟨(by show 0 + (pm - (n_n_found)) + 0 ≤ 0 + (pm - pot0); omega), (by show 0 + 2 * (pm - (n_n_found)) + 0 ≤ 0 + 2 * (pm - pot0); omega)⟩) hP hD hS hA kI_0 (fun _ H locs hP hD hS => ?_)
          refine W.widen (k := 0 + (pm - (n_n_found))) (n := 0 + 2 * (pm - (n_n_found))) (Nat.le_refl _) (Nat.le_refl _) ?_
          refine lv_i2l hx hb dX10_narrow_102 rfl ?_
          refine W.widen (k := 0 + (pm - pot0)) (n := 0 + 2 * (pm - pot0)) (by show 0 + (pm - (n_n_found)) ≤ 0 + (pm - pot0); omega) (by show 0 + 2 * (pm - (n_n_found)) ≤ 0 + 2 * (pm - pot0); omega) ?_
          obtain rfl := Option.some.inj hf
          exact hQ (kU [uN]) 103 _ _ _ dX10_narrow_103 hP hD hS
        · have hf := if_f hf c13
          refine lv_iload_n hx hb dX10_narrow_67 rfl (lv_at hl 3 rfl) ?_
          refine lv_aload_n hx hb dX10_narrow_68 rfl (lv_at hl 0 rfl) ?_
          refine va_get (v := .ref (qN 0)) (D := D) (ci := 10) (C := RX10) (T := TX10) (N := 9) hx hb hts huX10 hown hK hP 0 rfl rfl 7 (by decide) fk187 (fun _ h9 => h9) rfl dX10_narrow_69 ?_
          refine va_get (D := D) (ci := 4) (C := RX4) (T := TX4) (N := 10) hx hb hts huX4 hown hK hP 2 rfl rfl 4 (by decide) fk198 (fun _ h9 => h9) rfl dX10_narrow_72 ?_
          refine lv_icmp_ge (tgt := 91) hx hb dX10_narrow_75 (by decide) (fun c16 => ?_) (fun c16 => ?_)
          · have hf := if_t hf c16
            refine lv_iload_n hx hb dX10_narrow_91 rfl (lv_at hl 3 rfl) ?_
            refine lv_aload_n hx hb dX10_narrow_92 rfl (lv_at hl 0 rfl) ?_
            refine va_get (v := .ref (qN 0)) (D := D) (ci := 10) (C := RX10) (T := TX10) (N := 9) hx hb hts huX10 hown hK hP 0 rfl rfl 7 (by decide) fk187 (fun _ h9 => h9) rfl dX10_narrow_93 ?_
            refine va_get (D := D) (ci := 4) (C := RX4) (T := TX4) (N := 10) hx hb hts huX4 hown hK hP 2 rfl rfl 4 (by decide) fk198 (fun _ h9 => h9) rfl dX10_narrow_96 ?_
            obtain ⟨r17, hc18, hf⟩ := ob_some hf
            refine kc_i (k_runS ⟨hx, hb, hml, hown, hts⟩ (c_X10_countOrNone hc18) (va_cwS 2 hts gX10_narrow_X10_countOrNone rfl rfl rfl (by decide +kernel) ⟨Nat.le_of_ble_eq_true rfl, Nat.le_of_ble_eq_true rfl⟩) hK hN hP hD kA_0 rfl hl.1 rfl (Nat.le_of_ble_eq_true rfl) dX10_narrow_99 ⟨(by show 0 + (pm - (n_n_found)) + 0 ≤ 0 + (pm - pot0); omega), (by show 0 + 2 * (pm - (n_n_found)) + 0 ≤ 0 + 2 * (pm - pot0); omega)⟩) hP hD hS hA kI_0 (fun _ H locs hP hD hS => ?_)
            refine W.widen (k := 0 + (pm - (n_n_found))) (n := 0 + 2 * (pm - (n_n_found))) (Nat.le_refl _) (Nat.le_refl _) ?_
            refine lv_i2l hx hb dX10_narrow_102 rfl ?_
            refine W.widen (k := 0 + (pm - pot0)) (n := 0 + 2 * (pm - pot0)) (by show 0 + (pm - (n_n_found)) ≤ 0 + (pm - pot0); omega) (by show 0 + 2 * (pm - (n_n_found)) ≤ 0 + 2 * (pm - pot0); omega) ?_
            obtain rfl := Option.some.inj hf
            exact hQ (kU [uN]) 103 _ _ _ dX10_narrow_103 hP hD hS
          · have hf := if_f hf c16
            refine lv_aload_n hx hb dX10_narrow_78 rfl (lv_at hl 0 rfl) ?_
            refine va_get (v := .ref (qN 0)) (D := D) (ci := 10) (C := RX10) (T := TX10) (N := 9) hx hb hts huX10 hown hK hP 0 rfl rfl 7 (by decide) fk187 (fun _ h9 => h9) rfl dX10_narrow_79 ?_
            refine va_get (v := .ref (uN 0)) (D := D) (ci := 4) (C := RX4) (T := TX4) (N := 10) hx hb hts huX4 hown hK hP 2 rfl rfl 3 (by decide) fk201 (fun _ h9 => h9) rfl dX10_narrow_82 ?_
            refine lv_iload_n hx hb dX10_narrow_85 rfl (lv_at hl 3 rfl) ?_
            obtain ⟨c19, hf⟩ := ck_some hf
            refine va_iald hx hb hK hP 6 0 rfl rfl c19 dX10_narrow_86 ?_
            refine lv_i2l hx hb dX10_narrow_87 rfl ?_
            refine lv_goto (tgt := 103) hx hb dX10_narrow_88 (by decide) ?_
            refine W.widen (k := 0 + (pm - pot0)) (n := 0 + 2 * (pm - pot0)) (by show 0 + (pm - (n_n_found)) ≤ 0 + (pm - pot0); omega) (by show 0 + 2 * (pm - (n_n_found)) ≤ 0 + 2 * (pm - pot0); omega) ?_
            obtain rfl := Option.some.inj hf
            exact hQ (kU [uN]) 103 _ _ _ dX10_narrow_103 hP hD hS
      · have hf := if_f hf c7
        refine lv_ldc2 (v := (-1 : Int64)) hx hb hown fk74 dX10_narrow_25 ?_
        refine W.widen (k := 0 + (pm - pot0)) (n := 0 + 2 * (pm - pot0)) (by show 0 ≤ 0 + (pm - pot0); omega) (by show 0 ≤ 0 + 2 * (pm - pot0); omega) ?_
        obtain rfl := Option.some.inj hf
        exact hQ (kU [uN]) 28 _ _ _ dX10_narrow_28 hP hD hS
