/-! the reference: functions and contracts -/
def f_X11_in_J18 (F : Nat) (s0 : Int32) : Option (Int32) := ck (s0 &&& 1 = s0) (some s0)
def f_X11_in_J17 (F : Nat) : Option (Int32) := f_X11_in_J18 F (0 : Int32)
def f_X11_in (F : Nat) (a0 : Int64) (a2 : Int64) (a4 : Int64) : Option (Int32) := if a0 < a2 then (f_X11_in_J17 F) else (if a4 < a0 then (f_X11_in_J17 F) else (f_X11_in_J18 F (1 : Int32)))
abbrev rmX11_in : Room := { frames := 0, cells := 0, slots := 0, locals := 0 }
set_option maxHeartbeats 1000000 in
set_option maxRecDepth 100000 in
theorem c_X11_in {l : Launch} {D : va_G} {cy : Nat → ClassId} {a0 : Int64} {a2 : Int64} {a4 : Int64} {F : Nat} {res : Int32} (hf : f_X11_in F a0 a2 a4 = some res) : kM l yX11_in wsX11_in rmX11_in D cy [.long a0, .long a2, .long a4] ([]) (kQi D cy (fun _ : Unit => []) res) := by
  refine kent_z (cc := cX11_in) (maxL := 6) (by decide) rfl (Nat.le_of_ble_eq_true rfl) ?_
  intro p e0 s m ar below meth c A Q ls ⟨hx, hb, hml, hr, hts, hown, hlocks, hnm⟩ hA hK hN hQ hP hD hS hl
  have hl : lv_has ls 6 [(0, .long a0), (2, .long a2), (4, .long a4)] := hl
  have hown : s.vm.findClass RX11 = some m.cls := hown
  unfold f_X11_in at hf
  have hJ18 : ∀ (s0 : Int32) (H : Heap) (locs : List Loc) (ls : Array Slot), f_X11_in_J18 F s0 = some res → va_P D vwCl ([]) H → va_D A ([]) → va_S A s.heap H locs → lv_has ls 6 [] → W p l e0 rmX11_in s m ar below meth c H locs 0 0 Q (F0 m 18 ls [.int s0]) := by
    intro s0 H locs ls hf hP hD hS hl
    unfold f_X11_in_J18 at hf
    obtain ⟨cz, hf⟩ := ck_some hf
    obtain rfl := Option.some.inj hf
    exact hQ () 18 _ _ _ cz dX11_in_18 hP hD hS
  have hJ17 : ∀ (H : Heap) (locs : List Loc) (ls : Array Slot), f_X11_in_J17 F = some res → va_P D vwCl ([]) H → va_D A ([]) → va_S A s.heap H locs → lv_has ls 6 [] → W p l e0 rmX11_in s m ar below meth c H locs 0 0 Q (F0 m 17 ls []) := by
    intro H locs ls hf hP hD hS hl
    unfold f_X11_in_J17 at hf
    refine lv_iconst (v := (0 : Int32)) hx hb dX11_in_17 (by decide) ?_
    exact hJ18 (0 : Int32) _ _ _ hf hP hD hS (lv_sub hl [] rfl)
  refine lv_lload_n hx hb dX11_in_0 rfl (lv_at hl 0 rfl) ?_
  refine lv_lload_n hx hb dX11_in_1 rfl (lv_at hl 1 rfl) ?_
  refine kl_lt (tgt := 17) hx hb dX11_in_2 dX11_in_3 (by decide) (fun c1 => ?_) (fun c1 => ?_)
  · have hf := if_t hf c1
    exact hJ17 _ _ _ hf hP hD hS (lv_sub hl [] rfl)
  · have hf := if_f hf c1
    refine lv_lload_n hx hb dX11_in_6 rfl (lv_at hl 0 rfl) ?_
    refine lv_lload hx hb dX11_in_7 (lv_at hl 2 rfl) ?_
    refine kl_gt (tgt := 17) hx hb dX11_in_9 dX11_in_10 (by decide) (fun c2 => ?_) (fun c2 => ?_)
    · have hf := if_t hf c2
      exact hJ17 _ _ _ hf hP hD hS (lv_sub hl [] rfl)
    · have hf := if_f hf c2
      refine lv_iconst (v := (1 : Int32)) hx hb dX11_in_13 (by decide) ?_
      refine lv_goto (tgt := 18) hx hb dX11_in_14 (by decide) ?_
      exact hJ18 (1 : Int32) _ _ _ hf hP hD hS (lv_sub hl [] rfl)
def f_X11_base (F : Nat) (a1 : Int32) (m_base : Int32) : Option (Int32 × Int32) := (f_X11_in F a1.toInt64 (2 : Int64) (16 : Int64)).bind (fun r1 => if r1 = 0 then (some ((-1 : Int32), m_base)) else (some (m_base, a1)))
abbrev rmX11_base : Room := { frames := 1, cells := 0, slots := 0, locals := 25 }
set_option maxHeartbeats 1000000 in
set_option maxRecDepth 100000 in
theorem c_X11_base {l : Launch} {D : va_G} {cy : Nat → ClassId} {qM : Nat → Nat} {m_base : Int32} {m_f : Nat → Int32} {m_many : Int32} {m_figures : Nat → Int32} {m_tail : Int32} {m_round : Int32} {m_rounds : Int32} {m_leasts : Nat → Int64} {m_likes : Int32} {m_like : Nat → Int32} {m_isTwo : Nat → Int32} {m_came : Nat → Int32} {m_by : Nat → Int32} {m_queue : Nat → Int32} {m_kind : Int32} {m_parts : Int32} {m_wanted : Int32} {m_allowed : Int32} {m_bitOf : Nat → Int32} {m_met : Int32} {m_row : Nat → Int32} {m_narrows : Int32} {m_narrow : Nat → Int64} {m_isMade : Nat → Int32} {a1 : Int32} {F : Nat} {res : Int32 × Int32} (hf : f_X11_base F a1 m_base = some res) : kM l yX11_base wsX11_base rmX11_base D cy [.ref (qM 0), .int a1] (gM cy qM m_base m_f m_many m_figures m_tail m_round m_rounds m_leasts m_likes m_like m_isTwo m_came m_by m_queue m_kind m_parts m_wanted m_allowed m_bitOf m_met m_row m_narrows m_narrow m_isMade) (kQi D cy (fun _ : Unit => gM cy qM res.2 m_f m_many m_figures m_tail m_round m_rounds m_leasts m_likes m_like m_isTwo m_came m_by m_queue m_kind m_parts m_wanted m_allowed m_bitOf m_met m_row m_narrows m_narrow m_isMade) res.1) := by
  refine kent_i (cc := cX11_base) (maxL := 3) (by decide) rfl (Nat.le_of_ble_eq_true rfl) ?_
  intro p e0 s m ar below meth c A Q ls ⟨hx, hb, hml, hr, hts, hown, hlocks, hnm⟩ hA hK hN hQ hP hD hS hl
  have hl : lv_has ls 3 [(0, .ref (qM 0)), (1, .int a1)] := hl
  have hown : s.vm.findClass RX11 = some m.cls := hown
  have fk53 : (Cond.constantLong RX11 53 (2)).before ar s = true := hts _ (by decide +kernel)
  have fk55 : (Cond.constantLong RX11 55 (16)).before ar s = true := hts _ (by decide +kernel)
  have huX11 : ∀ x ∈ u_ws RX11 TX11 24, x ∈ wsX11_base := by decide +kernel
  have fk7 : (Cond.fieldLink RX11 7 "FigurePlayModel" "base" "I").before ar s = true := hts _ (by decide +kernel)
  unfold f_X11_base at hf
  refine lv_iload_n hx hb dX11_base_0 rfl (lv_at hl 1 rfl) ?_
  refine lv_i2l hx hb dX11_base_1 rfl ?_
  refine lv_ldc2 (v := (2 : Int64)) hx hb hown fk53 dX11_base_2 ?_
  refine lv_ldc2 (v := (16 : Int64)) hx hb hown fk55 dX11_base_5 ?_
  obtain ⟨r1, hc2, hf⟩ := ob_some hf
  refine kc_i (k_runS ⟨hx, hb, hml, hown, hts⟩ (c_X11_in hc2) (va_cwS 3 hts gX11_base_X11_in rfl rfl rfl (by decide +kernel) ⟨Nat.le_of_ble_eq_true rfl, Nat.le_of_ble_eq_true rfl⟩) hK hN hP hD kA_0 rfl hl.1 rfl (Nat.le_of_ble_eq_true rfl) dX11_base_8 ⟨Nat.le_of_ble_eq_true rfl, Nat.le_of_ble_eq_true rfl⟩) hP hD hS hA kI_0 (fun _ H locs hP hD hS => ?_)
  refine lv_if_ne (tgt := 16) hx hb dX11_base_11 (by decide) (fun c3 => ?_) (fun c3 => ?_)
  · have hf := if_f hf c3
    refine lv_aload_n hx hb dX11_base_16 rfl (lv_at hl 0 rfl) ?_
    refine va_get (D := D) (ci := 11) (C := RX11) (T := TX11) (N := 24) hx hb hts huX11 hown hK hP 0 rfl rfl 0 (by decide) fk7 (fun _ h9 => h9) rfl dX11_base_17 ?_
    refine lv_istore_n (lv' := [(2, .int m_base), (0, .ref (qM 0)), (1, .int a1)]) hx hb dX11_base_20 rfl hl (by decide) rfl (fun ls hl => ?_)
    refine lv_aload_n hx hb dX11_base_21 rfl (lv_at hl 1 rfl) ?_
    refine lv_iload_n hx hb dX11_base_22 rfl (lv_at hl 2 rfl) ?_
    refine va_put (D := D) (ci := 11) (v := .int a1) (ty := .int) (C := RX11) (T := TX11) (N := 24) hx hb hts huX11 tyX11 tyX11_ok nmX11 hown hK hP hD hS 0 rfl rfl 0 (by decide) fk7 (fun _ h9 => h9) rfl (tyX11_ok 0 (by decide)) rfl rfl (Nat.le_of_ble_eq_true rfl) dX11_base_23 (fun H locs hP hD hS => ?_)
    have hP : va_P D vwCl (gM cy qM a1 m_f m_many m_figures m_tail m_round m_rounds m_leasts m_likes m_like m_isTwo m_came m_by m_queue m_kind m_parts m_wanted m_allowed m_bitOf m_met m_row m_narrows m_narrow m_isMade) H := hP
    have hD : va_D A (gM cy qM a1 m_f m_many m_figures m_tail m_round m_rounds m_leasts m_likes m_like m_isTwo m_came m_by m_queue m_kind m_parts m_wanted m_allowed m_bitOf m_met m_row m_narrows m_narrow m_isMade) := hD
    refine lv_iload_n hx hb dX11_base_26 rfl (lv_at hl 0 rfl) ?_
    obtain rfl := Option.some.inj hf
    exact hQ () 27 _ _ _ dX11_base_27 hP hD hS
  · have hf := if_t hf c3
    refine lv_iconst (v := (-1 : Int32)) hx hb dX11_base_14 (by decide) ?_
    obtain rfl := Option.some.inj hf
    exact hQ () 15 _ _ _ dX11_base_15 hP hD hS
def f_X11_table_J24 (F : Nat) (m_f : Nat → Int32) : Option (Int32 × (Nat → Int32)) := some ((-1 : Int32), m_f)
def f_X11_table (F : Nat) (a1 : Int32) (a2 : Int32) (m_f : Nat → Int32) : Option (Int32 × (Nat → Int32)) := (f_X11_in F a1.toInt64 (0 : Int64) (15 : Int64)).bind (fun r1 => if r1 = 0 then (f_X11_table_J24 F m_f) else ((f_X11_in F a2.toInt64 (0 : Int64) (100000 : Int64)).bind (fun r4 => if r4 = 0 then (f_X11_table_J24 F m_f) else (ck (¬ (a1 < 0 ∨ 16 ≤ a1.toNatClampNeg)) (ck (¬ (a1 < 0 ∨ 16 ≤ a1.toNatClampNeg)) (some ((m_f a1.toNatClampNeg), (upd m_f a1.toNatClampNeg a2))))))))
abbrev rmX11_table : Room := { frames := 1, cells := 0, slots := 0, locals := 25 }
set_option maxHeartbeats 1000000 in
set_option maxRecDepth 100000 in
theorem c_X11_table {l : Launch} {D : va_G} {cy : Nat → ClassId} {qM : Nat → Nat} {m_base : Int32} {m_f : Nat → Int32} {m_many : Int32} {m_figures : Nat → Int32} {m_tail : Int32} {m_round : Int32} {m_rounds : Int32} {m_leasts : Nat → Int64} {m_likes : Int32} {m_like : Nat → Int32} {m_isTwo : Nat → Int32} {m_came : Nat → Int32} {m_by : Nat → Int32} {m_queue : Nat → Int32} {m_kind : Int32} {m_parts : Int32} {m_wanted : Int32} {m_allowed : Int32} {m_bitOf : Nat → Int32} {m_met : Int32} {m_row : Nat → Int32} {m_narrows : Int32} {m_narrow : Nat → Int64} {m_isMade : Nat → Int32} {a1 : Int32} {a2 : Int32} {F : Nat} {res : Int32 × (Nat → Int32)} (hf : f_X11_table F a1 a2 m_f = some res) : kM l yX11_table wsX11_table rmX11_table D cy [.ref (qM 0), .int a1, .int a2] (gM cy qM m_base m_f m_many m_figures m_tail m_round m_rounds m_leasts m_likes m_like m_isTwo m_came m_by m_queue m_kind m_parts m_wanted m_allowed m_bitOf m_met m_row m_narrows m_narrow m_isMade) (kQi D cy (fun _ : Unit => gM cy qM m_base res.2 m_many m_figures m_tail m_round m_rounds m_leasts m_likes m_like m_isTwo m_came m_by m_queue m_kind m_parts m_wanted m_allowed m_bitOf m_met m_row m_narrows m_narrow m_isMade) res.1) := by
  refine kent_i (cc := cX11_table) (maxL := 4) (by decide) rfl (Nat.le_of_ble_eq_true rfl) ?_
  intro p e0 s m ar below meth c A Q ls ⟨hx, hb, hml, hr, hts, hown, hlocks, hnm⟩ hA hK hN hQ hP hD hS hl
  have hl : lv_has ls 4 [(0, .ref (qM 0)), (1, .int a1), (2, .int a2)] := hl
  have hown : s.vm.findClass RX11 = some m.cls := hown
  have fk61 : (Cond.constantLong RX11 61 (15)).before ar s = true := hts _ (by decide +kernel)
  have fk63 : (Cond.constantLong RX11 63 (100000)).before ar s = true := hts _ (by decide +kernel)
  have huX11 : ∀ x ∈ u_ws RX11 TX11 24, x ∈ wsX11_table := by decide +kernel
  have fk13 : (Cond.fieldLink RX11 13 "FigurePlayModel" "f" "[I").before ar s = true := hts _ (by decide +kernel)
  unfold f_X11_table at hf
  have hJ24 : ∀ (m_f : Nat → Int32) (H : Heap) (locs : List Loc) (ls : Array Slot), f_X11_table_J24 F m_f = some res → va_P D vwCl (gM cy qM m_base m_f m_many m_figures m_tail m_round m_rounds m_leasts m_likes m_like m_isTwo m_came m_by m_queue m_kind m_parts m_wanted m_allowed m_bitOf m_met m_row m_narrows m_narrow m_isMade) H → va_D A (gM cy qM m_base m_f m_many m_figures m_tail m_round m_rounds m_leasts m_likes m_like m_isTwo m_came m_by m_queue m_kind m_parts m_wanted m_allowed m_bitOf m_met m_row m_narrows m_narrow m_isMade) → va_S A s.heap H locs → lv_has ls 4 [] → W p l e0 rmX11_table s m ar below meth c H locs 0 0 Q (F0 m 24 ls []) := by
    intro m_f H locs ls hf hP hD hS hl
    unfold f_X11_table_J24 at hf
    refine lv_iconst (v := (-1 : Int32)) hx hb dX11_table_24 (by decide) ?_
    obtain rfl := Option.some.inj hf
    exact hQ () 25 _ _ _ dX11_table_25 hP hD hS
  refine lv_iload_n hx hb dX11_table_0 rfl (lv_at hl 1 rfl) ?_
  refine lv_i2l hx hb dX11_table_1 rfl ?_
  refine lv_lconst (v := (0 : Int64)) hx hb dX11_table_2 (by decide) ?_
  refine lv_ldc2 (v := (15 : Int64)) hx hb hown fk61 dX11_table_3 ?_
  obtain ⟨r1, hc2, hf⟩ := ob_some hf
  refine kc_i (k_runS ⟨hx, hb, hml, hown, hts⟩ (c_X11_in hc2) (va_cwS 3 hts gX11_table_X11_in rfl rfl rfl (by decide +kernel) ⟨Nat.le_of_ble_eq_true rfl, Nat.le_of_ble_eq_true rfl⟩) hK hN hP hD kA_0 rfl hl.1 rfl (Nat.le_of_ble_eq_true rfl) dX11_table_6 ⟨Nat.le_of_ble_eq_true rfl, Nat.le_of_ble_eq_true rfl⟩) hP hD hS hA kI_0 (fun _ H locs hP hD hS => ?_)
  refine lv_if_eq (tgt := 24) hx hb dX11_table_9 (by decide) (fun c3 => ?_) (fun c3 => ?_)
  · have hf := if_t hf c3
    exact hJ24 m_f _ _ _ hf hP hD hS (lv_sub hl [] rfl)
  · have hf := if_f hf c3
    refine lv_iload_n hx hb dX11_table_12 rfl (lv_at hl 2 rfl) ?_
    refine lv_i2l hx hb dX11_table_13 rfl ?_
    refine lv_lconst (v := (0 : Int64)) hx hb dX11_table_14 (by decide) ?_
    refine lv_ldc2 (v := (100000 : Int64)) hx hb hown fk63 dX11_table_15 ?_
    obtain ⟨r4, hc5, hf⟩ := ob_some hf
    refine kc_i (k_runS ⟨hx, hb, hml, hown, hts⟩ (c_X11_in hc5) (va_cwS 3 hts gX11_table_X11_in rfl rfl rfl (by decide +kernel) ⟨Nat.le_of_ble_eq_true rfl, Nat.le_of_ble_eq_true rfl⟩) hK hN hP hD kA_0 rfl hl.1 rfl (Nat.le_of_ble_eq_true rfl) dX11_table_18 ⟨Nat.le_of_ble_eq_true rfl, Nat.le_of_ble_eq_true rfl⟩) hP hD hS hA kI_0 (fun _ H locs hP hD hS => ?_)
    refine lv_if_ne (tgt := 26) hx hb dX11_table_21 (by decide) (fun c6 => ?_) (fun c6 => ?_)
    · have hf := if_f hf c6
      refine lv_aload_n hx hb dX11_table_26 rfl (lv_at hl 0 rfl) ?_
      refine va_get (v := .ref (qM 1)) (D := D) (ci := 11) (C := RX11) (T := TX11) (N := 24) hx hb hts huX11 hown hK hP 0 rfl rfl 1 (by decide) fk13 (fun _ h9 => h9) rfl dX11_table_27 ?_
      refine lv_iload_n hx hb dX11_table_30 rfl (lv_at hl 1 rfl) ?_
      obtain ⟨c7, hf⟩ := ck_some hf
      refine va_iald hx hb hK hP 1 0 rfl rfl c7 dX11_table_31 ?_
      refine lv_istore_n (lv' := [(3, .int (m_f a1.toNatClampNeg)), (0, .ref (qM 0)), (1, .int a1), (2, .int a2)]) hx hb dX11_table_32 rfl hl (by decide) rfl (fun ls hl => ?_)
      refine lv_aload_n hx hb dX11_table_33 rfl (lv_at hl 1 rfl) ?_
      refine va_get (v := .ref (qM 1)) (D := D) (ci := 11) (C := RX11) (T := TX11) (N := 24) hx hb hts huX11 hown hK hP 0 rfl rfl 1 (by decide) fk13 (fun _ h9 => h9) rfl dX11_table_34 ?_
      refine lv_iload_n hx hb dX11_table_37 rfl (lv_at hl 2 rfl) ?_
      refine lv_iload_n hx hb dX11_table_38 rfl (lv_at hl 3 rfl) ?_
      obtain ⟨c8, hf⟩ := ck_some hf
      refine va_iast hx hb hK hP hD hS 1 0 rfl rfl c8 dX11_table_39 (fun H locs hP hD hS => ?_)
      have hP : va_P D vwCl (gM cy qM m_base (upd m_f a1.toNatClampNeg a2) m_many m_figures m_tail m_round m_rounds m_leasts m_likes m_like m_isTwo m_came m_by m_queue m_kind m_parts m_wanted m_allowed m_bitOf m_met m_row m_narrows m_narrow m_isMade) H := hP
      have hD : va_D A (gM cy qM m_base (upd m_f a1.toNatClampNeg a2) m_many m_figures m_tail m_round m_rounds m_leasts m_likes m_like m_isTwo m_came m_by m_queue m_kind m_parts m_wanted m_allowed m_bitOf m_met m_row m_narrows m_narrow m_isMade) := hD
      refine lv_iload_n hx hb dX11_table_40 rfl (lv_at hl 0 rfl) ?_
      obtain rfl := Option.some.inj hf
      exact hQ () 41 _ _ _ dX11_table_41 hP hD hS
    · have hf := if_t hf c6
      exact hJ24 m_f _ _ _ hf hP hD hS (lv_sub hl [] rfl)
def f_X11_lay_J20 (F : Nat) (m_base : Int32) (rec : (Int64 × Int32 × (Nat → Int32)) → Option (Int32 × (Nat → Int32))) (x3 : Int64) (m_many : Int32) (m_figures : Nat → Int32) : Option (Int32 × (Nat → Int32)) := ck (¬ m_base.toInt64 = 0) (ck (¬ (m_many < 0 ∨ 64 ≤ m_many.toNatClampNeg)) (ck (¬ m_base.toInt64 = 0) (rec ((x3 / m_base.toInt64), (m_many + (1 : Int32)), (upd m_figures m_many.toNatClampNeg (x3 - x3 / m_base.toInt64 * m_base.toInt64).toInt32)))))
def f_X11_lay_B7 (F : Nat) (m_base : Int32) (rec : Int64 × Int32 × (Nat → Int32) → Option (Int32 × (Nat → Int32))) (x : Int64 × Int32 × (Nat → Int32)) : Option (Int32 × (Nat → Int32)) := if (0 : Int64) < x.1 then (f_X11_lay_J20 F m_base rec x.1 x.2.1 x.2.2) else (if x.2.1 = 0 then (f_X11_lay_J20 F m_base rec x.1 x.2.1 x.2.2) else (some (x.2.1, x.2.2)))
def f_X11_lay (F : Nat) (a1 : Int64) (m_base : Int32) (m_many : Int32) (m_figures : Nat → Int32) : Option (Int32 × (Nat → Int32)) := (lp (f_X11_lay_B7 F m_base) F (a1, (0 : Int32), m_figures)).bind (fun ex6 => some (ex6.1, ex6.2))
abbrev rmX11_lay : Room := { frames := 0, cells := 0, slots := 0, locals := 0 }
set_option maxHeartbeats 1000000 in
set_option maxRecDepth 100000 in
theorem c_X11_lay {l : Launch} {D : va_G} {cy : Nat → ClassId} {qM : Nat → Nat} {m_base : Int32} {m_f : Nat → Int32} {m_many : Int32} {m_figures : Nat → Int32} {m_tail : Int32} {m_round : Int32} {m_rounds : Int32} {m_leasts : Nat → Int64} {m_likes : Int32} {m_like : Nat → Int32} {m_isTwo : Nat → Int32} {m_came : Nat → Int32} {m_by : Nat → Int32} {m_queue : Nat → Int32} {m_kind : Int32} {m_parts : Int32} {m_wanted : Int32} {m_allowed : Int32} {m_bitOf : Nat → Int32} {m_met : Int32} {m_row : Nat → Int32} {m_narrows : Int32} {m_narrow : Nat → Int64} {m_isMade : Nat → Int32} {a1 : Int64} {F : Nat} {res : Int32 × (Nat → Int32)} (hf : f_X11_lay F a1 m_base m_many m_figures = some res) : kM l yX11_lay wsX11_lay rmX11_lay D cy [.ref (qM 0), .long a1] (gM cy qM m_base m_f m_many m_figures m_tail m_round m_rounds m_leasts m_likes m_like m_isTwo m_came m_by m_queue m_kind m_parts m_wanted m_allowed m_bitOf m_met m_row m_narrows m_narrow m_isMade) (kQv D cy (fun _ : Unit => gM cy qM m_base m_f res.1 res.2 m_tail m_round m_rounds m_leasts m_likes m_like m_isTwo m_came m_by m_queue m_kind m_parts m_wanted m_allowed m_bitOf m_met m_row m_narrows m_narrow m_isMade)) := by
  refine kent_v (cc := cX11_lay) (maxL := 5) (by decide) rfl (Nat.le_of_ble_eq_true rfl) ?_
  intro p e0 s m ar below meth c A Q ls ⟨hx, hb, hml, hr, hts, hown, hlocks, hnm⟩ hA hK hN hQ hP hD hS hl
  have hl : lv_has ls 5 [(0, .ref (qM 0)), (1, .long a1)] := hl
  have hown : s.vm.findClass RX11 = some m.cls := hown
  have huX11 : ∀ x ∈ u_ws RX11 TX11 24, x ∈ wsX11_lay := by decide +kernel
  have fk17 : (Cond.fieldLink RX11 17 "FigurePlayModel" "figures" "[I").before ar s = true := hts _ (by decide +kernel)
  have fk65 : (Cond.fieldLink RX11 65 "FigurePlayModel" "many" "I").before ar s = true := hts _ (by decide +kernel)
  have fk7 : (Cond.fieldLink RX11 7 "FigurePlayModel" "base" "I").before ar s = true := hts _ (by decide +kernel)
  unfold f_X11_lay at hf
  have hL7 : ∀ (k : Nat) (x : Int64 × Int32 × (Nat → Int32)) (ex : Int32 × (Nat → Int32)) (H : Heap) (locs : List Loc) (ls : Array Slot), lp (f_X11_lay_B7 F m_base) k x = some ex → (∀ (H : Heap) (locs : List Loc) (ls : Array Slot), va_P D vwCl (gM cy qM m_base m_f ex.1 ex.2 m_tail m_round m_rounds m_leasts m_likes m_like m_isTwo m_came m_by m_queue m_kind m_parts m_wanted m_allowed m_bitOf m_met m_row m_narrows m_narrow m_isMade) H → va_D A (gM cy qM m_base m_f ex.1 ex.2 m_tail m_round m_rounds m_leasts m_likes m_like m_isTwo m_came m_by m_queue m_kind m_parts m_wanted m_allowed m_bitOf m_met m_row m_narrows m_narrow m_isMade) → va_S A s.heap H locs → lv_has ls 5 [] → W p l e0 rmX11_lay s m ar below meth c H locs 0 0 Q (F0 m 58 ls [])) → va_P D vwCl (gM cy qM m_base m_f x.2.1 x.2.2 m_tail m_round m_rounds m_leasts m_likes m_like m_isTwo m_came m_by m_queue m_kind m_parts m_wanted m_allowed m_bitOf m_met m_row m_narrows m_narrow m_isMade) H → va_D A (gM cy qM m_base m_f x.2.1 x.2.2 m_tail m_round m_rounds m_leasts m_likes m_like m_isTwo m_came m_by m_queue m_kind m_parts m_wanted m_allowed m_bitOf m_met m_row m_narrows m_narrow m_isMade) → va_S A s.heap H locs → lv_has ls 5 [(0, .ref (qM 0)), (3, .long x.1)] → W p l e0 rmX11_lay s m ar below meth c H locs 0 0 Q (F0 m 7 ls []) := by
    intro k
    induction k with
    | zero => intro x ex H locs ls hf; exact no_some hf
    | succ k ih =>
      intro x ex H locs ls hf hex hP hD hS hl
      have hf : f_X11_lay_B7 F m_base (lp (f_X11_lay_B7 F m_base) k) x = some ex := hf
      unfold f_X11_lay_B7 at hf
      have hJ20 : ∀ (x3 : Int64) (m_many : Int32) (m_figures : Nat → Int32) (H : Heap) (locs : List Loc) (ls : Array Slot), f_X11_lay_J20 F m_base (lp (f_X11_lay_B7 F m_base) k) x3 m_many m_figures = some ex → va_P D vwCl (gM cy qM m_base m_f m_many m_figures m_tail m_round m_rounds m_leasts m_likes m_like m_isTwo m_came m_by m_queue m_kind m_parts m_wanted m_allowed m_bitOf m_met m_row m_narrows m_narrow m_isMade) H → va_D A (gM cy qM m_base m_f m_many m_figures m_tail m_round m_rounds m_leasts m_likes m_like m_isTwo m_came m_by m_queue m_kind m_parts m_wanted m_allowed m_bitOf m_met m_row m_narrows m_narrow m_isMade) → va_S A s.heap H locs → lv_has ls 5 [(0, .ref (qM 0)), (3, .long x3)] → W p l e0 rmX11_lay s m ar below meth c H locs 0 0 Q (F0 m 20 ls []) := by
        intro x3 m_many m_figures H locs ls hf hP hD hS hl
        unfold f_X11_lay_J20 at hf
        refine lv_aload_n hx hb dX11_lay_20 rfl (lv_at hl 0 rfl) ?_
        refine va_get (v := .ref (qM 2)) (D := D) (ci := 11) (C := RX11) (T := TX11) (N := 24) hx hb hts huX11 hown hK hP 0 rfl rfl 3 (by decide) fk17 (fun _ h9 => h9) rfl dX11_lay_21 ?_
        refine lv_aload_n hx hb dX11_lay_24 rfl (lv_at hl 0 rfl) ?_
        refine va_get (D := D) (ci := 11) (C := RX11) (T := TX11) (N := 24) hx hb hts huX11 hown hK hP 0 rfl rfl 2 (by decide) fk65 (fun _ h9 => h9) rfl dX11_lay_25 ?_
        refine lv_lload_n hx hb dX11_lay_28 rfl (lv_at hl 1 rfl) ?_
        refine lv_aload_n hx hb dX11_lay_29 rfl (lv_at hl 0 rfl) ?_
        refine va_get (D := D) (ci := 11) (C := RX11) (T := TX11) (N := 24) hx hb hts huX11 hown hK hP 0 rfl rfl 0 (by decide) fk7 (fun _ h9 => h9) rfl dX11_lay_30 ?_
        refine lv_i2l hx hb dX11_lay_33 rfl ?_
        obtain ⟨c1, hf⟩ := ck_some hf
        refine lv_lrem hx hb dX11_lay_34 c1 ?_
        refine lv_l2i hx hb dX11_lay_35 rfl ?_
        obtain ⟨c2, hf⟩ := ck_some hf
        refine va_iast hx hb hK hP hD hS 2 0 rfl rfl c2 dX11_lay_36 (fun H locs hP hD hS => ?_)
        have hP : va_P D vwCl (gM cy qM m_base m_f m_many (upd m_figures m_many.toNatClampNeg (x3 - x3 / m_base.toInt64 * m_base.toInt64).toInt32) m_tail m_round m_rounds m_leasts m_likes m_like m_isTwo m_came m_by m_queue m_kind m_parts m_wanted m_allowed m_bitOf m_met m_row m_narrows m_narrow m_isMade) H := hP
        have hD : va_D A (gM cy qM m_base m_f m_many (upd m_figures m_many.toNatClampNeg (x3 - x3 / m_base.toInt64 * m_base.toInt64).toInt32) m_tail m_round m_rounds m_leasts m_likes m_like m_isTwo m_came m_by m_queue m_kind m_parts m_wanted m_allowed m_bitOf m_met m_row m_narrows m_narrow m_isMade) := hD
        refine lv_lload_n hx hb dX11_lay_37 rfl (lv_at hl 1 rfl) ?_
        refine lv_aload_n hx hb dX11_lay_38 rfl (lv_at hl 0 rfl) ?_
        refine va_get (D := D) (ci := 11) (C := RX11) (T := TX11) (N := 24) hx hb hts huX11 hown hK hP 0 rfl rfl 0 (by decide) fk7 (fun _ h9 => h9) rfl dX11_lay_39 ?_
        refine lv_i2l hx hb dX11_lay_42 rfl ?_
        obtain ⟨c3, hf⟩ := ck_some hf
        refine lv_ldiv hx hb dX11_lay_43 c3 ?_
        refine lv_lstore_n (lv' := [(3, .long (x3 / m_base.toInt64)), (0, .ref (qM 0))]) hx hb dX11_lay_44 rfl hl (by decide) rfl (fun ls hl => ?_)
        refine lv_aload_n hx hb dX11_lay_45 rfl (lv_at hl 1 rfl) ?_
        refine lv_dup hx hb dX11_lay_46 rfl ?_
        refine va_get (D := D) (ci := 11) (C := RX11) (T := TX11) (N := 24) hx hb hts huX11 hown hK hP 0 rfl rfl 2 (by decide) fk65 (fun _ h9 => h9) rfl dX11_lay_47 ?_
        refine lv_iconst (v := (1 : Int32)) hx hb dX11_lay_50 (by decide) ?_
        refine lv_iadd hx hb dX11_lay_51 ?_
        refine va_put (D := D) (ci := 11) (v := .int (m_many + (1 : Int32))) (ty := .int) (C := RX11) (T := TX11) (N := 24) hx hb hts huX11 tyX11 tyX11_ok nmX11 hown hK hP hD hS 0 rfl rfl 2 (by decide) fk65 (fun _ h9 => h9) rfl (tyX11_ok 2 (by decide)) rfl rfl (Nat.le_of_ble_eq_true rfl) dX11_lay_52 (fun H locs hP hD hS => ?_)
        have hP : va_P D vwCl (gM cy qM m_base m_f (m_many + (1 : Int32)) (upd m_figures m_many.toNatClampNeg (x3 - x3 / m_base.toInt64 * m_base.toInt64).toInt32) m_tail m_round m_rounds m_leasts m_likes m_like m_isTwo m_came m_by m_queue m_kind m_parts m_wanted m_allowed m_bitOf m_met m_row m_narrows m_narrow m_isMade) H := hP
        have hD : va_D A (gM cy qM m_base m_f (m_many + (1 : Int32)) (upd m_figures m_many.toNatClampNeg (x3 - x3 / m_base.toInt64 * m_base.toInt64).toInt32) m_tail m_round m_rounds m_leasts m_likes m_like m_isTwo m_came m_by m_queue m_kind m_parts m_wanted m_allowed m_bitOf m_met m_row m_narrows m_narrow m_isMade) := hD
        refine lv_goto (tgt := 7) hx hb dX11_lay_55 (by decide) ?_
        exact ih ((x3 / m_base.toInt64), (m_many + (1 : Int32)), (upd m_figures m_many.toNatClampNeg (x3 - x3 / m_base.toInt64 * m_base.toInt64).toInt32)) ex _ _ _ hf hex hP hD hS (lv_sub hl [1, 0] rfl)
      refine lv_lload_n hx hb dX11_lay_7 rfl (lv_at hl 1 rfl) ?_
      refine lv_lconst (v := (0 : Int64)) hx hb dX11_lay_8 (by decide) ?_
      refine kl_gt (tgt := 20) hx hb dX11_lay_9 dX11_lay_10 (by decide) (fun c4 => ?_) (fun c4 => ?_)
      · have hf := if_t hf c4
        exact hJ20 x.1 x.2.1 x.2.2 _ _ _ hf hP hD hS (lv_sub hl [0, 1] rfl)
      · have hf := if_f hf c4
        refine lv_aload_n hx hb dX11_lay_13 rfl (lv_at hl 0 rfl) ?_
        refine va_get (D := D) (ci := 11) (C := RX11) (T := TX11) (N := 24) hx hb hts huX11 hown hK hP 0 rfl rfl 2 (by decide) fk65 (fun _ h9 => h9) rfl dX11_lay_14 ?_
        refine lv_if_ne (tgt := 58) hx hb dX11_lay_17 (by decide) (fun c5 => ?_) (fun c5 => ?_)
        · have hf := if_f hf c5
          obtain rfl := Option.some.inj hf
          exact hex _ _ _ hP hD hS (lv_sub hl [] rfl)
        · have hf := if_t hf c5
          exact hJ20 x.1 x.2.1 x.2.2 _ _ _ hf hP hD hS (lv_sub hl [0, 1] rfl)
  refine lv_aload_n hx hb dX11_lay_0 rfl (lv_at hl 0 rfl) ?_
  refine lv_iconst (v := (0 : Int32)) hx hb dX11_lay_1 (by decide) ?_
  refine va_put (D := D) (ci := 11) (v := .int (0 : Int32)) (ty := .int) (C := RX11) (T := TX11) (N := 24) hx hb hts huX11 tyX11 tyX11_ok nmX11 hown hK hP hD hS 0 rfl rfl 2 (by decide) fk65 (fun _ h9 => h9) rfl (tyX11_ok 2 (by decide)) rfl rfl (Nat.le_of_ble_eq_true rfl) dX11_lay_2 (fun H locs hP hD hS => ?_)
  have hP : va_P D vwCl (gM cy qM m_base m_f (0 : Int32) m_figures m_tail m_round m_rounds m_leasts m_likes m_like m_isTwo m_came m_by m_queue m_kind m_parts m_wanted m_allowed m_bitOf m_met m_row m_narrows m_narrow m_isMade) H := hP
  have hD : va_D A (gM cy qM m_base m_f (0 : Int32) m_figures m_tail m_round m_rounds m_leasts m_likes m_like m_isTwo m_came m_by m_queue m_kind m_parts m_wanted m_allowed m_bitOf m_met m_row m_narrows m_narrow m_isMade) := hD
  refine lv_lload_n hx hb dX11_lay_5 rfl (lv_at hl 1 rfl) ?_
  refine lv_lstore_n (lv' := [(3, .long a1), (0, .ref (qM 0)), (1, .long a1)]) hx hb dX11_lay_6 rfl hl (by decide) rfl (fun ls hl => ?_)
  obtain ⟨ex6, hcl, hf⟩ := ob_some hf
  refine hL7 F (a1, (0 : Int32), m_figures) ex6 _ _ _ hcl (fun H locs ls hP hD hS hl => ?_) hP hD hS (lv_sub hl [1, 0] rfl)
  obtain rfl := Option.some.inj hf
  exact hQ () 58 _ _ _ dX11_lay_58 hP hD hS
def f_X11_figure_J61 (F : Nat) (s0 : Int32) (m_many : Int32) (m_figures : Nat → Int32) : Option (Int32 × Int32 × (Nat → Int32)) := some (s0, m_many, m_figures)
def f_X11_figure_J16 (F : Nat) (m_many : Int32) (m_figures : Nat → Int32) : Option (Int32 × Int32 × (Nat → Int32)) := some ((-1 : Int32), m_many, m_figures)
def f_X11_figure (F : Nat) (a1 : Int64) (a3 : Int32) (m_base : Int32) (m_many : Int32) (m_figures : Nat → Int32) : Option (Int32 × Int32 × (Nat → Int32)) := (f_X11_in F a1 (0 : Int64) (1000000000000000 : Int64)).bind (fun r1 => if r1 = 0 then (f_X11_figure_J16 F m_many m_figures) else (if (-1 : Int32) ≤ a3 then ((f_X11_lay F a1 m_base m_many m_figures).bind (fun r5 => if a3 = (-1 : Int32) then (f_X11_figure_J61 F r5.1 r5.1 r5.2) else (if r5.1 ≤ a3 then (f_X11_figure_J61 F (-4 : Int32) r5.1 r5.2) else (ck (¬ (((r5.1 - (1 : Int32)) - a3) < 0 ∨ 64 ≤ ((r5.1 - (1 : Int32)) - a3).toNatClampNeg)) (f_X11_figure_J61 F (r5.2 ((r5.1 - (1 : Int32)) - a3).toNatClampNeg) r5.1 r5.2))))) else (f_X11_figure_J16 F m_many m_figures)))
abbrev rmX11_figure : Room := { frames := 1, cells := 0, slots := 0, locals := 25 }
set_option maxHeartbeats 1000000 in
set_option maxRecDepth 100000 in
theorem c_X11_figure {l : Launch} {D : va_G} {cy : Nat → ClassId} {qM : Nat → Nat} {m_base : Int32} {m_f : Nat → Int32} {m_many : Int32} {m_figures : Nat → Int32} {m_tail : Int32} {m_round : Int32} {m_rounds : Int32} {m_leasts : Nat → Int64} {m_likes : Int32} {m_like : Nat → Int32} {m_isTwo : Nat → Int32} {m_came : Nat → Int32} {m_by : Nat → Int32} {m_queue : Nat → Int32} {m_kind : Int32} {m_parts : Int32} {m_wanted : Int32} {m_allowed : Int32} {m_bitOf : Nat → Int32} {m_met : Int32} {m_row : Nat → Int32} {m_narrows : Int32} {m_narrow : Nat → Int64} {m_isMade : Nat → Int32} {a1 : Int64} {a3 : Int32} {F : Nat} {res : Int32 × Int32 × (Nat → Int32)} (hf : f_X11_figure F a1 a3 m_base m_many m_figures = some res) : kM l yX11_figure wsX11_figure rmX11_figure D cy [.ref (qM 0), .long a1, .int a3] (gM cy qM m_base m_f m_many m_figures m_tail m_round m_rounds m_leasts m_likes m_like m_isTwo m_came m_by m_queue m_kind m_parts m_wanted m_allowed m_bitOf m_met m_row m_narrows m_narrow m_isMade) (kQi D cy (fun _ : Unit => gM cy qM m_base m_f res.2.1 res.2.2 m_tail m_round m_rounds m_leasts m_likes m_like m_isTwo m_came m_by m_queue m_kind m_parts m_wanted m_allowed m_bitOf m_met m_row m_narrows m_narrow m_isMade) res.1) := by
  refine kent_i (cc := cX11_figure) (maxL := 4) (by decide) rfl (Nat.le_of_ble_eq_true rfl) ?_
  intro p e0 s m ar below meth c A Q ls ⟨hx, hb, hml, hr, hts, hown, hlocks, hnm⟩ hA hK hN hQ hP hD hS hl
  have hl : lv_has ls 4 [(0, .ref (qM 0)), (1, .long a1), (3, .int a3)] := hl
  have hown : s.vm.findClass RX11 = some m.cls := hown
  have fk68 : (Cond.constantLong RX11 68 (1000000000000000)).before ar s = true := hts _ (by decide +kernel)
  have huX11 : ∀ x ∈ u_ws RX11 TX11 24, x ∈ wsX11_figure := by decide +kernel
  have fk65 : (Cond.fieldLink RX11 65 "FigurePlayModel" "many" "I").before ar s = true := hts _ (by decide +kernel)
  have fk17 : (Cond.fieldLink RX11 17 "FigurePlayModel" "figures" "[I").before ar s = true := hts _ (by decide +kernel)
  unfold f_X11_figure at hf
  have hJ61 : ∀ (s0 : Int32) (m_many : Int32) (m_figures : Nat → Int32) (H : Heap) (locs : List Loc) (ls : Array Slot), f_X11_figure_J61 F s0 m_many m_figures = some res → va_P D vwCl (gM cy qM m_base m_f m_many m_figures m_tail m_round m_rounds m_leasts m_likes m_like m_isTwo m_came m_by m_queue m_kind m_parts m_wanted m_allowed m_bitOf m_met m_row m_narrows m_narrow m_isMade) H → va_D A (gM cy qM m_base m_f m_many m_figures m_tail m_round m_rounds m_leasts m_likes m_like m_isTwo m_came m_by m_queue m_kind m_parts m_wanted m_allowed m_bitOf m_met m_row m_narrows m_narrow m_isMade) → va_S A s.heap H locs → lv_has ls 4 [] → W p l e0 rmX11_figure s m ar below meth c H locs 0 0 Q (F0 m 61 ls [.int s0]) := by
    intro s0 m_many m_figures H locs ls hf hP hD hS hl
    unfold f_X11_figure_J61 at hf
    obtain rfl := Option.some.inj hf
    exact hQ () 61 _ _ _ dX11_figure_61 hP hD hS
  have hJ16 : ∀ (m_many : Int32) (m_figures : Nat → Int32) (H : Heap) (locs : List Loc) (ls : Array Slot), f_X11_figure_J16 F m_many m_figures = some res → va_P D vwCl (gM cy qM m_base m_f m_many m_figures m_tail m_round m_rounds m_leasts m_likes m_like m_isTwo m_came m_by m_queue m_kind m_parts m_wanted m_allowed m_bitOf m_met m_row m_narrows m_narrow m_isMade) H → va_D A (gM cy qM m_base m_f m_many m_figures m_tail m_round m_rounds m_leasts m_likes m_like m_isTwo m_came m_by m_queue m_kind m_parts m_wanted m_allowed m_bitOf m_met m_row m_narrows m_narrow m_isMade) → va_S A s.heap H locs → lv_has ls 4 [] → W p l e0 rmX11_figure s m ar below meth c H locs 0 0 Q (F0 m 16 ls []) := by
    intro m_many m_figures H locs ls hf hP hD hS hl
    unfold f_X11_figure_J16 at hf
    refine lv_iconst (v := (-1 : Int32)) hx hb dX11_figure_16 (by decide) ?_
    obtain rfl := Option.some.inj hf
    exact hQ () 17 _ _ _ dX11_figure_17 hP hD hS
  refine lv_lload_n hx hb dX11_figure_0 rfl (lv_at hl 1 rfl) ?_
  refine lv_lconst (v := (0 : Int64)) hx hb dX11_figure_1 (by decide) ?_
  refine lv_ldc2 (v := (1000000000000000 : Int64)) hx hb hown fk68 dX11_figure_2 ?_
  obtain ⟨r1, hc2, hf⟩ := ob_some hf
  refine kc_i (k_runS ⟨hx, hb, hml, hown, hts⟩ (c_X11_in hc2) (va_cwS 3 hts gX11_figure_X11_in rfl rfl rfl (by decide +kernel) ⟨Nat.le_of_ble_eq_true rfl, Nat.le_of_ble_eq_true rfl⟩) hK hN hP hD kA_0 rfl hl.1 rfl (Nat.le_of_ble_eq_true rfl) dX11_figure_5 ⟨Nat.le_of_ble_eq_true rfl, Nat.le_of_ble_eq_true rfl⟩) hP hD hS hA kI_0 (fun _ H locs hP hD hS => ?_)
  refine lv_if_eq (tgt := 16) hx hb dX11_figure_8 (by decide) (fun c3 => ?_) (fun c3 => ?_)
  · have hf := if_t hf c3
    exact hJ16 m_many m_figures _ _ _ hf hP hD hS (lv_sub hl [] rfl)
  · have hf := if_f hf c3
    refine lv_iload_n hx hb dX11_figure_11 rfl (lv_at hl 2 rfl) ?_
    refine lv_iconst (v := (-1 : Int32)) hx hb dX11_figure_12 (by decide) ?_
    refine lv_icmp_ge (tgt := 18) hx hb dX11_figure_13 (by decide) (fun c4 => ?_) (fun c4 => ?_)
    · have hf := if_t hf c4
      refine lv_aload_n hx hb dX11_figure_18 rfl (lv_at hl 0 rfl) ?_
      refine lv_lload_n hx hb dX11_figure_19 rfl (lv_at hl 1 rfl) ?_
      obtain ⟨r5, hc6, hf⟩ := ob_some hf
      refine kc_v (k_run ⟨hx, hb, hml, hown, hts⟩ (c_X11_lay hc6) (cwV 1 hts gX11_figure_X11_lay rfl rfl rfl (by decide +kernel) ⟨Nat.le_of_ble_eq_true rfl, Nat.le_of_ble_eq_true rfl⟩) hK hN hP hD kA_s (ci := 11) (q0 := 0) rfl rfl rfl rfl hl.1 rfl (Nat.le_of_ble_eq_true rfl) dX11_figure_20 ⟨Nat.le_of_ble_eq_true rfl, Nat.le_of_ble_eq_true rfl⟩) hP hD hS hA kI_s (fun _ H locs hP hD hS => ?_)
      refine lv_iload_n hx hb dX11_figure_23 rfl (lv_at hl 2 rfl) ?_
      refine lv_iconst (v := (-1 : Int32)) hx hb dX11_figure_24 (by decide) ?_
      refine lv_icmp_ne (tgt := 35) hx hb dX11_figure_25 (by decide) (fun c7 => ?_) (fun c7 => ?_)
      · have hf := if_f hf c7
        refine lv_iload_n hx hb dX11_figure_35 rfl (lv_at hl 2 rfl) ?_
        refine lv_aload_n hx hb dX11_figure_36 rfl (lv_at hl 0 rfl) ?_
        refine va_get (D := D) (ci := 11) (C := RX11) (T := TX11) (N := 24) hx hb hts huX11 hown hK hP 0 rfl rfl 2 (by decide) fk65 (fun _ h9 => h9) rfl dX11_figure_37 ?_
        refine lv_icmp_ge (tgt := 59) hx hb dX11_figure_40 (by decide) (fun c8 => ?_) (fun c8 => ?_)
        · have hf := if_t hf c8
          refine lv_bipush (v := (-4 : Int32)) hx hb dX11_figure_59 (by decide) ?_
          exact hJ61 (-4 : Int32) r5.1 r5.2 _ _ _ hf hP hD hS (lv_sub hl [] rfl)
        · have hf := if_f hf c8
          refine lv_aload_n hx hb dX11_figure_43 rfl (lv_at hl 0 rfl) ?_
          refine va_get (v := .ref (qM 2)) (D := D) (ci := 11) (C := RX11) (T := TX11) (N := 24) hx hb hts huX11 hown hK hP 0 rfl rfl 3 (by decide) fk17 (fun _ h9 => h9) rfl dX11_figure_44 ?_
          refine lv_aload_n hx hb dX11_figure_47 rfl (lv_at hl 0 rfl) ?_
          refine va_get (D := D) (ci := 11) (C := RX11) (T := TX11) (N := 24) hx hb hts huX11 hown hK hP 0 rfl rfl 2 (by decide) fk65 (fun _ h9 => h9) rfl dX11_figure_48 ?_
          refine lv_iconst (v := (1 : Int32)) hx hb dX11_figure_51 (by decide) ?_
          refine lv_isub hx hb dX11_figure_52 ?_
          refine lv_iload_n hx hb dX11_figure_53 rfl (lv_at hl 2 rfl) ?_
          refine lv_isub hx hb dX11_figure_54 ?_
          obtain ⟨c9, hf⟩ := ck_some hf
          refine va_iald hx hb hK hP 2 0 rfl rfl c9 dX11_figure_55 ?_
          refine lv_goto (tgt := 61) hx hb dX11_figure_56 (by decide) ?_
          exact hJ61 (r5.2 ((r5.1 - (1 : Int32)) - a3).toNatClampNeg) r5.1 r5.2 _ _ _ hf hP hD hS (lv_sub hl [] rfl)
      · have hf := if_t hf c7
        refine lv_aload_n hx hb dX11_figure_28 rfl (lv_at hl 0 rfl) ?_
        refine va_get (D := D) (ci := 11) (C := RX11) (T := TX11) (N := 24) hx hb hts huX11 hown hK hP 0 rfl rfl 2 (by decide) fk65 (fun _ h9 => h9) rfl dX11_figure_29 ?_
        refine lv_goto (tgt := 61) hx hb dX11_figure_32 (by decide) ?_
        exact hJ61 r5.1 r5.1 r5.2 _ _ _ hf hP hD hS (lv_sub hl [] rfl)
    · have hf := if_f hf c4
      exact hJ16 m_many m_figures _ _ _ hf hP hD hS (lv_sub hl [] rfl)
def f_X11_sum_B10 (F : Nat) (m_f : Nat → Int32) (m_many : Int32) (m_figures : Nat → Int32) (rec : Int64 × Int32 → Option (Int64)) (x : Int64 × Int32) : Option (Int64) := if m_many ≤ x.2 then (some x.1) else (ck (¬ (x.2 < 0 ∨ 64 ≤ x.2.toNatClampNeg)) (ck (¬ ((m_figures x.2.toNatClampNeg) < 0 ∨ 16 ≤ (m_figures x.2.toNatClampNeg).toNatClampNeg)) (rec ((x.1 + (m_f (m_figures x.2.toNatClampNeg).toNatClampNeg).toInt64), (x.2 + (1 : Int32))))))
def f_X11_sum (F : Nat) (a1 : Int64) (m_base : Int32) (m_f : Nat → Int32) (m_many : Int32) (m_figures : Nat → Int32) : Option (Int64 × Int32 × (Nat → Int32)) := (f_X11_lay F a1 m_base m_many m_figures).bind (fun r4 => (lp (f_X11_sum_B10 F m_f r4.1 r4.2) F ((0 : Int64), (0 : Int32))).bind (fun ex6 => some (ex6, r4.1, r4.2)))
abbrev rmX11_sum : Room := { frames := 1, cells := 0, slots := 0, locals := 24 }
set_option maxHeartbeats 1000000 in
set_option maxRecDepth 100000 in
theorem c_X11_sum {l : Launch} {D : va_G} {cy : Nat → ClassId} {qM : Nat → Nat} {m_base : Int32} {m_f : Nat → Int32} {m_many : Int32} {m_figures : Nat → Int32} {m_tail : Int32} {m_round : Int32} {m_rounds : Int32} {m_leasts : Nat → Int64} {m_likes : Int32} {m_like : Nat → Int32} {m_isTwo : Nat → Int32} {m_came : Nat → Int32} {m_by : Nat → Int32} {m_queue : Nat → Int32} {m_kind : Int32} {m_parts : Int32} {m_wanted : Int32} {m_allowed : Int32} {m_bitOf : Nat → Int32} {m_met : Int32} {m_row : Nat → Int32} {m_narrows : Int32} {m_narrow : Nat → Int64} {m_isMade : Nat → Int32} {a1 : Int64} {F : Nat} {res : Int64 × Int32 × (Nat → Int32)} (hf : f_X11_sum F a1 m_base m_f m_many m_figures = some res) : kM l yX11_sum wsX11_sum rmX11_sum D cy [.ref (qM 0), .long a1] (gM cy qM m_base m_f m_many m_figures m_tail m_round m_rounds m_leasts m_likes m_like m_isTwo m_came m_by m_queue m_kind m_parts m_wanted m_allowed m_bitOf m_met m_row m_narrows m_narrow m_isMade) (kQl D cy (fun _ : Unit => gM cy qM m_base m_f res.2.1 res.2.2 m_tail m_round m_rounds m_leasts m_likes m_like m_isTwo m_came m_by m_queue m_kind m_parts m_wanted m_allowed m_bitOf m_met m_row m_narrows m_narrow m_isMade) res.1) := by
  refine kent_l (cc := cX11_sum) (maxL := 6) (by decide) rfl (Nat.le_of_ble_eq_true rfl) ?_
  intro p e0 s m ar below meth c A Q ls ⟨hx, hb, hml, hr, hts, hown, hlocks, hnm⟩ hA hK hN hQ hP hD hS hl
  have hl : lv_has ls 6 [(0, .ref (qM 0)), (1, .long a1)] := hl
  have hown : s.vm.findClass RX11 = some m.cls := hown
  have huX11 : ∀ x ∈ u_ws RX11 TX11 24, x ∈ wsX11_sum := by decide +kernel
  have fk65 : (Cond.fieldLink RX11 65 "FigurePlayModel" "many" "I").before ar s = true := hts _ (by decide +kernel)
  have fk13 : (Cond.fieldLink RX11 13 "FigurePlayModel" "f" "[I").before ar s = true := hts _ (by decide +kernel)
  have fk17 : (Cond.fieldLink RX11 17 "FigurePlayModel" "figures" "[I").before ar s = true := hts _ (by decide +kernel)
  unfold f_X11_sum at hf
  have hL10 : ∀ (m_many : Int32) (m_figures : Nat → Int32) (k : Nat) (x : Int64 × Int32) (ex : Int64) (H : Heap) (locs : List Loc) (ls : Array Slot), lp (f_X11_sum_B10 F m_f m_many m_figures) k x = some ex → (∀ (H : Heap) (locs : List Loc) (ls : Array Slot), va_P D vwCl (gM cy qM m_base m_f m_many m_figures m_tail m_round m_rounds m_leasts m_likes m_like m_isTwo m_came m_by m_queue m_kind m_parts m_wanted m_allowed m_bitOf m_met m_row m_narrows m_narrow m_isMade) H → va_D A (gM cy qM m_base m_f m_many m_figures m_tail m_round m_rounds m_leasts m_likes m_like m_isTwo m_came m_by m_queue m_kind m_parts m_wanted m_allowed m_bitOf m_met m_row m_narrows m_narrow m_isMade) → va_S A s.heap H locs → lv_has ls 6 [(3, .long ex)] → W p l e0 rmX11_sum s m ar below meth c H locs 0 0 Q (F0 m 41 ls [])) → va_P D vwCl (gM cy qM m_base m_f m_many m_figures m_tail m_round m_rounds m_leasts m_likes m_like m_isTwo m_came m_by m_queue m_kind m_parts m_wanted m_allowed m_bitOf m_met m_row m_narrows m_narrow m_isMade) H → va_D A (gM cy qM m_base m_f m_many m_figures m_tail m_round m_rounds m_leasts m_likes m_like m_isTwo m_came m_by m_queue m_kind m_parts m_wanted m_allowed m_bitOf m_met m_row m_narrows m_narrow m_isMade) → va_S A s.heap H locs → lv_has ls 6 [(0, .ref (qM 0)), (3, .long x.1), (5, .int x.2)] → W p l e0 rmX11_sum s m ar below meth c H locs 0 0 Q (F0 m 10 ls []) := by
    intro m_many m_figures k
    induction k with
    | zero => intro x ex H locs ls hf; exact no_some hf
    | succ k ih =>
      intro x ex H locs ls hf hex hP hD hS hl
      have hf : f_X11_sum_B10 F m_f m_many m_figures (lp (f_X11_sum_B10 F m_f m_many m_figures) k) x = some ex := hf
      unfold f_X11_sum_B10 at hf
      refine lv_iload hx hb dX11_sum_10 (lv_at hl 2 rfl) ?_
      refine lv_aload_n hx hb dX11_sum_12 rfl (lv_at hl 0 rfl) ?_
      refine va_get (D := D) (ci := 11) (C := RX11) (T := TX11) (N := 24) hx hb hts huX11 hown hK hP 0 rfl rfl 2 (by decide) fk65 (fun _ h9 => h9) rfl dX11_sum_13 ?_
      refine lv_icmp_ge (tgt := 41) hx hb dX11_sum_16 (by decide) (fun c1 => ?_) (fun c1 => ?_)
      · have hf := if_t hf c1
        obtain rfl := Option.some.inj hf
        exact hex _ _ _ hP hD hS (lv_sub hl [1] rfl)
      · have hf := if_f hf c1
        refine lv_lload_n hx hb dX11_sum_19 rfl (lv_at hl 1 rfl) ?_
        refine lv_aload_n hx hb dX11_sum_20 rfl (lv_at hl 0 rfl) ?_
        refine va_get (v := .ref (qM 1)) (D := D) (ci := 11) (C := RX11) (T := TX11) (N := 24) hx hb hts huX11 hown hK hP 0 rfl rfl 1 (by decide) fk13 (fun _ h9 => h9) rfl dX11_sum_21 ?_
        refine lv_aload_n hx hb dX11_sum_24 rfl (lv_at hl 0 rfl) ?_
        refine va_get (v := .ref (qM 2)) (D := D) (ci := 11) (C := RX11) (T := TX11) (N := 24) hx hb hts huX11 hown hK hP 0 rfl rfl 3 (by decide) fk17 (fun _ h9 => h9) rfl dX11_sum_25 ?_
        refine lv_iload hx hb dX11_sum_28 (lv_at hl 2 rfl) ?_
        obtain ⟨c2, hf⟩ := ck_some hf
        refine va_iald hx hb hK hP 2 0 rfl rfl c2 dX11_sum_30 ?_
        obtain ⟨c3, hf⟩ := ck_some hf
        refine va_iald hx hb hK hP 1 0 rfl rfl c3 dX11_sum_31 ?_
        refine lv_i2l hx hb dX11_sum_32 rfl ?_
        refine lv_ladd hx hb dX11_sum_33 ?_
        refine lv_lstore_n (lv' := [(3, .long (x.1 + (m_f (m_figures x.2.toNatClampNeg).toNatClampNeg).toInt64)), (0, .ref (qM 0)), (5, .int x.2)]) hx hb dX11_sum_34 rfl hl (by decide) rfl (fun ls hl => ?_)
        refine lv_iinc (v := (x.2 + (1 : Int32))) (lv' := [(5, .int (x.2 + (1 : Int32))), (3, .long (x.1 + (m_f (m_figures x.2.toNatClampNeg).toNatClampNeg).toInt64)), (0, .ref (qM 0))]) hx hb dX11_sum_35 hl (k := 2) rfl rfl (by decide) rfl (fun ls hl => ?_)
        refine lv_goto (tgt := 10) hx hb dX11_sum_38 (by decide) ?_
        exact ih ((x.1 + (m_f (m_figures x.2.toNatClampNeg).toNatClampNeg).toInt64), (x.2 + (1 : Int32))) ex _ _ _ hf hex hP hD hS (lv_sub hl [2, 1, 0] rfl)
  refine lv_aload_n hx hb dX11_sum_0 rfl (lv_at hl 0 rfl) ?_
  refine lv_lload_n hx hb dX11_sum_1 rfl (lv_at hl 1 rfl) ?_
  obtain ⟨r4, hc5, hf⟩ := ob_some hf
  refine kc_v (k_run ⟨hx, hb, hml, hown, hts⟩ (c_X11_lay hc5) (cwV 1 hts gX11_sum_X11_lay rfl rfl rfl (by decide +kernel) ⟨Nat.le_of_ble_eq_true rfl, Nat.le_of_ble_eq_true rfl⟩) hK hN hP hD kA_s (ci := 11) (q0 := 0) rfl rfl rfl rfl hl.1 rfl (Nat.le_of_ble_eq_true rfl) dX11_sum_2 ⟨Nat.le_of_ble_eq_true rfl, Nat.le_of_ble_eq_true rfl⟩) hP hD hS hA kI_s (fun _ H locs hP hD hS => ?_)
  refine lv_lconst (v := (0 : Int64)) hx hb dX11_sum_5 (by decide) ?_
  refine lv_lstore_n (lv' := [(3, .long (0 : Int64)), (0, .ref (qM 0)), (1, .long a1)]) hx hb dX11_sum_6 rfl hl (by decide) rfl (fun ls hl => ?_)
  refine lv_iconst (v := (0 : Int32)) hx hb dX11_sum_7 (by decide) ?_
  refine lv_istore (lv' := [(5, .int (0 : Int32)), (3, .long (0 : Int64)), (0, .ref (qM 0)), (1, .long a1)]) hx hb dX11_sum_8 hl (by decide) rfl (fun ls hl => ?_)
  obtain ⟨ex6, hcl, hf⟩ := ob_some hf
  refine hL10 r4.1 r4.2 F ((0 : Int64), (0 : Int32)) ex6 _ _ _ hcl (fun H locs ls hP hD hS hl => ?_) hP hD hS (lv_sub hl [2, 1, 0] rfl)
  refine lv_lload_n hx hb dX11_sum_41 rfl (lv_at hl 0 rfl) ?_
  obtain rfl := Option.some.inj hf
  exact hQ () 42 _ _ _ dX11_sum_42 hP hD hS
def f_X11_turned_B10 (F : Nat) (m_base : Int32) (m_many : Int32) (m_figures : Nat → Int32) (rec : Int64 × Int32 → Option (Int64)) (x : Int64 × Int32) : Option (Int64) := if m_many ≤ x.2 then (some x.1) else (ck (¬ (x.2 < 0 ∨ 64 ≤ x.2.toNatClampNeg)) (rec (((x.1 * m_base.toInt64) + (m_figures x.2.toNatClampNeg).toInt64), (x.2 + (1 : Int32)))))
def f_X11_turned (F : Nat) (a1 : Int64) (m_base : Int32) (m_many : Int32) (m_figures : Nat → Int32) : Option (Int64 × Int32 × (Nat → Int32)) := (f_X11_lay F a1 m_base m_many m_figures).bind (fun r3 => (lp (f_X11_turned_B10 F m_base r3.1 r3.2) F ((0 : Int64), (0 : Int32))).bind (fun ex5 => some (ex5, r3.1, r3.2)))
abbrev rmX11_turned : Room := { frames := 1, cells := 0, slots := 0, locals := 24 }
set_option maxHeartbeats 1000000 in
set_option maxRecDepth 100000 in
theorem c_X11_turned {l : Launch} {D : va_G} {cy : Nat → ClassId} {qM : Nat → Nat} {m_base : Int32} {m_f : Nat → Int32} {m_many : Int32} {m_figures : Nat → Int32} {m_tail : Int32} {m_round : Int32} {m_rounds : Int32} {m_leasts : Nat → Int64} {m_likes : Int32} {m_like : Nat → Int32} {m_isTwo : Nat → Int32} {m_came : Nat → Int32} {m_by : Nat → Int32} {m_queue : Nat → Int32} {m_kind : Int32} {m_parts : Int32} {m_wanted : Int32} {m_allowed : Int32} {m_bitOf : Nat → Int32} {m_met : Int32} {m_row : Nat → Int32} {m_narrows : Int32} {m_narrow : Nat → Int64} {m_isMade : Nat → Int32} {a1 : Int64} {F : Nat} {res : Int64 × Int32 × (Nat → Int32)} (hf : f_X11_turned F a1 m_base m_many m_figures = some res) : kM l yX11_turned wsX11_turned rmX11_turned D cy [.ref (qM 0), .long a1] (gM cy qM m_base m_f m_many m_figures m_tail m_round m_rounds m_leasts m_likes m_like m_isTwo m_came m_by m_queue m_kind m_parts m_wanted m_allowed m_bitOf m_met m_row m_narrows m_narrow m_isMade) (kQl D cy (fun _ : Unit => gM cy qM m_base m_f res.2.1 res.2.2 m_tail m_round m_rounds m_leasts m_likes m_like m_isTwo m_came m_by m_queue m_kind m_parts m_wanted m_allowed m_bitOf m_met m_row m_narrows m_narrow m_isMade) res.1) := by
  refine kent_l (cc := cX11_turned) (maxL := 6) (by decide) rfl (Nat.le_of_ble_eq_true rfl) ?_
  intro p e0 s m ar below meth c A Q ls ⟨hx, hb, hml, hr, hts, hown, hlocks, hnm⟩ hA hK hN hQ hP hD hS hl
  have hl : lv_has ls 6 [(0, .ref (qM 0)), (1, .long a1)] := hl
  have hown : s.vm.findClass RX11 = some m.cls := hown
  have huX11 : ∀ x ∈ u_ws RX11 TX11 24, x ∈ wsX11_turned := by decide +kernel
  have fk65 : (Cond.fieldLink RX11 65 "FigurePlayModel" "many" "I").before ar s = true := hts _ (by decide +kernel)
  have fk7 : (Cond.fieldLink RX11 7 "FigurePlayModel" "base" "I").before ar s = true := hts _ (by decide +kernel)
  have fk17 : (Cond.fieldLink RX11 17 "FigurePlayModel" "figures" "[I").before ar s = true := hts _ (by decide +kernel)
  unfold f_X11_turned at hf
  have hL10 : ∀ (m_many : Int32) (m_figures : Nat → Int32) (k : Nat) (x : Int64 × Int32) (ex : Int64) (H : Heap) (locs : List Loc) (ls : Array Slot), lp (f_X11_turned_B10 F m_base m_many m_figures) k x = some ex → (∀ (H : Heap) (locs : List Loc) (ls : Array Slot), va_P D vwCl (gM cy qM m_base m_f m_many m_figures m_tail m_round m_rounds m_leasts m_likes m_like m_isTwo m_came m_by m_queue m_kind m_parts m_wanted m_allowed m_bitOf m_met m_row m_narrows m_narrow m_isMade) H → va_D A (gM cy qM m_base m_f m_many m_figures m_tail m_round m_rounds m_leasts m_likes m_like m_isTwo m_came m_by m_queue m_kind m_parts m_wanted m_allowed m_bitOf m_met m_row m_narrows m_narrow m_isMade) → va_S A s.heap H locs → lv_has ls 6 [(3, .long ex)] → W p l e0 rmX11_turned s m ar below meth c H locs 0 0 Q (F0 m 42 ls [])) → va_P D vwCl (gM cy qM m_base m_f m_many m_figures m_tail m_round m_rounds m_leasts m_likes m_like m_isTwo m_came m_by m_queue m_kind m_parts m_wanted m_allowed m_bitOf m_met m_row m_narrows m_narrow m_isMade) H → va_D A (gM cy qM m_base m_f m_many m_figures m_tail m_round m_rounds m_leasts m_likes m_like m_isTwo m_came m_by m_queue m_kind m_parts m_wanted m_allowed m_bitOf m_met m_row m_narrows m_narrow m_isMade) → va_S A s.heap H locs → lv_has ls 6 [(0, .ref (qM 0)), (3, .long x.1), (5, .int x.2)] → W p l e0 rmX11_turned s m ar below meth c H locs 0 0 Q (F0 m 10 ls []) := by
    intro m_many m_figures k
    induction k with
    | zero => intro x ex H locs ls hf; exact no_some hf
    | succ k ih =>
      intro x ex H locs ls hf hex hP hD hS hl
      have hf : f_X11_turned_B10 F m_base m_many m_figures (lp (f_X11_turned_B10 F m_base m_many m_figures) k) x = some ex := hf
      unfold f_X11_turned_B10 at hf
      refine lv_iload hx hb dX11_turned_10 (lv_at hl 2 rfl) ?_
      refine lv_aload_n hx hb dX11_turned_12 rfl (lv_at hl 0 rfl) ?_
      refine va_get (D := D) (ci := 11) (C := RX11) (T := TX11) (N := 24) hx hb hts huX11 hown hK hP 0 rfl rfl 2 (by decide) fk65 (fun _ h9 => h9) rfl dX11_turned_13 ?_
      refine lv_icmp_ge (tgt := 42) hx hb dX11_turned_16 (by decide) (fun c1 => ?_) (fun c1 => ?_)
      · have hf := if_t hf c1
        obtain rfl := Option.some.inj hf
        exact hex _ _ _ hP hD hS (lv_sub hl [1] rfl)
      · have hf := if_f hf c1
        refine lv_lload_n hx hb dX11_turned_19 rfl (lv_at hl 1 rfl) ?_
        refine lv_aload_n hx hb dX11_turned_20 rfl (lv_at hl 0 rfl) ?_
        refine va_get (D := D) (ci := 11) (C := RX11) (T := TX11) (N := 24) hx hb hts huX11 hown hK hP 0 rfl rfl 0 (by decide) fk7 (fun _ h9 => h9) rfl dX11_turned_21 ?_
        refine lv_i2l hx hb dX11_turned_24 rfl ?_
        refine lv_lmul hx hb dX11_turned_25 ?_
        refine lv_aload_n hx hb dX11_turned_26 rfl (lv_at hl 0 rfl) ?_
        refine va_get (v := .ref (qM 2)) (D := D) (ci := 11) (C := RX11) (T := TX11) (N := 24) hx hb hts huX11 hown hK hP 0 rfl rfl 3 (by decide) fk17 (fun _ h9 => h9) rfl dX11_turned_27 ?_
        refine lv_iload hx hb dX11_turned_30 (lv_at hl 2 rfl) ?_
        obtain ⟨c2, hf⟩ := ck_some hf
        refine va_iald hx hb hK hP 2 0 rfl rfl c2 dX11_turned_32 ?_
        refine lv_i2l hx hb dX11_turned_33 rfl ?_
        refine lv_ladd hx hb dX11_turned_34 ?_
        refine lv_lstore_n (lv' := [(3, .long ((x.1 * m_base.toInt64) + (m_figures x.2.toNatClampNeg).toInt64)), (0, .ref (qM 0)), (5, .int x.2)]) hx hb dX11_turned_35 rfl hl (by decide) rfl (fun ls hl => ?_)
        refine lv_iinc (v := (x.2 + (1 : Int32))) (lv' := [(5, .int (x.2 + (1 : Int32))), (3, .long ((x.1 * m_base.toInt64) + (m_figures x.2.toNatClampNeg).toInt64)), (0, .ref (qM 0))]) hx hb dX11_turned_36 hl (k := 2) rfl rfl (by decide) rfl (fun ls hl => ?_)
        refine lv_goto (tgt := 10) hx hb dX11_turned_39 (by decide) ?_
        exact ih (((x.1 * m_base.toInt64) + (m_figures x.2.toNatClampNeg).toInt64), (x.2 + (1 : Int32))) ex _ _ _ hf hex hP hD hS (lv_sub hl [2, 1, 0] rfl)
  refine lv_aload_n hx hb dX11_turned_0 rfl (lv_at hl 0 rfl) ?_
  refine lv_lload_n hx hb dX11_turned_1 rfl (lv_at hl 1 rfl) ?_
  obtain ⟨r3, hc4, hf⟩ := ob_some hf
  refine kc_v (k_run ⟨hx, hb, hml, hown, hts⟩ (c_X11_lay hc4) (cwV 1 hts gX11_turned_X11_lay rfl rfl rfl (by decide +kernel) ⟨Nat.le_of_ble_eq_true rfl, Nat.le_of_ble_eq_true rfl⟩) hK hN hP hD kA_s (ci := 11) (q0 := 0) rfl rfl rfl rfl hl.1 rfl (Nat.le_of_ble_eq_true rfl) dX11_turned_2 ⟨Nat.le_of_ble_eq_true rfl, Nat.le_of_ble_eq_true rfl⟩) hP hD hS hA kI_s (fun _ H locs hP hD hS => ?_)
  refine lv_lconst (v := (0 : Int64)) hx hb dX11_turned_5 (by decide) ?_
  refine lv_lstore_n (lv' := [(3, .long (0 : Int64)), (0, .ref (qM 0)), (1, .long a1)]) hx hb dX11_turned_6 rfl hl (by decide) rfl (fun ls hl => ?_)
  refine lv_iconst (v := (0 : Int32)) hx hb dX11_turned_7 (by decide) ?_
  refine lv_istore (lv' := [(5, .int (0 : Int32)), (3, .long (0 : Int64)), (0, .ref (qM 0)), (1, .long a1)]) hx hb dX11_turned_8 hl (by decide) rfl (fun ls hl => ?_)
  obtain ⟨ex5, hcl, hf⟩ := ob_some hf
  refine hL10 r3.1 r3.2 F ((0 : Int64), (0 : Int32)) ex5 _ _ _ hcl (fun H locs ls hP hD hS hl => ?_) hP hD hS (lv_sub hl [2, 1, 0] rfl)
  refine lv_lload_n hx hb dX11_turned_42 rfl (lv_at hl 0 rfl) ?_
  obtain rfl := Option.some.inj hf
  exact hQ () 43 _ _ _ dX11_turned_43 hP hD hS
def f_X11_sorted_J106 (F : Nat) (rec : (Int64 × Int64 × Int32) → Option (Int64 × Int64)) (x3 : Int64) (x8 : Int32) (s0 : Int64) : Option (Int64 × Int64) := rec (x3, s0, (x8 + (1 : Int32)))
def f_X11_sorted_J61 (F : Nat) (m_base : Int32) (m_figures : Nat → Int32) (x7 : Int32) (rec : (Int64 × Int64 × Int32) → Option (Int64 × Int64)) (x5 : Int64) (x8 : Int32) (s0 : Int64) : Option (Int64 × Int64) := ck (¬ (x8 < 0 ∨ 64 ≤ x8.toNatClampNeg)) (if (m_figures x8.toNatClampNeg) = ((m_base - (1 : Int32)) - x7) then (f_X11_sorted_J106 F rec s0 x8 ((((x5 * m_base.toInt64) + m_base.toInt64) - (1 : Int64)) - x7.toInt64)) else (f_X11_sorted_J106 F rec s0 x8 x5))
def f_X11_sorted_B25 (F : Nat) (m_base : Int32) (x7 : Int32) (m_many : Int32) (m_figures : Nat → Int32) (rec : Int64 × Int64 × Int32 → Option (Int64 × Int64)) (x : Int64 × Int64 × Int32) : Option (Int64 × Int64) := if m_many ≤ x.2.2 then (some (x.1, x.2.1)) else (ck (¬ (x.2.2 < 0 ∨ 64 ≤ x.2.2.toNatClampNeg)) (if (m_figures x.2.2.toNatClampNeg) = x7 then (f_X11_sorted_J61 F m_base m_figures x7 rec x.2.1 x.2.2 ((x.1 * m_base.toInt64) + x7.toInt64)) else (f_X11_sorted_J61 F m_base m_figures x7 rec x.2.1 x.2.2 x.1)))
def f_X11_sorted_B13 (F : Nat) (m_base : Int32) (m_many : Int32) (m_figures : Nat → Int32) (rec : Int64 × Int64 × Int32 → Option (Int64 × Int64)) (x : Int64 × Int64 × Int32) : Option (Int64 × Int64) := if m_base ≤ x.2.2 then (some (x.1, x.2.1)) else ((lp (f_X11_sorted_B25 F m_base x.2.2 m_many m_figures) F (x.1, x.2.1, (0 : Int32))).bind (fun ex7 => rec (ex7.1, ex7.2, (x.2.2 + (1 : Int32)))))
def f_X11_sorted (F : Nat) (a1 : Int64) (m_base : Int32) (m_many : Int32) (m_figures : Nat → Int32) : Option (Int64 × Int32 × (Nat → Int32)) := (f_X11_lay F a1 m_base m_many m_figures).bind (fun r8 => (lp (f_X11_sorted_B13 F m_base r8.1 r8.2) F ((0 : Int64), (0 : Int64), (0 : Int32))).bind (fun ex10 => some ((ex10.2 - ex10.1), r8.1, r8.2)))
abbrev rmX11_sorted : Room := { frames := 1, cells := 0, slots := 0, locals := 24 }
set_option maxHeartbeats 1000000 in
set_option maxRecDepth 100000 in
theorem c_X11_sorted {l : Launch} {D : va_G} {cy : Nat → ClassId} {qM : Nat → Nat} {m_base : Int32} {m_f : Nat → Int32} {m_many : Int32} {m_figures : Nat → Int32} {m_tail : Int32} {m_round : Int32} {m_rounds : Int32} {m_leasts : Nat → Int64} {m_likes : Int32} {m_like : Nat → Int32} {m_isTwo : Nat → Int32} {m_came : Nat → Int32} {m_by : Nat → Int32} {m_queue : Nat → Int32} {m_kind : Int32} {m_parts : Int32} {m_wanted : Int32} {m_allowed : Int32} {m_bitOf : Nat → Int32} {m_met : Int32} {m_row : Nat → Int32} {m_narrows : Int32} {m_narrow : Nat → Int64} {m_isMade : Nat → Int32} {a1 : Int64} {F : Nat} {res : Int64 × Int32 × (Nat → Int32)} (hf : f_X11_sorted F a1 m_base m_many m_figures = some res) : kM l yX11_sorted wsX11_sorted rmX11_sorted D cy [.ref (qM 0), .long a1] (gM cy qM m_base m_f m_many m_figures m_tail m_round m_rounds m_leasts m_likes m_like m_isTwo m_came m_by m_queue m_kind m_parts m_wanted m_allowed m_bitOf m_met m_row m_narrows m_narrow m_isMade) (kQl D cy (fun _ : Unit => gM cy qM m_base m_f res.2.1 res.2.2 m_tail m_round m_rounds m_leasts m_likes m_like m_isTwo m_came m_by m_queue m_kind m_parts m_wanted m_allowed m_bitOf m_met m_row m_narrows m_narrow m_isMade) res.1) := by
  refine kent_l (cc := cX11_sorted) (maxL := 9) (by decide) rfl (Nat.le_of_ble_eq_true rfl) ?_
  intro p e0 s m ar below meth c A Q ls ⟨hx, hb, hml, hr, hts, hown, hlocks, hnm⟩ hA hK hN hQ hP hD hS hl
  have hl : lv_has ls 9 [(0, .ref (qM 0)), (1, .long a1)] := hl
  have hown : s.vm.findClass RX11 = some m.cls := hown
  have huX11 : ∀ x ∈ u_ws RX11 TX11 24, x ∈ wsX11_sorted := by decide +kernel
  have fk17 : (Cond.fieldLink RX11 17 "FigurePlayModel" "figures" "[I").before ar s = true := hts _ (by decide +kernel)
  have fk7 : (Cond.fieldLink RX11 7 "FigurePlayModel" "base" "I").before ar s = true := hts _ (by decide +kernel)
  have fk65 : (Cond.fieldLink RX11 65 "FigurePlayModel" "many" "I").before ar s = true := hts _ (by decide +kernel)
  unfold f_X11_sorted at hf
  have hL13 : ∀ (m_many : Int32) (m_figures : Nat → Int32) (k : Nat) (x : Int64 × Int64 × Int32) (ex : Int64 × Int64) (H : Heap) (locs : List Loc) (ls : Array Slot), lp (f_X11_sorted_B13 F m_base m_many m_figures) k x = some ex → (∀ (H : Heap) (locs : List Loc) (ls : Array Slot), va_P D vwCl (gM cy qM m_base m_f m_many m_figures m_tail m_round m_rounds m_leasts m_likes m_like m_isTwo m_came m_by m_queue m_kind m_parts m_wanted m_allowed m_bitOf m_met m_row m_narrows m_narrow m_isMade) H → va_D A (gM cy qM m_base m_f m_many m_figures m_tail m_round m_rounds m_leasts m_likes m_like m_isTwo m_came m_by m_queue m_kind m_parts m_wanted m_allowed m_bitOf m_met m_row m_narrows m_narrow m_isMade) → va_S A s.heap H locs → lv_has ls 9 [(3, .long ex.1), (5, .long ex.2)] → W p l e0 rmX11_sorted s m ar below meth c H locs 0 0 Q (F0 m 120 ls [])) → va_P D vwCl (gM cy qM m_base m_f m_many m_figures m_tail m_round m_rounds m_leasts m_likes m_like m_isTwo m_came m_by m_queue m_kind m_parts m_wanted m_allowed m_bitOf m_met m_row m_narrows m_narrow m_isMade) H → va_D A (gM cy qM m_base m_f m_many m_figures m_tail m_round m_rounds m_leasts m_likes m_like m_isTwo m_came m_by m_queue m_kind m_parts m_wanted m_allowed m_bitOf m_met m_row m_narrows m_narrow m_isMade) → va_S A s.heap H locs → lv_has ls 9 [(0, .ref (qM 0)), (3, .long x.1), (5, .long x.2.1), (7, .int x.2.2)] → W p l e0 rmX11_sorted s m ar below meth c H locs 0 0 Q (F0 m 13 ls []) := by
    intro m_many m_figures k
    induction k with
    | zero => intro x ex H locs ls hf; exact no_some hf
    | succ k ih =>
      intro x ex H locs ls hf hex hP hD hS hl
      have hf : f_X11_sorted_B13 F m_base m_many m_figures (lp (f_X11_sorted_B13 F m_base m_many m_figures) k) x = some ex := hf
      unfold f_X11_sorted_B13 at hf
      have hL25 : ∀ (x7 : Int32) (m_many : Int32) (m_figures : Nat → Int32) (k : Nat) (x : Int64 × Int64 × Int32) (ex : Int64 × Int64) (H : Heap) (locs : List Loc) (ls : Array Slot), lp (f_X11_sorted_B25 F m_base x7 m_many m_figures) k x = some ex → (∀ (H : Heap) (locs : List Loc) (ls : Array Slot), va_P D vwCl (gM cy qM m_base m_f m_many m_figures m_tail m_round m_rounds m_leasts m_likes m_like m_isTwo m_came m_by m_queue m_kind m_parts m_wanted m_allowed m_bitOf m_met m_row m_narrows m_narrow m_isMade) H → va_D A (gM cy qM m_base m_f m_many m_figures m_tail m_round m_rounds m_leasts m_likes m_like m_isTwo m_came m_by m_queue m_kind m_parts m_wanted m_allowed m_bitOf m_met m_row m_narrows m_narrow m_isMade) → va_S A s.heap H locs → lv_has ls 9 [(0, .ref (qM 0)), (3, .long ex.1), (5, .long ex.2), (7, .int x7)] → W p l e0 rmX11_sorted s m ar below meth c H locs 0 0 Q (F0 m 114 ls [])) → va_P D vwCl (gM cy qM m_base m_f m_many m_figures m_tail m_round m_rounds m_leasts m_likes m_like m_isTwo m_came m_by m_queue m_kind m_parts m_wanted m_allowed m_bitOf m_met m_row m_narrows m_narrow m_isMade) H → va_D A (gM cy qM m_base m_f m_many m_figures m_tail m_round m_rounds m_leasts m_likes m_like m_isTwo m_came m_by m_queue m_kind m_parts m_wanted m_allowed m_bitOf m_met m_row m_narrows m_narrow m_isMade) → va_S A s.heap H locs → lv_has ls 9 [(0, .ref (qM 0)), (3, .long x.1), (5, .long x.2.1), (7, .int x7), (8, .int x.2.2)] → W p l e0 rmX11_sorted s m ar below meth c H locs 0 0 Q (F0 m 25 ls []) := by
        intro x7 m_many m_figures k
        induction k with
        | zero => intro x ex H locs ls hf; exact no_some hf
        | succ k ih =>
          intro x ex H locs ls hf hex hP hD hS hl
          have hf : f_X11_sorted_B25 F m_base x7 m_many m_figures (lp (f_X11_sorted_B25 F m_base x7 m_many m_figures) k) x = some ex := hf
          unfold f_X11_sorted_B25 at hf
          have hJ106 : ∀ (x3 : Int64) (x8 : Int32) (s0 : Int64) (H : Heap) (locs : List Loc) (ls : Array Slot), f_X11_sorted_J106 F (lp (f_X11_sorted_B25 F m_base x7 m_many m_figures) k) x3 x8 s0 = some ex → va_P D vwCl (gM cy qM m_base m_f m_many m_figures m_tail m_round m_rounds m_leasts m_likes m_like m_isTwo m_came m_by m_queue m_kind m_parts m_wanted m_allowed m_bitOf m_met m_row m_narrows m_narrow m_isMade) H → va_D A (gM cy qM m_base m_f m_many m_figures m_tail m_round m_rounds m_leasts m_likes m_like m_isTwo m_came m_by m_queue m_kind m_parts m_wanted m_allowed m_bitOf m_met m_row m_narrows m_narrow m_isMade) → va_S A s.heap H locs → lv_has ls 9 [(0, .ref (qM 0)), (3, .long x3), (7, .int x7), (8, .int x8)] → W p l e0 rmX11_sorted s m ar below meth c H locs 0 0 Q (F0 m 106 ls [.long s0]) := by
            intro x3 x8 s0 H locs ls hf hP hD hS hl
            unfold f_X11_sorted_J106 at hf
            refine lv_lstore (lv' := [(5, .long s0), (0, .ref (qM 0)), (3, .long x3), (7, .int x7), (8, .int x8)]) hx hb dX11_sorted_106 hl (by decide) rfl (fun ls hl => ?_)
            refine lv_iinc (v := (x8 + (1 : Int32))) (lv' := [(8, .int (x8 + (1 : Int32))), (5, .long s0), (0, .ref (qM 0)), (3, .long x3), (7, .int x7)]) hx hb dX11_sorted_108 hl (k := 4) rfl rfl (by decide) rfl (fun ls hl => ?_)
            refine lv_goto (tgt := 25) hx hb dX11_sorted_111 (by decide) ?_
            exact ih (x3, s0, (x8 + (1 : Int32))) ex _ _ _ hf hex hP hD hS (lv_sub hl [2, 3, 1, 4, 0] rfl)
          have hJ61 : ∀ (x5 : Int64) (x8 : Int32) (s0 : Int64) (H : Heap) (locs : List Loc) (ls : Array Slot), f_X11_sorted_J61 F m_base m_figures x7 (lp (f_X11_sorted_B25 F m_base x7 m_many m_figures) k) x5 x8 s0 = some ex → va_P D vwCl (gM cy qM m_base m_f m_many m_figures m_tail m_round m_rounds m_leasts m_likes m_like m_isTwo m_came m_by m_queue m_kind m_parts m_wanted m_allowed m_bitOf m_met m_row m_narrows m_narrow m_isMade) H → va_D A (gM cy qM m_base m_f m_many m_figures m_tail m_round m_rounds m_leasts m_likes m_like m_isTwo m_came m_by m_queue m_kind m_parts m_wanted m_allowed m_bitOf m_met m_row m_narrows m_narrow m_isMade) → va_S A s.heap H locs → lv_has ls 9 [(0, .ref (qM 0)), (5, .long x5), (7, .int x7), (8, .int x8)] → W p l e0 rmX11_sorted s m ar below meth c H locs 0 0 Q (F0 m 61 ls [.long s0]) := by
            intro x5 x8 s0 H locs ls hf hP hD hS hl
            unfold f_X11_sorted_J61 at hf
            refine lv_lstore_n (lv' := [(3, .long s0), (0, .ref (qM 0)), (5, .long x5), (7, .int x7), (8, .int x8)]) hx hb dX11_sorted_61 rfl hl (by decide) rfl (fun ls hl => ?_)
            refine lv_aload_n hx hb dX11_sorted_62 rfl (lv_at hl 1 rfl) ?_
            refine va_get (v := .ref (qM 2)) (D := D) (ci := 11) (C := RX11) (T := TX11) (N := 24) hx hb hts huX11 hown hK hP 0 rfl rfl 3 (by decide) fk17 (fun _ h9 => h9) rfl dX11_sorted_63 ?_
            refine lv_iload hx hb dX11_sorted_66 (lv_at hl 4 rfl) ?_
            obtain ⟨c1, hf⟩ := ck_some hf
            refine va_iald hx hb hK hP 2 0 rfl rfl c1 dX11_sorted_68 ?_
            refine lv_aload_n hx hb dX11_sorted_69 rfl (lv_at hl 1 rfl) ?_
            refine va_get (D := D) (ci := 11) (C := RX11) (T := TX11) (N := 24) hx hb hts huX11 hown hK hP 0 rfl rfl 0 (by decide) fk7 (fun _ h9 => h9) rfl dX11_sorted_70 ?_
            refine lv_iconst (v := (1 : Int32)) hx hb dX11_sorted_73 (by decide) ?_
            refine lv_isub hx hb dX11_sorted_74 ?_
            refine lv_iload hx hb dX11_sorted_75 (lv_at hl 3 rfl) ?_
            refine lv_isub hx hb dX11_sorted_77 ?_
            refine lv_icmp_ne (tgt := 104) hx hb dX11_sorted_78 (by decide) (fun c2 => ?_) (fun c2 => ?_)
            · have hf := if_f hf c2
              refine lv_lload hx hb dX11_sorted_104 (lv_at hl 2 rfl) ?_
              exact hJ106 s0 x8 x5 _ _ _ hf hP hD hS (lv_sub hl [1, 0, 3, 4] rfl)
            · have hf := if_t hf c2
              refine lv_lload hx hb dX11_sorted_81 (lv_at hl 2 rfl) ?_
              refine lv_aload_n hx hb dX11_sorted_83 rfl (lv_at hl 1 rfl) ?_
              refine va_get (D := D) (ci := 11) (C := RX11) (T := TX11) (N := 24) hx hb hts huX11 hown hK hP 0 rfl rfl 0 (by decide) fk7 (fun _ h9 => h9) rfl dX11_sorted_84 ?_
              refine lv_i2l hx hb dX11_sorted_87 rfl ?_
              refine lv_lmul hx hb dX11_sorted_88 ?_
              refine lv_aload_n hx hb dX11_sorted_89 rfl (lv_at hl 1 rfl) ?_
              refine va_get (D := D) (ci := 11) (C := RX11) (T := TX11) (N := 24) hx hb hts huX11 hown hK hP 0 rfl rfl 0 (by decide) fk7 (fun _ h9 => h9) rfl dX11_sorted_90 ?_
              refine lv_i2l hx hb dX11_sorted_93 rfl ?_
              refine lv_ladd hx hb dX11_sorted_94 ?_
              refine lv_lconst (v := (1 : Int64)) hx hb dX11_sorted_95 (by decide) ?_
              refine lv_lsub hx hb dX11_sorted_96 ?_
              refine lv_iload hx hb dX11_sorted_97 (lv_at hl 3 rfl) ?_
              refine lv_i2l hx hb dX11_sorted_99 rfl ?_
              refine lv_lsub hx hb dX11_sorted_100 ?_
              refine lv_goto (tgt := 106) hx hb dX11_sorted_101 (by decide) ?_
              exact hJ106 s0 x8 ((((x5 * m_base.toInt64) + m_base.toInt64) - (1 : Int64)) - x7.toInt64) _ _ _ hf hP hD hS (lv_sub hl [1, 0, 3, 4] rfl)
          refine lv_iload hx hb dX11_sorted_25 (lv_at hl 4 rfl) ?_
          refine lv_aload_n hx hb dX11_sorted_27 rfl (lv_at hl 0 rfl) ?_
          refine va_get (D := D) (ci := 11) (C := RX11) (T := TX11) (N := 24) hx hb hts huX11 hown hK hP 0 rfl rfl 2 (by decide) fk65 (fun _ h9 => h9) rfl dX11_sorted_28 ?_
          refine lv_icmp_ge (tgt := 114) hx hb dX11_sorted_31 (by decide) (fun c3 => ?_) (fun c3 => ?_)
          · have hf := if_t hf c3
            obtain rfl := Option.some.inj hf
            exact hex _ _ _ hP hD hS (lv_sub hl [0, 1, 2, 3] rfl)
          · have hf := if_f hf c3
            refine lv_aload_n hx hb dX11_sorted_34 rfl (lv_at hl 0 rfl) ?_
            refine va_get (v := .ref (qM 2)) (D := D) (ci := 11) (C := RX11) (T := TX11) (N := 24) hx hb hts huX11 hown hK hP 0 rfl rfl 3 (by decide) fk17 (fun _ h9 => h9) rfl dX11_sorted_35 ?_
            refine lv_iload hx hb dX11_sorted_38 (lv_at hl 4 rfl) ?_
            obtain ⟨c4, hf⟩ := ck_some hf
            refine va_iald hx hb hK hP 2 0 rfl rfl c4 dX11_sorted_40 ?_
            refine lv_iload hx hb dX11_sorted_41 (lv_at hl 3 rfl) ?_
            refine lv_icmp_ne (tgt := 60) hx hb dX11_sorted_43 (by decide) (fun c5 => ?_) (fun c5 => ?_)
            · have hf := if_f hf c5
              refine lv_lload_n hx hb dX11_sorted_60 rfl (lv_at hl 1 rfl) ?_
              exact hJ61 x.2.1 x.2.2 x.1 _ _ _ hf hP hD hS (lv_sub hl [0, 2, 3, 4] rfl)
            · have hf := if_t hf c5
              refine lv_lload_n hx hb dX11_sorted_46 rfl (lv_at hl 1 rfl) ?_
              refine lv_aload_n hx hb dX11_sorted_47 rfl (lv_at hl 0 rfl) ?_
              refine va_get (D := D) (ci := 11) (C := RX11) (T := TX11) (N := 24) hx hb hts huX11 hown hK hP 0 rfl rfl 0 (by decide) fk7 (fun _ h9 => h9) rfl dX11_sorted_48 ?_
              refine lv_i2l hx hb dX11_sorted_51 rfl ?_
              refine lv_lmul hx hb dX11_sorted_52 ?_
              refine lv_iload hx hb dX11_sorted_53 (lv_at hl 3 rfl) ?_
              refine lv_i2l hx hb dX11_sorted_55 rfl ?_
              refine lv_ladd hx hb dX11_sorted_56 ?_
              refine lv_goto (tgt := 61) hx hb dX11_sorted_57 (by decide) ?_
              exact hJ61 x.2.1 x.2.2 ((x.1 * m_base.toInt64) + x7.toInt64) _ _ _ hf hP hD hS (lv_sub hl [0, 2, 3, 4] rfl)
      refine lv_iload hx hb dX11_sorted_13 (lv_at hl 3 rfl) ?_
      refine lv_aload_n hx hb dX11_sorted_15 rfl (lv_at hl 0 rfl) ?_
      refine va_get (D := D) (ci := 11) (C := RX11) (T := TX11) (N := 24) hx hb hts huX11 hown hK hP 0 rfl rfl 0 (by decide) fk7 (fun _ h9 => h9) rfl dX11_sorted_16 ?_
      refine lv_icmp_ge (tgt := 120) hx hb dX11_sorted_19 (by decide) (fun c6 => ?_) (fun c6 => ?_)
      · have hf := if_t hf c6
        obtain rfl := Option.some.inj hf
        exact hex _ _ _ hP hD hS (lv_sub hl [1, 2] rfl)
      · have hf := if_f hf c6
        refine lv_iconst (v := (0 : Int32)) hx hb dX11_sorted_22 (by decide) ?_
        refine lv_istore (lv' := [(8, .int (0 : Int32)), (0, .ref (qM 0)), (3, .long x.1), (5, .long x.2.1), (7, .int x.2.2)]) hx hb dX11_sorted_23 hl (by decide) rfl (fun ls hl => ?_)
        obtain ⟨ex7, hcl, hf⟩ := ob_some hf
        refine hL25 x.2.2 m_many m_figures F (x.1, x.2.1, (0 : Int32)) ex7 _ _ _ hcl (fun H locs ls hP hD hS hl => ?_) hP hD hS (lv_sub hl [1, 2, 3, 4, 0] rfl)
        refine lv_iinc (v := (x.2.2 + (1 : Int32))) (lv' := [(7, .int (x.2.2 + (1 : Int32))), (0, .ref (qM 0)), (3, .long ex7.1), (5, .long ex7.2)]) hx hb dX11_sorted_114 hl (k := 3) rfl rfl (by decide) rfl (fun ls hl => ?_)
        refine lv_goto (tgt := 13) hx hb dX11_sorted_117 (by decide) ?_
        exact ih (ex7.1, ex7.2, (x.2.2 + (1 : Int32))) ex _ _ _ hf hex hP hD hS (lv_sub hl [1, 2, 3, 0] rfl)
  refine lv_aload_n hx hb dX11_sorted_0 rfl (lv_at hl 0 rfl) ?_
  refine lv_lload_n hx hb dX11_sorted_1 rfl (lv_at hl 1 rfl) ?_
  obtain ⟨r8, hc9, hf⟩ := ob_some hf
  refine kc_v (k_run ⟨hx, hb, hml, hown, hts⟩ (c_X11_lay hc9) (cwV 1 hts gX11_sorted_X11_lay rfl rfl rfl (by decide +kernel) ⟨Nat.le_of_ble_eq_true rfl, Nat.le_of_ble_eq_true rfl⟩) hK hN hP hD kA_s (ci := 11) (q0 := 0) rfl rfl rfl rfl hl.1 rfl (Nat.le_of_ble_eq_true rfl) dX11_sorted_2 ⟨Nat.le_of_ble_eq_true rfl, Nat.le_of_ble_eq_true rfl⟩) hP hD hS hA kI_s (fun _ H locs hP hD hS => ?_)
  refine lv_lconst (v := (0 : Int64)) hx hb dX11_sorted_5 (by decide) ?_
  refine lv_lstore_n (lv' := [(3, .long (0 : Int64)), (0, .ref (qM 0)), (1, .long a1)]) hx hb dX11_sorted_6 rfl hl (by decide) rfl (fun ls hl => ?_)
  refine lv_lconst (v := (0 : Int64)) hx hb dX11_sorted_7 (by decide) ?_
  refine lv_lstore (lv' := [(5, .long (0 : Int64)), (3, .long (0 : Int64)), (0, .ref (qM 0)), (1, .long a1)]) hx hb dX11_sorted_8 hl (by decide) rfl (fun ls hl => ?_)
  refine lv_iconst (v := (0 : Int32)) hx hb dX11_sorted_10 (by decide) ?_
  refine lv_istore (lv' := [(7, .int (0 : Int32)), (5, .long (0 : Int64)), (3, .long (0 : Int64)), (0, .ref (qM 0)), (1, .long a1)]) hx hb dX11_sorted_11 hl (by decide) rfl (fun ls hl => ?_)
  obtain ⟨ex10, hcl, hf⟩ := ob_some hf
  refine hL13 r8.1 r8.2 F ((0 : Int64), (0 : Int64), (0 : Int32)) ex10 _ _ _ hcl (fun H locs ls hP hD hS hl => ?_) hP hD hS (lv_sub hl [3, 2, 1, 0] rfl)
  refine lv_lload hx hb dX11_sorted_120 (lv_at hl 1 rfl) ?_
  refine lv_lload_n hx hb dX11_sorted_122 rfl (lv_at hl 0 rfl) ?_
  refine lv_lsub hx hb dX11_sorted_123 ?_
  obtain rfl := Option.some.inj hf
  exact hQ () 124 _ _ _ dX11_sorted_124 hP hD hS
def f_X11_product_J98 (F : Nat) (s0 : Int64) (m_many : Int32) (m_figures : Nat → Int32) : Option (Int64 × Int32 × (Nat → Int32)) := some (s0, m_many, m_figures)
def f_X11_product_J81 (F : Nat) (rec : (Int64 × Int32 × Int32) → Option (Int64 × Int32)) (x5 : Int32) (x6 : Int32) (s0 : Int64) : Option (Int64 × Int32) := rec (s0, x5, (x6 + (1 : Int32)))
def f_X11_product_J76 (F : Nat) (rec : (Int64 × Int32 × Int32) → Option (Int64 × Int32)) (x3 : Int64) (x5 : Int32) (x6 : Int32) (x7 : Int32) : Option (Int64 × Int32) := f_X11_product_J81 F rec x5 x6 (x3 * x7.toInt64)
def f_X11_product_J51 (F : Nat) (rec : (Int64 × Int32 × Int32) → Option (Int64 × Int32)) (x3 : Int64) (x6 : Int32) (x7 : Int32) (s0 : Int32) : Option (Int64 × Int32) := if x7 ≤ 0 then (f_X11_product_J76 F rec x3 s0 x6 x7) else (ck (¬ x7.toInt64 = 0) (if x3 ≤ ((1000000000000000 : Int64) / x7.toInt64) then (f_X11_product_J76 F rec x3 s0 x6 x7) else (f_X11_product_J81 F rec s0 x6 (1000000000000001 : Int64))))
def f_X11_product_J46 (F : Nat) (rec : (Int64 × Int32 × Int32) → Option (Int64 × Int32)) (x3 : Int64) (x6 : Int32) (x7 : Int32) : Option (Int64 × Int32) := f_X11_product_J51 F rec x3 x6 x7 (1 : Int32)
def f_X11_product_B13 (F : Nat) (m_f : Nat → Int32) (m_many : Int32) (m_figures : Nat → Int32) (rec : Int64 × Int32 × Int32 → Option (Int64 × Int32)) (x : Int64 × Int32 × Int32) : Option (Int64 × Int32) := if m_many ≤ x.2.2 then (some (x.1, x.2.1)) else (ck (¬ (x.2.2 < 0 ∨ 64 ≤ x.2.2.toNatClampNeg)) (ck (¬ ((m_figures x.2.2.toNatClampNeg) < 0 ∨ 16 ≤ (m_figures x.2.2.toNatClampNeg).toNatClampNeg)) (if x.2.1 = 0 then (if (m_f (m_figures x.2.2.toNatClampNeg).toNatClampNeg) = 0 then (f_X11_product_J46 F rec x.1 x.2.2 (m_f (m_figures x.2.2.toNatClampNeg).toNatClampNeg)) else (f_X11_product_J51 F rec x.1 x.2.2 (m_f (m_figures x.2.2.toNatClampNeg).toNatClampNeg) (0 : Int32))) else (f_X11_product_J46 F rec x.1 x.2.2 (m_f (m_figures x.2.2.toNatClampNeg).toNatClampNeg)))))
def f_X11_product (F : Nat) (a1 : Int64) (m_base : Int32) (m_f : Nat → Int32) (m_many : Int32) (m_figures : Nat → Int32) : Option (Int64 × Int32 × (Nat → Int32)) := (f_X11_lay F a1 m_base m_many m_figures).bind (fun r9 => (lp (f_X11_product_B13 F m_f r9.1 r9.2) F ((1 : Int64), (0 : Int32), (0 : Int32))).bind (fun ex11 => if ex11.2 = 0 then (f_X11_product_J98 F ex11.1 r9.1 r9.2) else (f_X11_product_J98 F (0 : Int64) r9.1 r9.2)))
abbrev rmX11_product : Room := { frames := 1, cells := 0, slots := 0, locals := 24 }
set_option maxHeartbeats 1000000 in
set_option maxRecDepth 100000 in
theorem c_X11_product {l : Launch} {D : va_G} {cy : Nat → ClassId} {qM : Nat → Nat} {m_base : Int32} {m_f : Nat → Int32} {m_many : Int32} {m_figures : Nat → Int32} {m_tail : Int32} {m_round : Int32} {m_rounds : Int32} {m_leasts : Nat → Int64} {m_likes : Int32} {m_like : Nat → Int32} {m_isTwo : Nat → Int32} {m_came : Nat → Int32} {m_by : Nat → Int32} {m_queue : Nat → Int32} {m_kind : Int32} {m_parts : Int32} {m_wanted : Int32} {m_allowed : Int32} {m_bitOf : Nat → Int32} {m_met : Int32} {m_row : Nat → Int32} {m_narrows : Int32} {m_narrow : Nat → Int64} {m_isMade : Nat → Int32} {a1 : Int64} {F : Nat} {res : Int64 × Int32 × (Nat → Int32)} (hf : f_X11_product F a1 m_base m_f m_many m_figures = some res) : kM l yX11_product wsX11_product rmX11_product D cy [.ref (qM 0), .long a1] (gM cy qM m_base m_f m_many m_figures m_tail m_round m_rounds m_leasts m_likes m_like m_isTwo m_came m_by m_queue m_kind m_parts m_wanted m_allowed m_bitOf m_met m_row m_narrows m_narrow m_isMade) (kQl D cy (fun _ : Unit => gM cy qM m_base m_f res.2.1 res.2.2 m_tail m_round m_rounds m_leasts m_likes m_like m_isTwo m_came m_by m_queue m_kind m_parts m_wanted m_allowed m_bitOf m_met m_row m_narrows m_narrow m_isMade) res.1) := by
  refine kent_l (cc := cX11_product) (maxL := 8) (by decide) rfl (Nat.le_of_ble_eq_true rfl) ?_
  intro p e0 s m ar below meth c A Q ls ⟨hx, hb, hml, hr, hts, hown, hlocks, hnm⟩ hA hK hN hQ hP hD hS hl
  have hl : lv_has ls 8 [(0, .ref (qM 0)), (1, .long a1)] := hl
  have hown : s.vm.findClass RX11 = some m.cls := hown
  have fk68 : (Cond.constantLong RX11 68 (1000000000000000)).before ar s = true := hts _ (by decide +kernel)
  have fk74 : (Cond.constantLong RX11 74 (1000000000000001)).before ar s = true := hts _ (by decide +kernel)
  have huX11 : ∀ x ∈ u_ws RX11 TX11 24, x ∈ wsX11_product := by decide +kernel
  have fk65 : (Cond.fieldLink RX11 65 "FigurePlayModel" "many" "I").before ar s = true := hts _ (by decide +kernel)
  have fk13 : (Cond.fieldLink RX11 13 "FigurePlayModel" "f" "[I").before ar s = true := hts _ (by decide +kernel)
  have fk17 : (Cond.fieldLink RX11 17 "FigurePlayModel" "figures" "[I").before ar s = true := hts _ (by decide +kernel)
  unfold f_X11_product at hf
  have hJ98 : ∀ (s0 : Int64) (m_many : Int32) (m_figures : Nat → Int32) (H : Heap) (locs : List Loc) (ls : Array Slot), f_X11_product_J98 F s0 m_many m_figures = some res → va_P D vwCl (gM cy qM m_base m_f m_many m_figures m_tail m_round m_rounds m_leasts m_likes m_like m_isTwo m_came m_by m_queue m_kind m_parts m_wanted m_allowed m_bitOf m_met m_row m_narrows m_narrow m_isMade) H → va_D A (gM cy qM m_base m_f m_many m_figures m_tail m_round m_rounds m_leasts m_likes m_like m_isTwo m_came m_by m_queue m_kind m_parts m_wanted m_allowed m_bitOf m_met m_row m_narrows m_narrow m_isMade) → va_S A s.heap H locs → lv_has ls 8 [] → W p l e0 rmX11_product s m ar below meth c H locs 0 0 Q (F0 m 98 ls [.long s0]) := by
    intro s0 m_many m_figures H locs ls hf hP hD hS hl
    unfold f_X11_product_J98 at hf
    obtain rfl := Option.some.inj hf
    exact hQ () 98 _ _ _ dX11_product_98 hP hD hS
  have hL13 : ∀ (m_many : Int32) (m_figures : Nat → Int32) (k : Nat) (x : Int64 × Int32 × Int32) (ex : Int64 × Int32) (H : Heap) (locs : List Loc) (ls : Array Slot), lp (f_X11_product_B13 F m_f m_many m_figures) k x = some ex → (∀ (H : Heap) (locs : List Loc) (ls : Array Slot), va_P D vwCl (gM cy qM m_base m_f m_many m_figures m_tail m_round m_rounds m_leasts m_likes m_like m_isTwo m_came m_by m_queue m_kind m_parts m_wanted m_allowed m_bitOf m_met m_row m_narrows m_narrow m_isMade) H → va_D A (gM cy qM m_base m_f m_many m_figures m_tail m_round m_rounds m_leasts m_likes m_like m_isTwo m_came m_by m_queue m_kind m_parts m_wanted m_allowed m_bitOf m_met m_row m_narrows m_narrow m_isMade) → va_S A s.heap H locs → lv_has ls 8 [(3, .long ex.1), (5, .int ex.2)] → W p l e0 rmX11_product s m ar below meth c H locs 0 0 Q (F0 m 88 ls [])) → va_P D vwCl (gM cy qM m_base m_f m_many m_figures m_tail m_round m_rounds m_leasts m_likes m_like m_isTwo m_came m_by m_queue m_kind m_parts m_wanted m_allowed m_bitOf m_met m_row m_narrows m_narrow m_isMade) H → va_D A (gM cy qM m_base m_f m_many m_figures m_tail m_round m_rounds m_leasts m_likes m_like m_isTwo m_came m_by m_queue m_kind m_parts m_wanted m_allowed m_bitOf m_met m_row m_narrows m_narrow m_isMade) → va_S A s.heap H locs → lv_has ls 8 [(0, .ref (qM 0)), (3, .long x.1), (5, .int x.2.1), (6, .int x.2.2)] → W p l e0 rmX11_product s m ar below meth c H locs 0 0 Q (F0 m 13 ls []) := by
    intro m_many m_figures k
    induction k with
    | zero => intro x ex H locs ls hf; exact no_some hf
    | succ k ih =>
      intro x ex H locs ls hf hex hP hD hS hl
      have hf : f_X11_product_B13 F m_f m_many m_figures (lp (f_X11_product_B13 F m_f m_many m_figures) k) x = some ex := hf
      unfold f_X11_product_B13 at hf
      have hJ81 : ∀ (x5 : Int32) (x6 : Int32) (s0 : Int64) (H : Heap) (locs : List Loc) (ls : Array Slot), f_X11_product_J81 F (lp (f_X11_product_B13 F m_f m_many m_figures) k) x5 x6 s0 = some ex → va_P D vwCl (gM cy qM m_base m_f m_many m_figures m_tail m_round m_rounds m_leasts m_likes m_like m_isTwo m_came m_by m_queue m_kind m_parts m_wanted m_allowed m_bitOf m_met m_row m_narrows m_narrow m_isMade) H → va_D A (gM cy qM m_base m_f m_many m_figures m_tail m_round m_rounds m_leasts m_likes m_like m_isTwo m_came m_by m_queue m_kind m_parts m_wanted m_allowed m_bitOf m_met m_row m_narrows m_narrow m_isMade) → va_S A s.heap H locs → lv_has ls 8 [(0, .ref (qM 0)), (5, .int x5), (6, .int x6)] → W p l e0 rmX11_product s m ar below meth c H locs 0 0 Q (F0 m 81 ls [.long s0]) := by
        intro x5 x6 s0 H locs ls hf hP hD hS hl
        unfold f_X11_product_J81 at hf
        refine lv_lstore_n (lv' := [(3, .long s0), (0, .ref (qM 0)), (5, .int x5), (6, .int x6)]) hx hb dX11_product_81 rfl hl (by decide) rfl (fun ls hl => ?_)
        refine lv_iinc (v := (x6 + (1 : Int32))) (lv' := [(6, .int (x6 + (1 : Int32))), (3, .long s0), (0, .ref (qM 0)), (5, .int x5)]) hx hb dX11_product_82 hl (k := 3) rfl rfl (by decide) rfl (fun ls hl => ?_)
        refine lv_goto (tgt := 13) hx hb dX11_product_85 (by decide) ?_
        exact ih (s0, x5, (x6 + (1 : Int32))) ex _ _ _ hf hex hP hD hS (lv_sub hl [2, 1, 3, 0] rfl)
      have hJ76 : ∀ (x3 : Int64) (x5 : Int32) (x6 : Int32) (x7 : Int32) (H : Heap) (locs : List Loc) (ls : Array Slot), f_X11_product_J76 F (lp (f_X11_product_B13 F m_f m_many m_figures) k) x3 x5 x6 x7 = some ex → va_P D vwCl (gM cy qM m_base m_f m_many m_figures m_tail m_round m_rounds m_leasts m_likes m_like m_isTwo m_came m_by m_queue m_kind m_parts m_wanted m_allowed m_bitOf m_met m_row m_narrows m_narrow m_isMade) H → va_D A (gM cy qM m_base m_f m_many m_figures m_tail m_round m_rounds m_leasts m_likes m_like m_isTwo m_came m_by m_queue m_kind m_parts m_wanted m_allowed m_bitOf m_met m_row m_narrows m_narrow m_isMade) → va_S A s.heap H locs → lv_has ls 8 [(0, .ref (qM 0)), (3, .long x3), (5, .int x5), (6, .int x6), (7, .int x7)] → W p l e0 rmX11_product s m ar below meth c H locs 0 0 Q (F0 m 76 ls []) := by
        intro x3 x5 x6 x7 H locs ls hf hP hD hS hl
        unfold f_X11_product_J76 at hf
        refine lv_lload_n hx hb dX11_product_76 rfl (lv_at hl 1 rfl) ?_
        refine lv_iload hx hb dX11_product_77 (lv_at hl 4 rfl) ?_
        refine lv_i2l hx hb dX11_product_79 rfl ?_
        refine lv_lmul hx hb dX11_product_80 ?_
        exact hJ81 x5 x6 (x3 * x7.toInt64) _ _ _ hf hP hD hS (lv_sub hl [0, 2, 3] rfl)
      have hJ51 : ∀ (x3 : Int64) (x6 : Int32) (x7 : Int32) (s0 : Int32) (H : Heap) (locs : List Loc) (ls : Array Slot), f_X11_product_J51 F (lp (f_X11_product_B13 F m_f m_many m_figures) k) x3 x6 x7 s0 = some ex → va_P D vwCl (gM cy qM m_base m_f m_many m_figures m_tail m_round m_rounds m_leasts m_likes m_like m_isTwo m_came m_by m_queue m_kind m_parts m_wanted m_allowed m_bitOf m_met m_row m_narrows m_narrow m_isMade) H → va_D A (gM cy qM m_base m_f m_many m_figures m_tail m_round m_rounds m_leasts m_likes m_like m_isTwo m_came m_by m_queue m_kind m_parts m_wanted m_allowed m_bitOf m_met m_row m_narrows m_narrow m_isMade) → va_S A s.heap H locs → lv_has ls 8 [(0, .ref (qM 0)), (3, .long x3), (6, .int x6), (7, .int x7)] → W p l e0 rmX11_product s m ar below meth c H locs 0 0 Q (F0 m 51 ls [.int s0]) := by
        intro x3 x6 x7 s0 H locs ls hf hP hD hS hl
        unfold f_X11_product_J51 at hf
        refine lv_istore (lv' := [(5, .int s0), (0, .ref (qM 0)), (3, .long x3), (6, .int x6), (7, .int x7)]) hx hb dX11_product_51 hl (by decide) rfl (fun ls hl => ?_)
        refine lv_iload hx hb dX11_product_53 (lv_at hl 4 rfl) ?_
        refine lv_if_le (tgt := 76) hx hb dX11_product_55 (by decide) (fun c1 => ?_) (fun c1 => ?_)
        · have hf := if_t hf c1
          exact hJ76 x3 s0 x6 x7 _ _ _ hf hP hD hS (lv_sub hl [1, 2, 0, 3, 4] rfl)
        · have hf := if_f hf c1
          refine lv_lload_n hx hb dX11_product_58 rfl (lv_at hl 2 rfl) ?_
          refine lv_ldc2 (v := (1000000000000000 : Int64)) hx hb hown fk68 dX11_product_59 ?_
          refine lv_iload hx hb dX11_product_62 (lv_at hl 4 rfl) ?_
          refine lv_i2l hx hb dX11_product_64 rfl ?_
          obtain ⟨c2, hf⟩ := ck_some hf
          refine lv_ldiv hx hb dX11_product_65 c2 ?_
          refine kl_le (tgt := 76) hx hb dX11_product_66 dX11_product_67 (by decide) (fun c3 => ?_) (fun c3 => ?_)
          · have hf := if_t hf c3
            exact hJ76 x3 s0 x6 x7 _ _ _ hf hP hD hS (lv_sub hl [1, 2, 0, 3, 4] rfl)
          · have hf := if_f hf c3
            refine lv_ldc2 (v := (1000000000000001 : Int64)) hx hb hown fk74 dX11_product_70 ?_
            refine lv_goto (tgt := 81) hx hb dX11_product_73 (by decide) ?_
            exact hJ81 s0 x6 (1000000000000001 : Int64) _ _ _ hf hP hD hS (lv_sub hl [1, 0, 3] rfl)
      have hJ46 : ∀ (x3 : Int64) (x6 : Int32) (x7 : Int32) (H : Heap) (locs : List Loc) (ls : Array Slot), f_X11_product_J46 F (lp (f_X11_product_B13 F m_f m_many m_figures) k) x3 x6 x7 = some ex → va_P D vwCl (gM cy qM m_base m_f m_many m_figures m_tail m_round m_rounds m_leasts m_likes m_like m_isTwo m_came m_by m_queue m_kind m_parts m_wanted m_allowed m_bitOf m_met m_row m_narrows m_narrow m_isMade) H → va_D A (gM cy qM m_base m_f m_many m_figures m_tail m_round m_rounds m_leasts m_likes m_like m_isTwo m_came m_by m_queue m_kind m_parts m_wanted m_allowed m_bitOf m_met m_row m_narrows m_narrow m_isMade) → va_S A s.heap H locs → lv_has ls 8 [(0, .ref (qM 0)), (3, .long x3), (6, .int x6), (7, .int x7)] → W p l e0 rmX11_product s m ar below meth c H locs 0 0 Q (F0 m 46 ls []) := by
        intro x3 x6 x7 H locs ls hf hP hD hS hl
        unfold f_X11_product_J46 at hf
        refine lv_iconst (v := (1 : Int32)) hx hb dX11_product_46 (by decide) ?_
        refine lv_goto (tgt := 51) hx hb dX11_product_47 (by decide) ?_
        exact hJ51 x3 x6 x7 (1 : Int32) _ _ _ hf hP hD hS (lv_sub hl [0, 1, 2, 3] rfl)
      refine lv_iload hx hb dX11_product_13 (lv_at hl 3 rfl) ?_
      refine lv_aload_n hx hb dX11_product_15 rfl (lv_at hl 0 rfl) ?_
      refine va_get (D := D) (ci := 11) (C := RX11) (T := TX11) (N := 24) hx hb hts huX11 hown hK hP 0 rfl rfl 2 (by decide) fk65 (fun _ h9 => h9) rfl dX11_product_16 ?_
      refine lv_icmp_ge (tgt := 88) hx hb dX11_product_19 (by decide) (fun c4 => ?_) (fun c4 => ?_)
      · have hf := if_t hf c4
        obtain rfl := Option.some.inj hf
        exact hex _ _ _ hP hD hS (lv_sub hl [1, 2] rfl)
      · have hf := if_f hf c4
        refine lv_aload_n hx hb dX11_product_22 rfl (lv_at hl 0 rfl) ?_
        refine va_get (v := .ref (qM 1)) (D := D) (ci := 11) (C := RX11) (T := TX11) (N := 24) hx hb hts huX11 hown hK hP 0 rfl rfl 1 (by decide) fk13 (fun _ h9 => h9) rfl dX11_product_23 ?_
        refine lv_aload_n hx hb dX11_product_26 rfl (lv_at hl 0 rfl) ?_
        refine va_get (v := .ref (qM 2)) (D := D) (ci := 11) (C := RX11) (T := TX11) (N := 24) hx hb hts huX11 hown hK hP 0 rfl rfl 3 (by decide) fk17 (fun _ h9 => h9) rfl dX11_product_27 ?_
        refine lv_iload hx hb dX11_product_30 (lv_at hl 3 rfl) ?_
        obtain ⟨c5, hf⟩ := ck_some hf
        refine va_iald hx hb hK hP 2 0 rfl rfl c5 dX11_product_32 ?_
        obtain ⟨c6, hf⟩ := ck_some hf
        refine va_iald hx hb hK hP 1 0 rfl rfl c6 dX11_product_33 ?_
        refine lv_istore (lv' := [(7, .int (m_f (m_figures x.2.2.toNatClampNeg).toNatClampNeg)), (0, .ref (qM 0)), (3, .long x.1), (5, .int x.2.1), (6, .int x.2.2)]) hx hb dX11_product_34 hl (by decide) rfl (fun ls hl => ?_)
        refine lv_iload hx hb dX11_product_36 (lv_at hl 3 rfl) ?_
        refine lv_if_ne (tgt := 46) hx hb dX11_product_38 (by decide) (fun c7 => ?_) (fun c7 => ?_)
        · have hf := if_f hf c7
          exact hJ46 x.1 x.2.2 (m_f (m_figures x.2.2.toNatClampNeg).toNatClampNeg) _ _ _ hf hP hD hS (lv_sub hl [1, 2, 4, 0] rfl)
        · have hf := if_t hf c7
          refine lv_iload hx hb dX11_product_41 (lv_at hl 0 rfl) ?_
          refine lv_if_ne (tgt := 50) hx hb dX11_product_43 (by decide) (fun c8 => ?_) (fun c8 => ?_)
          · have hf := if_f hf c8
            refine lv_iconst (v := (0 : Int32)) hx hb dX11_product_50 (by decide) ?_
            exact hJ51 x.1 x.2.2 (m_f (m_figures x.2.2.toNatClampNeg).toNatClampNeg) (0 : Int32) _ _ _ hf hP hD hS (lv_sub hl [1, 2, 4, 0] rfl)
          · have hf := if_t hf c8
            exact hJ46 x.1 x.2.2 (m_f (m_figures x.2.2.toNatClampNeg).toNatClampNeg) _ _ _ hf hP hD hS (lv_sub hl [1, 2, 4, 0] rfl)
  refine lv_aload_n hx hb dX11_product_0 rfl (lv_at hl 0 rfl) ?_
  refine lv_lload_n hx hb dX11_product_1 rfl (lv_at hl 1 rfl) ?_
  obtain ⟨r9, hc10, hf⟩ := ob_some hf
  refine kc_v (k_run ⟨hx, hb, hml, hown, hts⟩ (c_X11_lay hc10) (cwV 1 hts gX11_product_X11_lay rfl rfl rfl (by decide +kernel) ⟨Nat.le_of_ble_eq_true rfl, Nat.le_of_ble_eq_true rfl⟩) hK hN hP hD kA_s (ci := 11) (q0 := 0) rfl rfl rfl rfl hl.1 rfl (Nat.le_of_ble_eq_true rfl) dX11_product_2 ⟨Nat.le_of_ble_eq_true rfl, Nat.le_of_ble_eq_true rfl⟩) hP hD hS hA kI_s (fun _ H locs hP hD hS => ?_)
  refine lv_lconst (v := (1 : Int64)) hx hb dX11_product_5 (by decide) ?_
  refine lv_lstore_n (lv' := [(3, .long (1 : Int64)), (0, .ref (qM 0)), (1, .long a1)]) hx hb dX11_product_6 rfl hl (by decide) rfl (fun ls hl => ?_)
  refine lv_iconst (v := (0 : Int32)) hx hb dX11_product_7 (by decide) ?_
  refine lv_istore (lv' := [(5, .int (0 : Int32)), (3, .long (1 : Int64)), (0, .ref (qM 0)), (1, .long a1)]) hx hb dX11_product_8 hl (by decide) rfl (fun ls hl => ?_)
  refine lv_iconst (v := (0 : Int32)) hx hb dX11_product_10 (by decide) ?_
  refine lv_istore (lv' := [(6, .int (0 : Int32)), (5, .int (0 : Int32)), (3, .long (1 : Int64)), (0, .ref (qM 0)), (1, .long a1)]) hx hb dX11_product_11 hl (by decide) rfl (fun ls hl => ?_)
  obtain ⟨ex11, hcl, hf⟩ := ob_some hf
  refine hL13 r9.1 r9.2 F ((1 : Int64), (0 : Int32), (0 : Int32)) ex11 _ _ _ hcl (fun H locs ls hP hD hS hl => ?_) hP hD hS (lv_sub hl [3, 2, 1, 0] rfl)
  refine lv_iload hx hb dX11_product_88 (lv_at hl 1 rfl) ?_
  refine lv_if_eq (tgt := 97) hx hb dX11_product_90 (by decide) (fun c12 => ?_) (fun c12 => ?_)
  · have hf := if_t hf c12
    refine lv_lload_n hx hb dX11_product_97 rfl (lv_at hl 0 rfl) ?_
    exact hJ98 ex11.1 r9.1 r9.2 _ _ _ hf hP hD hS (lv_sub hl [] rfl)
  · have hf := if_f hf c12
    refine lv_lconst (v := (0 : Int64)) hx hb dX11_product_93 (by decide) ?_
    refine lv_goto (tgt := 98) hx hb dX11_product_94 (by decide) ?_
    exact hJ98 (0 : Int64) r9.1 r9.2 _ _ _ hf hP hD hS (lv_sub hl [] rfl)
