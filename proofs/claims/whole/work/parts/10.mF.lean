/-! the reference: functions and contracts -/
def f_X11_figureOf_B81 (F : Nat) (a2 : Int32) (m_came : Nat → Int32) (m_by : Nat → Int32) (m_queue : Nat → Int32) (m_met : Int32) (rec : Int32 × Int32 → Option (Int32)) (x : Int32 × Int32) : Option (Int32) := if x.2 ≤ a2 then (some x.1) else (ck (¬ (x.1 < 0 ∨ 51200 ≤ x.1.toNatClampNeg)) (rec ((m_came x.1.toNatClampNeg), (x.2 + (-1 : Int32)))))
def f_X11_figureOf_J71 (F : Nat) (s0 : Int32) (m_came : Nat → Int32) (m_by : Nat → Int32) (m_queue : Nat → Int32) (m_met : Int32) : Option (Int32 × (Nat → Int32) × (Nat → Int32) × (Nat → Int32) × Int32) := some (s0, m_came, m_by, m_queue, m_met)
def f_X11_figureOf_J59 (F : Nat) (a2 : Int32) (x4 : Int32) (m_came : Nat → Int32) (m_by : Nat → Int32) (m_queue : Nat → Int32) (m_met : Int32) : Option (Int32 × (Nat → Int32) × (Nat → Int32) × (Nat → Int32) × Int32) := if a2 = (-1 : Int32) then (f_X11_figureOf_J71 F x4 m_came m_by m_queue m_met) else (f_X11_figureOf_J71 F (-4 : Int32) m_came m_by m_queue m_met)
def f_X11_figureOf_B21 (F : Nat) (x3 : Int32) (m_came : Nat → Int32) (m_by : Nat → Int32) (m_queue : Nat → Int32) (m_met : Int32) (rec : Int32 × Int32 → Option (Int32)) (x : Int32 × Int32) : Option (Int32) := ck (¬ (x.2 < 0 ∨ 51200 ≤ x.2.toNatClampNeg)) (if (m_came x.2.toNatClampNeg) = (-2 : Int32) then (some x.1) else (ck (¬ (x.2 < 0 ∨ 51200 ≤ x.2.toNatClampNeg)) (rec ((x.1 + (1 : Int32)), (m_came x.2.toNatClampNeg)))))
def f_X11_figureOf (F : Nat) (a1 : Int32) (a2 : Int32) (m_base : Int32) (m_came : Nat → Int32) (m_by : Nat → Int32) (m_queue : Nat → Int32) (m_kind : Int32) (m_parts : Int32) (m_wanted : Int32) (m_allowed : Int32) (m_bitOf : Nat → Int32) (m_met : Int32) : Option (Int32 × (Nat → Int32) × (Nat → Int32) × (Nat → Int32) × Int32) := (f_X11_search F a1 m_base m_came m_by m_queue m_kind m_parts m_wanted m_allowed m_bitOf m_met).bind (fun r7 => if r7.1 = (-4 : Int32) then (some ((-4 : Int32), r7.2.1, r7.2.2.1, r7.2.2.2.1, r7.2.2.2.2)) else ((lp (f_X11_figureOf_B21 F r7.1 r7.2.1 r7.2.2.1 r7.2.2.2.1 r7.2.2.2.2) F ((1 : Int32), r7.1)).bind (fun ex10 => if a2 = (-1 : Int32) then (f_X11_figureOf_J59 F a2 ex10 r7.2.1 r7.2.2.1 r7.2.2.2.1 r7.2.2.2.2) else (if a2 < ex10 then ((lp (f_X11_figureOf_B81 F a2 r7.2.1 r7.2.2.1 r7.2.2.2.1 r7.2.2.2.2) F (r7.1, (ex10 - (1 : Int32)))).bind (fun ex13 => ck (¬ (ex13 < 0 ∨ 51200 ≤ ex13.toNatClampNeg)) (some ((r7.2.2.1 ex13.toNatClampNeg), r7.2.1, r7.2.2.1, r7.2.2.2.1, r7.2.2.2.2)))) else (f_X11_figureOf_J59 F a2 ex10 r7.2.1 r7.2.2.1 r7.2.2.2.1 r7.2.2.2.2)))))
abbrev rmX11_figureOf : Room := { frames := 2, cells := 0, slots := 0, locals := 47 }
set_option maxHeartbeats 1000000 in
set_option maxRecDepth 100000 in
theorem c_X11_figureOf {l : Launch} {D : va_G} {cy : Nat → ClassId} {qM : Nat → Nat} {m_base : Int32} {m_f : Nat → Int32} {m_many : Int32} {m_figures : Nat → Int32} {m_tail : Int32} {m_round : Int32} {m_rounds : Int32} {m_leasts : Nat → Int64} {m_likes : Int32} {m_like : Nat → Int32} {m_isTwo : Nat → Int32} {m_came : Nat → Int32} {m_by : Nat → Int32} {m_queue : Nat → Int32} {m_kind : Int32} {m_parts : Int32} {m_wanted : Int32} {m_allowed : Int32} {m_bitOf : Nat → Int32} {m_met : Int32} {m_row : Nat → Int32} {m_narrows : Int32} {m_narrow : Nat → Int64} {m_isMade : Nat → Int32} {a1 : Int32} {a2 : Int32} {F : Nat} {res : Int32 × (Nat → Int32) × (Nat → Int32) × (Nat → Int32) × Int32} (hf : f_X11_figureOf F a1 a2 m_base m_came m_by m_queue m_kind m_parts m_wanted m_allowed m_bitOf m_met = some res) : kM l yX11_figureOf wsX11_figureOf rmX11_figureOf D cy [.ref (qM 0), .int a1, .int a2] (gM cy qM m_base m_f m_many m_figures m_tail m_round m_rounds m_leasts m_likes m_like m_isTwo m_came m_by m_queue m_kind m_parts m_wanted m_allowed m_bitOf m_met m_row m_narrows m_narrow m_isMade) (kQi D cy (fun _ : Unit => gM cy qM m_base m_f m_many m_figures m_tail m_round m_rounds m_leasts m_likes m_like m_isTwo res.2.1 res.2.2.1 res.2.2.2.1 m_kind m_parts m_wanted m_allowed m_bitOf res.2.2.2.2 m_row m_narrows m_narrow m_isMade) res.1) := by
  refine kent_i (cc := cX11_figureOf) (maxL := 7) (by decide) rfl (Nat.le_of_ble_eq_true rfl) ?_
  intro p e0 s m ar below meth c A Q ls ⟨hx, hb, hml, hr, hts, hown, hlocks, hnm⟩ hA hK hN hQ hP hD hS hl
  have hl : lv_has ls 7 [(0, .ref (qM 0)), (1, .int a1), (2, .int a2)] := hl
  have hown : s.vm.findClass RX11 = some m.cls := hown
  have huX11 : ∀ x ∈ u_ws RX11 TX11 24, x ∈ wsX11_figureOf := by decide +kernel
  have fk32 : (Cond.fieldLink RX11 32 "FigurePlayModel" "came" "[I").before ar s = true := hts _ (by decide +kernel)
  have fk35 : (Cond.fieldLink RX11 35 "FigurePlayModel" "by" "[I").before ar s = true := hts _ (by decide +kernel)
  unfold f_X11_figureOf at hf
  have hL81 : ∀ (m_came : Nat → Int32) (m_by : Nat → Int32) (m_queue : Nat → Int32) (m_met : Int32) (k : Nat) (x : Int32 × Int32) (ex : Int32) (H : Heap) (locs : List Loc) (ls : Array Slot), lp (f_X11_figureOf_B81 F a2 m_came m_by m_queue m_met) k x = some ex → (∀ (H : Heap) (locs : List Loc) (ls : Array Slot), va_P D vwCl (gM cy qM m_base m_f m_many m_figures m_tail m_round m_rounds m_leasts m_likes m_like m_isTwo m_came m_by m_queue m_kind m_parts m_wanted m_allowed m_bitOf m_met m_row m_narrows m_narrow m_isMade) H → va_D A (gM cy qM m_base m_f m_many m_figures m_tail m_round m_rounds m_leasts m_likes m_like m_isTwo m_came m_by m_queue m_kind m_parts m_wanted m_allowed m_bitOf m_met m_row m_narrows m_narrow m_isMade) → va_S A s.heap H locs → lv_has ls 7 [(0, .ref (qM 0)), (5, .int ex)] → W p l e0 rmX11_figureOf s m ar below meth c H locs 0 0 Q (F0 m 102 ls [])) → va_P D vwCl (gM cy qM m_base m_f m_many m_figures m_tail m_round m_rounds m_leasts m_likes m_like m_isTwo m_came m_by m_queue m_kind m_parts m_wanted m_allowed m_bitOf m_met m_row m_narrows m_narrow m_isMade) H → va_D A (gM cy qM m_base m_f m_many m_figures m_tail m_round m_rounds m_leasts m_likes m_like m_isTwo m_came m_by m_queue m_kind m_parts m_wanted m_allowed m_bitOf m_met m_row m_narrows m_narrow m_isMade) → va_S A s.heap H locs → lv_has ls 7 [(0, .ref (qM 0)), (2, .int a2), (5, .int x.1), (6, .int x.2)] → W p l e0 rmX11_figureOf s m ar below meth c H locs 0 0 Q (F0 m 81 ls []) := by
    intro m_came m_by m_queue m_met k
    induction k with
    | zero => intro x ex H locs ls hf; exact no_some hf
    | succ k ih =>
      intro x ex H locs ls hf hex hP hD hS hl
      have hf : f_X11_figureOf_B81 F a2 m_came m_by m_queue m_met (lp (f_X11_figureOf_B81 F a2 m_came m_by m_queue m_met) k) x = some ex := hf
      unfold f_X11_figureOf_B81 at hf
      refine lv_iload hx hb dX11_figureOf_81 (lv_at hl 3 rfl) ?_
      refine lv_iload_n hx hb dX11_figureOf_83 rfl (lv_at hl 1 rfl) ?_
      refine lv_icmp_le (tgt := 102) hx hb dX11_figureOf_84 (by decide) (fun c1 => ?_) (fun c1 => ?_)
      · have hf := if_t hf c1
        obtain rfl := Option.some.inj hf
        exact hex _ _ _ hP hD hS (lv_sub hl [0, 2] rfl)
      · have hf := if_f hf c1
        refine lv_aload_n hx hb dX11_figureOf_87 rfl (lv_at hl 0 rfl) ?_
        refine va_get (v := .ref (qM 6)) (D := D) (ci := 11) (C := RX11) (T := TX11) (N := 24) hx hb hts huX11 hown hK hP 0 rfl rfl 11 (by decide) fk32 (fun _ h9 => h9) rfl dX11_figureOf_88 ?_
        refine lv_iload hx hb dX11_figureOf_91 (lv_at hl 2 rfl) ?_
        obtain ⟨c2, hf⟩ := ck_some hf
        refine va_iald hx hb hK hP 6 0 rfl rfl c2 dX11_figureOf_93 ?_
        refine lv_istore (lv' := [(5, .int (m_came x.1.toNatClampNeg)), (0, .ref (qM 0)), (2, .int a2), (6, .int x.2)]) hx hb dX11_figureOf_94 hl (by decide) rfl (fun ls hl => ?_)
        refine lv_iinc (v := (x.2 + (-1 : Int32))) (lv' := [(6, .int (x.2 + (-1 : Int32))), (5, .int (m_came x.1.toNatClampNeg)), (0, .ref (qM 0)), (2, .int a2)]) hx hb dX11_figureOf_96 hl (k := 3) rfl rfl (by decide) rfl (fun ls hl => ?_)
        refine lv_goto (tgt := 81) hx hb dX11_figureOf_99 (by decide) ?_
        exact ih ((m_came x.1.toNatClampNeg), (x.2 + (-1 : Int32))) ex _ _ _ hf hex hP hD hS (lv_sub hl [2, 3, 1, 0] rfl)
  have hJ71 : ∀ (s0 : Int32) (m_came : Nat → Int32) (m_by : Nat → Int32) (m_queue : Nat → Int32) (m_met : Int32) (H : Heap) (locs : List Loc) (ls : Array Slot), f_X11_figureOf_J71 F s0 m_came m_by m_queue m_met = some res → va_P D vwCl (gM cy qM m_base m_f m_many m_figures m_tail m_round m_rounds m_leasts m_likes m_like m_isTwo m_came m_by m_queue m_kind m_parts m_wanted m_allowed m_bitOf m_met m_row m_narrows m_narrow m_isMade) H → va_D A (gM cy qM m_base m_f m_many m_figures m_tail m_round m_rounds m_leasts m_likes m_like m_isTwo m_came m_by m_queue m_kind m_parts m_wanted m_allowed m_bitOf m_met m_row m_narrows m_narrow m_isMade) → va_S A s.heap H locs → lv_has ls 7 [] → W p l e0 rmX11_figureOf s m ar below meth c H locs 0 0 Q (F0 m 71 ls [.int s0]) := by
    intro s0 m_came m_by m_queue m_met H locs ls hf hP hD hS hl
    unfold f_X11_figureOf_J71 at hf
    obtain rfl := Option.some.inj hf
    exact hQ () 71 _ _ _ dX11_figureOf_71 hP hD hS
  have hJ59 : ∀ (x4 : Int32) (m_came : Nat → Int32) (m_by : Nat → Int32) (m_queue : Nat → Int32) (m_met : Int32) (H : Heap) (locs : List Loc) (ls : Array Slot), f_X11_figureOf_J59 F a2 x4 m_came m_by m_queue m_met = some res → va_P D vwCl (gM cy qM m_base m_f m_many m_figures m_tail m_round m_rounds m_leasts m_likes m_like m_isTwo m_came m_by m_queue m_kind m_parts m_wanted m_allowed m_bitOf m_met m_row m_narrows m_narrow m_isMade) H → va_D A (gM cy qM m_base m_f m_many m_figures m_tail m_round m_rounds m_leasts m_likes m_like m_isTwo m_came m_by m_queue m_kind m_parts m_wanted m_allowed m_bitOf m_met m_row m_narrows m_narrow m_isMade) → va_S A s.heap H locs → lv_has ls 7 [(2, .int a2), (4, .int x4)] → W p l e0 rmX11_figureOf s m ar below meth c H locs 0 0 Q (F0 m 59 ls []) := by
    intro x4 m_came m_by m_queue m_met H locs ls hf hP hD hS hl
    unfold f_X11_figureOf_J59 at hf
    refine lv_iload_n hx hb dX11_figureOf_59 rfl (lv_at hl 0 rfl) ?_
    refine lv_iconst (v := (-1 : Int32)) hx hb dX11_figureOf_60 (by decide) ?_
    refine lv_icmp_ne (tgt := 69) hx hb dX11_figureOf_61 (by decide) (fun c3 => ?_) (fun c3 => ?_)
    · have hf := if_f hf c3
      refine lv_bipush (v := (-4 : Int32)) hx hb dX11_figureOf_69 (by decide) ?_
      exact hJ71 (-4 : Int32) m_came m_by m_queue m_met _ _ _ hf hP hD hS (lv_sub hl [] rfl)
    · have hf := if_t hf c3
      refine lv_iload hx hb dX11_figureOf_64 (lv_at hl 1 rfl) ?_
      refine lv_goto (tgt := 71) hx hb dX11_figureOf_66 (by decide) ?_
      exact hJ71 x4 m_came m_by m_queue m_met _ _ _ hf hP hD hS (lv_sub hl [] rfl)
  have hL21 : ∀ (x3 : Int32) (m_came : Nat → Int32) (m_by : Nat → Int32) (m_queue : Nat → Int32) (m_met : Int32) (k : Nat) (x : Int32 × Int32) (ex : Int32) (H : Heap) (locs : List Loc) (ls : Array Slot), lp (f_X11_figureOf_B21 F x3 m_came m_by m_queue m_met) k x = some ex → (∀ (H : Heap) (locs : List Loc) (ls : Array Slot), va_P D vwCl (gM cy qM m_base m_f m_many m_figures m_tail m_round m_rounds m_leasts m_likes m_like m_isTwo m_came m_by m_queue m_kind m_parts m_wanted m_allowed m_bitOf m_met m_row m_narrows m_narrow m_isMade) H → va_D A (gM cy qM m_base m_f m_many m_figures m_tail m_round m_rounds m_leasts m_likes m_like m_isTwo m_came m_by m_queue m_kind m_parts m_wanted m_allowed m_bitOf m_met m_row m_narrows m_narrow m_isMade) → va_S A s.heap H locs → lv_has ls 7 [(0, .ref (qM 0)), (2, .int a2), (3, .int x3), (4, .int ex)] → W p l e0 rmX11_figureOf s m ar below meth c H locs 0 0 Q (F0 m 48 ls [])) → va_P D vwCl (gM cy qM m_base m_f m_many m_figures m_tail m_round m_rounds m_leasts m_likes m_like m_isTwo m_came m_by m_queue m_kind m_parts m_wanted m_allowed m_bitOf m_met m_row m_narrows m_narrow m_isMade) H → va_D A (gM cy qM m_base m_f m_many m_figures m_tail m_round m_rounds m_leasts m_likes m_like m_isTwo m_came m_by m_queue m_kind m_parts m_wanted m_allowed m_bitOf m_met m_row m_narrows m_narrow m_isMade) → va_S A s.heap H locs → lv_has ls 7 [(0, .ref (qM 0)), (2, .int a2), (3, .int x3), (4, .int x.1), (5, .int x.2)] → W p l e0 rmX11_figureOf s m ar below meth c H locs 0 0 Q (F0 m 21 ls []) := by
    intro x3 m_came m_by m_queue m_met k
    induction k with
    | zero => intro x ex H locs ls hf; exact no_some hf
    | succ k ih =>
      intro x ex H locs ls hf hex hP hD hS hl
      have hf : f_X11_figureOf_B21 F x3 m_came m_by m_queue m_met (lp (f_X11_figureOf_B21 F x3 m_came m_by m_queue m_met) k) x = some ex := hf
      unfold f_X11_figureOf_B21 at hf
      refine lv_aload_n hx hb dX11_figureOf_21 rfl (lv_at hl 0 rfl) ?_
      refine va_get (v := .ref (qM 6)) (D := D) (ci := 11) (C := RX11) (T := TX11) (N := 24) hx hb hts huX11 hown hK hP 0 rfl rfl 11 (by decide) fk32 (fun _ h9 => h9) rfl dX11_figureOf_22 ?_
      refine lv_iload hx hb dX11_figureOf_25 (lv_at hl 4 rfl) ?_
      obtain ⟨c4, hf⟩ := ck_some hf
      refine va_iald hx hb hK hP 6 0 rfl rfl c4 dX11_figureOf_27 ?_
      refine lv_bipush (v := (-2 : Int32)) hx hb dX11_figureOf_28 (by decide) ?_
      refine lv_icmp_eq (tgt := 48) hx hb dX11_figureOf_30 (by decide) (fun c5 => ?_) (fun c5 => ?_)
      · have hf := if_t hf c5
        obtain rfl := Option.some.inj hf
        exact hex _ _ _ hP hD hS (lv_sub hl [0, 1, 2, 3] rfl)
      · have hf := if_f hf c5
        refine lv_iinc (v := (x.1 + (1 : Int32))) (lv' := [(4, .int (x.1 + (1 : Int32))), (0, .ref (qM 0)), (2, .int a2), (3, .int x3), (5, .int x.2)]) hx hb dX11_figureOf_33 hl (k := 3) rfl rfl (by decide) rfl (fun ls hl => ?_)
        refine lv_aload_n hx hb dX11_figureOf_36 rfl (lv_at hl 1 rfl) ?_
        refine va_get (v := .ref (qM 6)) (D := D) (ci := 11) (C := RX11) (T := TX11) (N := 24) hx hb hts huX11 hown hK hP 0 rfl rfl 11 (by decide) fk32 (fun _ h9 => h9) rfl dX11_figureOf_37 ?_
        refine lv_iload hx hb dX11_figureOf_40 (lv_at hl 4 rfl) ?_
        obtain ⟨c6, hf⟩ := ck_some hf
        refine va_iald hx hb hK hP 6 0 rfl rfl c6 dX11_figureOf_42 ?_
        refine lv_istore (lv' := [(5, .int (m_came x.2.toNatClampNeg)), (4, .int (x.1 + (1 : Int32))), (0, .ref (qM 0)), (2, .int a2), (3, .int x3)]) hx hb dX11_figureOf_43 hl (by decide) rfl (fun ls hl => ?_)
        refine lv_goto (tgt := 21) hx hb dX11_figureOf_45 (by decide) ?_
        exact ih ((x.1 + (1 : Int32)), (m_came x.2.toNatClampNeg)) ex _ _ _ hf hex hP hD hS (lv_sub hl [2, 3, 4, 1, 0] rfl)
  refine lv_aload_n hx hb dX11_figureOf_0 rfl (lv_at hl 0 rfl) ?_
  refine lv_iload_n hx hb dX11_figureOf_1 rfl (lv_at hl 1 rfl) ?_
  obtain ⟨r7, hc8, hf⟩ := ob_some hf
  refine kc_i (k_run ⟨hx, hb, hml, hown, hts⟩ (c_X11_search hc8) (cwV 1 hts gX11_figureOf_X11_search rfl rfl rfl (by decide +kernel) ⟨Nat.le_of_ble_eq_true rfl, Nat.le_of_ble_eq_true rfl⟩) hK hN hP hD kA_s (ci := 11) (q0 := 0) rfl rfl rfl rfl hl.1 rfl (Nat.le_of_ble_eq_true rfl) dX11_figureOf_2 ⟨Nat.le_of_ble_eq_true rfl, Nat.le_of_ble_eq_true rfl⟩) hP hD hS hA kI_s (fun _ H locs hP hD hS => ?_)
  refine lv_istore_n (lv' := [(3, .int r7.1), (0, .ref (qM 0)), (1, .int a1), (2, .int a2)]) hx hb dX11_figureOf_5 rfl hl (by decide) rfl (fun ls hl => ?_)
  refine lv_iload_n hx hb dX11_figureOf_6 rfl (lv_at hl 0 rfl) ?_
  refine lv_bipush (v := (-4 : Int32)) hx hb dX11_figureOf_7 (by decide) ?_
  refine lv_icmp_ne (tgt := 15) hx hb dX11_figureOf_9 (by decide) (fun c9 => ?_) (fun c9 => ?_)
  · have hf := if_f hf c9
    refine lv_iconst (v := (1 : Int32)) hx hb dX11_figureOf_15 (by decide) ?_
    refine lv_istore (lv' := [(4, .int (1 : Int32)), (3, .int r7.1), (0, .ref (qM 0)), (1, .int a1), (2, .int a2)]) hx hb dX11_figureOf_16 hl (by decide) rfl (fun ls hl => ?_)
    refine lv_iload_n hx hb dX11_figureOf_18 rfl (lv_at hl 1 rfl) ?_
    refine lv_istore (lv' := [(5, .int r7.1), (4, .int (1 : Int32)), (3, .int r7.1), (0, .ref (qM 0)), (1, .int a1), (2, .int a2)]) hx hb dX11_figureOf_19 hl (by decide) rfl (fun ls hl => ?_)
    obtain ⟨ex10, hcl, hf⟩ := ob_some hf
    refine hL21 r7.1 r7.2.1 r7.2.2.1 r7.2.2.2.1 r7.2.2.2.2 F ((1 : Int32), r7.1) ex10 _ _ _ hcl (fun H locs ls hP hD hS hl => ?_) hP hD hS (lv_sub hl [3, 5, 2, 1, 0] rfl)
    refine lv_iload_n hx hb dX11_figureOf_48 rfl (lv_at hl 1 rfl) ?_
    refine lv_iconst (v := (-1 : Int32)) hx hb dX11_figureOf_49 (by decide) ?_
    refine lv_icmp_eq (tgt := 59) hx hb dX11_figureOf_50 (by decide) (fun c11 => ?_) (fun c11 => ?_)
    · have hf := if_t hf c11
      exact hJ59 ex10 r7.2.1 r7.2.2.1 r7.2.2.2.1 r7.2.2.2.2 _ _ _ hf hP hD hS (lv_sub hl [1, 3] rfl)
    · have hf := if_f hf c11
      refine lv_iload_n hx hb dX11_figureOf_53 rfl (lv_at hl 1 rfl) ?_
      refine lv_iload hx hb dX11_figureOf_54 (lv_at hl 3 rfl) ?_
      refine lv_icmp_lt (tgt := 72) hx hb dX11_figureOf_56 (by decide) (fun c12 => ?_) (fun c12 => ?_)
      · have hf := if_t hf c12
        refine lv_iload_n hx hb dX11_figureOf_72 rfl (lv_at hl 2 rfl) ?_
        refine lv_istore (lv' := [(5, .int r7.1), (0, .ref (qM 0)), (2, .int a2), (3, .int r7.1), (4, .int ex10)]) hx hb dX11_figureOf_73 hl (by decide) rfl (fun ls hl => ?_)
        refine lv_iload hx hb dX11_figureOf_75 (lv_at hl 4 rfl) ?_
        refine lv_iconst (v := (1 : Int32)) hx hb dX11_figureOf_77 (by decide) ?_
        refine lv_isub hx hb dX11_figureOf_78 ?_
        refine lv_istore (lv' := [(6, .int (ex10 - (1 : Int32))), (5, .int r7.1), (0, .ref (qM 0)), (2, .int a2), (3, .int r7.1), (4, .int ex10)]) hx hb dX11_figureOf_79 hl (by decide) rfl (fun ls hl => ?_)
        obtain ⟨ex13, hcl, hf⟩ := ob_some hf
        refine hL81 r7.2.1 r7.2.2.1 r7.2.2.2.1 r7.2.2.2.2 F (r7.1, (ex10 - (1 : Int32))) ex13 _ _ _ hcl (fun H locs ls hP hD hS hl => ?_) hP hD hS (lv_sub hl [2, 3, 1, 0] rfl)
        refine lv_aload_n hx hb dX11_figureOf_102 rfl (lv_at hl 0 rfl) ?_
        refine va_get (v := .ref (qM 7)) (D := D) (ci := 11) (C := RX11) (T := TX11) (N := 24) hx hb hts huX11 hown hK hP 0 rfl rfl 12 (by decide) fk35 (fun _ h9 => h9) rfl dX11_figureOf_103 ?_
        refine lv_iload hx hb dX11_figureOf_106 (lv_at hl 1 rfl) ?_
        obtain ⟨c14, hf⟩ := ck_some hf
        refine va_iald hx hb hK hP 7 0 rfl rfl c14 dX11_figureOf_108 ?_
        obtain rfl := Option.some.inj hf
        exact hQ () 109 _ _ _ dX11_figureOf_109 hP hD hS
      · have hf := if_f hf c12
        exact hJ59 ex10 r7.2.1 r7.2.2.1 r7.2.2.2.1 r7.2.2.2.2 _ _ _ hf hP hD hS (lv_sub hl [1, 3] rfl)
  · have hf := if_t hf c9
    refine lv_bipush (v := (-4 : Int32)) hx hb dX11_figureOf_12 (by decide) ?_
    obtain rfl := Option.some.inj hf
    exact hQ () 14 _ _ _ dX11_figureOf_14 hP hD hS
def f_X11_layAllowed_B18 (F : Nat) (m_allowed : Int32) (rec : Int32 × Int32 × (Nat → Int32) → Option (Int32 × (Nat → Int32))) (x : Int32 × Int32 × (Nat → Int32)) : Option (Int32 × (Nat → Int32)) := if (16 : Int32) ≤ x.2.1 then (some (x.1, x.2.2)) else (ck (¬ (x.2.1 < 0 ∨ 16 ≤ x.2.1.toNatClampNeg)) (rec ((x.1 + ((m_allowed >>> (x.2.1 &&& 31)) &&& (1 : Int32))), (x.2.1 + (1 : Int32)), (upd x.2.2 x.2.1.toNatClampNeg x.1))))
def f_X11_layAllowed (F : Nat) (a1 : Int32) (m_base : Int32) (m_allowed : Int32) (m_bitOf : Nat → Int32) : Option (Int32 × Int32 × (Nat → Int32)) := (lp (f_X11_layAllowed_B18 F (a1 &&& (((1 : Int32) <<< (m_base &&& 31)) - (1 : Int32)))) F ((0 : Int32), (0 : Int32), m_bitOf)).bind (fun ex3 => some (ex3.1, (a1 &&& (((1 : Int32) <<< (m_base &&& 31)) - (1 : Int32))), ex3.2))
abbrev rmX11_layAllowed : Room := { frames := 0, cells := 0, slots := 0, locals := 0 }
set_option maxHeartbeats 1000000 in
set_option maxRecDepth 100000 in
theorem c_X11_layAllowed {l : Launch} {D : va_G} {cy : Nat → ClassId} {qM : Nat → Nat} {m_base : Int32} {m_f : Nat → Int32} {m_many : Int32} {m_figures : Nat → Int32} {m_tail : Int32} {m_round : Int32} {m_rounds : Int32} {m_leasts : Nat → Int64} {m_likes : Int32} {m_like : Nat → Int32} {m_isTwo : Nat → Int32} {m_came : Nat → Int32} {m_by : Nat → Int32} {m_queue : Nat → Int32} {m_kind : Int32} {m_parts : Int32} {m_wanted : Int32} {m_allowed : Int32} {m_bitOf : Nat → Int32} {m_met : Int32} {m_row : Nat → Int32} {m_narrows : Int32} {m_narrow : Nat → Int64} {m_isMade : Nat → Int32} {a1 : Int32} {F : Nat} {res : Int32 × Int32 × (Nat → Int32)} (hf : f_X11_layAllowed F a1 m_base m_allowed m_bitOf = some res) : kM l yX11_layAllowed wsX11_layAllowed rmX11_layAllowed D cy [.ref (qM 0), .int a1] (gM cy qM m_base m_f m_many m_figures m_tail m_round m_rounds m_leasts m_likes m_like m_isTwo m_came m_by m_queue m_kind m_parts m_wanted m_allowed m_bitOf m_met m_row m_narrows m_narrow m_isMade) (kQi D cy (fun _ : Unit => gM cy qM m_base m_f m_many m_figures m_tail m_round m_rounds m_leasts m_likes m_like m_isTwo m_came m_by m_queue m_kind m_parts m_wanted res.2.1 res.2.2 m_met m_row m_narrows m_narrow m_isMade) res.1) := by
  refine kent_i (cc := cX11_layAllowed) (maxL := 4) (by decide) rfl (Nat.le_of_ble_eq_true rfl) ?_
  intro p e0 s m ar below meth c A Q ls ⟨hx, hb, hml, hr, hts, hown, hlocks, hnm⟩ hA hK hN hQ hP hD hS hl
  have hl : lv_has ls 4 [(0, .ref (qM 0)), (1, .int a1)] := hl
  have hown : s.vm.findClass RX11 = some m.cls := hown
  have huX11 : ∀ x ∈ u_ws RX11 TX11 24, x ∈ wsX11_layAllowed := by decide +kernel
  have fk41 : (Cond.fieldLink RX11 41 "FigurePlayModel" "bitOf" "[I").before ar s = true := hts _ (by decide +kernel)
  have fk156 : (Cond.fieldLink RX11 156 "FigurePlayModel" "allowed" "I").before ar s = true := hts _ (by decide +kernel)
  have fk7 : (Cond.fieldLink RX11 7 "FigurePlayModel" "base" "I").before ar s = true := hts _ (by decide +kernel)
  unfold f_X11_layAllowed at hf
  have hL18 : ∀ (m_allowed : Int32) (k : Nat) (x : Int32 × Int32 × (Nat → Int32)) (ex : Int32 × (Nat → Int32)) (H : Heap) (locs : List Loc) (ls : Array Slot), lp (f_X11_layAllowed_B18 F m_allowed) k x = some ex → (∀ (H : Heap) (locs : List Loc) (ls : Array Slot), va_P D vwCl (gM cy qM m_base m_f m_many m_figures m_tail m_round m_rounds m_leasts m_likes m_like m_isTwo m_came m_by m_queue m_kind m_parts m_wanted m_allowed ex.2 m_met m_row m_narrows m_narrow m_isMade) H → va_D A (gM cy qM m_base m_f m_many m_figures m_tail m_round m_rounds m_leasts m_likes m_like m_isTwo m_came m_by m_queue m_kind m_parts m_wanted m_allowed ex.2 m_met m_row m_narrows m_narrow m_isMade) → va_S A s.heap H locs → lv_has ls 4 [(2, .int ex.1)] → W p l e0 rmX11_layAllowed s m ar below meth c H locs 0 0 Q (F0 m 48 ls [])) → va_P D vwCl (gM cy qM m_base m_f m_many m_figures m_tail m_round m_rounds m_leasts m_likes m_like m_isTwo m_came m_by m_queue m_kind m_parts m_wanted m_allowed x.2.2 m_met m_row m_narrows m_narrow m_isMade) H → va_D A (gM cy qM m_base m_f m_many m_figures m_tail m_round m_rounds m_leasts m_likes m_like m_isTwo m_came m_by m_queue m_kind m_parts m_wanted m_allowed x.2.2 m_met m_row m_narrows m_narrow m_isMade) → va_S A s.heap H locs → lv_has ls 4 [(0, .ref (qM 0)), (2, .int x.1), (3, .int x.2.1)] → W p l e0 rmX11_layAllowed s m ar below meth c H locs 0 0 Q (F0 m 18 ls []) := by
    intro m_allowed k
    induction k with
    | zero => intro x ex H locs ls hf; exact no_some hf
    | succ k ih =>
      intro x ex H locs ls hf hex hP hD hS hl
      have hf : f_X11_layAllowed_B18 F m_allowed (lp (f_X11_layAllowed_B18 F m_allowed) k) x = some ex := hf
      unfold f_X11_layAllowed_B18 at hf
      refine lv_iload_n hx hb dX11_layAllowed_18 rfl (lv_at hl 2 rfl) ?_
      refine lv_bipush (v := (16 : Int32)) hx hb dX11_layAllowed_19 (by decide) ?_
      refine lv_icmp_ge (tgt := 48) hx hb dX11_layAllowed_21 (by decide) (fun c1 => ?_) (fun c1 => ?_)
      · have hf := if_t hf c1
        obtain rfl := Option.some.inj hf
        exact hex _ _ _ hP hD hS (lv_sub hl [1] rfl)
      · have hf := if_f hf c1
        refine lv_aload_n hx hb dX11_layAllowed_24 rfl (lv_at hl 0 rfl) ?_
        refine va_get (v := .ref (qM 9)) (D := D) (ci := 11) (C := RX11) (T := TX11) (N := 24) hx hb hts huX11 hown hK hP 0 rfl rfl 18 (by decide) fk41 (fun _ h9 => h9) rfl dX11_layAllowed_25 ?_
        refine lv_iload_n hx hb dX11_layAllowed_28 rfl (lv_at hl 2 rfl) ?_
        refine lv_iload_n hx hb dX11_layAllowed_29 rfl (lv_at hl 1 rfl) ?_
        obtain ⟨c2, hf⟩ := ck_some hf
        refine va_iast hx hb hK hP hD hS 9 0 rfl rfl c2 dX11_layAllowed_30 (fun H locs hP hD hS => ?_)
        have hP : va_P D vwCl (gM cy qM m_base m_f m_many m_figures m_tail m_round m_rounds m_leasts m_likes m_like m_isTwo m_came m_by m_queue m_kind m_parts m_wanted m_allowed (upd x.2.2 x.2.1.toNatClampNeg x.1) m_met m_row m_narrows m_narrow m_isMade) H := hP
        have hD : va_D A (gM cy qM m_base m_f m_many m_figures m_tail m_round m_rounds m_leasts m_likes m_like m_isTwo m_came m_by m_queue m_kind m_parts m_wanted m_allowed (upd x.2.2 x.2.1.toNatClampNeg x.1) m_met m_row m_narrows m_narrow m_isMade) := hD
        refine lv_iload_n hx hb dX11_layAllowed_31 rfl (lv_at hl 1 rfl) ?_
        refine lv_aload_n hx hb dX11_layAllowed_32 rfl (lv_at hl 0 rfl) ?_
        refine va_get (D := D) (ci := 11) (C := RX11) (T := TX11) (N := 24) hx hb hts huX11 hown hK hP 0 rfl rfl 17 (by decide) fk156 (fun _ h9 => h9) rfl dX11_layAllowed_33 ?_
        refine lv_iload_n hx hb dX11_layAllowed_36 rfl (lv_at hl 2 rfl) ?_
        refine lv_ishr hx hb dX11_layAllowed_37 ?_
        refine lv_iconst (v := (1 : Int32)) hx hb dX11_layAllowed_38 (by decide) ?_
        refine lv_iand hx hb dX11_layAllowed_39 ?_
        refine lv_iadd hx hb dX11_layAllowed_40 ?_
        refine lv_istore_n (lv' := [(2, .int (x.1 + ((m_allowed >>> (x.2.1 &&& 31)) &&& (1 : Int32)))), (0, .ref (qM 0)), (3, .int x.2.1)]) hx hb dX11_layAllowed_41 rfl hl (by decide) rfl (fun ls hl => ?_)
        refine lv_iinc (v := (x.2.1 + (1 : Int32))) (lv' := [(3, .int (x.2.1 + (1 : Int32))), (2, .int (x.1 + ((m_allowed >>> (x.2.1 &&& 31)) &&& (1 : Int32)))), (0, .ref (qM 0))]) hx hb dX11_layAllowed_42 hl (k := 2) rfl rfl (by decide) rfl (fun ls hl => ?_)
        refine lv_goto (tgt := 18) hx hb dX11_layAllowed_45 (by decide) ?_
        exact ih ((x.1 + ((m_allowed >>> (x.2.1 &&& 31)) &&& (1 : Int32))), (x.2.1 + (1 : Int32)), (upd x.2.2 x.2.1.toNatClampNeg x.1)) ex _ _ _ hf hex hP hD hS (lv_sub hl [2, 1, 0] rfl)
  refine lv_iconst (v := (0 : Int32)) hx hb dX11_layAllowed_0 (by decide) ?_
  refine lv_istore_n (lv' := [(2, .int (0 : Int32)), (0, .ref (qM 0)), (1, .int a1)]) hx hb dX11_layAllowed_1 rfl hl (by decide) rfl (fun ls hl => ?_)
  refine lv_aload_n hx hb dX11_layAllowed_2 rfl (lv_at hl 1 rfl) ?_
  refine lv_iload_n hx hb dX11_layAllowed_3 rfl (lv_at hl 2 rfl) ?_
  refine lv_iconst (v := (1 : Int32)) hx hb dX11_layAllowed_4 (by decide) ?_
  refine lv_aload_n hx hb dX11_layAllowed_5 rfl (lv_at hl 1 rfl) ?_
  refine va_get (D := D) (ci := 11) (C := RX11) (T := TX11) (N := 24) hx hb hts huX11 hown hK hP 0 rfl rfl 0 (by decide) fk7 (fun _ h9 => h9) rfl dX11_layAllowed_6 ?_
  refine lv_ishl hx hb dX11_layAllowed_9 ?_
  refine lv_iconst (v := (1 : Int32)) hx hb dX11_layAllowed_10 (by decide) ?_
  refine lv_isub hx hb dX11_layAllowed_11 ?_
  refine lv_iand hx hb dX11_layAllowed_12 ?_
  refine va_put (D := D) (ci := 11) (v := .int (a1 &&& (((1 : Int32) <<< (m_base &&& 31)) - (1 : Int32)))) (ty := .int) (C := RX11) (T := TX11) (N := 24) hx hb hts huX11 tyX11 tyX11_ok nmX11 hown hK hP hD hS 0 rfl rfl 17 (by decide) fk156 (fun _ h9 => h9) rfl (tyX11_ok 17 (by decide)) rfl rfl (Nat.le_of_ble_eq_true rfl) dX11_layAllowed_13 (fun H locs hP hD hS => ?_)
  have hP : va_P D vwCl (gM cy qM m_base m_f m_many m_figures m_tail m_round m_rounds m_leasts m_likes m_like m_isTwo m_came m_by m_queue m_kind m_parts m_wanted (a1 &&& (((1 : Int32) <<< (m_base &&& 31)) - (1 : Int32))) m_bitOf m_met m_row m_narrows m_narrow m_isMade) H := hP
  have hD : va_D A (gM cy qM m_base m_f m_many m_figures m_tail m_round m_rounds m_leasts m_likes m_like m_isTwo m_came m_by m_queue m_kind m_parts m_wanted (a1 &&& (((1 : Int32) <<< (m_base &&& 31)) - (1 : Int32))) m_bitOf m_met m_row m_narrows m_narrow m_isMade) := hD
  refine lv_iconst (v := (0 : Int32)) hx hb dX11_layAllowed_16 (by decide) ?_
  refine lv_istore_n (lv' := [(3, .int (0 : Int32)), (2, .int (0 : Int32)), (0, .ref (qM 0)), (1, .int a1)]) hx hb dX11_layAllowed_17 rfl hl (by decide) rfl (fun ls hl => ?_)
  obtain ⟨ex3, hcl, hf⟩ := ob_some hf
  refine hL18 (a1 &&& (((1 : Int32) <<< (m_base &&& 31)) - (1 : Int32))) F ((0 : Int32), (0 : Int32), m_bitOf) ex3 _ _ _ hcl (fun H locs ls hP hD hS hl => ?_) hP hD hS (lv_sub hl [2, 1, 0] rfl)
  refine lv_iload_n hx hb dX11_layAllowed_48 rfl (lv_at hl 0 rfl) ?_
  obtain rfl := Option.some.inj hf
  exact hQ () 49 _ _ _ dX11_layAllowed_49 hP hD hS
def f_X11_few_J25 (F : Nat) (m_came : Nat → Int32) (m_by : Nat → Int32) (m_queue : Nat → Int32) (m_kind : Int32) (m_parts : Int32) (m_wanted : Int32) (m_allowed : Int32) (m_bitOf : Nat → Int32) (m_met : Int32) : Option (Int32 × (Nat → Int32) × (Nat → Int32) × (Nat → Int32) × Int32 × Int32 × Int32 × Int32 × (Nat → Int32) × Int32) := some ((-1 : Int32), m_came, m_by, m_queue, m_kind, m_parts, m_wanted, m_allowed, m_bitOf, m_met)
def f_X11_few (F : Nat) (a1 : Int32) (a2 : Int32) (a3 : Int32) (m_base : Int32) (m_came : Nat → Int32) (m_by : Nat → Int32) (m_queue : Nat → Int32) (m_kind : Int32) (m_parts : Int32) (m_wanted : Int32) (m_allowed : Int32) (m_bitOf : Nat → Int32) (m_met : Int32) : Option (Int32 × (Nat → Int32) × (Nat → Int32) × (Nat → Int32) × Int32 × Int32 × Int32 × Int32 × (Nat → Int32) × Int32) := (f_X11_in F a1.toInt64 (1 : Int64) (2000 : Int64)).bind (fun r1 => if r1 = 0 then (f_X11_few_J25 F m_came m_by m_queue m_kind m_parts m_wanted m_allowed m_bitOf m_met) else ((f_X11_layAllowed F a2 m_base m_allowed m_bitOf).bind (fun r4 => if r4.1 = 0 then (f_X11_few_J25 F m_came m_by m_queue m_kind m_parts m_wanted r4.2.1 r4.2.2 m_met) else (if (-1 : Int32) ≤ a3 then ((f_X11_figureOf F a1 a3 m_base m_came m_by m_queue (0 : Int32) (1 : Int32) (0 : Int32) r4.2.1 r4.2.2 m_met).bind (fun r8 => some (r8.1, r8.2.1, r8.2.2.1, r8.2.2.2.1, (0 : Int32), (1 : Int32), (0 : Int32), r4.2.1, r4.2.2, r8.2.2.2.2))) else (f_X11_few_J25 F m_came m_by m_queue m_kind m_parts m_wanted r4.2.1 r4.2.2 m_met)))))
abbrev rmX11_few : Room := { frames := 3, cells := 0, slots := 0, locals := 73 }
set_option maxHeartbeats 1000000 in
set_option maxRecDepth 100000 in
theorem c_X11_few {l : Launch} {D : va_G} {cy : Nat → ClassId} {qM : Nat → Nat} {m_base : Int32} {m_f : Nat → Int32} {m_many : Int32} {m_figures : Nat → Int32} {m_tail : Int32} {m_round : Int32} {m_rounds : Int32} {m_leasts : Nat → Int64} {m_likes : Int32} {m_like : Nat → Int32} {m_isTwo : Nat → Int32} {m_came : Nat → Int32} {m_by : Nat → Int32} {m_queue : Nat → Int32} {m_kind : Int32} {m_parts : Int32} {m_wanted : Int32} {m_allowed : Int32} {m_bitOf : Nat → Int32} {m_met : Int32} {m_row : Nat → Int32} {m_narrows : Int32} {m_narrow : Nat → Int64} {m_isMade : Nat → Int32} {a1 : Int32} {a2 : Int32} {a3 : Int32} {F : Nat} {res : Int32 × (Nat → Int32) × (Nat → Int32) × (Nat → Int32) × Int32 × Int32 × Int32 × Int32 × (Nat → Int32) × Int32} (hf : f_X11_few F a1 a2 a3 m_base m_came m_by m_queue m_kind m_parts m_wanted m_allowed m_bitOf m_met = some res) : kM l yX11_few wsX11_few rmX11_few D cy [.ref (qM 0), .int a1, .int a2, .int a3] (gM cy qM m_base m_f m_many m_figures m_tail m_round m_rounds m_leasts m_likes m_like m_isTwo m_came m_by m_queue m_kind m_parts m_wanted m_allowed m_bitOf m_met m_row m_narrows m_narrow m_isMade) (kQi D cy (fun _ : Unit => gM cy qM m_base m_f m_many m_figures m_tail m_round m_rounds m_leasts m_likes m_like m_isTwo res.2.1 res.2.2.1 res.2.2.2.1 res.2.2.2.2.1 res.2.2.2.2.2.1 res.2.2.2.2.2.2.1 res.2.2.2.2.2.2.2.1 res.2.2.2.2.2.2.2.2.1 res.2.2.2.2.2.2.2.2.2 m_row m_narrows m_narrow m_isMade) res.1) := by
  refine kent_i (cc := cX11_few) (maxL := 4) (by decide) rfl (Nat.le_of_ble_eq_true rfl) ?_
  intro p e0 s m ar below meth c A Q ls ⟨hx, hb, hml, hr, hts, hown, hlocks, hnm⟩ hA hK hN hQ hP hD hS hl
  have hl : lv_has ls 4 [(0, .ref (qM 0)), (1, .int a1), (2, .int a2), (3, .int a3)] := hl
  have hown : s.vm.findClass RX11 = some m.cls := hown
  have fk183 : (Cond.constantLong RX11 183 (2000)).before ar s = true := hts _ (by decide +kernel)
  have huX11 : ∀ x ∈ u_ws RX11 TX11 24, x ∈ wsX11_few := by decide +kernel
  have fk159 : (Cond.fieldLink RX11 159 "FigurePlayModel" "kind" "I").before ar s = true := hts _ (by decide +kernel)
  have fk162 : (Cond.fieldLink RX11 162 "FigurePlayModel" "parts" "I").before ar s = true := hts _ (by decide +kernel)
  have fk176 : (Cond.fieldLink RX11 176 "FigurePlayModel" "wanted" "I").before ar s = true := hts _ (by decide +kernel)
  unfold f_X11_few at hf
  have hJ25 : ∀ (m_came : Nat → Int32) (m_by : Nat → Int32) (m_queue : Nat → Int32) (m_kind : Int32) (m_parts : Int32) (m_wanted : Int32) (m_allowed : Int32) (m_bitOf : Nat → Int32) (m_met : Int32) (H : Heap) (locs : List Loc) (ls : Array Slot), f_X11_few_J25 F m_came m_by m_queue m_kind m_parts m_wanted m_allowed m_bitOf m_met = some res → va_P D vwCl (gM cy qM m_base m_f m_many m_figures m_tail m_round m_rounds m_leasts m_likes m_like m_isTwo m_came m_by m_queue m_kind m_parts m_wanted m_allowed m_bitOf m_met m_row m_narrows m_narrow m_isMade) H → va_D A (gM cy qM m_base m_f m_many m_figures m_tail m_round m_rounds m_leasts m_likes m_like m_isTwo m_came m_by m_queue m_kind m_parts m_wanted m_allowed m_bitOf m_met m_row m_narrows m_narrow m_isMade) → va_S A s.heap H locs → lv_has ls 4 [] → W p l e0 rmX11_few s m ar below meth c H locs 0 0 Q (F0 m 25 ls []) := by
    intro m_came m_by m_queue m_kind m_parts m_wanted m_allowed m_bitOf m_met H locs ls hf hP hD hS hl
    unfold f_X11_few_J25 at hf
    refine lv_iconst (v := (-1 : Int32)) hx hb dX11_few_25 (by decide) ?_
    obtain rfl := Option.some.inj hf
    exact hQ () 26 _ _ _ dX11_few_26 hP hD hS
  refine lv_iload_n hx hb dX11_few_0 rfl (lv_at hl 1 rfl) ?_
  refine lv_i2l hx hb dX11_few_1 rfl ?_
  refine lv_lconst (v := (1 : Int64)) hx hb dX11_few_2 (by decide) ?_
  refine lv_ldc2 (v := (2000 : Int64)) hx hb hown fk183 dX11_few_3 ?_
  obtain ⟨r1, hc2, hf⟩ := ob_some hf
  refine kc_i (k_runS ⟨hx, hb, hml, hown, hts⟩ (c_X11_in hc2) (va_cwS 3 hts gX11_few_X11_in rfl rfl rfl (by decide +kernel) ⟨Nat.le_of_ble_eq_true rfl, Nat.le_of_ble_eq_true rfl⟩) hK hN hP hD kA_0 rfl hl.1 rfl (Nat.le_of_ble_eq_true rfl) dX11_few_6 ⟨Nat.le_of_ble_eq_true rfl, Nat.le_of_ble_eq_true rfl⟩) hP hD hS hA kI_0 (fun _ H locs hP hD hS => ?_)
  refine lv_if_eq (tgt := 25) hx hb dX11_few_9 (by decide) (fun c3 => ?_) (fun c3 => ?_)
  · have hf := if_t hf c3
    exact hJ25 m_came m_by m_queue m_kind m_parts m_wanted m_allowed m_bitOf m_met _ _ _ hf hP hD hS (lv_sub hl [] rfl)
  · have hf := if_f hf c3
    refine lv_aload_n hx hb dX11_few_12 rfl (lv_at hl 0 rfl) ?_
    refine lv_iload_n hx hb dX11_few_13 rfl (lv_at hl 2 rfl) ?_
    obtain ⟨r4, hc5, hf⟩ := ob_some hf
    refine kc_i (k_run ⟨hx, hb, hml, hown, hts⟩ (c_X11_layAllowed hc5) (cwV 1 hts gX11_few_X11_layAllowed rfl rfl rfl (by decide +kernel) ⟨Nat.le_of_ble_eq_true rfl, Nat.le_of_ble_eq_true rfl⟩) hK hN hP hD kA_s (ci := 11) (q0 := 0) rfl rfl rfl rfl hl.1 rfl (Nat.le_of_ble_eq_true rfl) dX11_few_14 ⟨Nat.le_of_ble_eq_true rfl, Nat.le_of_ble_eq_true rfl⟩) hP hD hS hA kI_s (fun _ H locs hP hD hS => ?_)
    refine lv_if_eq (tgt := 25) hx hb dX11_few_17 (by decide) (fun c6 => ?_) (fun c6 => ?_)
    · have hf := if_t hf c6
      exact hJ25 m_came m_by m_queue m_kind m_parts m_wanted r4.2.1 r4.2.2 m_met _ _ _ hf hP hD hS (lv_sub hl [] rfl)
    · have hf := if_f hf c6
      refine lv_iload_n hx hb dX11_few_20 rfl (lv_at hl 3 rfl) ?_
      refine lv_iconst (v := (-1 : Int32)) hx hb dX11_few_21 (by decide) ?_
      refine lv_icmp_ge (tgt := 27) hx hb dX11_few_22 (by decide) (fun c7 => ?_) (fun c7 => ?_)
      · have hf := if_t hf c7
        refine lv_aload_n hx hb dX11_few_27 rfl (lv_at hl 0 rfl) ?_
        refine lv_iconst (v := (0 : Int32)) hx hb dX11_few_28 (by decide) ?_
        refine va_put (D := D) (ci := 11) (v := .int (0 : Int32)) (ty := .int) (C := RX11) (T := TX11) (N := 24) hx hb hts huX11 tyX11 tyX11_ok nmX11 hown hK hP hD hS 0 rfl rfl 14 (by decide) fk159 (fun _ h9 => h9) rfl (tyX11_ok 14 (by decide)) rfl rfl (Nat.le_of_ble_eq_true rfl) dX11_few_29 (fun H locs hP hD hS => ?_)
        have hP : va_P D vwCl (gM cy qM m_base m_f m_many m_figures m_tail m_round m_rounds m_leasts m_likes m_like m_isTwo m_came m_by m_queue (0 : Int32) m_parts m_wanted r4.2.1 r4.2.2 m_met m_row m_narrows m_narrow m_isMade) H := hP
        have hD : va_D A (gM cy qM m_base m_f m_many m_figures m_tail m_round m_rounds m_leasts m_likes m_like m_isTwo m_came m_by m_queue (0 : Int32) m_parts m_wanted r4.2.1 r4.2.2 m_met m_row m_narrows m_narrow m_isMade) := hD
        refine lv_aload_n hx hb dX11_few_32 rfl (lv_at hl 0 rfl) ?_
        refine lv_iconst (v := (1 : Int32)) hx hb dX11_few_33 (by decide) ?_
        refine va_put (D := D) (ci := 11) (v := .int (1 : Int32)) (ty := .int) (C := RX11) (T := TX11) (N := 24) hx hb hts huX11 tyX11 tyX11_ok nmX11 hown hK hP hD hS 0 rfl rfl 15 (by decide) fk162 (fun _ h9 => h9) rfl (tyX11_ok 15 (by decide)) rfl rfl (Nat.le_of_ble_eq_true rfl) dX11_few_34 (fun H locs hP hD hS => ?_)
        have hP : va_P D vwCl (gM cy qM m_base m_f m_many m_figures m_tail m_round m_rounds m_leasts m_likes m_like m_isTwo m_came m_by m_queue (0 : Int32) (1 : Int32) m_wanted r4.2.1 r4.2.2 m_met m_row m_narrows m_narrow m_isMade) H := hP
        have hD : va_D A (gM cy qM m_base m_f m_many m_figures m_tail m_round m_rounds m_leasts m_likes m_like m_isTwo m_came m_by m_queue (0 : Int32) (1 : Int32) m_wanted r4.2.1 r4.2.2 m_met m_row m_narrows m_narrow m_isMade) := hD
        refine lv_aload_n hx hb dX11_few_37 rfl (lv_at hl 0 rfl) ?_
        refine lv_iconst (v := (0 : Int32)) hx hb dX11_few_38 (by decide) ?_
        refine va_put (D := D) (ci := 11) (v := .int (0 : Int32)) (ty := .int) (C := RX11) (T := TX11) (N := 24) hx hb hts huX11 tyX11 tyX11_ok nmX11 hown hK hP hD hS 0 rfl rfl 16 (by decide) fk176 (fun _ h9 => h9) rfl (tyX11_ok 16 (by decide)) rfl rfl (Nat.le_of_ble_eq_true rfl) dX11_few_39 (fun H locs hP hD hS => ?_)
        have hP : va_P D vwCl (gM cy qM m_base m_f m_many m_figures m_tail m_round m_rounds m_leasts m_likes m_like m_isTwo m_came m_by m_queue (0 : Int32) (1 : Int32) (0 : Int32) r4.2.1 r4.2.2 m_met m_row m_narrows m_narrow m_isMade) H := hP
        have hD : va_D A (gM cy qM m_base m_f m_many m_figures m_tail m_round m_rounds m_leasts m_likes m_like m_isTwo m_came m_by m_queue (0 : Int32) (1 : Int32) (0 : Int32) r4.2.1 r4.2.2 m_met m_row m_narrows m_narrow m_isMade) := hD
        refine lv_aload_n hx hb dX11_few_42 rfl (lv_at hl 0 rfl) ?_
        refine lv_iload_n hx hb dX11_few_43 rfl (lv_at hl 1 rfl) ?_
        refine lv_iload_n hx hb dX11_few_44 rfl (lv_at hl 3 rfl) ?_
        obtain ⟨r8, hc9, hf⟩ := ob_some hf
        refine kc_i (k_run ⟨hx, hb, hml, hown, hts⟩ (c_X11_figureOf hc9) (cwV 2 hts gX11_few_X11_figureOf rfl rfl rfl (by decide +kernel) ⟨Nat.le_of_ble_eq_true rfl, Nat.le_of_ble_eq_true rfl⟩) hK hN hP hD kA_s (ci := 11) (q0 := 0) rfl rfl rfl rfl hl.1 rfl (Nat.le_of_ble_eq_true rfl) dX11_few_45 ⟨Nat.le_of_ble_eq_true rfl, Nat.le_of_ble_eq_true rfl⟩) hP hD hS hA kI_s (fun _ H locs hP hD hS => ?_)
        obtain rfl := Option.some.inj hf
        exact hQ () 48 _ _ _ dX11_few_48 hP hD hS
      · have hf := if_f hf c7
        exact hJ25 m_came m_by m_queue m_kind m_parts m_wanted r4.2.1 r4.2.2 m_met _ _ _ hf hP hD hS (lv_sub hl [] rfl)
def f_X11_withAll_J37 (F : Nat) (m_came : Nat → Int32) (m_by : Nat → Int32) (m_queue : Nat → Int32) (m_kind : Int32) (m_parts : Int32) (m_wanted : Int32) (m_allowed : Int32) (m_bitOf : Nat → Int32) (m_met : Int32) : Option (Int32 × (Nat → Int32) × (Nat → Int32) × (Nat → Int32) × Int32 × Int32 × Int32 × Int32 × (Nat → Int32) × Int32) := some ((-1 : Int32), m_came, m_by, m_queue, m_kind, m_parts, m_wanted, m_allowed, m_bitOf, m_met)
def f_X11_withAll (F : Nat) (a1 : Int32) (a2 : Int32) (a3 : Int32) (m_base : Int32) (m_came : Nat → Int32) (m_by : Nat → Int32) (m_queue : Nat → Int32) (m_kind : Int32) (m_parts : Int32) (m_wanted : Int32) (m_allowed : Int32) (m_bitOf : Nat → Int32) (m_met : Int32) : Option (Int32 × (Nat → Int32) × (Nat → Int32) × (Nat → Int32) × Int32 × Int32 × Int32 × Int32 × (Nat → Int32) × Int32) := (f_X11_layAllowed F a2 m_base m_allowed m_bitOf).bind (fun r1 => (f_X11_in F a1.toInt64 (1 : Int64) (200 : Int64)).bind (fun r3 => if r3 = 0 then (f_X11_withAll_J37 F m_came m_by m_queue m_kind m_parts m_wanted r1.2.1 r1.2.2 m_met) else ((f_X11_in F r1.1.toInt64 (1 : Int64) (8 : Int64)).bind (fun r6 => if r6 = 0 then (f_X11_withAll_J37 F m_came m_by m_queue m_kind m_parts m_wanted r1.2.1 r1.2.2 m_met) else (if (-1 : Int32) ≤ a3 then ((f_X11_figureOf F a1 a3 m_base m_came m_by m_queue (1 : Int32) ((1 : Int32) <<< (r1.1 &&& 31)) (((1 : Int32) <<< (r1.1 &&& 31)) - (1 : Int32)) r1.2.1 r1.2.2 m_met).bind (fun r10 => some (r10.1, r10.2.1, r10.2.2.1, r10.2.2.2.1, (1 : Int32), ((1 : Int32) <<< (r1.1 &&& 31)), (((1 : Int32) <<< (r1.1 &&& 31)) - (1 : Int32)), r1.2.1, r1.2.2, r10.2.2.2.2))) else (f_X11_withAll_J37 F m_came m_by m_queue m_kind m_parts m_wanted r1.2.1 r1.2.2 m_met))))))
abbrev rmX11_withAll : Room := { frames := 3, cells := 0, slots := 0, locals := 73 }
set_option maxHeartbeats 1000000 in
set_option maxRecDepth 100000 in
theorem c_X11_withAll {l : Launch} {D : va_G} {cy : Nat → ClassId} {qM : Nat → Nat} {m_base : Int32} {m_f : Nat → Int32} {m_many : Int32} {m_figures : Nat → Int32} {m_tail : Int32} {m_round : Int32} {m_rounds : Int32} {m_leasts : Nat → Int64} {m_likes : Int32} {m_like : Nat → Int32} {m_isTwo : Nat → Int32} {m_came : Nat → Int32} {m_by : Nat → Int32} {m_queue : Nat → Int32} {m_kind : Int32} {m_parts : Int32} {m_wanted : Int32} {m_allowed : Int32} {m_bitOf : Nat → Int32} {m_met : Int32} {m_row : Nat → Int32} {m_narrows : Int32} {m_narrow : Nat → Int64} {m_isMade : Nat → Int32} {a1 : Int32} {a2 : Int32} {a3 : Int32} {F : Nat} {res : Int32 × (Nat → Int32) × (Nat → Int32) × (Nat → Int32) × Int32 × Int32 × Int32 × Int32 × (Nat → Int32) × Int32} (hf : f_X11_withAll F a1 a2 a3 m_base m_came m_by m_queue m_kind m_parts m_wanted m_allowed m_bitOf m_met = some res) : kM l yX11_withAll wsX11_withAll rmX11_withAll D cy [.ref (qM 0), .int a1, .int a2, .int a3] (gM cy qM m_base m_f m_many m_figures m_tail m_round m_rounds m_leasts m_likes m_like m_isTwo m_came m_by m_queue m_kind m_parts m_wanted m_allowed m_bitOf m_met m_row m_narrows m_narrow m_isMade) (kQi D cy (fun _ : Unit => gM cy qM m_base m_f m_many m_figures m_tail m_round m_rounds m_leasts m_likes m_like m_isTwo res.2.1 res.2.2.1 res.2.2.2.1 res.2.2.2.2.1 res.2.2.2.2.2.1 res.2.2.2.2.2.2.1 res.2.2.2.2.2.2.2.1 res.2.2.2.2.2.2.2.2.1 res.2.2.2.2.2.2.2.2.2 m_row m_narrows m_narrow m_isMade) res.1) := by
  refine kent_i (cc := cX11_withAll) (maxL := 5) (by decide) rfl (Nat.le_of_ble_eq_true rfl) ?_
  intro p e0 s m ar below meth c A Q ls ⟨hx, hb, hml, hr, hts, hown, hlocks, hnm⟩ hA hK hN hQ hP hD hS hl
  have hl : lv_has ls 5 [(0, .ref (qM 0)), (1, .int a1), (2, .int a2), (3, .int a3)] := hl
  have hown : s.vm.findClass RX11 = some m.cls := hown
  have fk191 : (Cond.constantLong RX11 191 (200)).before ar s = true := hts _ (by decide +kernel)
  have fk193 : (Cond.constantLong RX11 193 (8)).before ar s = true := hts _ (by decide +kernel)
  have huX11 : ∀ x ∈ u_ws RX11 TX11 24, x ∈ wsX11_withAll := by decide +kernel
  have fk159 : (Cond.fieldLink RX11 159 "FigurePlayModel" "kind" "I").before ar s = true := hts _ (by decide +kernel)
  have fk162 : (Cond.fieldLink RX11 162 "FigurePlayModel" "parts" "I").before ar s = true := hts _ (by decide +kernel)
  have fk176 : (Cond.fieldLink RX11 176 "FigurePlayModel" "wanted" "I").before ar s = true := hts _ (by decide +kernel)
  unfold f_X11_withAll at hf
  have hJ37 : ∀ (m_came : Nat → Int32) (m_by : Nat → Int32) (m_queue : Nat → Int32) (m_kind : Int32) (m_parts : Int32) (m_wanted : Int32) (m_allowed : Int32) (m_bitOf : Nat → Int32) (m_met : Int32) (H : Heap) (locs : List Loc) (ls : Array Slot), f_X11_withAll_J37 F m_came m_by m_queue m_kind m_parts m_wanted m_allowed m_bitOf m_met = some res → va_P D vwCl (gM cy qM m_base m_f m_many m_figures m_tail m_round m_rounds m_leasts m_likes m_like m_isTwo m_came m_by m_queue m_kind m_parts m_wanted m_allowed m_bitOf m_met m_row m_narrows m_narrow m_isMade) H → va_D A (gM cy qM m_base m_f m_many m_figures m_tail m_round m_rounds m_leasts m_likes m_like m_isTwo m_came m_by m_queue m_kind m_parts m_wanted m_allowed m_bitOf m_met m_row m_narrows m_narrow m_isMade) → va_S A s.heap H locs → lv_has ls 5 [] → W p l e0 rmX11_withAll s m ar below meth c H locs 0 0 Q (F0 m 37 ls []) := by
    intro m_came m_by m_queue m_kind m_parts m_wanted m_allowed m_bitOf m_met H locs ls hf hP hD hS hl
    unfold f_X11_withAll_J37 at hf
    refine lv_iconst (v := (-1 : Int32)) hx hb dX11_withAll_37 (by decide) ?_
    obtain rfl := Option.some.inj hf
    exact hQ () 38 _ _ _ dX11_withAll_38 hP hD hS
  refine lv_aload_n hx hb dX11_withAll_0 rfl (lv_at hl 0 rfl) ?_
  refine lv_iload_n hx hb dX11_withAll_1 rfl (lv_at hl 2 rfl) ?_
  obtain ⟨r1, hc2, hf⟩ := ob_some hf
  refine kc_i (k_run ⟨hx, hb, hml, hown, hts⟩ (c_X11_layAllowed hc2) (cwV 1 hts gX11_withAll_X11_layAllowed rfl rfl rfl (by decide +kernel) ⟨Nat.le_of_ble_eq_true rfl, Nat.le_of_ble_eq_true rfl⟩) hK hN hP hD kA_s (ci := 11) (q0 := 0) rfl rfl rfl rfl hl.1 rfl (Nat.le_of_ble_eq_true rfl) dX11_withAll_2 ⟨Nat.le_of_ble_eq_true rfl, Nat.le_of_ble_eq_true rfl⟩) hP hD hS hA kI_s (fun _ H locs hP hD hS => ?_)
  refine lv_istore (lv' := [(4, .int r1.1), (0, .ref (qM 0)), (1, .int a1), (2, .int a2), (3, .int a3)]) hx hb dX11_withAll_5 hl (by decide) rfl (fun ls hl => ?_)
  refine lv_iload_n hx hb dX11_withAll_7 rfl (lv_at hl 2 rfl) ?_
  refine lv_i2l hx hb dX11_withAll_8 rfl ?_
  refine lv_lconst (v := (1 : Int64)) hx hb dX11_withAll_9 (by decide) ?_
  refine lv_ldc2 (v := (200 : Int64)) hx hb hown fk191 dX11_withAll_10 ?_
  obtain ⟨r3, hc4, hf⟩ := ob_some hf
  refine kc_i (k_runS ⟨hx, hb, hml, hown, hts⟩ (c_X11_in hc4) (va_cwS 3 hts gX11_withAll_X11_in rfl rfl rfl (by decide +kernel) ⟨Nat.le_of_ble_eq_true rfl, Nat.le_of_ble_eq_true rfl⟩) hK hN hP hD kA_0 rfl hl.1 rfl (Nat.le_of_ble_eq_true rfl) dX11_withAll_13 ⟨Nat.le_of_ble_eq_true rfl, Nat.le_of_ble_eq_true rfl⟩) hP hD hS hA kI_0 (fun _ H locs hP hD hS => ?_)
  refine lv_if_eq (tgt := 37) hx hb dX11_withAll_16 (by decide) (fun c5 => ?_) (fun c5 => ?_)
  · have hf := if_t hf c5
    exact hJ37 m_came m_by m_queue m_kind m_parts m_wanted r1.2.1 r1.2.2 m_met _ _ _ hf hP hD hS (lv_sub hl [] rfl)
  · have hf := if_f hf c5
    refine lv_iload hx hb dX11_withAll_19 (lv_at hl 0 rfl) ?_
    refine lv_i2l hx hb dX11_withAll_21 rfl ?_
    refine lv_lconst (v := (1 : Int64)) hx hb dX11_withAll_22 (by decide) ?_
    refine lv_ldc2 (v := (8 : Int64)) hx hb hown fk193 dX11_withAll_23 ?_
    obtain ⟨r6, hc7, hf⟩ := ob_some hf
    refine kc_i (k_runS ⟨hx, hb, hml, hown, hts⟩ (c_X11_in hc7) (va_cwS 3 hts gX11_withAll_X11_in rfl rfl rfl (by decide +kernel) ⟨Nat.le_of_ble_eq_true rfl, Nat.le_of_ble_eq_true rfl⟩) hK hN hP hD kA_0 rfl hl.1 rfl (Nat.le_of_ble_eq_true rfl) dX11_withAll_26 ⟨Nat.le_of_ble_eq_true rfl, Nat.le_of_ble_eq_true rfl⟩) hP hD hS hA kI_0 (fun _ H locs hP hD hS => ?_)
    refine lv_if_eq (tgt := 37) hx hb dX11_withAll_29 (by decide) (fun c8 => ?_) (fun c8 => ?_)
    · have hf := if_t hf c8
      exact hJ37 m_came m_by m_queue m_kind m_parts m_wanted r1.2.1 r1.2.2 m_met _ _ _ hf hP hD hS (lv_sub hl [] rfl)
    · have hf := if_f hf c8
      refine lv_iload_n hx hb dX11_withAll_32 rfl (lv_at hl 4 rfl) ?_
      refine lv_iconst (v := (-1 : Int32)) hx hb dX11_withAll_33 (by decide) ?_
      refine lv_icmp_ge (tgt := 39) hx hb dX11_withAll_34 (by decide) (fun c9 => ?_) (fun c9 => ?_)
      · have hf := if_t hf c9
        refine lv_aload_n hx hb dX11_withAll_39 rfl (lv_at hl 1 rfl) ?_
        refine lv_iconst (v := (1 : Int32)) hx hb dX11_withAll_40 (by decide) ?_
        refine va_put (D := D) (ci := 11) (v := .int (1 : Int32)) (ty := .int) (C := RX11) (T := TX11) (N := 24) hx hb hts huX11 tyX11 tyX11_ok nmX11 hown hK hP hD hS 0 rfl rfl 14 (by decide) fk159 (fun _ h9 => h9) rfl (tyX11_ok 14 (by decide)) rfl rfl (Nat.le_of_ble_eq_true rfl) dX11_withAll_41 (fun H locs hP hD hS => ?_)
        have hP : va_P D vwCl (gM cy qM m_base m_f m_many m_figures m_tail m_round m_rounds m_leasts m_likes m_like m_isTwo m_came m_by m_queue (1 : Int32) m_parts m_wanted r1.2.1 r1.2.2 m_met m_row m_narrows m_narrow m_isMade) H := hP
        have hD : va_D A (gM cy qM m_base m_f m_many m_figures m_tail m_round m_rounds m_leasts m_likes m_like m_isTwo m_came m_by m_queue (1 : Int32) m_parts m_wanted r1.2.1 r1.2.2 m_met m_row m_narrows m_narrow m_isMade) := hD
        refine lv_aload_n hx hb dX11_withAll_44 rfl (lv_at hl 1 rfl) ?_
        refine lv_iconst (v := (1 : Int32)) hx hb dX11_withAll_45 (by decide) ?_
        refine lv_iload hx hb dX11_withAll_46 (lv_at hl 0 rfl) ?_
        refine lv_ishl hx hb dX11_withAll_48 ?_
        refine va_put (D := D) (ci := 11) (v := .int ((1 : Int32) <<< (r1.1 &&& 31))) (ty := .int) (C := RX11) (T := TX11) (N := 24) hx hb hts huX11 tyX11 tyX11_ok nmX11 hown hK hP hD hS 0 rfl rfl 15 (by decide) fk162 (fun _ h9 => h9) rfl (tyX11_ok 15 (by decide)) rfl rfl (Nat.le_of_ble_eq_true rfl) dX11_withAll_49 (fun H locs hP hD hS => ?_)
        have hP : va_P D vwCl (gM cy qM m_base m_f m_many m_figures m_tail m_round m_rounds m_leasts m_likes m_like m_isTwo m_came m_by m_queue (1 : Int32) ((1 : Int32) <<< (r1.1 &&& 31)) m_wanted r1.2.1 r1.2.2 m_met m_row m_narrows m_narrow m_isMade) H := hP
        have hD : va_D A (gM cy qM m_base m_f m_many m_figures m_tail m_round m_rounds m_leasts m_likes m_like m_isTwo m_came m_by m_queue (1 : Int32) ((1 : Int32) <<< (r1.1 &&& 31)) m_wanted r1.2.1 r1.2.2 m_met m_row m_narrows m_narrow m_isMade) := hD
        refine lv_aload_n hx hb dX11_withAll_52 rfl (lv_at hl 1 rfl) ?_
        refine lv_aload_n hx hb dX11_withAll_53 rfl (lv_at hl 1 rfl) ?_
        refine va_get (D := D) (ci := 11) (C := RX11) (T := TX11) (N := 24) hx hb hts huX11 hown hK hP 0 rfl rfl 15 (by decide) fk162 (fun _ h9 => h9) rfl dX11_withAll_54 ?_
        refine lv_iconst (v := (1 : Int32)) hx hb dX11_withAll_57 (by decide) ?_
        refine lv_isub hx hb dX11_withAll_58 ?_
        refine va_put (D := D) (ci := 11) (v := .int (((1 : Int32) <<< (r1.1 &&& 31)) - (1 : Int32))) (ty := .int) (C := RX11) (T := TX11) (N := 24) hx hb hts huX11 tyX11 tyX11_ok nmX11 hown hK hP hD hS 0 rfl rfl 16 (by decide) fk176 (fun _ h9 => h9) rfl (tyX11_ok 16 (by decide)) rfl rfl (Nat.le_of_ble_eq_true rfl) dX11_withAll_59 (fun H locs hP hD hS => ?_)
        have hP : va_P D vwCl (gM cy qM m_base m_f m_many m_figures m_tail m_round m_rounds m_leasts m_likes m_like m_isTwo m_came m_by m_queue (1 : Int32) ((1 : Int32) <<< (r1.1 &&& 31)) (((1 : Int32) <<< (r1.1 &&& 31)) - (1 : Int32)) r1.2.1 r1.2.2 m_met m_row m_narrows m_narrow m_isMade) H := hP
        have hD : va_D A (gM cy qM m_base m_f m_many m_figures m_tail m_round m_rounds m_leasts m_likes m_like m_isTwo m_came m_by m_queue (1 : Int32) ((1 : Int32) <<< (r1.1 &&& 31)) (((1 : Int32) <<< (r1.1 &&& 31)) - (1 : Int32)) r1.2.1 r1.2.2 m_met m_row m_narrows m_narrow m_isMade) := hD
        refine lv_aload_n hx hb dX11_withAll_62 rfl (lv_at hl 1 rfl) ?_
        refine lv_iload_n hx hb dX11_withAll_63 rfl (lv_at hl 2 rfl) ?_
        refine lv_iload_n hx hb dX11_withAll_64 rfl (lv_at hl 4 rfl) ?_
        obtain ⟨r10, hc11, hf⟩ := ob_some hf
        refine kc_i (k_run ⟨hx, hb, hml, hown, hts⟩ (c_X11_figureOf hc11) (cwV 2 hts gX11_withAll_X11_figureOf rfl rfl rfl (by decide +kernel) ⟨Nat.le_of_ble_eq_true rfl, Nat.le_of_ble_eq_true rfl⟩) hK hN hP hD kA_s (ci := 11) (q0 := 0) rfl rfl rfl rfl hl.1 rfl (Nat.le_of_ble_eq_true rfl) dX11_withAll_65 ⟨Nat.le_of_ble_eq_true rfl, Nat.le_of_ble_eq_true rfl⟩) hP hD hS hA kI_s (fun _ H locs hP hD hS => ?_)
        obtain rfl := Option.some.inj hf
        exact hQ () 68 _ _ _ dX11_withAll_68 hP hD hS
      · have hf := if_f hf c9
        exact hJ37 m_came m_by m_queue m_kind m_parts m_wanted r1.2.1 r1.2.2 m_met _ _ _ hf hP hD hS (lv_sub hl [] rfl)
def f_X11_summed_J29 (F : Nat) (m_came : Nat → Int32) (m_by : Nat → Int32) (m_queue : Nat → Int32) (m_kind : Int32) (m_parts : Int32) (m_wanted : Int32) (m_allowed : Int32) (m_bitOf : Nat → Int32) (m_met : Int32) : Option (Int32 × (Nat → Int32) × (Nat → Int32) × (Nat → Int32) × Int32 × Int32 × Int32 × Int32 × (Nat → Int32) × Int32) := some ((-1 : Int32), m_came, m_by, m_queue, m_kind, m_parts, m_wanted, m_allowed, m_bitOf, m_met)
def f_X11_summed (F : Nat) (a1 : Int32) (a2 : Int32) (a3 : Int32) (m_base : Int32) (m_came : Nat → Int32) (m_by : Nat → Int32) (m_queue : Nat → Int32) (m_kind : Int32) (m_parts : Int32) (m_wanted : Int32) (m_allowed : Int32) (m_bitOf : Nat → Int32) (m_met : Int32) : Option (Int32 × (Nat → Int32) × (Nat → Int32) × (Nat → Int32) × Int32 × Int32 × Int32 × Int32 × (Nat → Int32) × Int32) := (f_X11_in F a1.toInt64 (1 : Int64) (300 : Int64)).bind (fun r1 => if r1 = 0 then (f_X11_summed_J29 F m_came m_by m_queue m_kind m_parts m_wanted m_allowed m_bitOf m_met) else ((f_X11_in F a2.toInt64 (1 : Int64) (60 : Int64)).bind (fun r4 => if r4 = 0 then (f_X11_summed_J29 F m_came m_by m_queue m_kind m_parts m_wanted m_allowed m_bitOf m_met) else (if (-1 : Int32) ≤ a3 then ((f_X11_layAllowed F (65535 : Int32) m_base m_allowed m_bitOf).bind (fun r8 => (f_X11_figureOf F a1 a3 m_base m_came m_by m_queue (2 : Int32) (a2 + (1 : Int32)) a2 r8.2.1 r8.2.2 m_met).bind (fun r10 => some (r10.1, r10.2.1, r10.2.2.1, r10.2.2.2.1, (2 : Int32), (a2 + (1 : Int32)), a2, r8.2.1, r8.2.2, r10.2.2.2.2)))) else (f_X11_summed_J29 F m_came m_by m_queue m_kind m_parts m_wanted m_allowed m_bitOf m_met)))))
abbrev rmX11_summed : Room := { frames := 3, cells := 0, slots := 0, locals := 73 }
set_option maxHeartbeats 1000000 in
set_option maxRecDepth 100000 in
theorem c_X11_summed {l : Launch} {D : va_G} {cy : Nat → ClassId} {qM : Nat → Nat} {m_base : Int32} {m_f : Nat → Int32} {m_many : Int32} {m_figures : Nat → Int32} {m_tail : Int32} {m_round : Int32} {m_rounds : Int32} {m_leasts : Nat → Int64} {m_likes : Int32} {m_like : Nat → Int32} {m_isTwo : Nat → Int32} {m_came : Nat → Int32} {m_by : Nat → Int32} {m_queue : Nat → Int32} {m_kind : Int32} {m_parts : Int32} {m_wanted : Int32} {m_allowed : Int32} {m_bitOf : Nat → Int32} {m_met : Int32} {m_row : Nat → Int32} {m_narrows : Int32} {m_narrow : Nat → Int64} {m_isMade : Nat → Int32} {a1 : Int32} {a2 : Int32} {a3 : Int32} {F : Nat} {res : Int32 × (Nat → Int32) × (Nat → Int32) × (Nat → Int32) × Int32 × Int32 × Int32 × Int32 × (Nat → Int32) × Int32} (hf : f_X11_summed F a1 a2 a3 m_base m_came m_by m_queue m_kind m_parts m_wanted m_allowed m_bitOf m_met = some res) : kM l yX11_summed wsX11_summed rmX11_summed D cy [.ref (qM 0), .int a1, .int a2, .int a3] (gM cy qM m_base m_f m_many m_figures m_tail m_round m_rounds m_leasts m_likes m_like m_isTwo m_came m_by m_queue m_kind m_parts m_wanted m_allowed m_bitOf m_met m_row m_narrows m_narrow m_isMade) (kQi D cy (fun _ : Unit => gM cy qM m_base m_f m_many m_figures m_tail m_round m_rounds m_leasts m_likes m_like m_isTwo res.2.1 res.2.2.1 res.2.2.2.1 res.2.2.2.2.1 res.2.2.2.2.2.1 res.2.2.2.2.2.2.1 res.2.2.2.2.2.2.2.1 res.2.2.2.2.2.2.2.2.1 res.2.2.2.2.2.2.2.2.2 m_row m_narrows m_narrow m_isMade) res.1) := by
  refine kent_i (cc := cX11_summed) (maxL := 5) (by decide) rfl (Nat.le_of_ble_eq_true rfl) ?_
  intro p e0 s m ar below meth c A Q ls ⟨hx, hb, hml, hr, hts, hown, hlocks, hnm⟩ hA hK hN hQ hP hD hS hl
  have hl : lv_has ls 5 [(0, .ref (qM 0)), (1, .int a1), (2, .int a2), (3, .int a3)] := hl
  have hown : s.vm.findClass RX11 = some m.cls := hown
  have fk130 : (Cond.constantLong RX11 130 (300)).before ar s = true := hts _ (by decide +kernel)
  have fk195 : (Cond.constantLong RX11 195 (60)).before ar s = true := hts _ (by decide +kernel)
  have fk197 : (Cond.constant RX11 197 (65535)).before ar s = true := hts _ (by decide +kernel)
  have huX11 : ∀ x ∈ u_ws RX11 TX11 24, x ∈ wsX11_summed := by decide +kernel
  have fk159 : (Cond.fieldLink RX11 159 "FigurePlayModel" "kind" "I").before ar s = true := hts _ (by decide +kernel)
  have fk162 : (Cond.fieldLink RX11 162 "FigurePlayModel" "parts" "I").before ar s = true := hts _ (by decide +kernel)
  have fk176 : (Cond.fieldLink RX11 176 "FigurePlayModel" "wanted" "I").before ar s = true := hts _ (by decide +kernel)
  unfold f_X11_summed at hf
  have hJ29 : ∀ (m_came : Nat → Int32) (m_by : Nat → Int32) (m_queue : Nat → Int32) (m_kind : Int32) (m_parts : Int32) (m_wanted : Int32) (m_allowed : Int32) (m_bitOf : Nat → Int32) (m_met : Int32) (H : Heap) (locs : List Loc) (ls : Array Slot), f_X11_summed_J29 F m_came m_by m_queue m_kind m_parts m_wanted m_allowed m_bitOf m_met = some res → va_P D vwCl (gM cy qM m_base m_f m_many m_figures m_tail m_round m_rounds m_leasts m_likes m_like m_isTwo m_came m_by m_queue m_kind m_parts m_wanted m_allowed m_bitOf m_met m_row m_narrows m_narrow m_isMade) H → va_D A (gM cy qM m_base m_f m_many m_figures m_tail m_round m_rounds m_leasts m_likes m_like m_isTwo m_came m_by m_queue m_kind m_parts m_wanted m_allowed m_bitOf m_met m_row m_narrows m_narrow m_isMade) → va_S A s.heap H locs → lv_has ls 5 [] → W p l e0 rmX11_summed s m ar below meth c H locs 0 0 Q (F0 m 29 ls []) := by
    intro m_came m_by m_queue m_kind m_parts m_wanted m_allowed m_bitOf m_met H locs ls hf hP hD hS hl
    unfold f_X11_summed_J29 at hf
    refine lv_iconst (v := (-1 : Int32)) hx hb dX11_summed_29 (by decide) ?_
    obtain rfl := Option.some.inj hf
    exact hQ () 30 _ _ _ dX11_summed_30 hP hD hS
  refine lv_iload_n hx hb dX11_summed_0 rfl (lv_at hl 1 rfl) ?_
  refine lv_i2l hx hb dX11_summed_1 rfl ?_
  refine lv_lconst (v := (1 : Int64)) hx hb dX11_summed_2 (by decide) ?_
  refine lv_ldc2 (v := (300 : Int64)) hx hb hown fk130 dX11_summed_3 ?_
  obtain ⟨r1, hc2, hf⟩ := ob_some hf
  refine kc_i (k_runS ⟨hx, hb, hml, hown, hts⟩ (c_X11_in hc2) (va_cwS 3 hts gX11_summed_X11_in rfl rfl rfl (by decide +kernel) ⟨Nat.le_of_ble_eq_true rfl, Nat.le_of_ble_eq_true rfl⟩) hK hN hP hD kA_0 rfl hl.1 rfl (Nat.le_of_ble_eq_true rfl) dX11_summed_6 ⟨Nat.le_of_ble_eq_true rfl, Nat.le_of_ble_eq_true rfl⟩) hP hD hS hA kI_0 (fun _ H locs hP hD hS => ?_)
  refine lv_if_eq (tgt := 29) hx hb dX11_summed_9 (by decide) (fun c3 => ?_) (fun c3 => ?_)
  · have hf := if_t hf c3
    exact hJ29 m_came m_by m_queue m_kind m_parts m_wanted m_allowed m_bitOf m_met _ _ _ hf hP hD hS (lv_sub hl [] rfl)
  · have hf := if_f hf c3
    refine lv_iload_n hx hb dX11_summed_12 rfl (lv_at hl 2 rfl) ?_
    refine lv_i2l hx hb dX11_summed_13 rfl ?_
    refine lv_lconst (v := (1 : Int64)) hx hb dX11_summed_14 (by decide) ?_
    refine lv_ldc2 (v := (60 : Int64)) hx hb hown fk195 dX11_summed_15 ?_
    obtain ⟨r4, hc5, hf⟩ := ob_some hf
    refine kc_i (k_runS ⟨hx, hb, hml, hown, hts⟩ (c_X11_in hc5) (va_cwS 3 hts gX11_summed_X11_in rfl rfl rfl (by decide +kernel) ⟨Nat.le_of_ble_eq_true rfl, Nat.le_of_ble_eq_true rfl⟩) hK hN hP hD kA_0 rfl hl.1 rfl (Nat.le_of_ble_eq_true rfl) dX11_summed_18 ⟨Nat.le_of_ble_eq_true rfl, Nat.le_of_ble_eq_true rfl⟩) hP hD hS hA kI_0 (fun _ H locs hP hD hS => ?_)
    refine lv_if_eq (tgt := 29) hx hb dX11_summed_21 (by decide) (fun c6 => ?_) (fun c6 => ?_)
    · have hf := if_t hf c6
      exact hJ29 m_came m_by m_queue m_kind m_parts m_wanted m_allowed m_bitOf m_met _ _ _ hf hP hD hS (lv_sub hl [] rfl)
    · have hf := if_f hf c6
      refine lv_iload_n hx hb dX11_summed_24 rfl (lv_at hl 3 rfl) ?_
      refine lv_iconst (v := (-1 : Int32)) hx hb dX11_summed_25 (by decide) ?_
      refine lv_icmp_ge (tgt := 31) hx hb dX11_summed_26 (by decide) (fun c7 => ?_) (fun c7 => ?_)
      · have hf := if_t hf c7
        refine lv_aload_n hx hb dX11_summed_31 rfl (lv_at hl 0 rfl) ?_
        refine lv_ldc (v := (65535 : Int32)) hx hb hown fk197 dX11_summed_32 ?_
        obtain ⟨r8, hc9, hf⟩ := ob_some hf
        refine kc_i (k_run ⟨hx, hb, hml, hown, hts⟩ (c_X11_layAllowed hc9) (cwV 1 hts gX11_summed_X11_layAllowed rfl rfl rfl (by decide +kernel) ⟨Nat.le_of_ble_eq_true rfl, Nat.le_of_ble_eq_true rfl⟩) hK hN hP hD kA_s (ci := 11) (q0 := 0) rfl rfl rfl rfl hl.1 rfl (Nat.le_of_ble_eq_true rfl) dX11_summed_34 ⟨Nat.le_of_ble_eq_true rfl, Nat.le_of_ble_eq_true rfl⟩) hP hD hS hA kI_s (fun _ H locs hP hD hS => ?_)
        refine lv_istore (lv' := [(4, .int r8.1), (0, .ref (qM 0)), (1, .int a1), (2, .int a2), (3, .int a3)]) hx hb dX11_summed_37 hl (by decide) rfl (fun ls hl => ?_)
        refine lv_aload_n hx hb dX11_summed_39 rfl (lv_at hl 1 rfl) ?_
        refine lv_iconst (v := (2 : Int32)) hx hb dX11_summed_40 (by decide) ?_
        refine va_put (D := D) (ci := 11) (v := .int (2 : Int32)) (ty := .int) (C := RX11) (T := TX11) (N := 24) hx hb hts huX11 tyX11 tyX11_ok nmX11 hown hK hP hD hS 0 rfl rfl 14 (by decide) fk159 (fun _ h9 => h9) rfl (tyX11_ok 14 (by decide)) rfl rfl (Nat.le_of_ble_eq_true rfl) dX11_summed_41 (fun H locs hP hD hS => ?_)
        have hP : va_P D vwCl (gM cy qM m_base m_f m_many m_figures m_tail m_round m_rounds m_leasts m_likes m_like m_isTwo m_came m_by m_queue (2 : Int32) m_parts m_wanted r8.2.1 r8.2.2 m_met m_row m_narrows m_narrow m_isMade) H := hP
        have hD : va_D A (gM cy qM m_base m_f m_many m_figures m_tail m_round m_rounds m_leasts m_likes m_like m_isTwo m_came m_by m_queue (2 : Int32) m_parts m_wanted r8.2.1 r8.2.2 m_met m_row m_narrows m_narrow m_isMade) := hD
        refine lv_aload_n hx hb dX11_summed_44 rfl (lv_at hl 1 rfl) ?_
        refine lv_iload_n hx hb dX11_summed_45 rfl (lv_at hl 3 rfl) ?_
        refine lv_iconst (v := (1 : Int32)) hx hb dX11_summed_46 (by decide) ?_
        refine lv_iadd hx hb dX11_summed_47 ?_
        refine va_put (D := D) (ci := 11) (v := .int (a2 + (1 : Int32))) (ty := .int) (C := RX11) (T := TX11) (N := 24) hx hb hts huX11 tyX11 tyX11_ok nmX11 hown hK hP hD hS 0 rfl rfl 15 (by decide) fk162 (fun _ h9 => h9) rfl (tyX11_ok 15 (by decide)) rfl rfl (Nat.le_of_ble_eq_true rfl) dX11_summed_48 (fun H locs hP hD hS => ?_)
        have hP : va_P D vwCl (gM cy qM m_base m_f m_many m_figures m_tail m_round m_rounds m_leasts m_likes m_like m_isTwo m_came m_by m_queue (2 : Int32) (a2 + (1 : Int32)) m_wanted r8.2.1 r8.2.2 m_met m_row m_narrows m_narrow m_isMade) H := hP
        have hD : va_D A (gM cy qM m_base m_f m_many m_figures m_tail m_round m_rounds m_leasts m_likes m_like m_isTwo m_came m_by m_queue (2 : Int32) (a2 + (1 : Int32)) m_wanted r8.2.1 r8.2.2 m_met m_row m_narrows m_narrow m_isMade) := hD
        refine lv_aload_n hx hb dX11_summed_51 rfl (lv_at hl 1 rfl) ?_
        refine lv_iload_n hx hb dX11_summed_52 rfl (lv_at hl 3 rfl) ?_
        refine va_put (D := D) (ci := 11) (v := .int a2) (ty := .int) (C := RX11) (T := TX11) (N := 24) hx hb hts huX11 tyX11 tyX11_ok nmX11 hown hK hP hD hS 0 rfl rfl 16 (by decide) fk176 (fun _ h9 => h9) rfl (tyX11_ok 16 (by decide)) rfl rfl (Nat.le_of_ble_eq_true rfl) dX11_summed_53 (fun H locs hP hD hS => ?_)
        have hP : va_P D vwCl (gM cy qM m_base m_f m_many m_figures m_tail m_round m_rounds m_leasts m_likes m_like m_isTwo m_came m_by m_queue (2 : Int32) (a2 + (1 : Int32)) a2 r8.2.1 r8.2.2 m_met m_row m_narrows m_narrow m_isMade) H := hP
        have hD : va_D A (gM cy qM m_base m_f m_many m_figures m_tail m_round m_rounds m_leasts m_likes m_like m_isTwo m_came m_by m_queue (2 : Int32) (a2 + (1 : Int32)) a2 r8.2.1 r8.2.2 m_met m_row m_narrows m_narrow m_isMade) := hD
        refine lv_aload_n hx hb dX11_summed_56 rfl (lv_at hl 1 rfl) ?_
        refine lv_iload_n hx hb dX11_summed_57 rfl (lv_at hl 2 rfl) ?_
        refine lv_iload_n hx hb dX11_summed_58 rfl (lv_at hl 4 rfl) ?_
        obtain ⟨r10, hc11, hf⟩ := ob_some hf
        refine kc_i (k_run ⟨hx, hb, hml, hown, hts⟩ (c_X11_figureOf hc11) (cwV 2 hts gX11_summed_X11_figureOf rfl rfl rfl (by decide +kernel) ⟨Nat.le_of_ble_eq_true rfl, Nat.le_of_ble_eq_true rfl⟩) hK hN hP hD kA_s (ci := 11) (q0 := 0) rfl rfl rfl rfl hl.1 rfl (Nat.le_of_ble_eq_true rfl) dX11_summed_59 ⟨Nat.le_of_ble_eq_true rfl, Nat.le_of_ble_eq_true rfl⟩) hP hD hS hA kI_s (fun _ H locs hP hD hS => ?_)
        obtain rfl := Option.some.inj hf
        exact hQ () 62 _ _ _ dX11_summed_62 hP hD hS
      · have hf := if_f hf c7
        exact hJ29 m_came m_by m_queue m_kind m_parts m_wanted m_allowed m_bitOf m_met _ _ _ hf hP hD hS (lv_sub hl [] rfl)
def f_X11_again_B69 (F : Nat) (a1 : Int32) (a2 : Int32) (x3 : Int64) (m_many : Int32) (m_figures : Nat → Int32) (rec : Int64 × Int32 → Option ((Int32 × Int32 × (Nat → Int32)) ⊕ (Unit))) (x : Int64 × Int32) : Option ((Int32 × Int32 × (Nat → Int32)) ⊕ (Unit)) := if a2 < x.2 then (some (.inr ())) else (ck (¬ a2.toInt64 = 0) (if (((x.1 * x3) + a1.toInt64) - ((x.1 * x3) + a1.toInt64) / a2.toInt64 * a2.toInt64) = (0 : Int64) then (some (.inl (x.2, m_many, m_figures))) else (rec ((((x.1 * x3) + a1.toInt64) - ((x.1 * x3) + a1.toInt64) / a2.toInt64 * a2.toInt64), (x.2 + (1 : Int32))))))
def f_X11_again_B37 (F : Nat) (a2 : Int32) (m_base : Int32) (m_many : Int32) (m_figures : Nat → Int32) (rec : Int64 × Int32 → Option (Int64)) (x : Int64 × Int32) : Option (Int64) := if m_many ≤ x.2 then (some x.1) else (ck (¬ a2.toInt64 = 0) (rec (((x.1 * m_base.toInt64) - (x.1 * m_base.toInt64) / a2.toInt64 * a2.toInt64), (x.2 + (1 : Int32)))))
def f_X11_again_J24 (F : Nat) (m_many : Int32) (m_figures : Nat → Int32) : Option (Int32 × Int32 × (Nat → Int32)) := some ((-1 : Int32), m_many, m_figures)
def f_X11_again (F : Nat) (a1 : Int32) (a2 : Int32) (m_base : Int32) (m_many : Int32) (m_figures : Nat → Int32) : Option (Int32 × Int32 × (Nat → Int32)) := (f_X11_in F a1.toInt64 (1 : Int64) (100000 : Int64)).bind (fun r6 => if r6 = 0 then (f_X11_again_J24 F m_many m_figures) else ((f_X11_in F a2.toInt64 (1 : Int64) (20000 : Int64)).bind (fun r9 => if r9 = 0 then (f_X11_again_J24 F m_many m_figures) else ((f_X11_lay F a1.toInt64 m_base m_many m_figures).bind (fun r12 => (lp (f_X11_again_B37 F a2 m_base r12.1 r12.2) F ((1 : Int64), (0 : Int32))).bind (fun ex14 => (lp (f_X11_again_B69 F a1 a2 ex14 r12.1 r12.2) F ((0 : Int64), (1 : Int32))).bind (fun ex15 => Sum.elim (fun r => some r) (fun er16 => some ((-4 : Int32), r12.1, r12.2)) ex15)))))))
abbrev rmX11_again : Room := { frames := 1, cells := 0, slots := 0, locals := 25 }
set_option maxHeartbeats 1000000 in
set_option maxRecDepth 100000 in
theorem c_X11_again {l : Launch} {D : va_G} {cy : Nat → ClassId} {qM : Nat → Nat} {m_base : Int32} {m_f : Nat → Int32} {m_many : Int32} {m_figures : Nat → Int32} {m_tail : Int32} {m_round : Int32} {m_rounds : Int32} {m_leasts : Nat → Int64} {m_likes : Int32} {m_like : Nat → Int32} {m_isTwo : Nat → Int32} {m_came : Nat → Int32} {m_by : Nat → Int32} {m_queue : Nat → Int32} {m_kind : Int32} {m_parts : Int32} {m_wanted : Int32} {m_allowed : Int32} {m_bitOf : Nat → Int32} {m_met : Int32} {m_row : Nat → Int32} {m_narrows : Int32} {m_narrow : Nat → Int64} {m_isMade : Nat → Int32} {a1 : Int32} {a2 : Int32} {F : Nat} {res : Int32 × Int32 × (Nat → Int32)} (hf : f_X11_again F a1 a2 m_base m_many m_figures = some res) : kM l yX11_again wsX11_again rmX11_again D cy [.ref (qM 0), .int a1, .int a2] (gM cy qM m_base m_f m_many m_figures m_tail m_round m_rounds m_leasts m_likes m_like m_isTwo m_came m_by m_queue m_kind m_parts m_wanted m_allowed m_bitOf m_met m_row m_narrows m_narrow m_isMade) (kQi D cy (fun _ : Unit => gM cy qM m_base m_f res.2.1 res.2.2 m_tail m_round m_rounds m_leasts m_likes m_like m_isTwo m_came m_by m_queue m_kind m_parts m_wanted m_allowed m_bitOf m_met m_row m_narrows m_narrow m_isMade) res.1) := by
  refine kent_i (cc := cX11_again) (maxL := 8) (by decide) rfl (Nat.le_of_ble_eq_true rfl) ?_
  intro p e0 s m ar below meth c A Q ls ⟨hx, hb, hml, hr, hts, hown, hlocks, hnm⟩ hA hK hN hQ hP hD hS hl
  have hl : lv_has ls 8 [(0, .ref (qM 0)), (1, .int a1), (2, .int a2)] := hl
  have hown : s.vm.findClass RX11 = some m.cls := hown
  have huX11 : ∀ x ∈ u_ws RX11 TX11 24, x ∈ wsX11_again := by decide +kernel
  have fk65 : (Cond.fieldLink RX11 65 "FigurePlayModel" "many" "I").before ar s = true := hts _ (by decide +kernel)
  have fk7 : (Cond.fieldLink RX11 7 "FigurePlayModel" "base" "I").before ar s = true := hts _ (by decide +kernel)
  have fk63 : (Cond.constantLong RX11 63 (100000)).before ar s = true := hts _ (by decide +kernel)
  have fk116 : (Cond.constantLong RX11 116 (20000)).before ar s = true := hts _ (by decide +kernel)
  unfold f_X11_again at hf
  have hL69 : ∀ (x3 : Int64) (m_many : Int32) (m_figures : Nat → Int32) (k : Nat) (x : Int64 × Int32) (ex : (Int32 × Int32 × (Nat → Int32)) ⊕ (Unit)) (H : Heap) (locs : List Loc) (ls : Array Slot), lp (f_X11_again_B69 F a1 a2 x3 m_many m_figures) k x = some ex → (∀ r, ex = .inl r → r = res) → (∀ er, ex = .inr er → ∀ (H : Heap) (locs : List Loc) (ls : Array Slot), va_P D vwCl (gM cy qM m_base m_f m_many m_figures m_tail m_round m_rounds m_leasts m_likes m_like m_isTwo m_came m_by m_queue m_kind m_parts m_wanted m_allowed m_bitOf m_met m_row m_narrows m_narrow m_isMade) H → va_D A (gM cy qM m_base m_f m_many m_figures m_tail m_round m_rounds m_leasts m_likes m_like m_isTwo m_came m_by m_queue m_kind m_parts m_wanted m_allowed m_bitOf m_met m_row m_narrows m_narrow m_isMade) → va_S A s.heap H locs → lv_has ls 8 [] → W p l e0 rmX11_again s m ar below meth c H locs 0 0 Q (F0 m 103 ls [])) → va_P D vwCl (gM cy qM m_base m_f m_many m_figures m_tail m_round m_rounds m_leasts m_likes m_like m_isTwo m_came m_by m_queue m_kind m_parts m_wanted m_allowed m_bitOf m_met m_row m_narrows m_narrow m_isMade) H → va_D A (gM cy qM m_base m_f m_many m_figures m_tail m_round m_rounds m_leasts m_likes m_like m_isTwo m_came m_by m_queue m_kind m_parts m_wanted m_allowed m_bitOf m_met m_row m_narrows m_narrow m_isMade) → va_S A s.heap H locs → lv_has ls 8 [(1, .int a1), (2, .int a2), (3, .long x3), (5, .long x.1), (7, .int x.2)] → W p l e0 rmX11_again s m ar below meth c H locs 0 0 Q (F0 m 69 ls []) := by
    intro x3 m_many m_figures k
    induction k with
    | zero => intro x ex H locs ls hf; exact no_some hf
    | succ k ih =>
      intro x ex H locs ls hf hret hex hP hD hS hl
      have hf : f_X11_again_B69 F a1 a2 x3 m_many m_figures (lp (f_X11_again_B69 F a1 a2 x3 m_many m_figures) k) x = some ex := hf
      unfold f_X11_again_B69 at hf
      refine lv_iload hx hb dX11_again_69 (lv_at hl 4 rfl) ?_
      refine lv_iload_n hx hb dX11_again_71 rfl (lv_at hl 1 rfl) ?_
      refine lv_icmp_gt (tgt := 103) hx hb dX11_again_72 (by decide) (fun c1 => ?_) (fun c1 => ?_)
      · have hf := if_t hf c1
        obtain rfl := Option.some.inj hf
        exact hex _ rfl _ _ _ hP hD hS (lv_sub hl [] rfl)
      · have hf := if_f hf c1
        refine lv_lload hx hb dX11_again_75 (lv_at hl 3 rfl) ?_
        refine lv_lload_n hx hb dX11_again_77 rfl (lv_at hl 2 rfl) ?_
        refine lv_lmul hx hb dX11_again_78 ?_
        refine lv_iload_n hx hb dX11_again_79 rfl (lv_at hl 0 rfl) ?_
        refine lv_i2l hx hb dX11_again_80 rfl ?_
        refine lv_ladd hx hb dX11_again_81 ?_
        refine lv_iload_n hx hb dX11_again_82 rfl (lv_at hl 1 rfl) ?_
        refine lv_i2l hx hb dX11_again_83 rfl ?_
        obtain ⟨c2, hf⟩ := ck_some hf
        refine lv_lrem hx hb dX11_again_84 c2 ?_
        refine lv_lstore (lv' := [(5, .long (((x.1 * x3) + a1.toInt64) - ((x.1 * x3) + a1.toInt64) / a2.toInt64 * a2.toInt64)), (1, .int a1), (2, .int a2), (3, .long x3), (7, .int x.2)]) hx hb dX11_again_85 hl (by decide) rfl (fun ls hl => ?_)
        refine lv_lload hx hb dX11_again_87 (lv_at hl 0 rfl) ?_
        refine lv_lconst (v := (0 : Int64)) hx hb dX11_again_89 (by decide) ?_
        refine kl_ne (tgt := 97) hx hb dX11_again_90 dX11_again_91 (by decide) (fun c3 => ?_) (fun c3 => ?_)
        · have hf := if_f hf c3
          refine lv_iinc (v := (x.2 + (1 : Int32))) (lv' := [(7, .int (x.2 + (1 : Int32))), (5, .long (((x.1 * x3) + a1.toInt64) - ((x.1 * x3) + a1.toInt64) / a2.toInt64 * a2.toInt64)), (1, .int a1), (2, .int a2), (3, .long x3)]) hx hb dX11_again_97 hl (k := 4) rfl rfl (by decide) rfl (fun ls hl => ?_)
          refine lv_goto (tgt := 69) hx hb dX11_again_100 (by decide) ?_
          exact ih ((((x.1 * x3) + a1.toInt64) - ((x.1 * x3) + a1.toInt64) / a2.toInt64 * a2.toInt64), (x.2 + (1 : Int32))) ex _ _ _ hf hret hex hP hD hS (lv_sub hl [2, 3, 4, 1, 0] rfl)
        · have hf := if_t hf c3
          refine lv_iload hx hb dX11_again_94 (lv_at hl 4 rfl) ?_
          obtain rfl := Option.some.inj hf
          obtain rfl := hret _ rfl
          exact hQ () 96 _ _ _ dX11_again_96 hP hD hS
  have hL37 : ∀ (m_many : Int32) (m_figures : Nat → Int32) (k : Nat) (x : Int64 × Int32) (ex : Int64) (H : Heap) (locs : List Loc) (ls : Array Slot), lp (f_X11_again_B37 F a2 m_base m_many m_figures) k x = some ex → (∀ (H : Heap) (locs : List Loc) (ls : Array Slot), va_P D vwCl (gM cy qM m_base m_f m_many m_figures m_tail m_round m_rounds m_leasts m_likes m_like m_isTwo m_came m_by m_queue m_kind m_parts m_wanted m_allowed m_bitOf m_met m_row m_narrows m_narrow m_isMade) H → va_D A (gM cy qM m_base m_f m_many m_figures m_tail m_round m_rounds m_leasts m_likes m_like m_isTwo m_came m_by m_queue m_kind m_parts m_wanted m_allowed m_bitOf m_met m_row m_narrows m_narrow m_isMade) → va_S A s.heap H locs → lv_has ls 8 [(1, .int a1), (2, .int a2), (3, .long ex)] → W p l e0 rmX11_again s m ar below meth c H locs 0 0 Q (F0 m 63 ls [])) → va_P D vwCl (gM cy qM m_base m_f m_many m_figures m_tail m_round m_rounds m_leasts m_likes m_like m_isTwo m_came m_by m_queue m_kind m_parts m_wanted m_allowed m_bitOf m_met m_row m_narrows m_narrow m_isMade) H → va_D A (gM cy qM m_base m_f m_many m_figures m_tail m_round m_rounds m_leasts m_likes m_like m_isTwo m_came m_by m_queue m_kind m_parts m_wanted m_allowed m_bitOf m_met m_row m_narrows m_narrow m_isMade) → va_S A s.heap H locs → lv_has ls 8 [(0, .ref (qM 0)), (1, .int a1), (2, .int a2), (3, .long x.1), (5, .int x.2)] → W p l e0 rmX11_again s m ar below meth c H locs 0 0 Q (F0 m 37 ls []) := by
    intro m_many m_figures k
    induction k with
    | zero => intro x ex H locs ls hf; exact no_some hf
    | succ k ih =>
      intro x ex H locs ls hf hex hP hD hS hl
      have hf : f_X11_again_B37 F a2 m_base m_many m_figures (lp (f_X11_again_B37 F a2 m_base m_many m_figures) k) x = some ex := hf
      unfold f_X11_again_B37 at hf
      refine lv_iload hx hb dX11_again_37 (lv_at hl 4 rfl) ?_
      refine lv_aload_n hx hb dX11_again_39 rfl (lv_at hl 0 rfl) ?_
      refine va_get (D := D) (ci := 11) (C := RX11) (T := TX11) (N := 24) hx hb hts huX11 hown hK hP 0 rfl rfl 2 (by decide) fk65 (fun _ h9 => h9) rfl dX11_again_40 ?_
      refine lv_icmp_ge (tgt := 63) hx hb dX11_again_43 (by decide) (fun c4 => ?_) (fun c4 => ?_)
      · have hf := if_t hf c4
        obtain rfl := Option.some.inj hf
        exact hex _ _ _ hP hD hS (lv_sub hl [1, 2, 3] rfl)
      · have hf := if_f hf c4
        refine lv_lload_n hx hb dX11_again_46 rfl (lv_at hl 3 rfl) ?_
        refine lv_aload_n hx hb dX11_again_47 rfl (lv_at hl 0 rfl) ?_
        refine va_get (D := D) (ci := 11) (C := RX11) (T := TX11) (N := 24) hx hb hts huX11 hown hK hP 0 rfl rfl 0 (by decide) fk7 (fun _ h9 => h9) rfl dX11_again_48 ?_
        refine lv_i2l hx hb dX11_again_51 rfl ?_
        refine lv_lmul hx hb dX11_again_52 ?_
        refine lv_iload_n hx hb dX11_again_53 rfl (lv_at hl 2 rfl) ?_
        refine lv_i2l hx hb dX11_again_54 rfl ?_
        obtain ⟨c5, hf⟩ := ck_some hf
        refine lv_lrem hx hb dX11_again_55 c5 ?_
        refine lv_lstore_n (lv' := [(3, .long ((x.1 * m_base.toInt64) - (x.1 * m_base.toInt64) / a2.toInt64 * a2.toInt64)), (0, .ref (qM 0)), (1, .int a1), (2, .int a2), (5, .int x.2)]) hx hb dX11_again_56 rfl hl (by decide) rfl (fun ls hl => ?_)
        refine lv_iinc (v := (x.2 + (1 : Int32))) (lv' := [(5, .int (x.2 + (1 : Int32))), (3, .long ((x.1 * m_base.toInt64) - (x.1 * m_base.toInt64) / a2.toInt64 * a2.toInt64)), (0, .ref (qM 0)), (1, .int a1), (2, .int a2)]) hx hb dX11_again_57 hl (k := 4) rfl rfl (by decide) rfl (fun ls hl => ?_)
        refine lv_goto (tgt := 37) hx hb dX11_again_60 (by decide) ?_
        exact ih (((x.1 * m_base.toInt64) - (x.1 * m_base.toInt64) / a2.toInt64 * a2.toInt64), (x.2 + (1 : Int32))) ex _ _ _ hf hex hP hD hS (lv_sub hl [2, 3, 4, 1, 0] rfl)
  have hJ24 : ∀ (m_many : Int32) (m_figures : Nat → Int32) (H : Heap) (locs : List Loc) (ls : Array Slot), f_X11_again_J24 F m_many m_figures = some res → va_P D vwCl (gM cy qM m_base m_f m_many m_figures m_tail m_round m_rounds m_leasts m_likes m_like m_isTwo m_came m_by m_queue m_kind m_parts m_wanted m_allowed m_bitOf m_met m_row m_narrows m_narrow m_isMade) H → va_D A (gM cy qM m_base m_f m_many m_figures m_tail m_round m_rounds m_leasts m_likes m_like m_isTwo m_came m_by m_queue m_kind m_parts m_wanted m_allowed m_bitOf m_met m_row m_narrows m_narrow m_isMade) → va_S A s.heap H locs → lv_has ls 8 [] → W p l e0 rmX11_again s m ar below meth c H locs 0 0 Q (F0 m 24 ls []) := by
    intro m_many m_figures H locs ls hf hP hD hS hl
    unfold f_X11_again_J24 at hf
    refine lv_iconst (v := (-1 : Int32)) hx hb dX11_again_24 (by decide) ?_
    obtain rfl := Option.some.inj hf
    exact hQ () 25 _ _ _ dX11_again_25 hP hD hS
  refine lv_iload_n hx hb dX11_again_0 rfl (lv_at hl 1 rfl) ?_
  refine lv_i2l hx hb dX11_again_1 rfl ?_
  refine lv_lconst (v := (1 : Int64)) hx hb dX11_again_2 (by decide) ?_
  refine lv_ldc2 (v := (100000 : Int64)) hx hb hown fk63 dX11_again_3 ?_
  obtain ⟨r6, hc7, hf⟩ := ob_some hf
  refine kc_i (k_runS ⟨hx, hb, hml, hown, hts⟩ (c_X11_in hc7) (va_cwS 3 hts gX11_again_X11_in rfl rfl rfl (by decide +kernel) ⟨Nat.le_of_ble_eq_true rfl, Nat.le_of_ble_eq_true rfl⟩) hK hN hP hD kA_0 rfl hl.1 rfl (Nat.le_of_ble_eq_true rfl) dX11_again_6 ⟨Nat.le_of_ble_eq_true rfl, Nat.le_of_ble_eq_true rfl⟩) hP hD hS hA kI_0 (fun _ H locs hP hD hS => ?_)
  refine lv_if_eq (tgt := 24) hx hb dX11_again_9 (by decide) (fun c8 => ?_) (fun c8 => ?_)
  · have hf := if_t hf c8
    exact hJ24 m_many m_figures _ _ _ hf hP hD hS (lv_sub hl [] rfl)
  · have hf := if_f hf c8
    refine lv_iload_n hx hb dX11_again_12 rfl (lv_at hl 2 rfl) ?_
    refine lv_i2l hx hb dX11_again_13 rfl ?_
    refine lv_lconst (v := (1 : Int64)) hx hb dX11_again_14 (by decide) ?_
    refine lv_ldc2 (v := (20000 : Int64)) hx hb hown fk116 dX11_again_15 ?_
    obtain ⟨r9, hc10, hf⟩ := ob_some hf
    refine kc_i (k_runS ⟨hx, hb, hml, hown, hts⟩ (c_X11_in hc10) (va_cwS 3 hts gX11_again_X11_in rfl rfl rfl (by decide +kernel) ⟨Nat.le_of_ble_eq_true rfl, Nat.le_of_ble_eq_true rfl⟩) hK hN hP hD kA_0 rfl hl.1 rfl (Nat.le_of_ble_eq_true rfl) dX11_again_18 ⟨Nat.le_of_ble_eq_true rfl, Nat.le_of_ble_eq_true rfl⟩) hP hD hS hA kI_0 (fun _ H locs hP hD hS => ?_)
    refine lv_if_ne (tgt := 26) hx hb dX11_again_21 (by decide) (fun c11 => ?_) (fun c11 => ?_)
    · have hf := if_f hf c11
      refine lv_aload_n hx hb dX11_again_26 rfl (lv_at hl 0 rfl) ?_
      refine lv_iload_n hx hb dX11_again_27 rfl (lv_at hl 1 rfl) ?_
      refine lv_i2l hx hb dX11_again_28 rfl ?_
      obtain ⟨r12, hc13, hf⟩ := ob_some hf
      refine kc_v (k_run ⟨hx, hb, hml, hown, hts⟩ (c_X11_lay hc13) (cwV 1 hts gX11_again_X11_lay rfl rfl rfl (by decide +kernel) ⟨Nat.le_of_ble_eq_true rfl, Nat.le_of_ble_eq_true rfl⟩) hK hN hP hD kA_s (ci := 11) (q0 := 0) rfl rfl rfl rfl hl.1 rfl (Nat.le_of_ble_eq_true rfl) dX11_again_29 ⟨Nat.le_of_ble_eq_true rfl, Nat.le_of_ble_eq_true rfl⟩) hP hD hS hA kI_s (fun _ H locs hP hD hS => ?_)
      refine lv_lconst (v := (1 : Int64)) hx hb dX11_again_32 (by decide) ?_
      refine lv_lstore_n (lv' := [(3, .long (1 : Int64)), (0, .ref (qM 0)), (1, .int a1), (2, .int a2)]) hx hb dX11_again_33 rfl hl (by decide) rfl (fun ls hl => ?_)
      refine lv_iconst (v := (0 : Int32)) hx hb dX11_again_34 (by decide) ?_
      refine lv_istore (lv' := [(5, .int (0 : Int32)), (3, .long (1 : Int64)), (0, .ref (qM 0)), (1, .int a1), (2, .int a2)]) hx hb dX11_again_35 hl (by decide) rfl (fun ls hl => ?_)
      obtain ⟨ex14, hcl, hf⟩ := ob_some hf
      refine hL37 r12.1 r12.2 F ((1 : Int64), (0 : Int32)) ex14 _ _ _ hcl (fun H locs ls hP hD hS hl => ?_) hP hD hS (lv_sub hl [2, 3, 4, 1, 0] rfl)
      refine lv_lconst (v := (0 : Int64)) hx hb dX11_again_63 (by decide) ?_
      refine lv_lstore (lv' := [(5, .long (0 : Int64)), (1, .int a1), (2, .int a2), (3, .long ex14)]) hx hb dX11_again_64 hl (by decide) rfl (fun ls hl => ?_)
      refine lv_iconst (v := (1 : Int32)) hx hb dX11_again_66 (by decide) ?_
      refine lv_istore (lv' := [(7, .int (1 : Int32)), (5, .long (0 : Int64)), (1, .int a1), (2, .int a2), (3, .long ex14)]) hx hb dX11_again_67 hl (by decide) rfl (fun ls hl => ?_)
      obtain ⟨ex15, hcl, hf⟩ := ob_some hf
      refine hL69 ex14 r12.1 r12.2 F ((0 : Int64), (1 : Int32)) ex15 _ _ _ hcl (fun r hr0 => ?_) (fun er16 hr0 H locs ls hP hD hS hl => ?_) hP hD hS (lv_sub hl [2, 3, 4, 1, 0] rfl)
      · subst hr0; exact Option.some.inj (sm_inl hf)
      · subst hr0
        have hf := sm_inr hf
        refine lv_bipush (v := (-4 : Int32)) hx hb dX11_again_103 (by decide) ?_
        obtain rfl := Option.some.inj hf
        exact hQ () 105 _ _ _ dX11_again_105 hP hD hS
    · have hf := if_t hf c11
      exact hJ24 m_many m_figures _ _ _ hf hP hD hS (lv_sub hl [] rfl)
def f_X11_toThe_B5 (F : Nat) (a1 : Int32) (a2 : Int32) (rec : Int64 × Int32 → Option (Int64)) (x : Int64 × Int32) : Option (Int64) := if a2 ≤ x.2 then (some x.1) else (rec ((x.1 * a1.toInt64), (x.2 + (1 : Int32))))
def f_X11_toThe (F : Nat) (a1 : Int32) (a2 : Int32) : Option (Int64) := (lp (f_X11_toThe_B5 F a1 a2) F ((1 : Int64), (0 : Int32))).bind (fun ex2 => some ex2)
abbrev rmX11_toThe : Room := { frames := 0, cells := 0, slots := 0, locals := 0 }
set_option maxHeartbeats 1000000 in
set_option maxRecDepth 100000 in
theorem c_X11_toThe {l : Launch} {D : va_G} {cy : Nat → ClassId} {qM : Nat → Nat} {m_base : Int32} {m_f : Nat → Int32} {m_many : Int32} {m_figures : Nat → Int32} {m_tail : Int32} {m_round : Int32} {m_rounds : Int32} {m_leasts : Nat → Int64} {m_likes : Int32} {m_like : Nat → Int32} {m_isTwo : Nat → Int32} {m_came : Nat → Int32} {m_by : Nat → Int32} {m_queue : Nat → Int32} {m_kind : Int32} {m_parts : Int32} {m_wanted : Int32} {m_allowed : Int32} {m_bitOf : Nat → Int32} {m_met : Int32} {m_row : Nat → Int32} {m_narrows : Int32} {m_narrow : Nat → Int64} {m_isMade : Nat → Int32} {a1 : Int32} {a2 : Int32} {F : Nat} {res : Int64} (hf : f_X11_toThe F a1 a2 = some res) : kM l yX11_toThe wsX11_toThe rmX11_toThe D cy [.ref (qM 0), .int a1, .int a2] (gM cy qM m_base m_f m_many m_figures m_tail m_round m_rounds m_leasts m_likes m_like m_isTwo m_came m_by m_queue m_kind m_parts m_wanted m_allowed m_bitOf m_met m_row m_narrows m_narrow m_isMade) (kQl D cy (fun _ : Unit => gM cy qM m_base m_f m_many m_figures m_tail m_round m_rounds m_leasts m_likes m_like m_isTwo m_came m_by m_queue m_kind m_parts m_wanted m_allowed m_bitOf m_met m_row m_narrows m_narrow m_isMade) res) := by
  refine kent_l (cc := cX11_toThe) (maxL := 6) (by decide) rfl (Nat.le_of_ble_eq_true rfl) ?_
  intro p e0 s m ar below meth c A Q ls ⟨hx, hb, hml, hr, hts, hown, hlocks, hnm⟩ hA hK hN hQ hP hD hS hl
  have hl : lv_has ls 6 [(0, .ref (qM 0)), (1, .int a1), (2, .int a2)] := hl
  have hown : s.vm.findClass RX11 = some m.cls := hown
  unfold f_X11_toThe at hf
  have hL5 : ∀ (k : Nat) (x : Int64 × Int32) (ex : Int64) (H : Heap) (locs : List Loc) (ls : Array Slot), lp (f_X11_toThe_B5 F a1 a2) k x = some ex → (∀ (H : Heap) (locs : List Loc) (ls : Array Slot), va_P D vwCl (gM cy qM m_base m_f m_many m_figures m_tail m_round m_rounds m_leasts m_likes m_like m_isTwo m_came m_by m_queue m_kind m_parts m_wanted m_allowed m_bitOf m_met m_row m_narrows m_narrow m_isMade) H → va_D A (gM cy qM m_base m_f m_many m_figures m_tail m_round m_rounds m_leasts m_likes m_like m_isTwo m_came m_by m_queue m_kind m_parts m_wanted m_allowed m_bitOf m_met m_row m_narrows m_narrow m_isMade) → va_S A s.heap H locs → lv_has ls 6 [(3, .long ex)] → W p l e0 rmX11_toThe s m ar below meth c H locs 0 0 Q (F0 m 22 ls [])) → va_P D vwCl (gM cy qM m_base m_f m_many m_figures m_tail m_round m_rounds m_leasts m_likes m_like m_isTwo m_came m_by m_queue m_kind m_parts m_wanted m_allowed m_bitOf m_met m_row m_narrows m_narrow m_isMade) H → va_D A (gM cy qM m_base m_f m_many m_figures m_tail m_round m_rounds m_leasts m_likes m_like m_isTwo m_came m_by m_queue m_kind m_parts m_wanted m_allowed m_bitOf m_met m_row m_narrows m_narrow m_isMade) → va_S A s.heap H locs → lv_has ls 6 [(1, .int a1), (2, .int a2), (3, .long x.1), (5, .int x.2)] → W p l e0 rmX11_toThe s m ar below meth c H locs 0 0 Q (F0 m 5 ls []) := by
    intro k
    induction k with
    | zero => intro x ex H locs ls hf; exact no_some hf
    | succ k ih =>
      intro x ex H locs ls hf hex hP hD hS hl
      have hf : f_X11_toThe_B5 F a1 a2 (lp (f_X11_toThe_B5 F a1 a2) k) x = some ex := hf
      unfold f_X11_toThe_B5 at hf
      refine lv_iload hx hb dX11_toThe_5 (lv_at hl 3 rfl) ?_
      refine lv_iload_n hx hb dX11_toThe_7 rfl (lv_at hl 1 rfl) ?_
      refine lv_icmp_ge (tgt := 22) hx hb dX11_toThe_8 (by decide) (fun c1 => ?_) (fun c1 => ?_)
      · have hf := if_t hf c1
        obtain rfl := Option.some.inj hf
        exact hex _ _ _ hP hD hS (lv_sub hl [2] rfl)
      · have hf := if_f hf c1
        refine lv_lload_n hx hb dX11_toThe_11 rfl (lv_at hl 2 rfl) ?_
        refine lv_iload_n hx hb dX11_toThe_12 rfl (lv_at hl 0 rfl) ?_
        refine lv_i2l hx hb dX11_toThe_13 rfl ?_
        refine lv_lmul hx hb dX11_toThe_14 ?_
        refine lv_lstore_n (lv' := [(3, .long (x.1 * a1.toInt64)), (1, .int a1), (2, .int a2), (5, .int x.2)]) hx hb dX11_toThe_15 rfl hl (by decide) rfl (fun ls hl => ?_)
        refine lv_iinc (v := (x.2 + (1 : Int32))) (lv' := [(5, .int (x.2 + (1 : Int32))), (3, .long (x.1 * a1.toInt64)), (1, .int a1), (2, .int a2)]) hx hb dX11_toThe_16 hl (k := 3) rfl rfl (by decide) rfl (fun ls hl => ?_)
        refine lv_goto (tgt := 5) hx hb dX11_toThe_19 (by decide) ?_
        exact ih ((x.1 * a1.toInt64), (x.2 + (1 : Int32))) ex _ _ _ hf hex hP hD hS (lv_sub hl [2, 3, 1, 0] rfl)
  refine lv_lconst (v := (1 : Int64)) hx hb dX11_toThe_0 (by decide) ?_
  refine lv_lstore_n (lv' := [(3, .long (1 : Int64)), (0, .ref (qM 0)), (1, .int a1), (2, .int a2)]) hx hb dX11_toThe_1 rfl hl (by decide) rfl (fun ls hl => ?_)
  refine lv_iconst (v := (0 : Int32)) hx hb dX11_toThe_2 (by decide) ?_
  refine lv_istore (lv' := [(5, .int (0 : Int32)), (3, .long (1 : Int64)), (0, .ref (qM 0)), (1, .int a1), (2, .int a2)]) hx hb dX11_toThe_3 hl (by decide) rfl (fun ls hl => ?_)
  obtain ⟨ex2, hcl, hf⟩ := ob_some hf
  refine hL5 F ((1 : Int64), (0 : Int32)) ex2 _ _ _ hcl (fun H locs ls hP hD hS hl => ?_) hP hD hS (lv_sub hl [3, 4, 1, 0] rfl)
  refine lv_lload_n hx hb dX11_toThe_22 rfl (lv_at hl 0 rfl) ?_
  obtain rfl := Option.some.inj hf
  exact hQ () 23 _ _ _ dX11_toThe_23 hP hD hS
def f_X11_hasRow_J105 (F : Nat) (rec : (Int32 × Int32) → Option (Int32)) (x5 : Int32) (s0 : Int32) : Option (Int32) := rec (s0, (x5 + (1 : Int32)))
def f_X11_hasRow_J85 (F : Nat) (rec : (Int32 × Int32) → Option (Int32)) (x7 : Int32) (s0 : Int32) (s1 : Int32) (s2 : Int32) : Option (Int32) := rec ((s0 + (s1 - s2)), (x7 + (1 : Int32)))
def f_X11_hasRow_J68 (F : Nat) (m_figures : Nat → Int32) (x5 : Int32) (rec : (Int32 × Int32) → Option (Int32)) (x7 : Int32) (s0 : Int32) (s1 : Int32) : Option (Int32) := ck (¬ (x7 < 0 ∨ 64 ≤ x7.toNatClampNeg)) (if (m_figures x7.toNatClampNeg) = x5 then (f_X11_hasRow_J85 F rec x7 s0 s1 (1 : Int32)) else (f_X11_hasRow_J85 F rec x7 s0 s1 (0 : Int32)))
def f_X11_hasRow_B43 (F : Nat) (a3 : Int32) (m_row : Nat → Int32) (x5 : Int32) (m_many : Int32) (m_figures : Nat → Int32) (rec : Int32 × Int32 → Option (Int32)) (x : Int32 × Int32) : Option (Int32) := if a3 ≤ x.2 then (some x.1) else (ck (¬ (x.2 < 0 ∨ 6 ≤ x.2.toNatClampNeg)) (if (m_row x.2.toNatClampNeg) = x5 then (f_X11_hasRow_J68 F m_figures x5 rec x.2 x.1 (1 : Int32)) else (f_X11_hasRow_J68 F m_figures x5 rec x.2 x.1 (0 : Int32))))
def f_X11_hasRow_B23 (F : Nat) (a3 : Int32) (m_base : Int32) (m_row : Nat → Int32) (m_many : Int32) (m_figures : Nat → Int32) (rec : Int32 × Int32 → Option (Int32)) (x : Int32 × Int32) : Option (Int32) := if m_base ≤ x.2 then (some x.1) else (if x.1 = 0 then (some x.1) else ((lp (f_X11_hasRow_B43 F a3 m_row x.2 m_many m_figures) F ((0 : Int32), (0 : Int32))).bind (fun ex8 => if ex8 = 0 then (f_X11_hasRow_J105 F rec x.2 (1 : Int32)) else (f_X11_hasRow_J105 F rec x.2 (0 : Int32)))))
def f_X11_hasRow_J18 (F : Nat) (a3 : Int32) (m_base : Int32) (m_row : Nat → Int32) (s0 : Int32) (m_many : Int32) (m_figures : Nat → Int32) : Option (Int32 × Int32 × (Nat → Int32)) := (lp (f_X11_hasRow_B23 F a3 m_base m_row m_many m_figures) F (s0, (0 : Int32))).bind (fun ex10 => ck (ex10 &&& 1 = ex10) (some (ex10, m_many, m_figures)))
def f_X11_hasRow (F : Nat) (a1 : Int64) (a3 : Int32) (m_base : Int32) (m_many : Int32) (m_figures : Nat → Int32) (m_row : Nat → Int32) : Option (Int32 × Int32 × (Nat → Int32)) := (f_X11_lay F a1 m_base m_many m_figures).bind (fun r11 => if r11.1 = a3 then (f_X11_hasRow_J18 F a3 m_base m_row (1 : Int32) r11.1 r11.2) else (f_X11_hasRow_J18 F a3 m_base m_row (0 : Int32) r11.1 r11.2))
abbrev rmX11_hasRow : Room := { frames := 1, cells := 0, slots := 0, locals := 24 }
set_option maxHeartbeats 1000000 in
set_option maxRecDepth 100000 in
theorem c_X11_hasRow {l : Launch} {D : va_G} {cy : Nat → ClassId} {qM : Nat → Nat} {m_base : Int32} {m_f : Nat → Int32} {m_many : Int32} {m_figures : Nat → Int32} {m_tail : Int32} {m_round : Int32} {m_rounds : Int32} {m_leasts : Nat → Int64} {m_likes : Int32} {m_like : Nat → Int32} {m_isTwo : Nat → Int32} {m_came : Nat → Int32} {m_by : Nat → Int32} {m_queue : Nat → Int32} {m_kind : Int32} {m_parts : Int32} {m_wanted : Int32} {m_allowed : Int32} {m_bitOf : Nat → Int32} {m_met : Int32} {m_row : Nat → Int32} {m_narrows : Int32} {m_narrow : Nat → Int64} {m_isMade : Nat → Int32} {a1 : Int64} {a3 : Int32} {F : Nat} {res : Int32 × Int32 × (Nat → Int32)} (hf : f_X11_hasRow F a1 a3 m_base m_many m_figures m_row = some res) : kM l yX11_hasRow wsX11_hasRow rmX11_hasRow D cy [.ref (qM 0), .long a1, .int a3] (gM cy qM m_base m_f m_many m_figures m_tail m_round m_rounds m_leasts m_likes m_like m_isTwo m_came m_by m_queue m_kind m_parts m_wanted m_allowed m_bitOf m_met m_row m_narrows m_narrow m_isMade) (kQi D cy (fun _ : Unit => gM cy qM m_base m_f res.2.1 res.2.2 m_tail m_round m_rounds m_leasts m_likes m_like m_isTwo m_came m_by m_queue m_kind m_parts m_wanted m_allowed m_bitOf m_met m_row m_narrows m_narrow m_isMade) res.1) := by
  refine kent_z (cc := cX11_hasRow) (maxL := 8) (by decide) rfl (Nat.le_of_ble_eq_true rfl) ?_
  intro p e0 s m ar below meth c A Q ls ⟨hx, hb, hml, hr, hts, hown, hlocks, hnm⟩ hA hK hN hQ hP hD hS hl
  have hl : lv_has ls 8 [(0, .ref (qM 0)), (1, .long a1), (3, .int a3)] := hl
  have hown : s.vm.findClass RX11 = some m.cls := hown
  have huX11 : ∀ x ∈ u_ws RX11 TX11 24, x ∈ wsX11_hasRow := by decide +kernel
  have fk17 : (Cond.fieldLink RX11 17 "FigurePlayModel" "figures" "[I").before ar s = true := hts _ (by decide +kernel)
  have fk44 : (Cond.fieldLink RX11 44 "FigurePlayModel" "row" "[I").before ar s = true := hts _ (by decide +kernel)
  have fk7 : (Cond.fieldLink RX11 7 "FigurePlayModel" "base" "I").before ar s = true := hts _ (by decide +kernel)
  have fk65 : (Cond.fieldLink RX11 65 "FigurePlayModel" "many" "I").before ar s = true := hts _ (by decide +kernel)
  unfold f_X11_hasRow at hf
  have hL23 : ∀ (m_many : Int32) (m_figures : Nat → Int32) (k : Nat) (x : Int32 × Int32) (ex : Int32) (H : Heap) (locs : List Loc) (ls : Array Slot), lp (f_X11_hasRow_B23 F a3 m_base m_row m_many m_figures) k x = some ex → (∀ (H : Heap) (locs : List Loc) (ls : Array Slot), va_P D vwCl (gM cy qM m_base m_f m_many m_figures m_tail m_round m_rounds m_leasts m_likes m_like m_isTwo m_came m_by m_queue m_kind m_parts m_wanted m_allowed m_bitOf m_met m_row m_narrows m_narrow m_isMade) H → va_D A (gM cy qM m_base m_f m_many m_figures m_tail m_round m_rounds m_leasts m_likes m_like m_isTwo m_came m_by m_queue m_kind m_parts m_wanted m_allowed m_bitOf m_met m_row m_narrows m_narrow m_isMade) → va_S A s.heap H locs → lv_has ls 8 [(4, .int ex)] → W p l e0 rmX11_hasRow s m ar below meth c H locs 0 0 Q (F0 m 113 ls [])) → va_P D vwCl (gM cy qM m_base m_f m_many m_figures m_tail m_round m_rounds m_leasts m_likes m_like m_isTwo m_came m_by m_queue m_kind m_parts m_wanted m_allowed m_bitOf m_met m_row m_narrows m_narrow m_isMade) H → va_D A (gM cy qM m_base m_f m_many m_figures m_tail m_round m_rounds m_leasts m_likes m_like m_isTwo m_came m_by m_queue m_kind m_parts m_wanted m_allowed m_bitOf m_met m_row m_narrows m_narrow m_isMade) → va_S A s.heap H locs → lv_has ls 8 [(0, .ref (qM 0)), (3, .int a3), (4, .int x.1), (5, .int x.2)] → W p l e0 rmX11_hasRow s m ar below meth c H locs 0 0 Q (F0 m 23 ls []) := by
    intro m_many m_figures k
    induction k with
    | zero => intro x ex H locs ls hf; exact no_some hf
    | succ k ih =>
      intro x ex H locs ls hf hex hP hD hS hl
      have hf : f_X11_hasRow_B23 F a3 m_base m_row m_many m_figures (lp (f_X11_hasRow_B23 F a3 m_base m_row m_many m_figures) k) x = some ex := hf
      unfold f_X11_hasRow_B23 at hf
      have hJ105 : ∀ (x5 : Int32) (s0 : Int32) (H : Heap) (locs : List Loc) (ls : Array Slot), f_X11_hasRow_J105 F (lp (f_X11_hasRow_B23 F a3 m_base m_row m_many m_figures) k) x5 s0 = some ex → va_P D vwCl (gM cy qM m_base m_f m_many m_figures m_tail m_round m_rounds m_leasts m_likes m_like m_isTwo m_came m_by m_queue m_kind m_parts m_wanted m_allowed m_bitOf m_met m_row m_narrows m_narrow m_isMade) H → va_D A (gM cy qM m_base m_f m_many m_figures m_tail m_round m_rounds m_leasts m_likes m_like m_isTwo m_came m_by m_queue m_kind m_parts m_wanted m_allowed m_bitOf m_met m_row m_narrows m_narrow m_isMade) → va_S A s.heap H locs → lv_has ls 8 [(0, .ref (qM 0)), (3, .int a3), (5, .int x5)] → W p l e0 rmX11_hasRow s m ar below meth c H locs 0 0 Q (F0 m 105 ls [.int s0]) := by
        intro x5 s0 H locs ls hf hP hD hS hl
        unfold f_X11_hasRow_J105 at hf
        refine lv_istore (lv' := [(4, .int s0), (0, .ref (qM 0)), (3, .int a3), (5, .int x5)]) hx hb dX11_hasRow_105 hl (by decide) rfl (fun ls hl => ?_)
        refine lv_iinc (v := (x5 + (1 : Int32))) (lv' := [(5, .int (x5 + (1 : Int32))), (4, .int s0), (0, .ref (qM 0)), (3, .int a3)]) hx hb dX11_hasRow_107 hl (k := 3) rfl rfl (by decide) rfl (fun ls hl => ?_)
        refine lv_goto (tgt := 23) hx hb dX11_hasRow_110 (by decide) ?_
        exact ih (s0, (x5 + (1 : Int32))) ex _ _ _ hf hex hP hD hS (lv_sub hl [2, 3, 1, 0] rfl)
      have hL43 : ∀ (x5 : Int32) (m_many : Int32) (m_figures : Nat → Int32) (k : Nat) (x : Int32 × Int32) (ex : Int32) (H : Heap) (locs : List Loc) (ls : Array Slot), lp (f_X11_hasRow_B43 F a3 m_row x5 m_many m_figures) k x = some ex → (∀ (H : Heap) (locs : List Loc) (ls : Array Slot), va_P D vwCl (gM cy qM m_base m_f m_many m_figures m_tail m_round m_rounds m_leasts m_likes m_like m_isTwo m_came m_by m_queue m_kind m_parts m_wanted m_allowed m_bitOf m_met m_row m_narrows m_narrow m_isMade) H → va_D A (gM cy qM m_base m_f m_many m_figures m_tail m_round m_rounds m_leasts m_likes m_like m_isTwo m_came m_by m_queue m_kind m_parts m_wanted m_allowed m_bitOf m_met m_row m_narrows m_narrow m_isMade) → va_S A s.heap H locs → lv_has ls 8 [(0, .ref (qM 0)), (3, .int a3), (5, .int x5), (6, .int ex)] → W p l e0 rmX11_hasRow s m ar below meth c H locs 0 0 Q (F0 m 95 ls [])) → va_P D vwCl (gM cy qM m_base m_f m_many m_figures m_tail m_round m_rounds m_leasts m_likes m_like m_isTwo m_came m_by m_queue m_kind m_parts m_wanted m_allowed m_bitOf m_met m_row m_narrows m_narrow m_isMade) H → va_D A (gM cy qM m_base m_f m_many m_figures m_tail m_round m_rounds m_leasts m_likes m_like m_isTwo m_came m_by m_queue m_kind m_parts m_wanted m_allowed m_bitOf m_met m_row m_narrows m_narrow m_isMade) → va_S A s.heap H locs → lv_has ls 8 [(0, .ref (qM 0)), (3, .int a3), (5, .int x5), (6, .int x.1), (7, .int x.2)] → W p l e0 rmX11_hasRow s m ar below meth c H locs 0 0 Q (F0 m 43 ls []) := by
        intro x5 m_many m_figures k
        induction k with
        | zero => intro x ex H locs ls hf; exact no_some hf
        | succ k ih =>
          intro x ex H locs ls hf hex hP hD hS hl
          have hf : f_X11_hasRow_B43 F a3 m_row x5 m_many m_figures (lp (f_X11_hasRow_B43 F a3 m_row x5 m_many m_figures) k) x = some ex := hf
          unfold f_X11_hasRow_B43 at hf
          have hJ85 : ∀ (x7 : Int32) (s0 : Int32) (s1 : Int32) (s2 : Int32) (H : Heap) (locs : List Loc) (ls : Array Slot), f_X11_hasRow_J85 F (lp (f_X11_hasRow_B43 F a3 m_row x5 m_many m_figures) k) x7 s0 s1 s2 = some ex → va_P D vwCl (gM cy qM m_base m_f m_many m_figures m_tail m_round m_rounds m_leasts m_likes m_like m_isTwo m_came m_by m_queue m_kind m_parts m_wanted m_allowed m_bitOf m_met m_row m_narrows m_narrow m_isMade) H → va_D A (gM cy qM m_base m_f m_many m_figures m_tail m_round m_rounds m_leasts m_likes m_like m_isTwo m_came m_by m_queue m_kind m_parts m_wanted m_allowed m_bitOf m_met m_row m_narrows m_narrow m_isMade) → va_S A s.heap H locs → lv_has ls 8 [(0, .ref (qM 0)), (3, .int a3), (5, .int x5), (7, .int x7)] → W p l e0 rmX11_hasRow s m ar below meth c H locs 0 0 Q (F0 m 85 ls [.int s2, .int s1, .int s0]) := by
            intro x7 s0 s1 s2 H locs ls hf hP hD hS hl
            unfold f_X11_hasRow_J85 at hf
            refine lv_isub hx hb dX11_hasRow_85 ?_
            refine lv_iadd hx hb dX11_hasRow_86 ?_
            refine lv_istore (lv' := [(6, .int (s0 + (s1 - s2))), (0, .ref (qM 0)), (3, .int a3), (5, .int x5), (7, .int x7)]) hx hb dX11_hasRow_87 hl (by decide) rfl (fun ls hl => ?_)
            refine lv_iinc (v := (x7 + (1 : Int32))) (lv' := [(7, .int (x7 + (1 : Int32))), (6, .int (s0 + (s1 - s2))), (0, .ref (qM 0)), (3, .int a3), (5, .int x5)]) hx hb dX11_hasRow_89 hl (k := 4) rfl rfl (by decide) rfl (fun ls hl => ?_)
            refine lv_goto (tgt := 43) hx hb dX11_hasRow_92 (by decide) ?_
            exact ih ((s0 + (s1 - s2)), (x7 + (1 : Int32))) ex _ _ _ hf hex hP hD hS (lv_sub hl [2, 3, 4, 1, 0] rfl)
          have hJ68 : ∀ (x7 : Int32) (s0 : Int32) (s1 : Int32) (H : Heap) (locs : List Loc) (ls : Array Slot), f_X11_hasRow_J68 F m_figures x5 (lp (f_X11_hasRow_B43 F a3 m_row x5 m_many m_figures) k) x7 s0 s1 = some ex → va_P D vwCl (gM cy qM m_base m_f m_many m_figures m_tail m_round m_rounds m_leasts m_likes m_like m_isTwo m_came m_by m_queue m_kind m_parts m_wanted m_allowed m_bitOf m_met m_row m_narrows m_narrow m_isMade) H → va_D A (gM cy qM m_base m_f m_many m_figures m_tail m_round m_rounds m_leasts m_likes m_like m_isTwo m_came m_by m_queue m_kind m_parts m_wanted m_allowed m_bitOf m_met m_row m_narrows m_narrow m_isMade) → va_S A s.heap H locs → lv_has ls 8 [(0, .ref (qM 0)), (3, .int a3), (5, .int x5), (7, .int x7)] → W p l e0 rmX11_hasRow s m ar below meth c H locs 0 0 Q (F0 m 68 ls [.int s1, .int s0]) := by
            intro x7 s0 s1 H locs ls hf hP hD hS hl
            unfold f_X11_hasRow_J68 at hf
            refine lv_aload_n hx hb dX11_hasRow_68 rfl (lv_at hl 0 rfl) ?_
            refine va_get (v := .ref (qM 2)) (D := D) (ci := 11) (C := RX11) (T := TX11) (N := 24) hx hb hts huX11 hown hK hP 0 rfl rfl 3 (by decide) fk17 (fun _ h9 => h9) rfl dX11_hasRow_69 ?_
            refine lv_iload hx hb dX11_hasRow_72 (lv_at hl 3 rfl) ?_
            obtain ⟨c1, hf⟩ := ck_some hf
            refine va_iald hx hb hK hP 2 0 rfl rfl c1 dX11_hasRow_74 ?_
            refine lv_iload hx hb dX11_hasRow_75 (lv_at hl 2 rfl) ?_
            refine lv_icmp_ne (tgt := 84) hx hb dX11_hasRow_77 (by decide) (fun c2 => ?_) (fun c2 => ?_)
            · have hf := if_f hf c2
              refine lv_iconst (v := (0 : Int32)) hx hb dX11_hasRow_84 (by decide) ?_
              exact hJ85 x7 s0 s1 (0 : Int32) _ _ _ hf hP hD hS (lv_sub hl [0, 1, 2, 3] rfl)
            · have hf := if_t hf c2
              refine lv_iconst (v := (1 : Int32)) hx hb dX11_hasRow_80 (by decide) ?_
              refine lv_goto (tgt := 85) hx hb dX11_hasRow_81 (by decide) ?_
              exact hJ85 x7 s0 s1 (1 : Int32) _ _ _ hf hP hD hS (lv_sub hl [0, 1, 2, 3] rfl)
          refine lv_iload hx hb dX11_hasRow_43 (lv_at hl 4 rfl) ?_
          refine lv_iload_n hx hb dX11_hasRow_45 rfl (lv_at hl 1 rfl) ?_
          refine lv_icmp_ge (tgt := 95) hx hb dX11_hasRow_46 (by decide) (fun c3 => ?_) (fun c3 => ?_)
          · have hf := if_t hf c3
            obtain rfl := Option.some.inj hf
            exact hex _ _ _ hP hD hS (lv_sub hl [0, 1, 2, 3] rfl)
          · have hf := if_f hf c3
            refine lv_iload hx hb dX11_hasRow_49 (lv_at hl 3 rfl) ?_
            refine lv_aload_n hx hb dX11_hasRow_51 rfl (lv_at hl 0 rfl) ?_
            refine va_get (v := .ref (qM 10)) (D := D) (ci := 11) (C := RX11) (T := TX11) (N := 24) hx hb hts huX11 hown hK hP 0 rfl rfl 20 (by decide) fk44 (fun _ h9 => h9) rfl dX11_hasRow_52 ?_
            refine lv_iload hx hb dX11_hasRow_55 (lv_at hl 4 rfl) ?_
            obtain ⟨c4, hf⟩ := ck_some hf
            refine va_iald hx hb hK hP 10 0 rfl rfl c4 dX11_hasRow_57 ?_
            refine lv_iload hx hb dX11_hasRow_58 (lv_at hl 2 rfl) ?_
            refine lv_icmp_ne (tgt := 67) hx hb dX11_hasRow_60 (by decide) (fun c5 => ?_) (fun c5 => ?_)
            · have hf := if_f hf c5
              refine lv_iconst (v := (0 : Int32)) hx hb dX11_hasRow_67 (by decide) ?_
              exact hJ68 x.2 x.1 (0 : Int32) _ _ _ hf hP hD hS (lv_sub hl [0, 1, 2, 4] rfl)
            · have hf := if_t hf c5
              refine lv_iconst (v := (1 : Int32)) hx hb dX11_hasRow_63 (by decide) ?_
              refine lv_goto (tgt := 68) hx hb dX11_hasRow_64 (by decide) ?_
              exact hJ68 x.2 x.1 (1 : Int32) _ _ _ hf hP hD hS (lv_sub hl [0, 1, 2, 4] rfl)
      refine lv_iload hx hb dX11_hasRow_23 (lv_at hl 3 rfl) ?_
      refine lv_aload_n hx hb dX11_hasRow_25 rfl (lv_at hl 0 rfl) ?_
      refine va_get (D := D) (ci := 11) (C := RX11) (T := TX11) (N := 24) hx hb hts huX11 hown hK hP 0 rfl rfl 0 (by decide) fk7 (fun _ h9 => h9) rfl dX11_hasRow_26 ?_
      refine lv_icmp_ge (tgt := 113) hx hb dX11_hasRow_29 (by decide) (fun c6 => ?_) (fun c6 => ?_)
      · have hf := if_t hf c6
        obtain rfl := Option.some.inj hf
        exact hex _ _ _ hP hD hS (lv_sub hl [2] rfl)
      · have hf := if_f hf c6
        refine lv_iload hx hb dX11_hasRow_32 (lv_at hl 2 rfl) ?_
        refine lv_if_eq (tgt := 113) hx hb dX11_hasRow_34 (by decide) (fun c7 => ?_) (fun c7 => ?_)
        · have hf := if_t hf c7
          obtain rfl := Option.some.inj hf
          exact hex _ _ _ hP hD hS (lv_sub hl [2] rfl)
        · have hf := if_f hf c7
          refine lv_iconst (v := (0 : Int32)) hx hb dX11_hasRow_37 (by decide) ?_
          refine lv_istore (lv' := [(6, .int (0 : Int32)), (0, .ref (qM 0)), (3, .int a3), (4, .int x.1), (5, .int x.2)]) hx hb dX11_hasRow_38 hl (by decide) rfl (fun ls hl => ?_)
          refine lv_iconst (v := (0 : Int32)) hx hb dX11_hasRow_40 (by decide) ?_
          refine lv_istore (lv' := [(7, .int (0 : Int32)), (6, .int (0 : Int32)), (0, .ref (qM 0)), (3, .int a3), (4, .int x.1), (5, .int x.2)]) hx hb dX11_hasRow_41 hl (by decide) rfl (fun ls hl => ?_)
          obtain ⟨ex8, hcl, hf⟩ := ob_some hf
          refine hL43 x.2 m_many m_figures F ((0 : Int32), (0 : Int32)) ex8 _ _ _ hcl (fun H locs ls hP hD hS hl => ?_) hP hD hS (lv_sub hl [2, 3, 5, 1, 0] rfl)
          refine lv_iload hx hb dX11_hasRow_95 (lv_at hl 3 rfl) ?_
          refine lv_if_ne (tgt := 104) hx hb dX11_hasRow_97 (by decide) (fun c9 => ?_) (fun c9 => ?_)
          · have hf := if_f hf c9
            refine lv_iconst (v := (0 : Int32)) hx hb dX11_hasRow_104 (by decide) ?_
            exact hJ105 x.2 (0 : Int32) _ _ _ hf hP hD hS (lv_sub hl [0, 1, 2] rfl)
          · have hf := if_t hf c9
            refine lv_iconst (v := (1 : Int32)) hx hb dX11_hasRow_100 (by decide) ?_
            refine lv_goto (tgt := 105) hx hb dX11_hasRow_101 (by decide) ?_
            exact hJ105 x.2 (1 : Int32) _ _ _ hf hP hD hS (lv_sub hl [0, 1, 2] rfl)
  have hJ18 : ∀ (s0 : Int32) (m_many : Int32) (m_figures : Nat → Int32) (H : Heap) (locs : List Loc) (ls : Array Slot), f_X11_hasRow_J18 F a3 m_base m_row s0 m_many m_figures = some res → va_P D vwCl (gM cy qM m_base m_f m_many m_figures m_tail m_round m_rounds m_leasts m_likes m_like m_isTwo m_came m_by m_queue m_kind m_parts m_wanted m_allowed m_bitOf m_met m_row m_narrows m_narrow m_isMade) H → va_D A (gM cy qM m_base m_f m_many m_figures m_tail m_round m_rounds m_leasts m_likes m_like m_isTwo m_came m_by m_queue m_kind m_parts m_wanted m_allowed m_bitOf m_met m_row m_narrows m_narrow m_isMade) → va_S A s.heap H locs → lv_has ls 8 [(0, .ref (qM 0)), (3, .int a3)] → W p l e0 rmX11_hasRow s m ar below meth c H locs 0 0 Q (F0 m 18 ls [.int s0]) := by
    intro s0 m_many m_figures H locs ls hf hP hD hS hl
    unfold f_X11_hasRow_J18 at hf
    refine lv_istore (lv' := [(4, .int s0), (0, .ref (qM 0)), (3, .int a3)]) hx hb dX11_hasRow_18 hl (by decide) rfl (fun ls hl => ?_)
    refine lv_iconst (v := (0 : Int32)) hx hb dX11_hasRow_20 (by decide) ?_
    refine lv_istore (lv' := [(5, .int (0 : Int32)), (4, .int s0), (0, .ref (qM 0)), (3, .int a3)]) hx hb dX11_hasRow_21 hl (by decide) rfl (fun ls hl => ?_)
    obtain ⟨ex10, hcl, hf⟩ := ob_some hf
    refine hL23 m_many m_figures F (s0, (0 : Int32)) ex10 _ _ _ hcl (fun H locs ls hP hD hS hl => ?_) hP hD hS (lv_sub hl [2, 3, 1, 0] rfl)
    refine lv_iload hx hb dX11_hasRow_113 (lv_at hl 0 rfl) ?_
    obtain ⟨cz, hf⟩ := ck_some hf
    obtain rfl := Option.some.inj hf
    exact hQ () 115 _ _ _ cz dX11_hasRow_115 hP hD hS
  refine lv_aload_n hx hb dX11_hasRow_0 rfl (lv_at hl 0 rfl) ?_
  refine lv_lload_n hx hb dX11_hasRow_1 rfl (lv_at hl 1 rfl) ?_
  obtain ⟨r11, hc12, hf⟩ := ob_some hf
  refine kc_v (k_run ⟨hx, hb, hml, hown, hts⟩ (c_X11_lay hc12) (cwV 1 hts gX11_hasRow_X11_lay rfl rfl rfl (by decide +kernel) ⟨Nat.le_of_ble_eq_true rfl, Nat.le_of_ble_eq_true rfl⟩) hK hN hP hD kA_s (ci := 11) (q0 := 0) rfl rfl rfl rfl hl.1 rfl (Nat.le_of_ble_eq_true rfl) dX11_hasRow_2 ⟨Nat.le_of_ble_eq_true rfl, Nat.le_of_ble_eq_true rfl⟩) hP hD hS hA kI_s (fun _ H locs hP hD hS => ?_)
  refine lv_aload_n hx hb dX11_hasRow_5 rfl (lv_at hl 0 rfl) ?_
  refine va_get (D := D) (ci := 11) (C := RX11) (T := TX11) (N := 24) hx hb hts huX11 hown hK hP 0 rfl rfl 2 (by decide) fk65 (fun _ h9 => h9) rfl dX11_hasRow_6 ?_
  refine lv_iload_n hx hb dX11_hasRow_9 rfl (lv_at hl 2 rfl) ?_
  refine lv_icmp_ne (tgt := 17) hx hb dX11_hasRow_10 (by decide) (fun c13 => ?_) (fun c13 => ?_)
  · have hf := if_f hf c13
    refine lv_iconst (v := (0 : Int32)) hx hb dX11_hasRow_17 (by decide) ?_
    exact hJ18 (0 : Int32) r11.1 r11.2 _ _ _ hf hP hD hS (lv_sub hl [0, 2] rfl)
  · have hf := if_t hf c13
    refine lv_iconst (v := (1 : Int32)) hx hb dX11_hasRow_13 (by decide) ?_
    refine lv_goto (tgt := 18) hx hb dX11_hasRow_14 (by decide) ?_
    exact hJ18 (1 : Int32) r11.1 r11.2 _ _ _ hf hP hD hS (lv_sub hl [0, 2] rfl)
def f_X11_addNarrow_B5 (F : Nat) (a1 : Int64) (m_narrows : Int32) (rec : Int32 × (Nat → Int64) → Option (Int32 × (Nat → Int64))) (x : Int32 × (Nat → Int64)) : Option (Int32 × (Nat → Int64)) := if x.1 ≤ 0 then (some (x.1, x.2)) else (ck (¬ ((x.1 - (1 : Int32)) < 0 ∨ 200 ≤ (x.1 - (1 : Int32)).toNatClampNeg)) (if (x.2 (x.1 - (1 : Int32)).toNatClampNeg) ≤ a1 then (some (x.1, x.2)) else (ck (¬ ((x.1 - (1 : Int32)) < 0 ∨ 200 ≤ (x.1 - (1 : Int32)).toNatClampNeg)) (ck (¬ (x.1 < 0 ∨ 200 ≤ x.1.toNatClampNeg)) (rec ((x.1 + (-1 : Int32)), (vp_updL x.2 x.1.toNatClampNeg (x.2 (x.1 - (1 : Int32)).toNatClampNeg))))))))
def f_X11_addNarrow (F : Nat) (a1 : Int64) (m_narrows : Int32) (m_narrow : Nat → Int64) : Option (Int32 × (Nat → Int64)) := (lp (f_X11_addNarrow_B5 F a1 m_narrows) F (m_narrows, m_narrow)).bind (fun ex6 => ck (¬ (ex6.1 < 0 ∨ 200 ≤ ex6.1.toNatClampNeg)) (some ((m_narrows + (1 : Int32)), (vp_updL ex6.2 ex6.1.toNatClampNeg a1))))
abbrev rmX11_addNarrow : Room := { frames := 0, cells := 0, slots := 0, locals := 0 }
set_option maxHeartbeats 1000000 in
set_option maxRecDepth 100000 in
theorem c_X11_addNarrow {l : Launch} {D : va_G} {cy : Nat → ClassId} {qM : Nat → Nat} {m_base : Int32} {m_f : Nat → Int32} {m_many : Int32} {m_figures : Nat → Int32} {m_tail : Int32} {m_round : Int32} {m_rounds : Int32} {m_leasts : Nat → Int64} {m_likes : Int32} {m_like : Nat → Int32} {m_isTwo : Nat → Int32} {m_came : Nat → Int32} {m_by : Nat → Int32} {m_queue : Nat → Int32} {m_kind : Int32} {m_parts : Int32} {m_wanted : Int32} {m_allowed : Int32} {m_bitOf : Nat → Int32} {m_met : Int32} {m_row : Nat → Int32} {m_narrows : Int32} {m_narrow : Nat → Int64} {m_isMade : Nat → Int32} {a1 : Int64} {F : Nat} {res : Int32 × (Nat → Int64)} (hf : f_X11_addNarrow F a1 m_narrows m_narrow = some res) : kM l yX11_addNarrow wsX11_addNarrow rmX11_addNarrow D cy [.ref (qM 0), .long a1] (gM cy qM m_base m_f m_many m_figures m_tail m_round m_rounds m_leasts m_likes m_like m_isTwo m_came m_by m_queue m_kind m_parts m_wanted m_allowed m_bitOf m_met m_row m_narrows m_narrow m_isMade) (kQv D cy (fun _ : Unit => gM cy qM m_base m_f m_many m_figures m_tail m_round m_rounds m_leasts m_likes m_like m_isTwo m_came m_by m_queue m_kind m_parts m_wanted m_allowed m_bitOf m_met m_row res.1 res.2 m_isMade)) := by
  refine kent_v (cc := cX11_addNarrow) (maxL := 4) (by decide) rfl (Nat.le_of_ble_eq_true rfl) ?_
  intro p e0 s m ar below meth c A Q ls ⟨hx, hb, hml, hr, hts, hown, hlocks, hnm⟩ hA hK hN hQ hP hD hS hl
  have hl : lv_has ls 4 [(0, .ref (qM 0)), (1, .long a1)] := hl
  have hown : s.vm.findClass RX11 = some m.cls := hown
  have huX11 : ∀ x ∈ u_ws RX11 TX11 24, x ∈ wsX11_addNarrow := by decide +kernel
  have fk47 : (Cond.fieldLink RX11 47 "FigurePlayModel" "narrow" "[J").before ar s = true := hts _ (by decide +kernel)
  have fk198 : (Cond.fieldLink RX11 198 "FigurePlayModel" "narrows" "I").before ar s = true := hts _ (by decide +kernel)
  unfold f_X11_addNarrow at hf
  have hL5 : ∀ (m_narrows : Int32) (k : Nat) (x : Int32 × (Nat → Int64)) (ex : Int32 × (Nat → Int64)) (H : Heap) (locs : List Loc) (ls : Array Slot), lp (f_X11_addNarrow_B5 F a1 m_narrows) k x = some ex → (∀ (H : Heap) (locs : List Loc) (ls : Array Slot), va_P D vwCl (gM cy qM m_base m_f m_many m_figures m_tail m_round m_rounds m_leasts m_likes m_like m_isTwo m_came m_by m_queue m_kind m_parts m_wanted m_allowed m_bitOf m_met m_row m_narrows ex.2 m_isMade) H → va_D A (gM cy qM m_base m_f m_many m_figures m_tail m_round m_rounds m_leasts m_likes m_like m_isTwo m_came m_by m_queue m_kind m_parts m_wanted m_allowed m_bitOf m_met m_row m_narrows ex.2 m_isMade) → va_S A s.heap H locs → lv_has ls 4 [(0, .ref (qM 0)), (1, .long a1), (3, .int ex.1)] → W p l e0 rmX11_addNarrow s m ar below meth c H locs 0 0 Q (F0 m 42 ls [])) → va_P D vwCl (gM cy qM m_base m_f m_many m_figures m_tail m_round m_rounds m_leasts m_likes m_like m_isTwo m_came m_by m_queue m_kind m_parts m_wanted m_allowed m_bitOf m_met m_row m_narrows x.2 m_isMade) H → va_D A (gM cy qM m_base m_f m_many m_figures m_tail m_round m_rounds m_leasts m_likes m_like m_isTwo m_came m_by m_queue m_kind m_parts m_wanted m_allowed m_bitOf m_met m_row m_narrows x.2 m_isMade) → va_S A s.heap H locs → lv_has ls 4 [(0, .ref (qM 0)), (1, .long a1), (3, .int x.1)] → W p l e0 rmX11_addNarrow s m ar below meth c H locs 0 0 Q (F0 m 5 ls []) := by
    intro m_narrows k
    induction k with
    | zero => intro x ex H locs ls hf; exact no_some hf
    | succ k ih =>
      intro x ex H locs ls hf hex hP hD hS hl
      have hf : f_X11_addNarrow_B5 F a1 m_narrows (lp (f_X11_addNarrow_B5 F a1 m_narrows) k) x = some ex := hf
      unfold f_X11_addNarrow_B5 at hf
      refine lv_iload_n hx hb dX11_addNarrow_5 rfl (lv_at hl 2 rfl) ?_
      refine lv_if_le (tgt := 42) hx hb dX11_addNarrow_6 (by decide) (fun c1 => ?_) (fun c1 => ?_)
      · have hf := if_t hf c1
        obtain rfl := Option.some.inj hf
        exact hex _ _ _ hP hD hS (lv_sub hl [0, 1, 2] rfl)
      · have hf := if_f hf c1
        refine lv_aload_n hx hb dX11_addNarrow_9 rfl (lv_at hl 0 rfl) ?_
        refine va_get (v := .ref (qM 11)) (D := D) (ci := 11) (C := RX11) (T := TX11) (N := 24) hx hb hts huX11 hown hK hP 0 rfl rfl 22 (by decide) fk47 (fun _ h9 => h9) rfl dX11_addNarrow_10 ?_
        refine lv_iload_n hx hb dX11_addNarrow_13 rfl (lv_at hl 2 rfl) ?_
        refine lv_iconst (v := (1 : Int32)) hx hb dX11_addNarrow_14 (by decide) ?_
        refine lv_isub hx hb dX11_addNarrow_15 ?_
        obtain ⟨c2, hf⟩ := ck_some hf
        refine va_lald hx hb hK hP 11 1 rfl rfl c2 dX11_addNarrow_16 ?_
        refine lv_lload_n hx hb dX11_addNarrow_17 rfl (lv_at hl 1 rfl) ?_
        refine kl_le (tgt := 42) hx hb dX11_addNarrow_18 dX11_addNarrow_19 (by decide) (fun c3 => ?_) (fun c3 => ?_)
        · have hf := if_t hf c3
          obtain rfl := Option.some.inj hf
          exact hex _ _ _ hP hD hS (lv_sub hl [0, 1, 2] rfl)
        · have hf := if_f hf c3
          refine lv_aload_n hx hb dX11_addNarrow_22 rfl (lv_at hl 0 rfl) ?_
          refine va_get (v := .ref (qM 11)) (D := D) (ci := 11) (C := RX11) (T := TX11) (N := 24) hx hb hts huX11 hown hK hP 0 rfl rfl 22 (by decide) fk47 (fun _ h9 => h9) rfl dX11_addNarrow_23 ?_
          refine lv_iload_n hx hb dX11_addNarrow_26 rfl (lv_at hl 2 rfl) ?_
          refine lv_aload_n hx hb dX11_addNarrow_27 rfl (lv_at hl 0 rfl) ?_
          refine va_get (v := .ref (qM 11)) (D := D) (ci := 11) (C := RX11) (T := TX11) (N := 24) hx hb hts huX11 hown hK hP 0 rfl rfl 22 (by decide) fk47 (fun _ h9 => h9) rfl dX11_addNarrow_28 ?_
          refine lv_iload_n hx hb dX11_addNarrow_31 rfl (lv_at hl 2 rfl) ?_
          refine lv_iconst (v := (1 : Int32)) hx hb dX11_addNarrow_32 (by decide) ?_
          refine lv_isub hx hb dX11_addNarrow_33 ?_
          obtain ⟨c4, hf⟩ := ck_some hf
          refine va_lald hx hb hK hP 11 1 rfl rfl c4 dX11_addNarrow_34 ?_
          obtain ⟨c5, hf⟩ := ck_some hf
          refine va_last hx hb hK hP hD hS 11 1 rfl rfl c5 dX11_addNarrow_35 (fun H locs hP hD hS => ?_)
          have hP : va_P D vwCl (gM cy qM m_base m_f m_many m_figures m_tail m_round m_rounds m_leasts m_likes m_like m_isTwo m_came m_by m_queue m_kind m_parts m_wanted m_allowed m_bitOf m_met m_row m_narrows (vp_updL x.2 x.1.toNatClampNeg (x.2 (x.1 - (1 : Int32)).toNatClampNeg)) m_isMade) H := hP
          have hD : va_D A (gM cy qM m_base m_f m_many m_figures m_tail m_round m_rounds m_leasts m_likes m_like m_isTwo m_came m_by m_queue m_kind m_parts m_wanted m_allowed m_bitOf m_met m_row m_narrows (vp_updL x.2 x.1.toNatClampNeg (x.2 (x.1 - (1 : Int32)).toNatClampNeg)) m_isMade) := hD
          refine lv_iinc (v := (x.1 + (-1 : Int32))) (lv' := [(3, .int (x.1 + (-1 : Int32))), (0, .ref (qM 0)), (1, .long a1)]) hx hb dX11_addNarrow_36 hl (k := 2) rfl rfl (by decide) rfl (fun ls hl => ?_)
          refine lv_goto (tgt := 5) hx hb dX11_addNarrow_39 (by decide) ?_
          exact ih ((x.1 + (-1 : Int32)), (vp_updL x.2 x.1.toNatClampNeg (x.2 (x.1 - (1 : Int32)).toNatClampNeg))) ex _ _ _ hf hex hP hD hS (lv_sub hl [1, 2, 0] rfl)
  refine lv_aload_n hx hb dX11_addNarrow_0 rfl (lv_at hl 0 rfl) ?_
  refine va_get (D := D) (ci := 11) (C := RX11) (T := TX11) (N := 24) hx hb hts huX11 hown hK hP 0 rfl rfl 21 (by decide) fk198 (fun _ h9 => h9) rfl dX11_addNarrow_1 ?_
  refine lv_istore_n (lv' := [(3, .int m_narrows), (0, .ref (qM 0)), (1, .long a1)]) hx hb dX11_addNarrow_4 rfl hl (by decide) rfl (fun ls hl => ?_)
  obtain ⟨ex6, hcl, hf⟩ := ob_some hf
  refine hL5 m_narrows F (m_narrows, m_narrow) ex6 _ _ _ hcl (fun H locs ls hP hD hS hl => ?_) hP hD hS (lv_sub hl [1, 2, 0] rfl)
  refine lv_aload_n hx hb dX11_addNarrow_42 rfl (lv_at hl 0 rfl) ?_
  refine va_get (v := .ref (qM 11)) (D := D) (ci := 11) (C := RX11) (T := TX11) (N := 24) hx hb hts huX11 hown hK hP 0 rfl rfl 22 (by decide) fk47 (fun _ h9 => h9) rfl dX11_addNarrow_43 ?_
  refine lv_iload_n hx hb dX11_addNarrow_46 rfl (lv_at hl 2 rfl) ?_
  refine lv_lload_n hx hb dX11_addNarrow_47 rfl (lv_at hl 1 rfl) ?_
  obtain ⟨c7, hf⟩ := ck_some hf
  refine va_last hx hb hK hP hD hS 11 1 rfl rfl c7 dX11_addNarrow_48 (fun H locs hP hD hS => ?_)
  have hP : va_P D vwCl (gM cy qM m_base m_f m_many m_figures m_tail m_round m_rounds m_leasts m_likes m_like m_isTwo m_came m_by m_queue m_kind m_parts m_wanted m_allowed m_bitOf m_met m_row m_narrows (vp_updL ex6.2 ex6.1.toNatClampNeg a1) m_isMade) H := hP
  have hD : va_D A (gM cy qM m_base m_f m_many m_figures m_tail m_round m_rounds m_leasts m_likes m_like m_isTwo m_came m_by m_queue m_kind m_parts m_wanted m_allowed m_bitOf m_met m_row m_narrows (vp_updL ex6.2 ex6.1.toNatClampNeg a1) m_isMade) := hD
  refine lv_aload_n hx hb dX11_addNarrow_49 rfl (lv_at hl 0 rfl) ?_
  refine lv_dup hx hb dX11_addNarrow_50 rfl ?_
  refine va_get (D := D) (ci := 11) (C := RX11) (T := TX11) (N := 24) hx hb hts huX11 hown hK hP 0 rfl rfl 21 (by decide) fk198 (fun _ h9 => h9) rfl dX11_addNarrow_51 ?_
  refine lv_iconst (v := (1 : Int32)) hx hb dX11_addNarrow_54 (by decide) ?_
  refine lv_iadd hx hb dX11_addNarrow_55 ?_
  refine va_put (D := D) (ci := 11) (v := .int (m_narrows + (1 : Int32))) (ty := .int) (C := RX11) (T := TX11) (N := 24) hx hb hts huX11 tyX11 tyX11_ok nmX11 hown hK hP hD hS 0 rfl rfl 21 (by decide) fk198 (fun _ h9 => h9) rfl (tyX11_ok 21 (by decide)) rfl rfl (Nat.le_of_ble_eq_true rfl) dX11_addNarrow_56 (fun H locs hP hD hS => ?_)
  have hP : va_P D vwCl (gM cy qM m_base m_f m_many m_figures m_tail m_round m_rounds m_leasts m_likes m_like m_isTwo m_came m_by m_queue m_kind m_parts m_wanted m_allowed m_bitOf m_met m_row (m_narrows + (1 : Int32)) (vp_updL ex6.2 ex6.1.toNatClampNeg a1) m_isMade) H := hP
  have hD : va_D A (gM cy qM m_base m_f m_many m_figures m_tail m_round m_rounds m_leasts m_likes m_like m_isTwo m_came m_by m_queue m_kind m_parts m_wanted m_allowed m_bitOf m_met m_row (m_narrows + (1 : Int32)) (vp_updL ex6.2 ex6.1.toNatClampNeg a1) m_isMade) := hD
  obtain rfl := Option.some.inj hf
  exact hQ () 59 _ _ _ dX11_addNarrow_59 hP hD hS
