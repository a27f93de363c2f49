/-! the reference: functions and contracts -/
def f_X11_leastOf_J52 (F : Nat) (rec : (Int64 × Int64 × Int32 × Int32 × (Nat → Int32)) → Option (Int64 × Int32 × (Nat → Int32))) (x4 : Int64) (x8 : Int32) (s0 : Int64) (m_many : Int32) (m_figures : Nat → Int32) : Option (Int64 × Int32 × (Nat → Int32)) := rec (x4, s0, (x8 + (1 : Int32)), m_many, m_figures)
def f_X11_leastOf_B19 (F : Nat) (a1 : Int32) (m_base : Int32) (m_f : Nat → Int32) (m_round : Int32) (rec : Int64 × Int64 × Int32 × Int32 × (Nat → Int32) → Option (Int64 × Int32 × (Nat → Int32))) (x : Int64 × Int64 × Int32 × Int32 × (Nat → Int32)) : Option (Int64 × Int32 × (Nat → Int32)) := if m_round ≤ x.2.2.1 then (some (x.2.1, x.2.2.2.1, x.2.2.2.2)) else ((f_X11_stepOf F a1 x.1 m_base m_f x.2.2.2.1 x.2.2.2.2).bind (fun r2 => if x.2.1 ≤ r2.1 then (f_X11_leastOf_J52 F rec r2.1 x.2.2.1 x.2.1 r2.2.1 r2.2.2) else (f_X11_leastOf_J52 F rec r2.1 x.2.2.1 r2.1 r2.2.1 r2.2.2)))
def f_X11_leastOf (F : Nat) (a1 : Int32) (a2 : Int64) (m_base : Int32) (m_f : Nat → Int32) (m_many : Int32) (m_figures : Nat → Int32) (m_tail : Int32) (m_round : Int32) : Option (Int64 × Int32 × (Nat → Int32)) := (f_X11_behind F a1 a2 m_tail m_base m_f m_many m_figures).bind (fun r5 => (lp (f_X11_leastOf_B19 F a1 m_base m_f m_round) F (r5.1, r5.1, (1 : Int32), r5.2.1, r5.2.2)).bind (fun ex7 => some (ex7.1, ex7.2.1, ex7.2.2)))
abbrev rmX11_leastOf : Room := { frames := 4, cells := 0, slots := 0, locals := 102 }
set_option maxHeartbeats 1000000 in
set_option maxRecDepth 100000 in
theorem c_X11_leastOf {l : Launch} {D : va_G} {cy : Nat → ClassId} {qM : Nat → Nat} {m_base : Int32} {m_f : Nat → Int32} {m_many : Int32} {m_figures : Nat → Int32} {m_tail : Int32} {m_round : Int32} {m_rounds : Int32} {m_leasts : Nat → Int64} {m_likes : Int32} {m_like : Nat → Int32} {m_isTwo : Nat → Int32} {m_came : Nat → Int32} {m_by : Nat → Int32} {m_queue : Nat → Int32} {m_kind : Int32} {m_parts : Int32} {m_wanted : Int32} {m_allowed : Int32} {m_bitOf : Nat → Int32} {m_met : Int32} {m_row : Nat → Int32} {m_narrows : Int32} {m_narrow : Nat → Int64} {m_isMade : Nat → Int32} {a1 : Int32} {a2 : Int64} {F : Nat} {res : Int64 × Int32 × (Nat → Int32)} (hf : f_X11_leastOf F a1 a2 m_base m_f m_many m_figures m_tail m_round = some res) : kM l yX11_leastOf wsX11_leastOf rmX11_leastOf D cy [.ref (qM 0), .int a1, .long a2] (gM cy qM m_base m_f m_many m_figures m_tail m_round m_rounds m_leasts m_likes m_like m_isTwo m_came m_by m_queue m_kind m_parts m_wanted m_allowed m_bitOf m_met m_row m_narrows m_narrow m_isMade) (kQl D cy (fun _ : Unit => gM cy qM m_base m_f res.2.1 res.2.2 m_tail m_round m_rounds m_leasts m_likes m_like m_isTwo m_came m_by m_queue m_kind m_parts m_wanted m_allowed m_bitOf m_met m_row m_narrows m_narrow m_isMade) res.1) := by
  refine kent_l (cc := cX11_leastOf) (maxL := 9) (by decide) rfl (Nat.le_of_ble_eq_true rfl) ?_
  intro p e0 s m ar below meth c A Q ls ⟨hx, hb, hml, hr, hts, hown, hlocks, hnm⟩ hA hK hN hQ hP hD hS hl
  have hl : lv_has ls 9 [(0, .ref (qM 0)), (1, .int a1), (2, .long a2)] := hl
  have hown : s.vm.findClass RX11 = some m.cls := hown
  have huX11 : ∀ x ∈ u_ws RX11 TX11 24, x ∈ wsX11_leastOf := by decide +kernel
  have fk97 : (Cond.fieldLink RX11 97 "FigurePlayModel" "round" "I").before ar s = true := hts _ (by decide +kernel)
  have fk100 : (Cond.fieldLink RX11 100 "FigurePlayModel" "tail" "I").before ar s = true := hts _ (by decide +kernel)
  unfold f_X11_leastOf at hf
  have hL19 : ∀ (k : Nat) (x : Int64 × Int64 × Int32 × Int32 × (Nat → Int32)) (ex : Int64 × Int32 × (Nat → Int32)) (H : Heap) (locs : List Loc) (ls : Array Slot), lp (f_X11_leastOf_B19 F a1 m_base m_f m_round) k x = some ex → (∀ (H : Heap) (locs : List Loc) (ls : Array Slot), va_P D vwCl (gM cy qM m_base m_f ex.2.1 ex.2.2 m_tail m_round m_rounds m_leasts m_likes m_like m_isTwo m_came m_by m_queue m_kind m_parts m_wanted m_allowed m_bitOf m_met m_row m_narrows m_narrow m_isMade) H → va_D A (gM cy qM m_base m_f ex.2.1 ex.2.2 m_tail m_round m_rounds m_leasts m_likes m_like m_isTwo m_came m_by m_queue m_kind m_parts m_wanted m_allowed m_bitOf m_met m_row m_narrows m_narrow m_isMade) → va_S A s.heap H locs → lv_has ls 9 [(6, .long ex.1)] → W p l e0 rmX11_leastOf s m ar below meth c H locs 0 0 Q (F0 m 60 ls [])) → va_P D vwCl (gM cy qM m_base m_f x.2.2.2.1 x.2.2.2.2 m_tail m_round m_rounds m_leasts m_likes m_like m_isTwo m_came m_by m_queue m_kind m_parts m_wanted m_allowed m_bitOf m_met m_row m_narrows m_narrow m_isMade) H → va_D A (gM cy qM m_base m_f x.2.2.2.1 x.2.2.2.2 m_tail m_round m_rounds m_leasts m_likes m_like m_isTwo m_came m_by m_queue m_kind m_parts m_wanted m_allowed m_bitOf m_met m_row m_narrows m_narrow m_isMade) → va_S A s.heap H locs → lv_has ls 9 [(0, .ref (qM 0)), (1, .int a1), (4, .long x.1), (6, .long x.2.1), (8, .int x.2.2.1)] → W p l e0 rmX11_leastOf s m ar below meth c H locs 0 0 Q (F0 m 19 ls []) := by
    intro k
    induction k with
    | zero => intro x ex H locs ls hf; exact no_some hf
    | succ k ih =>
      intro x ex H locs ls hf hex hP hD hS hl
      have hf : f_X11_leastOf_B19 F a1 m_base m_f m_round (lp (f_X11_leastOf_B19 F a1 m_base m_f m_round) k) x = some ex := hf
      unfold f_X11_leastOf_B19 at hf
      have hJ52 : ∀ (x4 : Int64) (x8 : Int32) (s0 : Int64) (m_many : Int32) (m_figures : Nat → Int32) (H : Heap) (locs : List Loc) (ls : Array Slot), f_X11_leastOf_J52 F (lp (f_X11_leastOf_B19 F a1 m_base m_f m_round) k) x4 x8 s0 m_many m_figures = some ex → va_P D vwCl (gM cy qM m_base m_f m_many m_figures m_tail m_round m_rounds m_leasts m_likes m_like m_isTwo m_came m_by m_queue m_kind m_parts m_wanted m_allowed m_bitOf m_met m_row m_narrows m_narrow m_isMade) H → va_D A (gM cy qM m_base m_f m_many m_figures m_tail m_round m_rounds m_leasts m_likes m_like m_isTwo m_came m_by m_queue m_kind m_parts m_wanted m_allowed m_bitOf m_met m_row m_narrows m_narrow m_isMade) → va_S A s.heap H locs → lv_has ls 9 [(0, .ref (qM 0)), (1, .int a1), (4, .long x4), (8, .int x8)] → W p l e0 rmX11_leastOf s m ar below meth c H locs 0 0 Q (F0 m 52 ls [.long s0]) := by
        intro x4 x8 s0 m_many m_figures H locs ls hf hP hD hS hl
        unfold f_X11_leastOf_J52 at hf
        refine lv_lstore (lv' := [(6, .long s0), (0, .ref (qM 0)), (1, .int a1), (4, .long x4), (8, .int x8)]) hx hb dX11_leastOf_52 hl (by decide) rfl (fun ls hl => ?_)
        refine lv_iinc (v := (x8 + (1 : Int32))) (lv' := [(8, .int (x8 + (1 : Int32))), (6, .long s0), (0, .ref (qM 0)), (1, .int a1), (4, .long x4)]) hx hb dX11_leastOf_54 hl (k := 4) rfl rfl (by decide) rfl (fun ls hl => ?_)
        refine lv_goto (tgt := 19) hx hb dX11_leastOf_57 (by decide) ?_
        exact ih (x4, s0, (x8 + (1 : Int32)), m_many, m_figures) ex _ _ _ hf hex hP hD hS (lv_sub hl [2, 3, 4, 1, 0] rfl)
      refine lv_iload hx hb dX11_leastOf_19 (lv_at hl 4 rfl) ?_
      refine lv_aload_n hx hb dX11_leastOf_21 rfl (lv_at hl 0 rfl) ?_
      refine va_get (D := D) (ci := 11) (C := RX11) (T := TX11) (N := 24) hx hb hts huX11 hown hK hP 0 rfl rfl 5 (by decide) fk97 (fun _ h9 => h9) rfl dX11_leastOf_22 ?_
      refine lv_icmp_ge (tgt := 60) hx hb dX11_leastOf_25 (by decide) (fun c1 => ?_) (fun c1 => ?_)
      · have hf := if_t hf c1
        obtain rfl := Option.some.inj hf
        exact hex _ _ _ hP hD hS (lv_sub hl [3] rfl)
      · have hf := if_f hf c1
        refine lv_aload_n hx hb dX11_leastOf_28 rfl (lv_at hl 0 rfl) ?_
        refine lv_iload_n hx hb dX11_leastOf_29 rfl (lv_at hl 1 rfl) ?_
        refine lv_lload hx hb dX11_leastOf_30 (lv_at hl 2 rfl) ?_
        obtain ⟨r2, hc3, hf⟩ := ob_some hf
        refine kc_l (k_run ⟨hx, hb, hml, hown, hts⟩ (c_X11_stepOf hc3) (cwV 2 hts gX11_leastOf_X11_stepOf rfl rfl rfl (by decide +kernel) ⟨Nat.le_of_ble_eq_true rfl, Nat.le_of_ble_eq_true rfl⟩) hK hN hP hD kA_s (ci := 11) (q0 := 0) rfl rfl rfl rfl hl.1 rfl (Nat.le_of_ble_eq_true rfl) dX11_leastOf_32 ⟨Nat.le_of_ble_eq_true rfl, Nat.le_of_ble_eq_true rfl⟩) hP hD hS hA kI_s (fun _ H locs hP hD hS => ?_)
        refine lv_lstore (lv' := [(4, .long r2.1), (0, .ref (qM 0)), (1, .int a1), (6, .long x.2.1), (8, .int x.2.2.1)]) hx hb dX11_leastOf_35 hl (by decide) rfl (fun ls hl => ?_)
        refine lv_lload hx hb dX11_leastOf_37 (lv_at hl 0 rfl) ?_
        refine lv_lload hx hb dX11_leastOf_39 (lv_at hl 3 rfl) ?_
        refine kl_ge (tgt := 50) hx hb dX11_leastOf_41 dX11_leastOf_42 (by decide) (fun c4 => ?_) (fun c4 => ?_)
        · have hf := if_t hf c4
          refine lv_lload hx hb dX11_leastOf_50 (lv_at hl 3 rfl) ?_
          exact hJ52 r2.1 x.2.2.1 x.2.1 r2.2.1 r2.2.2 _ _ _ hf hP hD hS (lv_sub hl [1, 2, 0, 4] rfl)
        · have hf := if_f hf c4
          refine lv_lload hx hb dX11_leastOf_45 (lv_at hl 0 rfl) ?_
          refine lv_goto (tgt := 52) hx hb dX11_leastOf_47 (by decide) ?_
          exact hJ52 r2.1 x.2.2.1 r2.1 r2.2.1 r2.2.2 _ _ _ hf hP hD hS (lv_sub hl [1, 2, 0, 4] rfl)
  refine lv_aload_n hx hb dX11_leastOf_0 rfl (lv_at hl 0 rfl) ?_
  refine lv_iload_n hx hb dX11_leastOf_1 rfl (lv_at hl 1 rfl) ?_
  refine lv_lload_n hx hb dX11_leastOf_2 rfl (lv_at hl 2 rfl) ?_
  refine lv_aload_n hx hb dX11_leastOf_3 rfl (lv_at hl 0 rfl) ?_
  refine va_get (D := D) (ci := 11) (C := RX11) (T := TX11) (N := 24) hx hb hts huX11 hown hK hP 0 rfl rfl 4 (by decide) fk100 (fun _ h9 => h9) rfl dX11_leastOf_4 ?_
  obtain ⟨r5, hc6, hf⟩ := ob_some hf
  refine kc_l (k_run ⟨hx, hb, hml, hown, hts⟩ (c_X11_behind hc6) (cwV 3 hts gX11_leastOf_X11_behind rfl rfl rfl (by decide +kernel) ⟨Nat.le_of_ble_eq_true rfl, Nat.le_of_ble_eq_true rfl⟩) hK hN hP hD kA_s (ci := 11) (q0 := 0) rfl rfl rfl rfl hl.1 rfl (Nat.le_of_ble_eq_true rfl) dX11_leastOf_7 ⟨Nat.le_of_ble_eq_true rfl, Nat.le_of_ble_eq_true rfl⟩) hP hD hS hA kI_s (fun _ H locs hP hD hS => ?_)
  refine lv_lstore (lv' := [(4, .long r5.1), (0, .ref (qM 0)), (1, .int a1), (2, .long a2)]) hx hb dX11_leastOf_10 hl (by decide) rfl (fun ls hl => ?_)
  refine lv_lload hx hb dX11_leastOf_12 (lv_at hl 0 rfl) ?_
  refine lv_lstore (lv' := [(6, .long r5.1), (4, .long r5.1), (0, .ref (qM 0)), (1, .int a1), (2, .long a2)]) hx hb dX11_leastOf_14 hl (by decide) rfl (fun ls hl => ?_)
  refine lv_iconst (v := (1 : Int32)) hx hb dX11_leastOf_16 (by decide) ?_
  refine lv_istore (lv' := [(8, .int (1 : Int32)), (6, .long r5.1), (4, .long r5.1), (0, .ref (qM 0)), (1, .int a1), (2, .long a2)]) hx hb dX11_leastOf_17 hl (by decide) rfl (fun ls hl => ?_)
  obtain ⟨ex7, hcl, hf⟩ := ob_some hf
  refine hL19 F (r5.1, r5.1, (1 : Int32), r5.2.1, r5.2.2) ex7 _ _ _ hcl (fun H locs ls hP hD hS hl => ?_) hP hD hS (lv_sub hl [3, 4, 2, 1, 0] rfl)
  refine lv_lload hx hb dX11_leastOf_60 (lv_at hl 0 rfl) ?_
  obtain rfl := Option.some.inj hf
  exact hQ () 62 _ _ _ dX11_leastOf_62 hP hD hS
def f_X11_addRound_J119 (F : Nat) (m_rounds : Int32) (m_leasts : Nat → Int64) : Option (Int32 × (Nat → Int64)) := some (m_rounds, m_leasts)
def f_X11_addRound_B74 (F : Nat) (x3 : Int32) (m_rounds : Int32) (rec : Int32 × (Nat → Int64) → Option ((Nat → Int64))) (x : Int32 × (Nat → Int64)) : Option ((Nat → Int64)) := if x.1 ≤ x3 then (some x.2) else (ck (¬ ((x.1 - (1 : Int32)) < 0 ∨ 20001 ≤ (x.1 - (1 : Int32)).toNatClampNeg)) (ck (¬ (x.1 < 0 ∨ 20001 ≤ x.1.toNatClampNeg)) (rec ((x.1 + (-1 : Int32)), (vp_updL x.2 x.1.toNatClampNeg (x.2 (x.1 - (1 : Int32)).toNatClampNeg))))))
def f_X11_addRound_J68 (F : Nat) (a1 : Int64) (x3 : Int32) (m_rounds : Int32) (m_leasts : Nat → Int64) : Option (Int32 × (Nat → Int64)) := (lp (f_X11_addRound_B74 F x3 m_rounds) F (m_rounds, m_leasts)).bind (fun ex4 => ck (¬ (x3 < 0 ∨ 20001 ≤ x3.toNatClampNeg)) (f_X11_addRound_J119 F (m_rounds + (1 : Int32)) (vp_updL ex4 x3.toNatClampNeg a1)))
def f_X11_addRound_J46 (F : Nat) (rec : (Int32 × Int32) → Option (Int32)) (x3 : Int32) (x4 : Int32) : Option (Int32) := rec (x3, x4)
def f_X11_addRound_B8 (F : Nat) (a1 : Int64) (m_rounds : Int32) (m_leasts : Nat → Int64) (rec : Int32 × Int32 → Option (Int32)) (x : Int32 × Int32) : Option (Int32) := if x.2 ≤ x.1 then (some x.1) else (ck (¬ (2 : Int32) = 0) (ck (¬ (((x.1 + x.2) / (2 : Int32)) < 0 ∨ 20001 ≤ ((x.1 + x.2) / (2 : Int32)).toNatClampNeg)) (if a1 ≤ (m_leasts ((x.1 + x.2) / (2 : Int32)).toNatClampNeg) then (f_X11_addRound_J46 F rec x.1 ((x.1 + x.2) / (2 : Int32))) else (f_X11_addRound_J46 F rec (((x.1 + x.2) / (2 : Int32)) + (1 : Int32)) x.2))))
def f_X11_addRound (F : Nat) (a1 : Int64) (m_rounds : Int32) (m_leasts : Nat → Int64) : Option (Int32 × (Nat → Int64)) := (lp (f_X11_addRound_B8 F a1 m_rounds m_leasts) F ((0 : Int32), m_rounds)).bind (fun ex10 => if ex10 = m_rounds then (f_X11_addRound_J68 F a1 ex10 m_rounds m_leasts) else (ck (¬ (ex10 < 0 ∨ 20001 ≤ ex10.toNatClampNeg)) (if (m_leasts ex10.toNatClampNeg) = a1 then (f_X11_addRound_J119 F m_rounds m_leasts) else (f_X11_addRound_J68 F a1 ex10 m_rounds m_leasts))))
abbrev rmX11_addRound : Room := { frames := 0, cells := 0, slots := 0, locals := 0 }
set_option maxHeartbeats 1000000 in
set_option maxRecDepth 100000 in
theorem c_X11_addRound {l : Launch} {D : va_G} {cy : Nat → ClassId} {qM : Nat → Nat} {m_base : Int32} {m_f : Nat → Int32} {m_many : Int32} {m_figures : Nat → Int32} {m_tail : Int32} {m_round : Int32} {m_rounds : Int32} {m_leasts : Nat → Int64} {m_likes : Int32} {m_like : Nat → Int32} {m_isTwo : Nat → Int32} {m_came : Nat → Int32} {m_by : Nat → Int32} {m_queue : Nat → Int32} {m_kind : Int32} {m_parts : Int32} {m_wanted : Int32} {m_allowed : Int32} {m_bitOf : Nat → Int32} {m_met : Int32} {m_row : Nat → Int32} {m_narrows : Int32} {m_narrow : Nat → Int64} {m_isMade : Nat → Int32} {a1 : Int64} {F : Nat} {res : Int32 × (Nat → Int64)} (hf : f_X11_addRound F a1 m_rounds m_leasts = some res) : kM l yX11_addRound wsX11_addRound rmX11_addRound D cy [.ref (qM 0), .long a1] (gM cy qM m_base m_f m_many m_figures m_tail m_round m_rounds m_leasts m_likes m_like m_isTwo m_came m_by m_queue m_kind m_parts m_wanted m_allowed m_bitOf m_met m_row m_narrows m_narrow m_isMade) (kQv D cy (fun _ : Unit => gM cy qM m_base m_f m_many m_figures m_tail m_round res.1 res.2 m_likes m_like m_isTwo m_came m_by m_queue m_kind m_parts m_wanted m_allowed m_bitOf m_met m_row m_narrows m_narrow m_isMade)) := by
  refine kent_v (cc := cX11_addRound) (maxL := 6) (by decide) rfl (Nat.le_of_ble_eq_true rfl) ?_
  intro p e0 s m ar below meth c A Q ls ⟨hx, hb, hml, hr, hts, hown, hlocks, hnm⟩ hA hK hN hQ hP hD hS hl
  have hl : lv_has ls 6 [(0, .ref (qM 0)), (1, .long a1)] := hl
  have hown : s.vm.findClass RX11 = some m.cls := hown
  have huX11 : ∀ x ∈ u_ws RX11 TX11 24, x ∈ wsX11_addRound := by decide +kernel
  have fk20 : (Cond.fieldLink RX11 20 "FigurePlayModel" "leasts" "[J").before ar s = true := hts _ (by decide +kernel)
  have fk113 : (Cond.fieldLink RX11 113 "FigurePlayModel" "rounds" "I").before ar s = true := hts _ (by decide +kernel)
  unfold f_X11_addRound at hf
  have hJ119 : ∀ (m_rounds : Int32) (m_leasts : Nat → Int64) (H : Heap) (locs : List Loc) (ls : Array Slot), f_X11_addRound_J119 F m_rounds m_leasts = some res → va_P D vwCl (gM cy qM m_base m_f m_many m_figures m_tail m_round m_rounds m_leasts m_likes m_like m_isTwo m_came m_by m_queue m_kind m_parts m_wanted m_allowed m_bitOf m_met m_row m_narrows m_narrow m_isMade) H → va_D A (gM cy qM m_base m_f m_many m_figures m_tail m_round m_rounds m_leasts m_likes m_like m_isTwo m_came m_by m_queue m_kind m_parts m_wanted m_allowed m_bitOf m_met m_row m_narrows m_narrow m_isMade) → va_S A s.heap H locs → lv_has ls 6 [] → W p l e0 rmX11_addRound s m ar below meth c H locs 0 0 Q (F0 m 119 ls []) := by
    intro m_rounds m_leasts H locs ls hf hP hD hS hl
    unfold f_X11_addRound_J119 at hf
    obtain rfl := Option.some.inj hf
    exact hQ () 119 _ _ _ dX11_addRound_119 hP hD hS
  have hL74 : ∀ (x3 : Int32) (m_rounds : Int32) (k : Nat) (x : Int32 × (Nat → Int64)) (ex : (Nat → Int64)) (H : Heap) (locs : List Loc) (ls : Array Slot), lp (f_X11_addRound_B74 F x3 m_rounds) k x = some ex → (∀ (H : Heap) (locs : List Loc) (ls : Array Slot), va_P D vwCl (gM cy qM m_base m_f m_many m_figures m_tail m_round m_rounds ex m_likes m_like m_isTwo m_came m_by m_queue m_kind m_parts m_wanted m_allowed m_bitOf m_met m_row m_narrows m_narrow m_isMade) H → va_D A (gM cy qM m_base m_f m_many m_figures m_tail m_round m_rounds ex m_likes m_like m_isTwo m_came m_by m_queue m_kind m_parts m_wanted m_allowed m_bitOf m_met m_row m_narrows m_narrow m_isMade) → va_S A s.heap H locs → lv_has ls 6 [(0, .ref (qM 0)), (1, .long a1), (3, .int x3)] → W p l e0 rmX11_addRound s m ar below meth c H locs 0 0 Q (F0 m 102 ls [])) → va_P D vwCl (gM cy qM m_base m_f m_many m_figures m_tail m_round m_rounds x.2 m_likes m_like m_isTwo m_came m_by m_queue m_kind m_parts m_wanted m_allowed m_bitOf m_met m_row m_narrows m_narrow m_isMade) H → va_D A (gM cy qM m_base m_f m_many m_figures m_tail m_round m_rounds x.2 m_likes m_like m_isTwo m_came m_by m_queue m_kind m_parts m_wanted m_allowed m_bitOf m_met m_row m_narrows m_narrow m_isMade) → va_S A s.heap H locs → lv_has ls 6 [(0, .ref (qM 0)), (1, .long a1), (3, .int x3), (5, .int x.1)] → W p l e0 rmX11_addRound s m ar below meth c H locs 0 0 Q (F0 m 74 ls []) := by
    intro x3 m_rounds k
    induction k with
    | zero => intro x ex H locs ls hf; exact no_some hf
    | succ k ih =>
      intro x ex H locs ls hf hex hP hD hS hl
      have hf : f_X11_addRound_B74 F x3 m_rounds (lp (f_X11_addRound_B74 F x3 m_rounds) k) x = some ex := hf
      unfold f_X11_addRound_B74 at hf
      refine lv_iload hx hb dX11_addRound_74 (lv_at hl 3 rfl) ?_
      refine lv_iload_n hx hb dX11_addRound_76 rfl (lv_at hl 2 rfl) ?_
      refine lv_icmp_le (tgt := 102) hx hb dX11_addRound_77 (by decide) (fun c1 => ?_) (fun c1 => ?_)
      · have hf := if_t hf c1
        obtain rfl := Option.some.inj hf
        exact hex _ _ _ hP hD hS (lv_sub hl [0, 1, 2] rfl)
      · have hf := if_f hf c1
        refine lv_aload_n hx hb dX11_addRound_80 rfl (lv_at hl 0 rfl) ?_
        refine va_get (v := .ref (qM 3)) (D := D) (ci := 11) (C := RX11) (T := TX11) (N := 24) hx hb hts huX11 hown hK hP 0 rfl rfl 7 (by decide) fk20 (fun _ h9 => h9) rfl dX11_addRound_81 ?_
        refine lv_iload hx hb dX11_addRound_84 (lv_at hl 3 rfl) ?_
        refine lv_aload_n hx hb dX11_addRound_86 rfl (lv_at hl 0 rfl) ?_
        refine va_get (v := .ref (qM 3)) (D := D) (ci := 11) (C := RX11) (T := TX11) (N := 24) hx hb hts huX11 hown hK hP 0 rfl rfl 7 (by decide) fk20 (fun _ h9 => h9) rfl dX11_addRound_87 ?_
        refine lv_iload hx hb dX11_addRound_90 (lv_at hl 3 rfl) ?_
        refine lv_iconst (v := (1 : Int32)) hx hb dX11_addRound_92 (by decide) ?_
        refine lv_isub hx hb dX11_addRound_93 ?_
        obtain ⟨c2, hf⟩ := ck_some hf
        refine va_lald hx hb hK hP 3 1 rfl rfl c2 dX11_addRound_94 ?_
        obtain ⟨c3, hf⟩ := ck_some hf
        refine va_last hx hb hK hP hD hS 3 1 rfl rfl c3 dX11_addRound_95 (fun H locs hP hD hS => ?_)
        have hP : va_P D vwCl (gM cy qM m_base m_f m_many m_figures m_tail m_round m_rounds (vp_updL x.2 x.1.toNatClampNeg (x.2 (x.1 - (1 : Int32)).toNatClampNeg)) m_likes m_like m_isTwo m_came m_by m_queue m_kind m_parts m_wanted m_allowed m_bitOf m_met m_row m_narrows m_narrow m_isMade) H := hP
        have hD : va_D A (gM cy qM m_base m_f m_many m_figures m_tail m_round m_rounds (vp_updL x.2 x.1.toNatClampNeg (x.2 (x.1 - (1 : Int32)).toNatClampNeg)) m_likes m_like m_isTwo m_came m_by m_queue m_kind m_parts m_wanted m_allowed m_bitOf m_met m_row m_narrows m_narrow m_isMade) := hD
        refine lv_iinc (v := (x.1 + (-1 : Int32))) (lv' := [(5, .int (x.1 + (-1 : Int32))), (0, .ref (qM 0)), (1, .long a1), (3, .int x3)]) hx hb dX11_addRound_96 hl (k := 3) rfl rfl (by decide) rfl (fun ls hl => ?_)
        refine lv_goto (tgt := 74) hx hb dX11_addRound_99 (by decide) ?_
        exact ih ((x.1 + (-1 : Int32)), (vp_updL x.2 x.1.toNatClampNeg (x.2 (x.1 - (1 : Int32)).toNatClampNeg))) ex _ _ _ hf hex hP hD hS (lv_sub hl [1, 2, 3, 0] rfl)
  have hJ68 : ∀ (x3 : Int32) (m_rounds : Int32) (m_leasts : Nat → Int64) (H : Heap) (locs : List Loc) (ls : Array Slot), f_X11_addRound_J68 F a1 x3 m_rounds m_leasts = some res → va_P D vwCl (gM cy qM m_base m_f m_many m_figures m_tail m_round m_rounds m_leasts m_likes m_like m_isTwo m_came m_by m_queue m_kind m_parts m_wanted m_allowed m_bitOf m_met m_row m_narrows m_narrow m_isMade) H → va_D A (gM cy qM m_base m_f m_many m_figures m_tail m_round m_rounds m_leasts m_likes m_like m_isTwo m_came m_by m_queue m_kind m_parts m_wanted m_allowed m_bitOf m_met m_row m_narrows m_narrow m_isMade) → va_S A s.heap H locs → lv_has ls 6 [(0, .ref (qM 0)), (1, .long a1), (3, .int x3)] → W p l e0 rmX11_addRound s m ar below meth c H locs 0 0 Q (F0 m 68 ls []) := by
    intro x3 m_rounds m_leasts H locs ls hf hP hD hS hl
    unfold f_X11_addRound_J68 at hf
    refine lv_aload_n hx hb dX11_addRound_68 rfl (lv_at hl 0 rfl) ?_
    refine va_get (D := D) (ci := 11) (C := RX11) (T := TX11) (N := 24) hx hb hts huX11 hown hK hP 0 rfl rfl 6 (by decide) fk113 (fun _ h9 => h9) rfl dX11_addRound_69 ?_
    refine lv_istore (lv' := [(5, .int m_rounds), (0, .ref (qM 0)), (1, .long a1), (3, .int x3)]) hx hb dX11_addRound_72 hl (by decide) rfl (fun ls hl => ?_)
    obtain ⟨ex4, hcl, hf⟩ := ob_some hf
    refine hL74 x3 m_rounds F (m_rounds, m_leasts) ex4 _ _ _ hcl (fun H locs ls hP hD hS hl => ?_) hP hD hS (lv_sub hl [1, 2, 3, 0] rfl)
    refine lv_aload_n hx hb dX11_addRound_102 rfl (lv_at hl 0 rfl) ?_
    refine va_get (v := .ref (qM 3)) (D := D) (ci := 11) (C := RX11) (T := TX11) (N := 24) hx hb hts huX11 hown hK hP 0 rfl rfl 7 (by decide) fk20 (fun _ h9 => h9) rfl dX11_addRound_103 ?_
    refine lv_iload_n hx hb dX11_addRound_106 rfl (lv_at hl 2 rfl) ?_
    refine lv_lload_n hx hb dX11_addRound_107 rfl (lv_at hl 1 rfl) ?_
    obtain ⟨c5, hf⟩ := ck_some hf
    refine va_last hx hb hK hP hD hS 3 1 rfl rfl c5 dX11_addRound_108 (fun H locs hP hD hS => ?_)
    have hP : va_P D vwCl (gM cy qM m_base m_f m_many m_figures m_tail m_round m_rounds (vp_updL ex4 x3.toNatClampNeg a1) m_likes m_like m_isTwo m_came m_by m_queue m_kind m_parts m_wanted m_allowed m_bitOf m_met m_row m_narrows m_narrow m_isMade) H := hP
    have hD : va_D A (gM cy qM m_base m_f m_many m_figures m_tail m_round m_rounds (vp_updL ex4 x3.toNatClampNeg a1) m_likes m_like m_isTwo m_came m_by m_queue m_kind m_parts m_wanted m_allowed m_bitOf m_met m_row m_narrows m_narrow m_isMade) := hD
    refine lv_aload_n hx hb dX11_addRound_109 rfl (lv_at hl 0 rfl) ?_
    refine lv_dup hx hb dX11_addRound_110 rfl ?_
    refine va_get (D := D) (ci := 11) (C := RX11) (T := TX11) (N := 24) hx hb hts huX11 hown hK hP 0 rfl rfl 6 (by decide) fk113 (fun _ h9 => h9) rfl dX11_addRound_111 ?_
    refine lv_iconst (v := (1 : Int32)) hx hb dX11_addRound_114 (by decide) ?_
    refine lv_iadd hx hb dX11_addRound_115 ?_
    refine va_put (D := D) (ci := 11) (v := .int (m_rounds + (1 : Int32))) (ty := .int) (C := RX11) (T := TX11) (N := 24) hx hb hts huX11 tyX11 tyX11_ok nmX11 hown hK hP hD hS 0 rfl rfl 6 (by decide) fk113 (fun _ h9 => h9) rfl (tyX11_ok 6 (by decide)) rfl rfl (Nat.le_of_ble_eq_true rfl) dX11_addRound_116 (fun H locs hP hD hS => ?_)
    have hP : va_P D vwCl (gM cy qM m_base m_f m_many m_figures m_tail m_round (m_rounds + (1 : Int32)) (vp_updL ex4 x3.toNatClampNeg a1) m_likes m_like m_isTwo m_came m_by m_queue m_kind m_parts m_wanted m_allowed m_bitOf m_met m_row m_narrows m_narrow m_isMade) H := hP
    have hD : va_D A (gM cy qM m_base m_f m_many m_figures m_tail m_round (m_rounds + (1 : Int32)) (vp_updL ex4 x3.toNatClampNeg a1) m_likes m_like m_isTwo m_came m_by m_queue m_kind m_parts m_wanted m_allowed m_bitOf m_met m_row m_narrows m_narrow m_isMade) := hD
    exact hJ119 (m_rounds + (1 : Int32)) (vp_updL ex4 x3.toNatClampNeg a1) _ _ _ hf hP hD hS (lv_sub hl [] rfl)
  have hL8 : ∀ (m_rounds : Int32) (m_leasts : Nat → Int64) (k : Nat) (x : Int32 × Int32) (ex : Int32) (H : Heap) (locs : List Loc) (ls : Array Slot), lp (f_X11_addRound_B8 F a1 m_rounds m_leasts) k x = some ex → (∀ (H : Heap) (locs : List Loc) (ls : Array Slot), va_P D vwCl (gM cy qM m_base m_f m_many m_figures m_tail m_round m_rounds m_leasts m_likes m_like m_isTwo m_came m_by m_queue m_kind m_parts m_wanted m_allowed m_bitOf m_met m_row m_narrows m_narrow m_isMade) H → va_D A (gM cy qM m_base m_f m_many m_figures m_tail m_round m_rounds m_leasts m_likes m_like m_isTwo m_came m_by m_queue m_kind m_parts m_wanted m_allowed m_bitOf m_met m_row m_narrows m_narrow m_isMade) → va_S A s.heap H locs → lv_has ls 6 [(0, .ref (qM 0)), (1, .long a1), (3, .int ex)] → W p l e0 rmX11_addRound s m ar below meth c H locs 0 0 Q (F0 m 49 ls [])) → va_P D vwCl (gM cy qM m_base m_f m_many m_figures m_tail m_round m_rounds m_leasts m_likes m_like m_isTwo m_came m_by m_queue m_kind m_parts m_wanted m_allowed m_bitOf m_met m_row m_narrows m_narrow m_isMade) H → va_D A (gM cy qM m_base m_f m_many m_figures m_tail m_round m_rounds m_leasts m_likes m_like m_isTwo m_came m_by m_queue m_kind m_parts m_wanted m_allowed m_bitOf m_met m_row m_narrows m_narrow m_isMade) → va_S A s.heap H locs → lv_has ls 6 [(0, .ref (qM 0)), (1, .long a1), (3, .int x.1), (4, .int x.2)] → W p l e0 rmX11_addRound s m ar below meth c H locs 0 0 Q (F0 m 8 ls []) := by
    intro m_rounds m_leasts k
    induction k with
    | zero => intro x ex H locs ls hf; exact no_some hf
    | succ k ih =>
      intro x ex H locs ls hf hex hP hD hS hl
      have hf : f_X11_addRound_B8 F a1 m_rounds m_leasts (lp (f_X11_addRound_B8 F a1 m_rounds m_leasts) k) x = some ex := hf
      unfold f_X11_addRound_B8 at hf
      have hJ46 : ∀ (x3 : Int32) (x4 : Int32) (H : Heap) (locs : List Loc) (ls : Array Slot), f_X11_addRound_J46 F (lp (f_X11_addRound_B8 F a1 m_rounds m_leasts) k) x3 x4 = some ex → va_P D vwCl (gM cy qM m_base m_f m_many m_figures m_tail m_round m_rounds m_leasts m_likes m_like m_isTwo m_came m_by m_queue m_kind m_parts m_wanted m_allowed m_bitOf m_met m_row m_narrows m_narrow m_isMade) H → va_D A (gM cy qM m_base m_f m_many m_figures m_tail m_round m_rounds m_leasts m_likes m_like m_isTwo m_came m_by m_queue m_kind m_parts m_wanted m_allowed m_bitOf m_met m_row m_narrows m_narrow m_isMade) → va_S A s.heap H locs → lv_has ls 6 [(0, .ref (qM 0)), (1, .long a1), (3, .int x3), (4, .int x4)] → W p l e0 rmX11_addRound s m ar below meth c H locs 0 0 Q (F0 m 46 ls []) := by
        intro x3 x4 H locs ls hf hP hD hS hl
        unfold f_X11_addRound_J46 at hf
        refine lv_goto (tgt := 8) hx hb dX11_addRound_46 (by decide) ?_
        exact ih (x3, x4) ex _ _ _ hf hex hP hD hS (lv_sub hl [0, 1, 2, 3] rfl)
      refine lv_iload_n hx hb dX11_addRound_8 rfl (lv_at hl 2 rfl) ?_
      refine lv_iload hx hb dX11_addRound_9 (lv_at hl 3 rfl) ?_
      refine lv_icmp_ge (tgt := 49) hx hb dX11_addRound_11 (by decide) (fun c6 => ?_) (fun c6 => ?_)
      · have hf := if_t hf c6
        obtain rfl := Option.some.inj hf
        exact hex _ _ _ hP hD hS (lv_sub hl [0, 1, 2] rfl)
      · have hf := if_f hf c6
        refine lv_iload_n hx hb dX11_addRound_14 rfl (lv_at hl 2 rfl) ?_
        refine lv_iload hx hb dX11_addRound_15 (lv_at hl 3 rfl) ?_
        refine lv_iadd hx hb dX11_addRound_17 ?_
        refine lv_iconst (v := (2 : Int32)) hx hb dX11_addRound_18 (by decide) ?_
        obtain ⟨c7, hf⟩ := ck_some hf
        refine lv_idiv hx hb dX11_addRound_19 c7 ?_
        refine lv_istore (lv' := [(5, .int ((x.1 + x.2) / (2 : Int32))), (0, .ref (qM 0)), (1, .long a1), (3, .int x.1), (4, .int x.2)]) hx hb dX11_addRound_20 hl (by decide) rfl (fun ls hl => ?_)
        refine lv_aload_n hx hb dX11_addRound_22 rfl (lv_at hl 1 rfl) ?_
        refine va_get (v := .ref (qM 3)) (D := D) (ci := 11) (C := RX11) (T := TX11) (N := 24) hx hb hts huX11 hown hK hP 0 rfl rfl 7 (by decide) fk20 (fun _ h9 => h9) rfl dX11_addRound_23 ?_
        refine lv_iload hx hb dX11_addRound_26 (lv_at hl 0 rfl) ?_
        obtain ⟨c8, hf⟩ := ck_some hf
        refine va_lald hx hb hK hP 3 1 rfl rfl c8 dX11_addRound_28 ?_
        refine lv_lload_n hx hb dX11_addRound_29 rfl (lv_at hl 2 rfl) ?_
        refine kl_ge (tgt := 42) hx hb dX11_addRound_30 dX11_addRound_31 (by decide) (fun c9 => ?_) (fun c9 => ?_)
        · have hf := if_t hf c9
          refine lv_iload hx hb dX11_addRound_42 (lv_at hl 0 rfl) ?_
          refine lv_istore (lv' := [(4, .int ((x.1 + x.2) / (2 : Int32))), (5, .int ((x.1 + x.2) / (2 : Int32))), (0, .ref (qM 0)), (1, .long a1), (3, .int x.1)]) hx hb dX11_addRound_44 hl (by decide) rfl (fun ls hl => ?_)
          exact hJ46 x.1 ((x.1 + x.2) / (2 : Int32)) _ _ _ hf hP hD hS (lv_sub hl [2, 3, 4, 0] rfl)
        · have hf := if_f hf c9
          refine lv_iload hx hb dX11_addRound_34 (lv_at hl 0 rfl) ?_
          refine lv_iconst (v := (1 : Int32)) hx hb dX11_addRound_36 (by decide) ?_
          refine lv_iadd hx hb dX11_addRound_37 ?_
          refine lv_istore_n (lv' := [(3, .int (((x.1 + x.2) / (2 : Int32)) + (1 : Int32))), (5, .int ((x.1 + x.2) / (2 : Int32))), (0, .ref (qM 0)), (1, .long a1), (4, .int x.2)]) hx hb dX11_addRound_38 rfl hl (by decide) rfl (fun ls hl => ?_)
          refine lv_goto (tgt := 46) hx hb dX11_addRound_39 (by decide) ?_
          exact hJ46 (((x.1 + x.2) / (2 : Int32)) + (1 : Int32)) x.2 _ _ _ hf hP hD hS (lv_sub hl [2, 3, 0, 4] rfl)
  refine lv_iconst (v := (0 : Int32)) hx hb dX11_addRound_0 (by decide) ?_
  refine lv_istore_n (lv' := [(3, .int (0 : Int32)), (0, .ref (qM 0)), (1, .long a1)]) hx hb dX11_addRound_1 rfl hl (by decide) rfl (fun ls hl => ?_)
  refine lv_aload_n hx hb dX11_addRound_2 rfl (lv_at hl 1 rfl) ?_
  refine va_get (D := D) (ci := 11) (C := RX11) (T := TX11) (N := 24) hx hb hts huX11 hown hK hP 0 rfl rfl 6 (by decide) fk113 (fun _ h9 => h9) rfl dX11_addRound_3 ?_
  refine lv_istore (lv' := [(4, .int m_rounds), (3, .int (0 : Int32)), (0, .ref (qM 0)), (1, .long a1)]) hx hb dX11_addRound_6 hl (by decide) rfl (fun ls hl => ?_)
  obtain ⟨ex10, hcl, hf⟩ := ob_some hf
  refine hL8 m_rounds m_leasts F ((0 : Int32), m_rounds) ex10 _ _ _ hcl (fun H locs ls hP hD hS hl => ?_) hP hD hS (lv_sub hl [2, 3, 1, 0] rfl)
  refine lv_iload_n hx hb dX11_addRound_49 rfl (lv_at hl 2 rfl) ?_
  refine lv_aload_n hx hb dX11_addRound_50 rfl (lv_at hl 0 rfl) ?_
  refine va_get (D := D) (ci := 11) (C := RX11) (T := TX11) (N := 24) hx hb hts huX11 hown hK hP 0 rfl rfl 6 (by decide) fk113 (fun _ h9 => h9) rfl dX11_addRound_51 ?_
  refine lv_icmp_eq (tgt := 68) hx hb dX11_addRound_54 (by decide) (fun c11 => ?_) (fun c11 => ?_)
  · have hf := if_t hf c11
    exact hJ68 ex10 m_rounds m_leasts _ _ _ hf hP hD hS (lv_sub hl [0, 1, 2] rfl)
  · have hf := if_f hf c11
    refine lv_aload_n hx hb dX11_addRound_57 rfl (lv_at hl 0 rfl) ?_
    refine va_get (v := .ref (qM 3)) (D := D) (ci := 11) (C := RX11) (T := TX11) (N := 24) hx hb hts huX11 hown hK hP 0 rfl rfl 7 (by decide) fk20 (fun _ h9 => h9) rfl dX11_addRound_58 ?_
    refine lv_iload_n hx hb dX11_addRound_61 rfl (lv_at hl 2 rfl) ?_
    obtain ⟨c12, hf⟩ := ck_some hf
    refine va_lald hx hb hK hP 3 1 rfl rfl c12 dX11_addRound_62 ?_
    refine lv_lload_n hx hb dX11_addRound_63 rfl (lv_at hl 1 rfl) ?_
    refine kl_eq (tgt := 119) hx hb dX11_addRound_64 dX11_addRound_65 (by decide) (fun c13 => ?_) (fun c13 => ?_)
    · have hf := if_t hf c13
      exact hJ119 m_rounds m_leasts _ _ _ hf hP hD hS (lv_sub hl [] rfl)
    · have hf := if_f hf c13
      exact hJ68 ex10 m_rounds m_leasts _ _ _ hf hP hD hS (lv_sub hl [0, 1, 2] rfl)
def f_X11_rounds_J110 (F : Nat) (s0 : Int64) (m_many : Int32) (m_figures : Nat → Int32) (m_tail : Int32) (m_round : Int32) (m_rounds : Int32) (m_leasts : Nat → Int64) : Option (Int64 × Int32 × (Nat → Int32) × Int32 × Int32 × Int32 × (Nat → Int64)) := some (s0, m_many, m_figures, m_tail, m_round, m_rounds, m_leasts)
def f_X11_rounds_J71 (F : Nat) (rec : (Int32 × Int32 × (Nat → Int32) × Int32 × Int32 × Int32 × (Nat → Int64)) → Option (Int32 × (Nat → Int32) × Int32 × Int32 × Int32 × (Nat → Int64))) (x4 : Int32) (m_many : Int32) (m_figures : Nat → Int32) (m_tail : Int32) (m_round : Int32) (m_rounds : Int32) (m_leasts : Nat → Int64) : Option (Int32 × (Nat → Int32) × Int32 × Int32 × Int32 × (Nat → Int64)) := rec ((x4 + (1 : Int32)), m_many, m_figures, m_tail, m_round, m_rounds, m_leasts)
def f_X11_rounds_B38 (F : Nat) (a1 : Int32) (a2 : Int32) (m_base : Int32) (m_f : Nat → Int32) (rec : Int32 × Int32 × (Nat → Int32) × Int32 × Int32 × Int32 × (Nat → Int64) → Option (Int32 × (Nat → Int32) × Int32 × Int32 × Int32 × (Nat → Int64))) (x : Int32 × Int32 × (Nat → Int32) × Int32 × Int32 × Int32 × (Nat → Int64)) : Option (Int32 × (Nat → Int32) × Int32 × Int32 × Int32 × (Nat → Int64)) := if a2 < x.1 then (some (x.2.1, x.2.2.1, x.2.2.2.1, x.2.2.2.2.1, x.2.2.2.2.2.1, x.2.2.2.2.2.2)) else ((f_X11_layChain F a1 x.1.toInt64 m_base m_f x.2.1 x.2.2.1 x.2.2.2.1 x.2.2.2.2.1).bind (fun r2 => if r2.2.2.2 ≤ 0 then (f_X11_rounds_J71 F rec x.1 r2.1 r2.2.1 r2.2.2.1 r2.2.2.2 x.2.2.2.2.2.1 x.2.2.2.2.2.2) else ((f_X11_leastOf F a1 x.1.toInt64 m_base m_f r2.1 r2.2.1 r2.2.2.1 r2.2.2.2).bind (fun r5 => (f_X11_addRound F r5.1 x.2.2.2.2.2.1 x.2.2.2.2.2.2).bind (fun r7 => f_X11_rounds_J71 F rec x.1 r5.2.1 r5.2.2 r2.2.2.1 r2.2.2.2 r7.1 r7.2)))))
def f_X11_rounds_J26 (F : Nat) (m_many : Int32) (m_figures : Nat → Int32) (m_tail : Int32) (m_round : Int32) (m_rounds : Int32) (m_leasts : Nat → Int64) : Option (Int64 × Int32 × (Nat → Int32) × Int32 × Int32 × Int32 × (Nat → Int64)) := some ((-1 : Int64), m_many, m_figures, m_tail, m_round, m_rounds, m_leasts)
def f_X11_rounds_J9 (F : Nat) (a1 : Int32) (a2 : Int32) (a3 : Int32) (m_base : Int32) (m_f : Nat → Int32) (m_many : Int32) (m_figures : Nat → Int32) (m_tail : Int32) (m_round : Int32) (m_rounds : Int32) (m_leasts : Nat → Int64) : Option (Int64 × Int32 × (Nat → Int32) × Int32 × Int32 × Int32 × (Nat → Int64)) := (f_X11_in F a2.toInt64 (0 : Int64) (20000 : Int64)).bind (fun r9 => if r9 = 0 then (f_X11_rounds_J26 F m_many m_figures m_tail m_round m_rounds m_leasts) else (if (-1 : Int32) ≤ a3 then ((lp (f_X11_rounds_B38 F a1 a2 m_base m_f) F ((0 : Int32), m_many, m_figures, m_tail, m_round, (0 : Int32), m_leasts)).bind (fun ex13 => if a3 = (-1 : Int32) then (f_X11_rounds_J110 F ex13.2.2.2.2.1.toInt64 ex13.1 ex13.2.1 ex13.2.2.1 ex13.2.2.2.1 ex13.2.2.2.2.1 ex13.2.2.2.2.2) else (if ex13.2.2.2.2.1 ≤ a3 then (f_X11_rounds_J110 F (-4 : Int64) ex13.1 ex13.2.1 ex13.2.2.1 ex13.2.2.2.1 ex13.2.2.2.2.1 ex13.2.2.2.2.2) else (ck (¬ (a3 < 0 ∨ 20001 ≤ a3.toNatClampNeg)) (f_X11_rounds_J110 F (ex13.2.2.2.2.2 a3.toNatClampNeg) ex13.1 ex13.2.1 ex13.2.2.1 ex13.2.2.2.1 ex13.2.2.2.2.1 ex13.2.2.2.2.2))))) else (f_X11_rounds_J26 F m_many m_figures m_tail m_round m_rounds m_leasts)))
def f_X11_rounds (F : Nat) (a1 : Int32) (a2 : Int32) (a3 : Int32) (m_base : Int32) (m_f : Nat → Int32) (m_many : Int32) (m_figures : Nat → Int32) (m_tail : Int32) (m_round : Int32) (m_rounds : Int32) (m_leasts : Nat → Int64) : Option (Int64 × Int32 × (Nat → Int32) × Int32 × Int32 × Int32 × (Nat → Int64)) := if a1 = 0 then (f_X11_rounds_J9 F a1 a2 a3 m_base m_f m_many m_figures m_tail m_round m_rounds m_leasts) else (if a1 = (3 : Int32) then (f_X11_rounds_J9 F a1 a2 a3 m_base m_f m_many m_figures m_tail m_round m_rounds m_leasts) else (f_X11_rounds_J26 F m_many m_figures m_tail m_round m_rounds m_leasts))
abbrev rmX11_rounds : Room := { frames := 5, cells := 0, slots := 0, locals := 137 }
set_option maxHeartbeats 1000000 in
set_option maxRecDepth 100000 in
theorem c_X11_rounds {l : Launch} {D : va_G} {cy : Nat → ClassId} {qM : Nat → Nat} {m_base : Int32} {m_f : Nat → Int32} {m_many : Int32} {m_figures : Nat → Int32} {m_tail : Int32} {m_round : Int32} {m_rounds : Int32} {m_leasts : Nat → Int64} {m_likes : Int32} {m_like : Nat → Int32} {m_isTwo : Nat → Int32} {m_came : Nat → Int32} {m_by : Nat → Int32} {m_queue : Nat → Int32} {m_kind : Int32} {m_parts : Int32} {m_wanted : Int32} {m_allowed : Int32} {m_bitOf : Nat → Int32} {m_met : Int32} {m_row : Nat → Int32} {m_narrows : Int32} {m_narrow : Nat → Int64} {m_isMade : Nat → Int32} {a1 : Int32} {a2 : Int32} {a3 : Int32} {F : Nat} {res : Int64 × Int32 × (Nat → Int32) × Int32 × Int32 × Int32 × (Nat → Int64)} (hf : f_X11_rounds F a1 a2 a3 m_base m_f m_many m_figures m_tail m_round m_rounds m_leasts = some res) : kM l yX11_rounds wsX11_rounds rmX11_rounds D cy [.ref (qM 0), .int a1, .int a2, .int a3] (gM cy qM m_base m_f m_many m_figures m_tail m_round m_rounds m_leasts m_likes m_like m_isTwo m_came m_by m_queue m_kind m_parts m_wanted m_allowed m_bitOf m_met m_row m_narrows m_narrow m_isMade) (kQl D cy (fun _ : Unit => gM cy qM m_base m_f res.2.1 res.2.2.1 res.2.2.2.1 res.2.2.2.2.1 res.2.2.2.2.2.1 res.2.2.2.2.2.2 m_likes m_like m_isTwo m_came m_by m_queue m_kind m_parts m_wanted m_allowed m_bitOf m_met m_row m_narrows m_narrow m_isMade) res.1) := by
  refine kent_l (cc := cX11_rounds) (maxL := 5) (by decide) rfl (Nat.le_of_ble_eq_true rfl) ?_
  intro p e0 s m ar below meth c A Q ls ⟨hx, hb, hml, hr, hts, hown, hlocks, hnm⟩ hA hK hN hQ hP hD hS hl
  have hl : lv_has ls 5 [(0, .ref (qM 0)), (1, .int a1), (2, .int a2), (3, .int a3)] := hl
  have hown : s.vm.findClass RX11 = some m.cls := hown
  have huX11 : ∀ x ∈ u_ws RX11 TX11 24, x ∈ wsX11_rounds := by decide +kernel
  have fk97 : (Cond.fieldLink RX11 97 "FigurePlayModel" "round" "I").before ar s = true := hts _ (by decide +kernel)
  have fk95 : (Cond.constantLong RX11 95 (-1)).before ar s = true := hts _ (by decide +kernel)
  have fk116 : (Cond.constantLong RX11 116 (20000)).before ar s = true := hts _ (by decide +kernel)
  have fk113 : (Cond.fieldLink RX11 113 "FigurePlayModel" "rounds" "I").before ar s = true := hts _ (by decide +kernel)
  have fk111 : (Cond.constantLong RX11 111 (-4)).before ar s = true := hts _ (by decide +kernel)
  have fk20 : (Cond.fieldLink RX11 20 "FigurePlayModel" "leasts" "[J").before ar s = true := hts _ (by decide +kernel)
  unfold f_X11_rounds at hf
  have hJ110 : ∀ (s0 : Int64) (m_many : Int32) (m_figures : Nat → Int32) (m_tail : Int32) (m_round : Int32) (m_rounds : Int32) (m_leasts : Nat → Int64) (H : Heap) (locs : List Loc) (ls : Array Slot), f_X11_rounds_J110 F s0 m_many m_figures m_tail m_round m_rounds m_leasts = some res → va_P D vwCl (gM cy qM m_base m_f m_many m_figures m_tail m_round m_rounds m_leasts m_likes m_like m_isTwo m_came m_by m_queue m_kind m_parts m_wanted m_allowed m_bitOf m_met m_row m_narrows m_narrow m_isMade) H → va_D A (gM cy qM m_base m_f m_many m_figures m_tail m_round m_rounds m_leasts m_likes m_like m_isTwo m_came m_by m_queue m_kind m_parts m_wanted m_allowed m_bitOf m_met m_row m_narrows m_narrow m_isMade) → va_S A s.heap H locs → lv_has ls 5 [] → W p l e0 rmX11_rounds s m ar below meth c H locs 0 0 Q (F0 m 110 ls [.long s0]) := by
    intro s0 m_many m_figures m_tail m_round m_rounds m_leasts H locs ls hf hP hD hS hl
    unfold f_X11_rounds_J110 at hf
    obtain rfl := Option.some.inj hf
    exact hQ () 110 _ _ _ dX11_rounds_110 hP hD hS
  have hL38 : ∀ (k : Nat) (x : Int32 × Int32 × (Nat → Int32) × Int32 × Int32 × Int32 × (Nat → Int64)) (ex : Int32 × (Nat → Int32) × Int32 × Int32 × Int32 × (Nat → Int64)) (H : Heap) (locs : List Loc) (ls : Array Slot), lp (f_X11_rounds_B38 F a1 a2 m_base m_f) k x = some ex → (∀ (H : Heap) (locs : List Loc) (ls : Array Slot), va_P D vwCl (gM cy qM m_base m_f ex.1 ex.2.1 ex.2.2.1 ex.2.2.2.1 ex.2.2.2.2.1 ex.2.2.2.2.2 m_likes m_like m_isTwo m_came m_by m_queue m_kind m_parts m_wanted m_allowed m_bitOf m_met m_row m_narrows m_narrow m_isMade) H → va_D A (gM cy qM m_base m_f ex.1 ex.2.1 ex.2.2.1 ex.2.2.2.1 ex.2.2.2.2.1 ex.2.2.2.2.2 m_likes m_like m_isTwo m_came m_by m_queue m_kind m_parts m_wanted m_allowed m_bitOf m_met m_row m_narrows m_narrow m_isMade) → va_S A s.heap H locs → lv_has ls 5 [(0, .ref (qM 0)), (3, .int a3)] → W p l e0 rmX11_rounds s m ar below meth c H locs 0 0 Q (F0 m 77 ls [])) → va_P D vwCl (gM cy qM m_base m_f x.2.1 x.2.2.1 x.2.2.2.1 x.2.2.2.2.1 x.2.2.2.2.2.1 x.2.2.2.2.2.2 m_likes m_like m_isTwo m_came m_by m_queue m_kind m_parts m_wanted m_allowed m_bitOf m_met m_row m_narrows m_narrow m_isMade) H → va_D A (gM cy qM m_base m_f x.2.1 x.2.2.1 x.2.2.2.1 x.2.2.2.2.1 x.2.2.2.2.2.1 x.2.2.2.2.2.2 m_likes m_like m_isTwo m_came m_by m_queue m_kind m_parts m_wanted m_allowed m_bitOf m_met m_row m_narrows m_narrow m_isMade) → va_S A s.heap H locs → lv_has ls 5 [(0, .ref (qM 0)), (1, .int a1), (2, .int a2), (3, .int a3), (4, .int x.1)] → W p l e0 rmX11_rounds s m ar below meth c H locs 0 0 Q (F0 m 38 ls []) := by
    intro k
    induction k with
    | zero => intro x ex H locs ls hf; exact no_some hf
    | succ k ih =>
      intro x ex H locs ls hf hex hP hD hS hl
      have hf : f_X11_rounds_B38 F a1 a2 m_base m_f (lp (f_X11_rounds_B38 F a1 a2 m_base m_f) k) x = some ex := hf
      unfold f_X11_rounds_B38 at hf
      have hJ71 : ∀ (x4 : Int32) (m_many : Int32) (m_figures : Nat → Int32) (m_tail : Int32) (m_round : Int32) (m_rounds : Int32) (m_leasts : Nat → Int64) (H : Heap) (locs : List Loc) (ls : Array Slot), f_X11_rounds_J71 F (lp (f_X11_rounds_B38 F a1 a2 m_base m_f) k) x4 m_many m_figures m_tail m_round m_rounds m_leasts = some ex → va_P D vwCl (gM cy qM m_base m_f m_many m_figures m_tail m_round m_rounds m_leasts m_likes m_like m_isTwo m_came m_by m_queue m_kind m_parts m_wanted m_allowed m_bitOf m_met m_row m_narrows m_narrow m_isMade) H → va_D A (gM cy qM m_base m_f m_many m_figures m_tail m_round m_rounds m_leasts m_likes m_like m_isTwo m_came m_by m_queue m_kind m_parts m_wanted m_allowed m_bitOf m_met m_row m_narrows m_narrow m_isMade) → va_S A s.heap H locs → lv_has ls 5 [(0, .ref (qM 0)), (1, .int a1), (2, .int a2), (3, .int a3), (4, .int x4)] → W p l e0 rmX11_rounds s m ar below meth c H locs 0 0 Q (F0 m 71 ls []) := by
        intro x4 m_many m_figures m_tail m_round m_rounds m_leasts H locs ls hf hP hD hS hl
        unfold f_X11_rounds_J71 at hf
        refine lv_iinc (v := (x4 + (1 : Int32))) (lv' := [(4, .int (x4 + (1 : Int32))), (0, .ref (qM 0)), (1, .int a1), (2, .int a2), (3, .int a3)]) hx hb dX11_rounds_71 hl (k := 4) rfl rfl (by decide) rfl (fun ls hl => ?_)
        refine lv_goto (tgt := 38) hx hb dX11_rounds_74 (by decide) ?_
        exact ih ((x4 + (1 : Int32)), m_many, m_figures, m_tail, m_round, m_rounds, m_leasts) ex _ _ _ hf hex hP hD hS (lv_sub hl [1, 2, 3, 4, 0] rfl)
      refine lv_iload hx hb dX11_rounds_38 (lv_at hl 4 rfl) ?_
      refine lv_iload_n hx hb dX11_rounds_40 rfl (lv_at hl 2 rfl) ?_
      refine lv_icmp_gt (tgt := 77) hx hb dX11_rounds_41 (by decide) (fun c1 => ?_) (fun c1 => ?_)
      · have hf := if_t hf c1
        obtain rfl := Option.some.inj hf
        exact hex _ _ _ hP hD hS (lv_sub hl [0, 3] rfl)
      · have hf := if_f hf c1
        refine lv_aload_n hx hb dX11_rounds_44 rfl (lv_at hl 0 rfl) ?_
        refine lv_iload_n hx hb dX11_rounds_45 rfl (lv_at hl 1 rfl) ?_
        refine lv_iload hx hb dX11_rounds_46 (lv_at hl 4 rfl) ?_
        refine lv_i2l hx hb dX11_rounds_48 rfl ?_
        obtain ⟨r2, hc3, hf⟩ := ob_some hf
        refine kc_v (k_run ⟨hx, hb, hml, hown, hts⟩ (c_X11_layChain hc3) (cwV 2 hts gX11_rounds_X11_layChain rfl rfl rfl (by decide +kernel) ⟨Nat.le_of_ble_eq_true rfl, Nat.le_of_ble_eq_true rfl⟩) hK hN hP hD kA_s (ci := 11) (q0 := 0) rfl rfl rfl rfl hl.1 rfl (Nat.le_of_ble_eq_true rfl) dX11_rounds_49 ⟨Nat.le_of_ble_eq_true rfl, Nat.le_of_ble_eq_true rfl⟩) hP hD hS hA kI_s (fun _ H locs hP hD hS => ?_)
        refine lv_aload_n hx hb dX11_rounds_52 rfl (lv_at hl 0 rfl) ?_
        refine va_get (D := D) (ci := 11) (C := RX11) (T := TX11) (N := 24) hx hb hts huX11 hown hK hP 0 rfl rfl 5 (by decide) fk97 (fun _ h9 => h9) rfl dX11_rounds_53 ?_
        refine lv_if_le (tgt := 71) hx hb dX11_rounds_56 (by decide) (fun c4 => ?_) (fun c4 => ?_)
        · have hf := if_t hf c4
          exact hJ71 x.1 r2.1 r2.2.1 r2.2.2.1 r2.2.2.2 x.2.2.2.2.2.1 x.2.2.2.2.2.2 _ _ _ hf hP hD hS (lv_sub hl [0, 1, 2, 3, 4] rfl)
        · have hf := if_f hf c4
          refine lv_aload_n hx hb dX11_rounds_59 rfl (lv_at hl 0 rfl) ?_
          refine lv_aload_n hx hb dX11_rounds_60 rfl (lv_at hl 0 rfl) ?_
          refine lv_iload_n hx hb dX11_rounds_61 rfl (lv_at hl 1 rfl) ?_
          refine lv_iload hx hb dX11_rounds_62 (lv_at hl 4 rfl) ?_
          refine lv_i2l hx hb dX11_rounds_64 rfl ?_
          obtain ⟨r5, hc6, hf⟩ := ob_some hf
          refine kc_l (k_run ⟨hx, hb, hml, hown, hts⟩ (c_X11_leastOf hc6) (cwV 2 hts gX11_rounds_X11_leastOf rfl rfl rfl (by decide +kernel) ⟨Nat.le_of_ble_eq_true rfl, Nat.le_of_ble_eq_true rfl⟩) hK hN hP hD kA_s (ci := 11) (q0 := 0) rfl rfl rfl rfl hl.1 rfl (Nat.le_of_ble_eq_true rfl) dX11_rounds_65 ⟨Nat.le_of_ble_eq_true rfl, Nat.le_of_ble_eq_true rfl⟩) hP hD hS hA kI_s (fun _ H locs hP hD hS => ?_)
          obtain ⟨r7, hc8, hf⟩ := ob_some hf
          refine kc_v (k_run ⟨hx, hb, hml, hown, hts⟩ (c_X11_addRound hc8) (cwV 1 hts gX11_rounds_X11_addRound rfl rfl rfl (by decide +kernel) ⟨Nat.le_of_ble_eq_true rfl, Nat.le_of_ble_eq_true rfl⟩) hK hN hP hD kA_s (ci := 11) (q0 := 0) rfl rfl rfl rfl hl.1 rfl (Nat.le_of_ble_eq_true rfl) dX11_rounds_68 ⟨Nat.le_of_ble_eq_true rfl, Nat.le_of_ble_eq_true rfl⟩) hP hD hS hA kI_s (fun _ H locs hP hD hS => ?_)
          exact hJ71 x.1 r5.2.1 r5.2.2 r2.2.2.1 r2.2.2.2 r7.1 r7.2 _ _ _ hf hP hD hS (lv_sub hl [0, 1, 2, 3, 4] rfl)
  have hJ26 : ∀ (m_many : Int32) (m_figures : Nat → Int32) (m_tail : Int32) (m_round : Int32) (m_rounds : Int32) (m_leasts : Nat → Int64) (H : Heap) (locs : List Loc) (ls : Array Slot), f_X11_rounds_J26 F m_many m_figures m_tail m_round m_rounds m_leasts = some res → va_P D vwCl (gM cy qM m_base m_f m_many m_figures m_tail m_round m_rounds m_leasts m_likes m_like m_isTwo m_came m_by m_queue m_kind m_parts m_wanted m_allowed m_bitOf m_met m_row m_narrows m_narrow m_isMade) H → va_D A (gM cy qM m_base m_f m_many m_figures m_tail m_round m_rounds m_leasts m_likes m_like m_isTwo m_came m_by m_queue m_kind m_parts m_wanted m_allowed m_bitOf m_met m_row m_narrows m_narrow m_isMade) → va_S A s.heap H locs → lv_has ls 5 [] → W p l e0 rmX11_rounds s m ar below meth c H locs 0 0 Q (F0 m 26 ls []) := by
    intro m_many m_figures m_tail m_round m_rounds m_leasts H locs ls hf hP hD hS hl
    unfold f_X11_rounds_J26 at hf
    refine lv_ldc2 (v := (-1 : Int64)) hx hb hown fk95 dX11_rounds_26 ?_
    obtain rfl := Option.some.inj hf
    exact hQ () 29 _ _ _ dX11_rounds_29 hP hD hS
  have hJ9 : ∀ (m_many : Int32) (m_figures : Nat → Int32) (m_tail : Int32) (m_round : Int32) (m_rounds : Int32) (m_leasts : Nat → Int64) (H : Heap) (locs : List Loc) (ls : Array Slot), f_X11_rounds_J9 F a1 a2 a3 m_base m_f m_many m_figures m_tail m_round m_rounds m_leasts = some res → va_P D vwCl (gM cy qM m_base m_f m_many m_figures m_tail m_round m_rounds m_leasts m_likes m_like m_isTwo m_came m_by m_queue m_kind m_parts m_wanted m_allowed m_bitOf m_met m_row m_narrows m_narrow m_isMade) H → va_D A (gM cy qM m_base m_f m_many m_figures m_tail m_round m_rounds m_leasts m_likes m_like m_isTwo m_came m_by m_queue m_kind m_parts m_wanted m_allowed m_bitOf m_met m_row m_narrows m_narrow m_isMade) → va_S A s.heap H locs → lv_has ls 5 [(0, .ref (qM 0)), (1, .int a1), (2, .int a2), (3, .int a3)] → W p l e0 rmX11_rounds s m ar below meth c H locs 0 0 Q (F0 m 9 ls []) := by
    intro m_many m_figures m_tail m_round m_rounds m_leasts H locs ls hf hP hD hS hl
    unfold f_X11_rounds_J9 at hf
    refine lv_iload_n hx hb dX11_rounds_9 rfl (lv_at hl 2 rfl) ?_
    refine lv_i2l hx hb dX11_rounds_10 rfl ?_
    refine lv_lconst (v := (0 : Int64)) hx hb dX11_rounds_11 (by decide) ?_
    refine lv_ldc2 (v := (20000 : Int64)) hx hb hown fk116 dX11_rounds_12 ?_
    obtain ⟨r9, hc10, hf⟩ := ob_some hf
    refine kc_i (k_runS ⟨hx, hb, hml, hown, hts⟩ (c_X11_in hc10) (va_cwS 3 hts gX11_rounds_X11_in rfl rfl rfl (by decide +kernel) ⟨Nat.le_of_ble_eq_true rfl, Nat.le_of_ble_eq_true rfl⟩) hK hN hP hD kA_0 rfl hl.1 rfl (Nat.le_of_ble_eq_true rfl) dX11_rounds_15 ⟨Nat.le_of_ble_eq_true rfl, Nat.le_of_ble_eq_true rfl⟩) hP hD hS hA kI_0 (fun _ H locs hP hD hS => ?_)
    refine lv_if_eq (tgt := 26) hx hb dX11_rounds_18 (by decide) (fun c11 => ?_) (fun c11 => ?_)
    · have hf := if_t hf c11
      exact hJ26 m_many m_figures m_tail m_round m_rounds m_leasts _ _ _ hf hP hD hS (lv_sub hl [] rfl)
    · have hf := if_f hf c11
      refine lv_iload_n hx hb dX11_rounds_21 rfl (lv_at hl 3 rfl) ?_
      refine lv_iconst (v := (-1 : Int32)) hx hb dX11_rounds_22 (by decide) ?_
      refine lv_icmp_ge (tgt := 30) hx hb dX11_rounds_23 (by decide) (fun c12 => ?_) (fun c12 => ?_)
      · have hf := if_t hf c12
        refine lv_aload_n hx hb dX11_rounds_30 rfl (lv_at hl 0 rfl) ?_
        refine lv_iconst (v := (0 : Int32)) hx hb dX11_rounds_31 (by decide) ?_
        refine va_put (D := D) (ci := 11) (v := .int (0 : Int32)) (ty := .int) (C := RX11) (T := TX11) (N := 24) hx hb hts huX11 tyX11 tyX11_ok nmX11 hown hK hP hD hS 0 rfl rfl 6 (by decide) fk113 (fun _ h9 => h9) rfl (tyX11_ok 6 (by decide)) rfl rfl (Nat.le_of_ble_eq_true rfl) dX11_rounds_32 (fun H locs hP hD hS => ?_)
        have hP : va_P D vwCl (gM cy qM m_base m_f m_many m_figures m_tail m_round (0 : Int32) m_leasts m_likes m_like m_isTwo m_came m_by m_queue m_kind m_parts m_wanted m_allowed m_bitOf m_met m_row m_narrows m_narrow m_isMade) H := hP
        have hD : va_D A (gM cy qM m_base m_f m_many m_figures m_tail m_round (0 : Int32) m_leasts m_likes m_like m_isTwo m_came m_by m_queue m_kind m_parts m_wanted m_allowed m_bitOf m_met m_row m_narrows m_narrow m_isMade) := hD
        refine lv_iconst (v := (0 : Int32)) hx hb dX11_rounds_35 (by decide) ?_
        refine lv_istore (lv' := [(4, .int (0 : Int32)), (0, .ref (qM 0)), (1, .int a1), (2, .int a2), (3, .int a3)]) hx hb dX11_rounds_36 hl (by decide) rfl (fun ls hl => ?_)
        obtain ⟨ex13, hcl, hf⟩ := ob_some hf
        refine hL38 F ((0 : Int32), m_many, m_figures, m_tail, m_round, (0 : Int32), m_leasts) ex13 _ _ _ hcl (fun H locs ls hP hD hS hl => ?_) hP hD hS (lv_sub hl [1, 2, 3, 4, 0] rfl)
        refine lv_iload_n hx hb dX11_rounds_77 rfl (lv_at hl 1 rfl) ?_
        refine lv_iconst (v := (-1 : Int32)) hx hb dX11_rounds_78 (by decide) ?_
        refine lv_icmp_ne (tgt := 90) hx hb dX11_rounds_79 (by decide) (fun c14 => ?_) (fun c14 => ?_)
        · have hf := if_f hf c14
          refine lv_iload_n hx hb dX11_rounds_90 rfl (lv_at hl 1 rfl) ?_
          refine lv_aload_n hx hb dX11_rounds_91 rfl (lv_at hl 0 rfl) ?_
          refine va_get (D := D) (ci := 11) (C := RX11) (T := TX11) (N := 24) hx hb hts huX11 hown hK hP 0 rfl rfl 6 (by decide) fk113 (fun _ h9 => h9) rfl dX11_rounds_92 ?_
          refine lv_icmp_ge (tgt := 107) hx hb dX11_rounds_95 (by decide) (fun c15 => ?_) (fun c15 => ?_)
          · have hf := if_t hf c15
            refine lv_ldc2 (v := (-4 : Int64)) hx hb hown fk111 dX11_rounds_107 ?_
            exact hJ110 (-4 : Int64) ex13.1 ex13.2.1 ex13.2.2.1 ex13.2.2.2.1 ex13.2.2.2.2.1 ex13.2.2.2.2.2 _ _ _ hf hP hD hS (lv_sub hl [] rfl)
          · have hf := if_f hf c15
            refine lv_aload_n hx hb dX11_rounds_98 rfl (lv_at hl 0 rfl) ?_
            refine va_get (v := .ref (qM 3)) (D := D) (ci := 11) (C := RX11) (T := TX11) (N := 24) hx hb hts huX11 hown hK hP 0 rfl rfl 7 (by decide) fk20 (fun _ h9 => h9) rfl dX11_rounds_99 ?_
            refine lv_iload_n hx hb dX11_rounds_102 rfl (lv_at hl 1 rfl) ?_
            obtain ⟨c16, hf⟩ := ck_some hf
            refine va_lald hx hb hK hP 3 1 rfl rfl c16 dX11_rounds_103 ?_
            refine lv_goto (tgt := 110) hx hb dX11_rounds_104 (by decide) ?_
            exact hJ110 (ex13.2.2.2.2.2 a3.toNatClampNeg) ex13.1 ex13.2.1 ex13.2.2.1 ex13.2.2.2.1 ex13.2.2.2.2.1 ex13.2.2.2.2.2 _ _ _ hf hP hD hS (lv_sub hl [] rfl)
        · have hf := if_t hf c14
          refine lv_aload_n hx hb dX11_rounds_82 rfl (lv_at hl 0 rfl) ?_
          refine va_get (D := D) (ci := 11) (C := RX11) (T := TX11) (N := 24) hx hb hts huX11 hown hK hP 0 rfl rfl 6 (by decide) fk113 (fun _ h9 => h9) rfl dX11_rounds_83 ?_
          refine lv_i2l hx hb dX11_rounds_86 rfl ?_
          refine lv_goto (tgt := 110) hx hb dX11_rounds_87 (by decide) ?_
          exact hJ110 ex13.2.2.2.2.1.toInt64 ex13.1 ex13.2.1 ex13.2.2.1 ex13.2.2.2.1 ex13.2.2.2.2.1 ex13.2.2.2.2.2 _ _ _ hf hP hD hS (lv_sub hl [] rfl)
      · have hf := if_f hf c12
        exact hJ26 m_many m_figures m_tail m_round m_rounds m_leasts _ _ _ hf hP hD hS (lv_sub hl [] rfl)
  refine lv_iload_n hx hb dX11_rounds_0 rfl (lv_at hl 1 rfl) ?_
  refine lv_if_eq (tgt := 9) hx hb dX11_rounds_1 (by decide) (fun c17 => ?_) (fun c17 => ?_)
  · have hf := if_t hf c17
    exact hJ9 m_many m_figures m_tail m_round m_rounds m_leasts _ _ _ hf hP hD hS (lv_sub hl [0, 1, 2, 3] rfl)
  · have hf := if_f hf c17
    refine lv_iload_n hx hb dX11_rounds_4 rfl (lv_at hl 1 rfl) ?_
    refine lv_iconst (v := (3 : Int32)) hx hb dX11_rounds_5 (by decide) ?_
    refine lv_icmp_ne (tgt := 26) hx hb dX11_rounds_6 (by decide) (fun c18 => ?_) (fun c18 => ?_)
    · have hf := if_f hf c18
      exact hJ26 m_many m_figures m_tail m_round m_rounds m_leasts _ _ _ hf hP hD hS (lv_sub hl [] rfl)
    · have hf := if_t hf c18
      exact hJ9 m_many m_figures m_tail m_round m_rounds m_leasts _ _ _ hf hP hD hS (lv_sub hl [0, 1, 2, 3] rfl)
def f_X11_isTo_J29 (F : Nat) (s0 : Int32) : Option (Int32) := ck (s0 &&& 1 = s0) (some s0)
def f_X11_isTo_J28 (F : Nat) : Option (Int32) := f_X11_isTo_J29 F (0 : Int32)
def f_X11_isTo (F : Nat) (a0 : Int32) (a1 : Int32) : Option (Int32) := (f_X11_in F a0.toInt64 (0 : Int64) (5 : Int64)).bind (fun r1 => if r1 = 0 then (f_X11_isTo_J28 F) else ((f_X11_in F a1.toInt64 (0 : Int64) (3000 : Int64)).bind (fun r4 => if r4 = 0 then (f_X11_isTo_J28 F) else (f_X11_isTo_J29 F (1 : Int32)))))
abbrev rmX11_isTo : Room := { frames := 1, cells := 0, slots := 0, locals := 25 }
set_option maxHeartbeats 1000000 in
set_option maxRecDepth 100000 in
theorem c_X11_isTo {l : Launch} {D : va_G} {cy : Nat → ClassId} {a0 : Int32} {a1 : Int32} {F : Nat} {res : Int32} (hf : f_X11_isTo F a0 a1 = some res) : kM l yX11_isTo wsX11_isTo rmX11_isTo D cy [.int a0, .int a1] ([]) (kQi D cy (fun _ : Unit => []) res) := by
  refine kent_z (cc := cX11_isTo) (maxL := 2) (by decide) rfl (Nat.le_of_ble_eq_true rfl) ?_
  intro p e0 s m ar below meth c A Q ls ⟨hx, hb, hml, hr, hts, hown, hlocks, hnm⟩ hA hK hN hQ hP hD hS hl
  have hl : lv_has ls 2 [(0, .int a0), (1, .int a1)] := hl
  have hown : s.vm.findClass RX11 = some m.cls := hown
  have fk89 : (Cond.constantLong RX11 89 (5)).before ar s = true := hts _ (by decide +kernel)
  have fk124 : (Cond.constantLong RX11 124 (3000)).before ar s = true := hts _ (by decide +kernel)
  unfold f_X11_isTo at hf
  have hJ29 : ∀ (s0 : Int32) (H : Heap) (locs : List Loc) (ls : Array Slot), f_X11_isTo_J29 F s0 = some res → va_P D vwCl ([]) H → va_D A ([]) → va_S A s.heap H locs → lv_has ls 2 [] → W p l e0 rmX11_isTo s m ar below meth c H locs 0 0 Q (F0 m 29 ls [.int s0]) := by
    intro s0 H locs ls hf hP hD hS hl
    unfold f_X11_isTo_J29 at hf
    obtain ⟨cz, hf⟩ := ck_some hf
    obtain rfl := Option.some.inj hf
    exact hQ () 29 _ _ _ cz dX11_isTo_29 hP hD hS
  have hJ28 : ∀ (H : Heap) (locs : List Loc) (ls : Array Slot), f_X11_isTo_J28 F = some res → va_P D vwCl ([]) H → va_D A ([]) → va_S A s.heap H locs → lv_has ls 2 [] → W p l e0 rmX11_isTo s m ar below meth c H locs 0 0 Q (F0 m 28 ls []) := by
    intro H locs ls hf hP hD hS hl
    unfold f_X11_isTo_J28 at hf
    refine lv_iconst (v := (0 : Int32)) hx hb dX11_isTo_28 (by decide) ?_
    exact hJ29 (0 : Int32) _ _ _ hf hP hD hS (lv_sub hl [] rfl)
  refine lv_iload_n hx hb dX11_isTo_0 rfl (lv_at hl 0 rfl) ?_
  refine lv_i2l hx hb dX11_isTo_1 rfl ?_
  refine lv_lconst (v := (0 : Int64)) hx hb dX11_isTo_2 (by decide) ?_
  refine lv_ldc2 (v := (5 : Int64)) hx hb hown fk89 dX11_isTo_3 ?_
  obtain ⟨r1, hc2, hf⟩ := ob_some hf
  refine kc_i (k_runS ⟨hx, hb, hml, hown, hts⟩ (c_X11_in hc2) (va_cwS 3 hts gX11_isTo_X11_in rfl rfl rfl (by decide +kernel) ⟨Nat.le_of_ble_eq_true rfl, Nat.le_of_ble_eq_true rfl⟩) hK hN hP hD kA_0 rfl hl.1 rfl (Nat.le_of_ble_eq_true rfl) dX11_isTo_6 ⟨Nat.le_of_ble_eq_true rfl, Nat.le_of_ble_eq_true rfl⟩) hP hD hS hA kI_0 (fun _ H locs hP hD hS => ?_)
  refine lv_if_eq (tgt := 28) hx hb dX11_isTo_9 (by decide) (fun c3 => ?_) (fun c3 => ?_)
  · have hf := if_t hf c3
    exact hJ28 _ _ _ hf hP hD hS (lv_sub hl [] rfl)
  · have hf := if_f hf c3
    refine lv_iload_n hx hb dX11_isTo_12 rfl (lv_at hl 1 rfl) ?_
    refine lv_i2l hx hb dX11_isTo_13 rfl ?_
    refine lv_lconst (v := (0 : Int64)) hx hb dX11_isTo_14 (by decide) ?_
    refine lv_ldc2 (v := (3000 : Int64)) hx hb hown fk124 dX11_isTo_15 ?_
    obtain ⟨r4, hc5, hf⟩ := ob_some hf
    refine kc_i (k_runS ⟨hx, hb, hml, hown, hts⟩ (c_X11_in hc5) (va_cwS 3 hts gX11_isTo_X11_in rfl rfl rfl (by decide +kernel) ⟨Nat.le_of_ble_eq_true rfl, Nat.le_of_ble_eq_true rfl⟩) hK hN hP hD kA_0 rfl hl.1 rfl (Nat.le_of_ble_eq_true rfl) dX11_isTo_18 ⟨Nat.le_of_ble_eq_true rfl, Nat.le_of_ble_eq_true rfl⟩) hP hD hS hA kI_0 (fun _ H locs hP hD hS => ?_)
    refine lv_if_eq (tgt := 28) hx hb dX11_isTo_21 (by decide) (fun c6 => ?_) (fun c6 => ?_)
    · have hf := if_t hf c6
      exact hJ28 _ _ _ hf hP hD hS (lv_sub hl [] rfl)
    · have hf := if_f hf c6
      refine lv_iconst (v := (1 : Int32)) hx hb dX11_isTo_24 (by decide) ?_
      refine lv_goto (tgt := 29) hx hb dX11_isTo_25 (by decide) ?_
      exact hJ29 (1 : Int32) _ _ _ hf hP hD hS (lv_sub hl [] rfl)
def f_X11_first_J57 (F : Nat) (rec : (Int32 × Int32 × (Nat → Int32) × Int32 × Int32) → Option ((Int32 × Int32 × (Nat → Int32) × Int32 × Int32) ⊕ (Int32 × (Nat → Int32) × Int32 × Int32))) (x4 : Int32) (m_many : Int32) (m_figures : Nat → Int32) (m_tail : Int32) (m_round : Int32) : Option ((Int32 × Int32 × (Nat → Int32) × Int32 × Int32) ⊕ (Int32 × (Nat → Int32) × Int32 × Int32)) := rec ((x4 + (1 : Int32)), m_many, m_figures, m_tail, m_round)
def f_X11_first_B25 (F : Nat) (a1 : Int32) (a2 : Int32) (a3 : Int32) (m_base : Int32) (m_f : Nat → Int32) (rec : Int32 × Int32 × (Nat → Int32) × Int32 × Int32 → Option ((Int32 × Int32 × (Nat → Int32) × Int32 × Int32) ⊕ (Int32 × (Nat → Int32) × Int32 × Int32))) (x : Int32 × Int32 × (Nat → Int32) × Int32 × Int32) : Option ((Int32 × Int32 × (Nat → Int32) × Int32 × Int32) ⊕ (Int32 × (Nat → Int32) × Int32 × Int32)) := if a3 < x.1 then (some (.inr (x.2.1, x.2.2.1, x.2.2.2.1, x.2.2.2.2))) else ((f_X11_layChain F a1 x.1.toInt64 m_base m_f x.2.1 x.2.2.1 x.2.2.2.1 x.2.2.2.2).bind (fun r2 => if r2.2.2.2 ≤ 0 then (f_X11_first_J57 F rec x.1 r2.1 r2.2.1 r2.2.2.1 r2.2.2.2) else (if r2.2.2.1 = a2 then (some (.inl (x.1, r2.1, r2.2.1, r2.2.2.1, r2.2.2.2))) else (f_X11_first_J57 F rec x.1 r2.1 r2.2.1 r2.2.2.1 r2.2.2.2))))
def f_X11_first_J20 (F : Nat) (m_many : Int32) (m_figures : Nat → Int32) (m_tail : Int32) (m_round : Int32) : Option (Int32 × Int32 × (Nat → Int32) × Int32 × Int32) := some ((-1 : Int32), m_many, m_figures, m_tail, m_round)
def f_X11_first (F : Nat) (a1 : Int32) (a2 : Int32) (a3 : Int32) (m_base : Int32) (m_f : Nat → Int32) (m_many : Int32) (m_figures : Nat → Int32) (m_tail : Int32) (m_round : Int32) : Option (Int32 × Int32 × (Nat → Int32) × Int32 × Int32) := (f_X11_isTo F a1 a3).bind (fun r6 => if r6 = 0 then (f_X11_first_J20 F m_many m_figures m_tail m_round) else ((f_X11_in F a2.toInt64 (0 : Int64) (300 : Int64)).bind (fun r9 => if r9 = 0 then (f_X11_first_J20 F m_many m_figures m_tail m_round) else ((lp (f_X11_first_B25 F a1 a2 a3 m_base m_f) F ((0 : Int32), m_many, m_figures, m_tail, m_round)).bind (fun ex12 => Sum.elim (fun r => some r) (fun er13 => some ((-4 : Int32), er13.1, er13.2.1, er13.2.2.1, er13.2.2.2)) ex12)))))
abbrev rmX11_first : Room := { frames := 5, cells := 0, slots := 0, locals := 137 }
set_option maxHeartbeats 1000000 in
set_option maxRecDepth 100000 in
theorem c_X11_first {l : Launch} {D : va_G} {cy : Nat → ClassId} {qM : Nat → Nat} {m_base : Int32} {m_f : Nat → Int32} {m_many : Int32} {m_figures : Nat → Int32} {m_tail : Int32} {m_round : Int32} {m_rounds : Int32} {m_leasts : Nat → Int64} {m_likes : Int32} {m_like : Nat → Int32} {m_isTwo : Nat → Int32} {m_came : Nat → Int32} {m_by : Nat → Int32} {m_queue : Nat → Int32} {m_kind : Int32} {m_parts : Int32} {m_wanted : Int32} {m_allowed : Int32} {m_bitOf : Nat → Int32} {m_met : Int32} {m_row : Nat → Int32} {m_narrows : Int32} {m_narrow : Nat → Int64} {m_isMade : Nat → Int32} {a1 : Int32} {a2 : Int32} {a3 : Int32} {F : Nat} {res : Int32 × Int32 × (Nat → Int32) × Int32 × Int32} (hf : f_X11_first F a1 a2 a3 m_base m_f m_many m_figures m_tail m_round = some res) : kM l yX11_first wsX11_first rmX11_first D cy [.ref (qM 0), .int a1, .int a2, .int a3] (gM cy qM m_base m_f m_many m_figures m_tail m_round m_rounds m_leasts m_likes m_like m_isTwo m_came m_by m_queue m_kind m_parts m_wanted m_allowed m_bitOf m_met m_row m_narrows m_narrow m_isMade) (kQi D cy (fun _ : Unit => gM cy qM m_base m_f res.2.1 res.2.2.1 res.2.2.2.1 res.2.2.2.2 m_rounds m_leasts m_likes m_like m_isTwo m_came m_by m_queue m_kind m_parts m_wanted m_allowed m_bitOf m_met m_row m_narrows m_narrow m_isMade) res.1) := by
  refine kent_i (cc := cX11_first) (maxL := 5) (by decide) rfl (Nat.le_of_ble_eq_true rfl) ?_
  intro p e0 s m ar below meth c A Q ls ⟨hx, hb, hml, hr, hts, hown, hlocks, hnm⟩ hA hK hN hQ hP hD hS hl
  have hl : lv_has ls 5 [(0, .ref (qM 0)), (1, .int a1), (2, .int a2), (3, .int a3)] := hl
  have hown : s.vm.findClass RX11 = some m.cls := hown
  have huX11 : ∀ x ∈ u_ws RX11 TX11 24, x ∈ wsX11_first := by decide +kernel
  have fk97 : (Cond.fieldLink RX11 97 "FigurePlayModel" "round" "I").before ar s = true := hts _ (by decide +kernel)
  have fk100 : (Cond.fieldLink RX11 100 "FigurePlayModel" "tail" "I").before ar s = true := hts _ (by decide +kernel)
  have fk130 : (Cond.constantLong RX11 130 (300)).before ar s = true := hts _ (by decide +kernel)
  unfold f_X11_first at hf
  have hL25 : ∀ (k : Nat) (x : Int32 × Int32 × (Nat → Int32) × Int32 × Int32) (ex : (Int32 × Int32 × (Nat → Int32) × Int32 × Int32) ⊕ (Int32 × (Nat → Int32) × Int32 × Int32)) (H : Heap) (locs : List Loc) (ls : Array Slot), lp (f_X11_first_B25 F a1 a2 a3 m_base m_f) k x = some ex → (∀ r, ex = .inl r → r = res) → (∀ er, ex = .inr er → ∀ (H : Heap) (locs : List Loc) (ls : Array Slot), va_P D vwCl (gM cy qM m_base m_f er.1 er.2.1 er.2.2.1 er.2.2.2 m_rounds m_leasts m_likes m_like m_isTwo m_came m_by m_queue m_kind m_parts m_wanted m_allowed m_bitOf m_met m_row m_narrows m_narrow m_isMade) H → va_D A (gM cy qM m_base m_f er.1 er.2.1 er.2.2.1 er.2.2.2 m_rounds m_leasts m_likes m_like m_isTwo m_came m_by m_queue m_kind m_parts m_wanted m_allowed m_bitOf m_met m_row m_narrows m_narrow m_isMade) → va_S A s.heap H locs → lv_has ls 5 [] → W p l e0 rmX11_first s m ar below meth c H locs 0 0 Q (F0 m 63 ls [])) → va_P D vwCl (gM cy qM m_base m_f x.2.1 x.2.2.1 x.2.2.2.1 x.2.2.2.2 m_rounds m_leasts m_likes m_like m_isTwo m_came m_by m_queue m_kind m_parts m_wanted m_allowed m_bitOf m_met m_row m_narrows m_narrow m_isMade) H → va_D A (gM cy qM m_base m_f x.2.1 x.2.2.1 x.2.2.2.1 x.2.2.2.2 m_rounds m_leasts m_likes m_like m_isTwo m_came m_by m_queue m_kind m_parts m_wanted m_allowed m_bitOf m_met m_row m_narrows m_narrow m_isMade) → va_S A s.heap H locs → lv_has ls 5 [(0, .ref (qM 0)), (1, .int a1), (2, .int a2), (3, .int a3), (4, .int x.1)] → W p l e0 rmX11_first s m ar below meth c H locs 0 0 Q (F0 m 25 ls []) := by
    intro k
    induction k with
    | zero => intro x ex H locs ls hf; exact no_some hf
    | succ k ih =>
      intro x ex H locs ls hf hret hex hP hD hS hl
      have hf : f_X11_first_B25 F a1 a2 a3 m_base m_f (lp (f_X11_first_B25 F a1 a2 a3 m_base m_f) k) x = some ex := hf
      unfold f_X11_first_B25 at hf
      have hJ57 : ∀ (x4 : Int32) (m_many : Int32) (m_figures : Nat → Int32) (m_tail : Int32) (m_round : Int32) (H : Heap) (locs : List Loc) (ls : Array Slot), f_X11_first_J57 F (lp (f_X11_first_B25 F a1 a2 a3 m_base m_f) k) x4 m_many m_figures m_tail m_round = some ex → va_P D vwCl (gM cy qM m_base m_f m_many m_figures m_tail m_round m_rounds m_leasts m_likes m_like m_isTwo m_came m_by m_queue m_kind m_parts m_wanted m_allowed m_bitOf m_met m_row m_narrows m_narrow m_isMade) H → va_D A (gM cy qM m_base m_f m_many m_figures m_tail m_round m_rounds m_leasts m_likes m_like m_isTwo m_came m_by m_queue m_kind m_parts m_wanted m_allowed m_bitOf m_met m_row m_narrows m_narrow m_isMade) → va_S A s.heap H locs → lv_has ls 5 [(0, .ref (qM 0)), (1, .int a1), (2, .int a2), (3, .int a3), (4, .int x4)] → W p l e0 rmX11_first s m ar below meth c H locs 0 0 Q (F0 m 57 ls []) := by
        intro x4 m_many m_figures m_tail m_round H locs ls hf hP hD hS hl
        unfold f_X11_first_J57 at hf
        refine lv_iinc (v := (x4 + (1 : Int32))) (lv' := [(4, .int (x4 + (1 : Int32))), (0, .ref (qM 0)), (1, .int a1), (2, .int a2), (3, .int a3)]) hx hb dX11_first_57 hl (k := 4) rfl rfl (by decide) rfl (fun ls hl => ?_)
        refine lv_goto (tgt := 25) hx hb dX11_first_60 (by decide) ?_
        exact ih ((x4 + (1 : Int32)), m_many, m_figures, m_tail, m_round) ex _ _ _ hf hret hex hP hD hS (lv_sub hl [1, 2, 3, 4, 0] rfl)
      refine lv_iload hx hb dX11_first_25 (lv_at hl 4 rfl) ?_
      refine lv_iload_n hx hb dX11_first_27 rfl (lv_at hl 3 rfl) ?_
      refine lv_icmp_gt (tgt := 63) hx hb dX11_first_28 (by decide) (fun c1 => ?_) (fun c1 => ?_)
      · have hf := if_t hf c1
        obtain rfl := Option.some.inj hf
        exact hex _ rfl _ _ _ hP hD hS (lv_sub hl [] rfl)
      · have hf := if_f hf c1
        refine lv_aload_n hx hb dX11_first_31 rfl (lv_at hl 0 rfl) ?_
        refine lv_iload_n hx hb dX11_first_32 rfl (lv_at hl 1 rfl) ?_
        refine lv_iload hx hb dX11_first_33 (lv_at hl 4 rfl) ?_
        refine lv_i2l hx hb dX11_first_35 rfl ?_
        obtain ⟨r2, hc3, hf⟩ := ob_some hf
        refine kc_v (k_run ⟨hx, hb, hml, hown, hts⟩ (c_X11_layChain hc3) (cwV 2 hts gX11_first_X11_layChain rfl rfl rfl (by decide +kernel) ⟨Nat.le_of_ble_eq_true rfl, Nat.le_of_ble_eq_true rfl⟩) hK hN hP hD kA_s (ci := 11) (q0 := 0) rfl rfl rfl rfl hl.1 rfl (Nat.le_of_ble_eq_true rfl) dX11_first_36 ⟨Nat.le_of_ble_eq_true rfl, Nat.le_of_ble_eq_true rfl⟩) hP hD hS hA kI_s (fun _ H locs hP hD hS => ?_)
        refine lv_aload_n hx hb dX11_first_39 rfl (lv_at hl 0 rfl) ?_
        refine va_get (D := D) (ci := 11) (C := RX11) (T := TX11) (N := 24) hx hb hts huX11 hown hK hP 0 rfl rfl 5 (by decide) fk97 (fun _ h9 => h9) rfl dX11_first_40 ?_
        refine lv_if_le (tgt := 57) hx hb dX11_first_43 (by decide) (fun c4 => ?_) (fun c4 => ?_)
        · have hf := if_t hf c4
          exact hJ57 x.1 r2.1 r2.2.1 r2.2.2.1 r2.2.2.2 _ _ _ hf hP hD hS (lv_sub hl [0, 1, 2, 3, 4] rfl)
        · have hf := if_f hf c4
          refine lv_aload_n hx hb dX11_first_46 rfl (lv_at hl 0 rfl) ?_
          refine va_get (D := D) (ci := 11) (C := RX11) (T := TX11) (N := 24) hx hb hts huX11 hown hK hP 0 rfl rfl 4 (by decide) fk100 (fun _ h9 => h9) rfl dX11_first_47 ?_
          refine lv_iload_n hx hb dX11_first_50 rfl (lv_at hl 2 rfl) ?_
          refine lv_icmp_ne (tgt := 57) hx hb dX11_first_51 (by decide) (fun c5 => ?_) (fun c5 => ?_)
          · have hf := if_f hf c5
            exact hJ57 x.1 r2.1 r2.2.1 r2.2.2.1 r2.2.2.2 _ _ _ hf hP hD hS (lv_sub hl [0, 1, 2, 3, 4] rfl)
          · have hf := if_t hf c5
            refine lv_iload hx hb dX11_first_54 (lv_at hl 4 rfl) ?_
            obtain rfl := Option.some.inj hf
            obtain rfl := hret _ rfl
            exact hQ () 56 _ _ _ dX11_first_56 hP hD hS
  have hJ20 : ∀ (m_many : Int32) (m_figures : Nat → Int32) (m_tail : Int32) (m_round : Int32) (H : Heap) (locs : List Loc) (ls : Array Slot), f_X11_first_J20 F m_many m_figures m_tail m_round = some res → va_P D vwCl (gM cy qM m_base m_f m_many m_figures m_tail m_round m_rounds m_leasts m_likes m_like m_isTwo m_came m_by m_queue m_kind m_parts m_wanted m_allowed m_bitOf m_met m_row m_narrows m_narrow m_isMade) H → va_D A (gM cy qM m_base m_f m_many m_figures m_tail m_round m_rounds m_leasts m_likes m_like m_isTwo m_came m_by m_queue m_kind m_parts m_wanted m_allowed m_bitOf m_met m_row m_narrows m_narrow m_isMade) → va_S A s.heap H locs → lv_has ls 5 [] → W p l e0 rmX11_first s m ar below meth c H locs 0 0 Q (F0 m 20 ls []) := by
    intro m_many m_figures m_tail m_round H locs ls hf hP hD hS hl
    unfold f_X11_first_J20 at hf
    refine lv_iconst (v := (-1 : Int32)) hx hb dX11_first_20 (by decide) ?_
    obtain rfl := Option.some.inj hf
    exact hQ () 21 _ _ _ dX11_first_21 hP hD hS
  refine lv_iload_n hx hb dX11_first_0 rfl (lv_at hl 1 rfl) ?_
  refine lv_iload_n hx hb dX11_first_1 rfl (lv_at hl 3 rfl) ?_
  obtain ⟨r6, hc7, hf⟩ := ob_some hf
  refine kc_i (k_runS ⟨hx, hb, hml, hown, hts⟩ (c_X11_isTo hc7) (va_cwS 2 hts gX11_first_X11_isTo rfl rfl rfl (by decide +kernel) ⟨Nat.le_of_ble_eq_true rfl, Nat.le_of_ble_eq_true rfl⟩) hK hN hP hD kA_0 rfl hl.1 rfl (Nat.le_of_ble_eq_true rfl) dX11_first_2 ⟨Nat.le_of_ble_eq_true rfl, Nat.le_of_ble_eq_true rfl⟩) hP hD hS hA kI_0 (fun _ H locs hP hD hS => ?_)
  refine lv_if_eq (tgt := 20) hx hb dX11_first_5 (by decide) (fun c8 => ?_) (fun c8 => ?_)
  · have hf := if_t hf c8
    exact hJ20 m_many m_figures m_tail m_round _ _ _ hf hP hD hS (lv_sub hl [] rfl)
  · have hf := if_f hf c8
    refine lv_iload_n hx hb dX11_first_8 rfl (lv_at hl 2 rfl) ?_
    refine lv_i2l hx hb dX11_first_9 rfl ?_
    refine lv_lconst (v := (0 : Int64)) hx hb dX11_first_10 (by decide) ?_
    refine lv_ldc2 (v := (300 : Int64)) hx hb hown fk130 dX11_first_11 ?_
    obtain ⟨r9, hc10, hf⟩ := ob_some hf
    refine kc_i (k_runS ⟨hx, hb, hml, hown, hts⟩ (c_X11_in hc10) (va_cwS 3 hts gX11_first_X11_in rfl rfl rfl (by decide +kernel) ⟨Nat.le_of_ble_eq_true rfl, Nat.le_of_ble_eq_true rfl⟩) hK hN hP hD kA_0 rfl hl.1 rfl (Nat.le_of_ble_eq_true rfl) dX11_first_14 ⟨Nat.le_of_ble_eq_true rfl, Nat.le_of_ble_eq_true rfl⟩) hP hD hS hA kI_0 (fun _ H locs hP hD hS => ?_)
    refine lv_if_ne (tgt := 22) hx hb dX11_first_17 (by decide) (fun c11 => ?_) (fun c11 => ?_)
    · have hf := if_f hf c11
      refine lv_iconst (v := (0 : Int32)) hx hb dX11_first_22 (by decide) ?_
      refine lv_istore (lv' := [(4, .int (0 : Int32)), (0, .ref (qM 0)), (1, .int a1), (2, .int a2), (3, .int a3)]) hx hb dX11_first_23 hl (by decide) rfl (fun ls hl => ?_)
      obtain ⟨ex12, hcl, hf⟩ := ob_some hf
      refine hL25 F ((0 : Int32), m_many, m_figures, m_tail, m_round) ex12 _ _ _ hcl (fun r hr0 => ?_) (fun er13 hr0 H locs ls hP hD hS hl => ?_) hP hD hS (lv_sub hl [1, 2, 3, 4, 0] rfl)
      · subst hr0; exact Option.some.inj (sm_inl hf)
      · subst hr0
        have hf := sm_inr hf
        refine lv_bipush (v := (-4 : Int32)) hx hb dX11_first_63 (by decide) ?_
        obtain rfl := Option.some.inj hf
        exact hQ () 65 _ _ _ dX11_first_65 hP hD hS
    · have hf := if_t hf c11
      exact hJ20 m_many m_figures m_tail m_round _ _ _ hf hP hD hS (lv_sub hl [] rfl)
def f_X11_tallest_J88 (F : Nat) (s0 : Int32) (m_many : Int32) (m_figures : Nat → Int32) (m_tail : Int32) (m_round : Int32) : Option (Int32 × Int32 × (Nat → Int32) × Int32 × Int32) := some (s0, m_many, m_figures, m_tail, m_round)
def f_X11_tallest_J71 (F : Nat) (rec : (Int32 × Int32 × Int32 × Int32 × (Nat → Int32) × Int32 × Int32) → Option (Int32 × Int32 × Int32 × (Nat → Int32) × Int32 × Int32)) (x4 : Int32) (x5 : Int32) (x6 : Int32) (m_many : Int32) (m_figures : Nat → Int32) (m_tail : Int32) (m_round : Int32) : Option (Int32 × Int32 × Int32 × (Nat → Int32) × Int32 × Int32) := rec (x4, x5, (x6 + (1 : Int32)), m_many, m_figures, m_tail, m_round)
def f_X11_tallest_B31 (F : Nat) (a1 : Int32) (a2 : Int32) (m_base : Int32) (m_f : Nat → Int32) (rec : Int32 × Int32 × Int32 × Int32 × (Nat → Int32) × Int32 × Int32 → Option (Int32 × Int32 × Int32 × (Nat → Int32) × Int32 × Int32)) (x : Int32 × Int32 × Int32 × Int32 × (Nat → Int32) × Int32 × Int32) : Option (Int32 × Int32 × Int32 × (Nat → Int32) × Int32 × Int32) := if a2 < x.2.2.1 then (some (x.1, x.2.1, x.2.2.2.1, x.2.2.2.2.1, x.2.2.2.2.2.1, x.2.2.2.2.2.2)) else ((f_X11_layChain F a1 x.2.2.1.toInt64 m_base m_f x.2.2.2.1 x.2.2.2.2.1 x.2.2.2.2.2.1 x.2.2.2.2.2.2).bind (fun r2 => if r2.2.2.2 ≤ 0 then (f_X11_tallest_J71 F rec x.1 x.2.1 x.2.2.1 r2.1 r2.2.1 r2.2.2.1 r2.2.2.2) else (if r2.2.2.1 ≤ x.2.1 then (f_X11_tallest_J71 F rec x.1 x.2.1 x.2.2.1 r2.1 r2.2.1 r2.2.2.1 r2.2.2.2) else (f_X11_tallest_J71 F rec x.2.2.1 r2.2.2.1 x.2.2.1 r2.1 r2.2.1 r2.2.2.1 r2.2.2.2))))
def f_X11_tallest_J18 (F : Nat) (m_many : Int32) (m_figures : Nat → Int32) (m_tail : Int32) (m_round : Int32) : Option (Int32 × Int32 × (Nat → Int32) × Int32 × Int32) := some ((-1 : Int32), m_many, m_figures, m_tail, m_round)
def f_X11_tallest (F : Nat) (a1 : Int32) (a2 : Int32) (a3 : Int32) (m_base : Int32) (m_f : Nat → Int32) (m_many : Int32) (m_figures : Nat → Int32) (m_tail : Int32) (m_round : Int32) : Option (Int32 × Int32 × (Nat → Int32) × Int32 × Int32) := (f_X11_isTo F a1 a2).bind (fun r6 => if r6 = 0 then (f_X11_tallest_J18 F m_many m_figures m_tail m_round) else ((f_X11_in F a3.toInt64 (0 : Int64) (1 : Int64)).bind (fun r9 => if r9 = 0 then (f_X11_tallest_J18 F m_many m_figures m_tail m_round) else ((lp (f_X11_tallest_B31 F a1 a2 m_base m_f) F ((-4 : Int32), (-4 : Int32), (0 : Int32), m_many, m_figures, m_tail, m_round)).bind (fun ex12 => if a3 = 0 then (f_X11_tallest_J88 F ex12.1 ex12.2.2.1 ex12.2.2.2.1 ex12.2.2.2.2.1 ex12.2.2.2.2.2) else (f_X11_tallest_J88 F ex12.2.1 ex12.2.2.1 ex12.2.2.2.1 ex12.2.2.2.2.1 ex12.2.2.2.2.2))))))
abbrev rmX11_tallest : Room := { frames := 5, cells := 0, slots := 0, locals := 137 }
set_option maxHeartbeats 1000000 in
set_option maxRecDepth 100000 in
theorem c_X11_tallest {l : Launch} {D : va_G} {cy : Nat → ClassId} {qM : Nat → Nat} {m_base : Int32} {m_f : Nat → Int32} {m_many : Int32} {m_figures : Nat → Int32} {m_tail : Int32} {m_round : Int32} {m_rounds : Int32} {m_leasts : Nat → Int64} {m_likes : Int32} {m_like : Nat → Int32} {m_isTwo : Nat → Int32} {m_came : Nat → Int32} {m_by : Nat → Int32} {m_queue : Nat → Int32} {m_kind : Int32} {m_parts : Int32} {m_wanted : Int32} {m_allowed : Int32} {m_bitOf : Nat → Int32} {m_met : Int32} {m_row : Nat → Int32} {m_narrows : Int32} {m_narrow : Nat → Int64} {m_isMade : Nat → Int32} {a1 : Int32} {a2 : Int32} {a3 : Int32} {F : Nat} {res : Int32 × Int32 × (Nat → Int32) × Int32 × Int32} (hf : f_X11_tallest F a1 a2 a3 m_base m_f m_many m_figures m_tail m_round = some res) : kM l yX11_tallest wsX11_tallest rmX11_tallest D cy [.ref (qM 0), .int a1, .int a2, .int a3] (gM cy qM m_base m_f m_many m_figures m_tail m_round m_rounds m_leasts m_likes m_like m_isTwo m_came m_by m_queue m_kind m_parts m_wanted m_allowed m_bitOf m_met m_row m_narrows m_narrow m_isMade) (kQi D cy (fun _ : Unit => gM cy qM m_base m_f res.2.1 res.2.2.1 res.2.2.2.1 res.2.2.2.2 m_rounds m_leasts m_likes m_like m_isTwo m_came m_by m_queue m_kind m_parts m_wanted m_allowed m_bitOf m_met m_row m_narrows m_narrow m_isMade) res.1) := by
  refine kent_i (cc := cX11_tallest) (maxL := 7) (by decide) rfl (Nat.le_of_ble_eq_true rfl) ?_
  intro p e0 s m ar below meth c A Q ls ⟨hx, hb, hml, hr, hts, hown, hlocks, hnm⟩ hA hK hN hQ hP hD hS hl
  have hl : lv_has ls 7 [(0, .ref (qM 0)), (1, .int a1), (2, .int a2), (3, .int a3)] := hl
  have hown : s.vm.findClass RX11 = some m.cls := hown
  have huX11 : ∀ x ∈ u_ws RX11 TX11 24, x ∈ wsX11_tallest := by decide +kernel
  have fk97 : (Cond.fieldLink RX11 97 "FigurePlayModel" "round" "I").before ar s = true := hts _ (by decide +kernel)
  have fk100 : (Cond.fieldLink RX11 100 "FigurePlayModel" "tail" "I").before ar s = true := hts _ (by decide +kernel)
  unfold f_X11_tallest at hf
  have hJ88 : ∀ (s0 : Int32) (m_many : Int32) (m_figures : Nat → Int32) (m_tail : Int32) (m_round : Int32) (H : Heap) (locs : List Loc) (ls : Array Slot), f_X11_tallest_J88 F s0 m_many m_figures m_tail m_round = some res → va_P D vwCl (gM cy qM m_base m_f m_many m_figures m_tail m_round m_rounds m_leasts m_likes m_like m_isTwo m_came m_by m_queue m_kind m_parts m_wanted m_allowed m_bitOf m_met m_row m_narrows m_narrow m_isMade) H → va_D A (gM cy qM m_base m_f m_many m_figures m_tail m_round m_rounds m_leasts m_likes m_like m_isTwo m_came m_by m_queue m_kind m_parts m_wanted m_allowed m_bitOf m_met m_row m_narrows m_narrow m_isMade) → va_S A s.heap H locs → lv_has ls 7 [] → W p l e0 rmX11_tallest s m ar below meth c H locs 0 0 Q (F0 m 88 ls [.int s0]) := by
    intro s0 m_many m_figures m_tail m_round H locs ls hf hP hD hS hl
    unfold f_X11_tallest_J88 at hf
    obtain rfl := Option.some.inj hf
    exact hQ () 88 _ _ _ dX11_tallest_88 hP hD hS
  have hL31 : ∀ (k : Nat) (x : Int32 × Int32 × Int32 × Int32 × (Nat → Int32) × Int32 × Int32) (ex : Int32 × Int32 × Int32 × (Nat → Int32) × Int32 × Int32) (H : Heap) (locs : List Loc) (ls : Array Slot), lp (f_X11_tallest_B31 F a1 a2 m_base m_f) k x = some ex → (∀ (H : Heap) (locs : List Loc) (ls : Array Slot), va_P D vwCl (gM cy qM m_base m_f ex.2.2.1 ex.2.2.2.1 ex.2.2.2.2.1 ex.2.2.2.2.2 m_rounds m_leasts m_likes m_like m_isTwo m_came m_by m_queue m_kind m_parts m_wanted m_allowed m_bitOf m_met m_row m_narrows m_narrow m_isMade) H → va_D A (gM cy qM m_base m_f ex.2.2.1 ex.2.2.2.1 ex.2.2.2.2.1 ex.2.2.2.2.2 m_rounds m_leasts m_likes m_like m_isTwo m_came m_by m_queue m_kind m_parts m_wanted m_allowed m_bitOf m_met m_row m_narrows m_narrow m_isMade) → va_S A s.heap H locs → lv_has ls 7 [(3, .int a3), (4, .int ex.1), (5, .int ex.2.1)] → W p l e0 rmX11_tallest s m ar below meth c H locs 0 0 Q (F0 m 77 ls [])) → va_P D vwCl (gM cy qM m_base m_f x.2.2.2.1 x.2.2.2.2.1 x.2.2.2.2.2.1 x.2.2.2.2.2.2 m_rounds m_leasts m_likes m_like m_isTwo m_came m_by m_queue m_kind m_parts m_wanted m_allowed m_bitOf m_met m_row m_narrows m_narrow m_isMade) H → va_D A (gM cy qM m_base m_f x.2.2.2.1 x.2.2.2.2.1 x.2.2.2.2.2.1 x.2.2.2.2.2.2 m_rounds m_leasts m_likes m_like m_isTwo m_came m_by m_queue m_kind m_parts m_wanted m_allowed m_bitOf m_met m_row m_narrows m_narrow m_isMade) → va_S A s.heap H locs → lv_has ls 7 [(0, .ref (qM 0)), (1, .int a1), (2, .int a2), (3, .int a3), (4, .int x.1), (5, .int x.2.1), (6, .int x.2.2.1)] → W p l e0 rmX11_tallest s m ar below meth c H locs 0 0 Q (F0 m 31 ls []) := by
    intro k
    induction k with
    | zero => intro x ex H locs ls hf; exact no_some hf
    | succ k ih =>
      intro x ex H locs ls hf hex hP hD hS hl
      have hf : f_X11_tallest_B31 F a1 a2 m_base m_f (lp (f_X11_tallest_B31 F a1 a2 m_base m_f) k) x = some ex := hf
      unfold f_X11_tallest_B31 at hf
      have hJ71 : ∀ (x4 : Int32) (x5 : Int32) (x6 : Int32) (m_many : Int32) (m_figures : Nat → Int32) (m_tail : Int32) (m_round : Int32) (H : Heap) (locs : List Loc) (ls : Array Slot), f_X11_tallest_J71 F (lp (f_X11_tallest_B31 F a1 a2 m_base m_f) k) x4 x5 x6 m_many m_figures m_tail m_round = some ex → va_P D vwCl (gM cy qM m_base m_f m_many m_figures m_tail m_round m_rounds m_leasts m_likes m_like m_isTwo m_came m_by m_queue m_kind m_parts m_wanted m_allowed m_bitOf m_met m_row m_narrows m_narrow m_isMade) H → va_D A (gM cy qM m_base m_f m_many m_figures m_tail m_round m_rounds m_leasts m_likes m_like m_isTwo m_came m_by m_queue m_kind m_parts m_wanted m_allowed m_bitOf m_met m_row m_narrows m_narrow m_isMade) → va_S A s.heap H locs → lv_has ls 7 [(0, .ref (qM 0)), (1, .int a1), (2, .int a2), (3, .int a3), (4, .int x4), (5, .int x5), (6, .int x6)] → W p l e0 rmX11_tallest s m ar below meth c H locs 0 0 Q (F0 m 71 ls []) := by
        intro x4 x5 x6 m_many m_figures m_tail m_round H locs ls hf hP hD hS hl
        unfold f_X11_tallest_J71 at hf
        refine lv_iinc (v := (x6 + (1 : Int32))) (lv' := [(6, .int (x6 + (1 : Int32))), (0, .ref (qM 0)), (1, .int a1), (2, .int a2), (3, .int a3), (4, .int x4), (5, .int x5)]) hx hb dX11_tallest_71 hl (k := 6) rfl rfl (by decide) rfl (fun ls hl => ?_)
        refine lv_goto (tgt := 31) hx hb dX11_tallest_74 (by decide) ?_
        exact ih (x4, x5, (x6 + (1 : Int32)), m_many, m_figures, m_tail, m_round) ex _ _ _ hf hex hP hD hS (lv_sub hl [1, 2, 3, 4, 5, 6, 0] rfl)
      refine lv_iload hx hb dX11_tallest_31 (lv_at hl 6 rfl) ?_
      refine lv_iload_n hx hb dX11_tallest_33 rfl (lv_at hl 2 rfl) ?_
      refine lv_icmp_gt (tgt := 77) hx hb dX11_tallest_34 (by decide) (fun c1 => ?_) (fun c1 => ?_)
      · have hf := if_t hf c1
        obtain rfl := Option.some.inj hf
        exact hex _ _ _ hP hD hS (lv_sub hl [3, 4, 5] rfl)
      · have hf := if_f hf c1
        refine lv_aload_n hx hb dX11_tallest_37 rfl (lv_at hl 0 rfl) ?_
        refine lv_iload_n hx hb dX11_tallest_38 rfl (lv_at hl 1 rfl) ?_
        refine lv_iload hx hb dX11_tallest_39 (lv_at hl 6 rfl) ?_
        refine lv_i2l hx hb dX11_tallest_41 rfl ?_
        obtain ⟨r2, hc3, hf⟩ := ob_some hf
        refine kc_v (k_run ⟨hx, hb, hml, hown, hts⟩ (c_X11_layChain hc3) (cwV 2 hts gX11_tallest_X11_layChain rfl rfl rfl (by decide +kernel) ⟨Nat.le_of_ble_eq_true rfl, Nat.le_of_ble_eq_true rfl⟩) hK hN hP hD kA_s (ci := 11) (q0 := 0) rfl rfl rfl rfl hl.1 rfl (Nat.le_of_ble_eq_true rfl) dX11_tallest_42 ⟨Nat.le_of_ble_eq_true rfl, Nat.le_of_ble_eq_true rfl⟩) hP hD hS hA kI_s (fun _ H locs hP hD hS => ?_)
        refine lv_aload_n hx hb dX11_tallest_45 rfl (lv_at hl 0 rfl) ?_
        refine va_get (D := D) (ci := 11) (C := RX11) (T := TX11) (N := 24) hx hb hts huX11 hown hK hP 0 rfl rfl 5 (by decide) fk97 (fun _ h9 => h9) rfl dX11_tallest_46 ?_
        refine lv_if_le (tgt := 71) hx hb dX11_tallest_49 (by decide) (fun c4 => ?_) (fun c4 => ?_)
        · have hf := if_t hf c4
          exact hJ71 x.1 x.2.1 x.2.2.1 r2.1 r2.2.1 r2.2.2.1 r2.2.2.2 _ _ _ hf hP hD hS (lv_sub hl [0, 1, 2, 3, 4, 5, 6] rfl)
        · have hf := if_f hf c4
          refine lv_aload_n hx hb dX11_tallest_52 rfl (lv_at hl 0 rfl) ?_
          refine va_get (D := D) (ci := 11) (C := RX11) (T := TX11) (N := 24) hx hb hts huX11 hown hK hP 0 rfl rfl 4 (by decide) fk100 (fun _ h9 => h9) rfl dX11_tallest_53 ?_
          refine lv_iload hx hb dX11_tallest_56 (lv_at hl 5 rfl) ?_
          refine lv_icmp_le (tgt := 71) hx hb dX11_tallest_58 (by decide) (fun c5 => ?_) (fun c5 => ?_)
          · have hf := if_t hf c5
            exact hJ71 x.1 x.2.1 x.2.2.1 r2.1 r2.2.1 r2.2.2.1 r2.2.2.2 _ _ _ hf hP hD hS (lv_sub hl [0, 1, 2, 3, 4, 5, 6] rfl)
          · have hf := if_f hf c5
            refine lv_iload hx hb dX11_tallest_61 (lv_at hl 6 rfl) ?_
            refine lv_istore (lv' := [(4, .int x.2.2.1), (0, .ref (qM 0)), (1, .int a1), (2, .int a2), (3, .int a3), (5, .int x.2.1), (6, .int x.2.2.1)]) hx hb dX11_tallest_63 hl (by decide) rfl (fun ls hl => ?_)
            refine lv_aload_n hx hb dX11_tallest_65 rfl (lv_at hl 1 rfl) ?_
            refine va_get (D := D) (ci := 11) (C := RX11) (T := TX11) (N := 24) hx hb hts huX11 hown hK hP 0 rfl rfl 4 (by decide) fk100 (fun _ h9 => h9) rfl dX11_tallest_66 ?_
            refine lv_istore (lv' := [(5, .int r2.2.2.1), (4, .int x.2.2.1), (0, .ref (qM 0)), (1, .int a1), (2, .int a2), (3, .int a3), (6, .int x.2.2.1)]) hx hb dX11_tallest_69 hl (by decide) rfl (fun ls hl => ?_)
            exact hJ71 x.2.2.1 r2.2.2.1 x.2.2.1 r2.1 r2.2.1 r2.2.2.1 r2.2.2.2 _ _ _ hf hP hD hS (lv_sub hl [2, 3, 4, 5, 1, 0, 6] rfl)
  have hJ18 : ∀ (m_many : Int32) (m_figures : Nat → Int32) (m_tail : Int32) (m_round : Int32) (H : Heap) (locs : List Loc) (ls : Array Slot), f_X11_tallest_J18 F m_many m_figures m_tail m_round = some res → va_P D vwCl (gM cy qM m_base m_f m_many m_figures m_tail m_round m_rounds m_leasts m_likes m_like m_isTwo m_came m_by m_queue m_kind m_parts m_wanted m_allowed m_bitOf m_met m_row m_narrows m_narrow m_isMade) H → va_D A (gM cy qM m_base m_f m_many m_figures m_tail m_round m_rounds m_leasts m_likes m_like m_isTwo m_came m_by m_queue m_kind m_parts m_wanted m_allowed m_bitOf m_met m_row m_narrows m_narrow m_isMade) → va_S A s.heap H locs → lv_has ls 7 [] → W p l e0 rmX11_tallest s m ar below meth c H locs 0 0 Q (F0 m 18 ls []) := by
    intro m_many m_figures m_tail m_round H locs ls hf hP hD hS hl
    unfold f_X11_tallest_J18 at hf
    refine lv_iconst (v := (-1 : Int32)) hx hb dX11_tallest_18 (by decide) ?_
    obtain rfl := Option.some.inj hf
    exact hQ () 19 _ _ _ dX11_tallest_19 hP hD hS
  refine lv_iload_n hx hb dX11_tallest_0 rfl (lv_at hl 1 rfl) ?_
  refine lv_iload_n hx hb dX11_tallest_1 rfl (lv_at hl 2 rfl) ?_
  obtain ⟨r6, hc7, hf⟩ := ob_some hf
  refine kc_i (k_runS ⟨hx, hb, hml, hown, hts⟩ (c_X11_isTo hc7) (va_cwS 2 hts gX11_tallest_X11_isTo rfl rfl rfl (by decide +kernel) ⟨Nat.le_of_ble_eq_true rfl, Nat.le_of_ble_eq_true rfl⟩) hK hN hP hD kA_0 rfl hl.1 rfl (Nat.le_of_ble_eq_true rfl) dX11_tallest_2 ⟨Nat.le_of_ble_eq_true rfl, Nat.le_of_ble_eq_true rfl⟩) hP hD hS hA kI_0 (fun _ H locs hP hD hS => ?_)
  refine lv_if_eq (tgt := 18) hx hb dX11_tallest_5 (by decide) (fun c8 => ?_) (fun c8 => ?_)
  · have hf := if_t hf c8
    exact hJ18 m_many m_figures m_tail m_round _ _ _ hf hP hD hS (lv_sub hl [] rfl)
  · have hf := if_f hf c8
    refine lv_iload_n hx hb dX11_tallest_8 rfl (lv_at hl 3 rfl) ?_
    refine lv_i2l hx hb dX11_tallest_9 rfl ?_
    refine lv_lconst (v := (0 : Int64)) hx hb dX11_tallest_10 (by decide) ?_
    refine lv_lconst (v := (1 : Int64)) hx hb dX11_tallest_11 (by decide) ?_
    obtain ⟨r9, hc10, hf⟩ := ob_some hf
    refine kc_i (k_runS ⟨hx, hb, hml, hown, hts⟩ (c_X11_in hc10) (va_cwS 3 hts gX11_tallest_X11_in rfl rfl rfl (by decide +kernel) ⟨Nat.le_of_ble_eq_true rfl, Nat.le_of_ble_eq_true rfl⟩) hK hN hP hD kA_0 rfl hl.1 rfl (Nat.le_of_ble_eq_true rfl) dX11_tallest_12 ⟨Nat.le_of_ble_eq_true rfl, Nat.le_of_ble_eq_true rfl⟩) hP hD hS hA kI_0 (fun _ H locs hP hD hS => ?_)
    refine lv_if_ne (tgt := 20) hx hb dX11_tallest_15 (by decide) (fun c11 => ?_) (fun c11 => ?_)
    · have hf := if_f hf c11
      refine lv_bipush (v := (-4 : Int32)) hx hb dX11_tallest_20 (by decide) ?_
      refine lv_istore (lv' := [(4, .int (-4 : Int32)), (0, .ref (qM 0)), (1, .int a1), (2, .int a2), (3, .int a3)]) hx hb dX11_tallest_22 hl (by decide) rfl (fun ls hl => ?_)
      refine lv_bipush (v := (-4 : Int32)) hx hb dX11_tallest_24 (by decide) ?_
      refine lv_istore (lv' := [(5, .int (-4 : Int32)), (4, .int (-4 : Int32)), (0, .ref (qM 0)), (1, .int a1), (2, .int a2), (3, .int a3)]) hx hb dX11_tallest_26 hl (by decide) rfl (fun ls hl => ?_)
      refine lv_iconst (v := (0 : Int32)) hx hb dX11_tallest_28 (by decide) ?_
      refine lv_istore (lv' := [(6, .int (0 : Int32)), (5, .int (-4 : Int32)), (4, .int (-4 : Int32)), (0, .ref (qM 0)), (1, .int a1), (2, .int a2), (3, .int a3)]) hx hb dX11_tallest_29 hl (by decide) rfl (fun ls hl => ?_)
      obtain ⟨ex12, hcl, hf⟩ := ob_some hf
      refine hL31 F ((-4 : Int32), (-4 : Int32), (0 : Int32), m_many, m_figures, m_tail, m_round) ex12 _ _ _ hcl (fun H locs ls hP hD hS hl => ?_) hP hD hS (lv_sub hl [3, 4, 5, 6, 2, 1, 0] rfl)
      refine lv_iload_n hx hb dX11_tallest_77 rfl (lv_at hl 0 rfl) ?_
      refine lv_if_ne (tgt := 86) hx hb dX11_tallest_78 (by decide) (fun c13 => ?_) (fun c13 => ?_)
      · have hf := if_f hf c13
        refine lv_iload hx hb dX11_tallest_86 (lv_at hl 2 rfl) ?_
        exact hJ88 ex12.2.1 ex12.2.2.1 ex12.2.2.2.1 ex12.2.2.2.2.1 ex12.2.2.2.2.2 _ _ _ hf hP hD hS (lv_sub hl [] rfl)
      · have hf := if_t hf c13
        refine lv_iload hx hb dX11_tallest_81 (lv_at hl 1 rfl) ?_
        refine lv_goto (tgt := 88) hx hb dX11_tallest_83 (by decide) ?_
        exact hJ88 ex12.1 ex12.2.2.1 ex12.2.2.2.1 ex12.2.2.2.2.1 ex12.2.2.2.2.2 _ _ _ hf hP hD hS (lv_sub hl [] rfl)
    · have hf := if_t hf c11
      exact hJ18 m_many m_figures m_tail m_round _ _ _ hf hP hD hS (lv_sub hl [] rfl)
