/-! the reference: functions and contracts -/
def f_X11_lost_J86 (F : Nat) (s0 : Int32) (m_many : Int32) (m_figures : Nat → Int32) (m_tail : Int32) (m_round : Int32) : Option (Int32 × Int32 × (Nat → Int32) × Int32 × Int32) := some (s0, m_many, m_figures, m_tail, m_round)
def f_X11_lost_J65 (F : Nat) (rec : (Int32 × Int32 × Int32 × (Nat → Int32) × Int32 × Int32) → Option ((Int32 × Int32 × (Nat → Int32) × Int32 × Int32) ⊕ (Int32 × Int32 × (Nat → Int32) × Int32 × Int32))) (x5 : Int32) (s0 : Int32) (s1 : Int32) (m_many : Int32) (m_figures : Nat → Int32) (m_tail : Int32) (m_round : Int32) : Option ((Int32 × Int32 × (Nat → Int32) × Int32 × Int32) ⊕ (Int32 × Int32 × (Nat → Int32) × Int32 × Int32)) := rec ((s0 + s1), (x5 + (1 : Int32)), m_many, m_figures, m_tail, m_round)
def f_X11_lost_J51 (F : Nat) (rec : (Int32 × Int32 × Int32 × (Nat → Int32) × Int32 × Int32) → Option ((Int32 × Int32 × (Nat → Int32) × Int32 × Int32) ⊕ (Int32 × Int32 × (Nat → Int32) × Int32 × Int32))) (x4 : Int32) (x5 : Int32) (m_many : Int32) (m_figures : Nat → Int32) (m_tail : Int32) (m_round : Int32) : Option ((Int32 × Int32 × (Nat → Int32) × Int32 × Int32) ⊕ (Int32 × Int32 × (Nat → Int32) × Int32 × Int32)) := if m_round = 0 then (f_X11_lost_J65 F rec x5 x4 (1 : Int32) m_many m_figures m_tail m_round) else (f_X11_lost_J65 F rec x5 x4 (0 : Int32) m_many m_figures m_tail m_round)
def f_X11_lost_B21 (F : Nat) (a1 : Int32) (a2 : Int32) (a3 : Int32) (m_base : Int32) (m_f : Nat → Int32) (rec : Int32 × Int32 × Int32 × (Nat → Int32) × Int32 × Int32 → Option ((Int32 × Int32 × (Nat → Int32) × Int32 × Int32) ⊕ (Int32 × Int32 × (Nat → Int32) × Int32 × Int32))) (x : Int32 × Int32 × Int32 × (Nat → Int32) × Int32 × Int32) : Option ((Int32 × Int32 × (Nat → Int32) × Int32 × Int32) ⊕ (Int32 × Int32 × (Nat → Int32) × Int32 × Int32)) := if a2 < x.2.1 then (some (.inr (x.1, x.2.2.1, x.2.2.2.1, x.2.2.2.2.1, x.2.2.2.2.2))) else ((f_X11_layChain F a1 x.2.1.toInt64 m_base m_f x.2.2.1 x.2.2.2.1 x.2.2.2.2.1 x.2.2.2.2.2).bind (fun r3 => if r3.2.2.2 = 0 then (if x.1 = a3 then (some (.inl (x.2.1, r3.1, r3.2.1, r3.2.2.1, r3.2.2.2))) else (f_X11_lost_J51 F rec x.1 x.2.1 r3.1 r3.2.1 r3.2.2.1 r3.2.2.2)) else (f_X11_lost_J51 F rec x.1 x.2.1 r3.1 r3.2.1 r3.2.2.1 r3.2.2.2)))
def f_X11_lost_J13 (F : Nat) (m_many : Int32) (m_figures : Nat → Int32) (m_tail : Int32) (m_round : Int32) : Option (Int32 × Int32 × (Nat → Int32) × Int32 × Int32) := some ((-1 : Int32), m_many, m_figures, m_tail, m_round)
def f_X11_lost (F : Nat) (a1 : Int32) (a2 : Int32) (a3 : Int32) (m_base : Int32) (m_f : Nat → Int32) (m_many : Int32) (m_figures : Nat → Int32) (m_tail : Int32) (m_round : Int32) : Option (Int32 × Int32 × (Nat → Int32) × Int32 × Int32) := (f_X11_isTo F a1 a2).bind (fun r7 => if r7 = 0 then (f_X11_lost_J13 F m_many m_figures m_tail m_round) else (if (-1 : Int32) ≤ a3 then ((lp (f_X11_lost_B21 F a1 a2 a3 m_base m_f) F ((0 : Int32), (0 : Int32), m_many, m_figures, m_tail, m_round)).bind (fun ex11 => Sum.elim (fun r => some r) (fun er12 => if a3 = (-1 : Int32) then (f_X11_lost_J86 F er12.1 er12.2.1 er12.2.2.1 er12.2.2.2.1 er12.2.2.2.2) else (f_X11_lost_J86 F (-4 : Int32) er12.2.1 er12.2.2.1 er12.2.2.2.1 er12.2.2.2.2)) ex11)) else (f_X11_lost_J13 F m_many m_figures m_tail m_round)))
abbrev rmX11_lost : Room := { frames := 5, cells := 0, slots := 0, locals := 137 }
set_option maxHeartbeats 1000000 in
set_option maxRecDepth 100000 in
theorem c_X11_lost {l : Launch} {D : va_G} {cy : Nat → ClassId} {qM : Nat → Nat} {m_base : Int32} {m_f : Nat → Int32} {m_many : Int32} {m_figures : Nat → Int32} {m_tail : Int32} {m_round : Int32} {m_rounds : Int32} {m_leasts : Nat → Int64} {m_likes : Int32} {m_like : Nat → Int32} {m_isTwo : Nat → Int32} {m_came : Nat → Int32} {m_by : Nat → Int32} {m_queue : Nat → Int32} {m_kind : Int32} {m_parts : Int32} {m_wanted : Int32} {m_allowed : Int32} {m_bitOf : Nat → Int32} {m_met : Int32} {m_row : Nat → Int32} {m_narrows : Int32} {m_narrow : Nat → Int64} {m_isMade : Nat → Int32} {a1 : Int32} {a2 : Int32} {a3 : Int32} {F : Nat} {res : Int32 × Int32 × (Nat → Int32) × Int32 × Int32} (hf : f_X11_lost F a1 a2 a3 m_base m_f m_many m_figures m_tail m_round = some res) : kM l yX11_lost wsX11_lost rmX11_lost D cy [.ref (qM 0), .int a1, .int a2, .int a3] (gM cy qM m_base m_f m_many m_figures m_tail m_round m_rounds m_leasts m_likes m_like m_isTwo m_came m_by m_queue m_kind m_parts m_wanted m_allowed m_bitOf m_met m_row m_narrows m_narrow m_isMade) (kQi D cy (fun _ : Unit => gM cy qM m_base m_f res.2.1 res.2.2.1 res.2.2.2.1 res.2.2.2.2 m_rounds m_leasts m_likes m_like m_isTwo m_came m_by m_queue m_kind m_parts m_wanted m_allowed m_bitOf m_met m_row m_narrows m_narrow m_isMade) res.1) := by
  refine kent_i (cc := cX11_lost) (maxL := 6) (by decide) rfl (Nat.le_of_ble_eq_true rfl) ?_
  intro p e0 s m ar below meth c A Q ls ⟨hx, hb, hml, hr, hts, hown, hlocks, hnm⟩ hA hK hN hQ hP hD hS hl
  have hl : lv_has ls 6 [(0, .ref (qM 0)), (1, .int a1), (2, .int a2), (3, .int a3)] := hl
  have hown : s.vm.findClass RX11 = some m.cls := hown
  have huX11 : ∀ x ∈ u_ws RX11 TX11 24, x ∈ wsX11_lost := by decide +kernel
  have fk97 : (Cond.fieldLink RX11 97 "FigurePlayModel" "round" "I").before ar s = true := hts _ (by decide +kernel)
  unfold f_X11_lost at hf
  have hJ86 : ∀ (s0 : Int32) (m_many : Int32) (m_figures : Nat → Int32) (m_tail : Int32) (m_round : Int32) (H : Heap) (locs : List Loc) (ls : Array Slot), f_X11_lost_J86 F s0 m_many m_figures m_tail m_round = some res → va_P D vwCl (gM cy qM m_base m_f m_many m_figures m_tail m_round m_rounds m_leasts m_likes m_like m_isTwo m_came m_by m_queue m_kind m_parts m_wanted m_allowed m_bitOf m_met m_row m_narrows m_narrow m_isMade) H → va_D A (gM cy qM m_base m_f m_many m_figures m_tail m_round m_rounds m_leasts m_likes m_like m_isTwo m_came m_by m_queue m_kind m_parts m_wanted m_allowed m_bitOf m_met m_row m_narrows m_narrow m_isMade) → va_S A s.heap H locs → lv_has ls 6 [] → W p l e0 rmX11_lost s m ar below meth c H locs 0 0 Q (F0 m 86 ls [.int s0]) := by
    intro s0 m_many m_figures m_tail m_round H locs ls hf hP hD hS hl
    unfold f_X11_lost_J86 at hf
    obtain rfl := Option.some.inj hf
    exact hQ () 86 _ _ _ dX11_lost_86 hP hD hS
  have hL21 : ∀ (k : Nat) (x : Int32 × Int32 × Int32 × (Nat → Int32) × Int32 × Int32) (ex : (Int32 × Int32 × (Nat → Int32) × Int32 × Int32) ⊕ (Int32 × Int32 × (Nat → Int32) × Int32 × Int32)) (H : Heap) (locs : List Loc) (ls : Array Slot), lp (f_X11_lost_B21 F a1 a2 a3 m_base m_f) k x = some ex → (∀ r, ex = .inl r → r = res) → (∀ er, ex = .inr er → ∀ (H : Heap) (locs : List Loc) (ls : Array Slot), va_P D vwCl (gM cy qM m_base m_f er.2.1 er.2.2.1 er.2.2.2.1 er.2.2.2.2 m_rounds m_leasts m_likes m_like m_isTwo m_came m_by m_queue m_kind m_parts m_wanted m_allowed m_bitOf m_met m_row m_narrows m_narrow m_isMade) H → va_D A (gM cy qM m_base m_f er.2.1 er.2.2.1 er.2.2.2.1 er.2.2.2.2 m_rounds m_leasts m_likes m_like m_isTwo m_came m_by m_queue m_kind m_parts m_wanted m_allowed m_bitOf m_met m_row m_narrows m_narrow m_isMade) → va_S A s.heap H locs → lv_has ls 6 [(3, .int a3), (4, .int er.1)] → W p l e0 rmX11_lost s m ar below meth c H locs 0 0 Q (F0 m 74 ls [])) → va_P D vwCl (gM cy qM m_base m_f x.2.2.1 x.2.2.2.1 x.2.2.2.2.1 x.2.2.2.2.2 m_rounds m_leasts m_likes m_like m_isTwo m_came m_by m_queue m_kind m_parts m_wanted m_allowed m_bitOf m_met m_row m_narrows m_narrow m_isMade) H → va_D A (gM cy qM m_base m_f x.2.2.1 x.2.2.2.1 x.2.2.2.2.1 x.2.2.2.2.2 m_rounds m_leasts m_likes m_like m_isTwo m_came m_by m_queue m_kind m_parts m_wanted m_allowed m_bitOf m_met m_row m_narrows m_narrow m_isMade) → va_S A s.heap H locs → lv_has ls 6 [(0, .ref (qM 0)), (1, .int a1), (2, .int a2), (3, .int a3), (4, .int x.1), (5, .int x.2.1)] → W p l e0 rmX11_lost s m ar below meth c H locs 0 0 Q (F0 m 21 ls []) := by
    intro k
    induction k with
    | zero => intro x ex H locs ls hf; exact no_some hf
    | succ k ih =>
      intro x ex H locs ls hf hret hex hP hD hS hl
      have hf : f_X11_lost_B21 F a1 a2 a3 m_base m_f (lp (f_X11_lost_B21 F a1 a2 a3 m_base m_f) k) x = some ex := hf
      unfold f_X11_lost_B21 at hf
      have hJ65 : ∀ (x5 : Int32) (s0 : Int32) (s1 : Int32) (m_many : Int32) (m_figures : Nat → Int32) (m_tail : Int32) (m_round : Int32) (H : Heap) (locs : List Loc) (ls : Array Slot), f_X11_lost_J65 F (lp (f_X11_lost_B21 F a1 a2 a3 m_base m_f) k) x5 s0 s1 m_many m_figures m_tail m_round = some ex → va_P D vwCl (gM cy qM m_base m_f m_many m_figures m_tail m_round m_rounds m_leasts m_likes m_like m_isTwo m_came m_by m_queue m_kind m_parts m_wanted m_allowed m_bitOf m_met m_row m_narrows m_narrow m_isMade) H → va_D A (gM cy qM m_base m_f m_many m_figures m_tail m_round m_rounds m_leasts m_likes m_like m_isTwo m_came m_by m_queue m_kind m_parts m_wanted m_allowed m_bitOf m_met m_row m_narrows m_narrow m_isMade) → va_S A s.heap H locs → lv_has ls 6 [(0, .ref (qM 0)), (1, .int a1), (2, .int a2), (3, .int a3), (5, .int x5)] → W p l e0 rmX11_lost s m ar below meth c H locs 0 0 Q (F0 m 65 ls [.int s1, .int s0]) := by
        intro x5 s0 s1 m_many m_figures m_tail m_round H locs ls hf hP hD hS hl
        unfold f_X11_lost_J65 at hf
        refine lv_iadd hx hb dX11_lost_65 ?_
        refine lv_istore (lv' := [(4, .int (s0 + s1)), (0, .ref (qM 0)), (1, .int a1), (2, .int a2), (3, .int a3), (5, .int x5)]) hx hb dX11_lost_66 hl (by decide) rfl (fun ls hl => ?_)
        refine lv_iinc (v := (x5 + (1 : Int32))) (lv' := [(5, .int (x5 + (1 : Int32))), (4, .int (s0 + s1)), (0, .ref (qM 0)), (1, .int a1), (2, .int a2), (3, .int a3)]) hx hb dX11_lost_68 hl (k := 5) rfl rfl (by decide) rfl (fun ls hl => ?_)
        refine lv_goto (tgt := 21) hx hb dX11_lost_71 (by decide) ?_
        exact ih ((s0 + s1), (x5 + (1 : Int32)), m_many, m_figures, m_tail, m_round) ex _ _ _ hf hret hex hP hD hS (lv_sub hl [2, 3, 4, 5, 1, 0] rfl)
      have hJ51 : ∀ (x4 : Int32) (x5 : Int32) (m_many : Int32) (m_figures : Nat → Int32) (m_tail : Int32) (m_round : Int32) (H : Heap) (locs : List Loc) (ls : Array Slot), f_X11_lost_J51 F (lp (f_X11_lost_B21 F a1 a2 a3 m_base m_f) k) x4 x5 m_many m_figures m_tail m_round = some ex → va_P D vwCl (gM cy qM m_base m_f m_many m_figures m_tail m_round m_rounds m_leasts m_likes m_like m_isTwo m_came m_by m_queue m_kind m_parts m_wanted m_allowed m_bitOf m_met m_row m_narrows m_narrow m_isMade) H → va_D A (gM cy qM m_base m_f m_many m_figures m_tail m_round m_rounds m_leasts m_likes m_like m_isTwo m_came m_by m_queue m_kind m_parts m_wanted m_allowed m_bitOf m_met m_row m_narrows m_narrow m_isMade) → va_S A s.heap H locs → lv_has ls 6 [(0, .ref (qM 0)), (1, .int a1), (2, .int a2), (3, .int a3), (4, .int x4), (5, .int x5)] → W p l e0 rmX11_lost s m ar below meth c H locs 0 0 Q (F0 m 51 ls []) := by
        intro x4 x5 m_many m_figures m_tail m_round H locs ls hf hP hD hS hl
        unfold f_X11_lost_J51 at hf
        refine lv_iload hx hb dX11_lost_51 (lv_at hl 4 rfl) ?_
        refine lv_aload_n hx hb dX11_lost_53 rfl (lv_at hl 0 rfl) ?_
        refine va_get (D := D) (ci := 11) (C := RX11) (T := TX11) (N := 24) hx hb hts huX11 hown hK hP 0 rfl rfl 5 (by decide) fk97 (fun _ h9 => h9) rfl dX11_lost_54 ?_
        refine lv_if_ne (tgt := 64) hx hb dX11_lost_57 (by decide) (fun c1 => ?_) (fun c1 => ?_)
        · have hf := if_f hf c1
          refine lv_iconst (v := (0 : Int32)) hx hb dX11_lost_64 (by decide) ?_
          exact hJ65 x5 x4 (0 : Int32) m_many m_figures m_tail m_round _ _ _ hf hP hD hS (lv_sub hl [0, 1, 2, 3, 5] rfl)
        · have hf := if_t hf c1
          refine lv_iconst (v := (1 : Int32)) hx hb dX11_lost_60 (by decide) ?_
          refine lv_goto (tgt := 65) hx hb dX11_lost_61 (by decide) ?_
          exact hJ65 x5 x4 (1 : Int32) m_many m_figures m_tail m_round _ _ _ hf hP hD hS (lv_sub hl [0, 1, 2, 3, 5] rfl)
      refine lv_iload hx hb dX11_lost_21 (lv_at hl 5 rfl) ?_
      refine lv_iload_n hx hb dX11_lost_23 rfl (lv_at hl 2 rfl) ?_
      refine lv_icmp_gt (tgt := 74) hx hb dX11_lost_24 (by decide) (fun c2 => ?_) (fun c2 => ?_)
      · have hf := if_t hf c2
        obtain rfl := Option.some.inj hf
        exact hex _ rfl _ _ _ hP hD hS (lv_sub hl [3, 4] rfl)
      · have hf := if_f hf c2
        refine lv_aload_n hx hb dX11_lost_27 rfl (lv_at hl 0 rfl) ?_
        refine lv_iload_n hx hb dX11_lost_28 rfl (lv_at hl 1 rfl) ?_
        refine lv_iload hx hb dX11_lost_29 (lv_at hl 5 rfl) ?_
        refine lv_i2l hx hb dX11_lost_31 rfl ?_
        obtain ⟨r3, hc4, hf⟩ := ob_some hf
        refine kc_v (k_run ⟨hx, hb, hml, hown, hts⟩ (c_X11_layChain hc4) (cwV 2 hts gX11_lost_X11_layChain rfl rfl rfl (by decide +kernel) ⟨Nat.le_of_ble_eq_true rfl, Nat.le_of_ble_eq_true rfl⟩) hK hN hP hD kA_s (ci := 11) (q0 := 0) rfl rfl rfl rfl hl.1 rfl (Nat.le_of_ble_eq_true rfl) dX11_lost_32 ⟨Nat.le_of_ble_eq_true rfl, Nat.le_of_ble_eq_true rfl⟩) hP hD hS hA kI_s (fun _ H locs hP hD hS => ?_)
        refine lv_aload_n hx hb dX11_lost_35 rfl (lv_at hl 0 rfl) ?_
        refine va_get (D := D) (ci := 11) (C := RX11) (T := TX11) (N := 24) hx hb hts huX11 hown hK hP 0 rfl rfl 5 (by decide) fk97 (fun _ h9 => h9) rfl dX11_lost_36 ?_
        refine lv_if_ne (tgt := 51) hx hb dX11_lost_39 (by decide) (fun c5 => ?_) (fun c5 => ?_)
        · have hf := if_f hf c5
          exact hJ51 x.1 x.2.1 r3.1 r3.2.1 r3.2.2.1 r3.2.2.2 _ _ _ hf hP hD hS (lv_sub hl [0, 1, 2, 3, 4, 5] rfl)
        · have hf := if_t hf c5
          refine lv_iload hx hb dX11_lost_42 (lv_at hl 4 rfl) ?_
          refine lv_iload_n hx hb dX11_lost_44 rfl (lv_at hl 3 rfl) ?_
          refine lv_icmp_ne (tgt := 51) hx hb dX11_lost_45 (by decide) (fun c6 => ?_) (fun c6 => ?_)
          · have hf := if_f hf c6
            exact hJ51 x.1 x.2.1 r3.1 r3.2.1 r3.2.2.1 r3.2.2.2 _ _ _ hf hP hD hS (lv_sub hl [0, 1, 2, 3, 4, 5] rfl)
          · have hf := if_t hf c6
            refine lv_iload hx hb dX11_lost_48 (lv_at hl 5 rfl) ?_
            obtain rfl := Option.some.inj hf
            obtain rfl := hret _ rfl
            exact hQ () 50 _ _ _ dX11_lost_50 hP hD hS
  have hJ13 : ∀ (m_many : Int32) (m_figures : Nat → Int32) (m_tail : Int32) (m_round : Int32) (H : Heap) (locs : List Loc) (ls : Array Slot), f_X11_lost_J13 F m_many m_figures m_tail m_round = some res → va_P D vwCl (gM cy qM m_base m_f m_many m_figures m_tail m_round m_rounds m_leasts m_likes m_like m_isTwo m_came m_by m_queue m_kind m_parts m_wanted m_allowed m_bitOf m_met m_row m_narrows m_narrow m_isMade) H → va_D A (gM cy qM m_base m_f m_many m_figures m_tail m_round m_rounds m_leasts m_likes m_like m_isTwo m_came m_by m_queue m_kind m_parts m_wanted m_allowed m_bitOf m_met m_row m_narrows m_narrow m_isMade) → va_S A s.heap H locs → lv_has ls 6 [] → W p l e0 rmX11_lost s m ar below meth c H locs 0 0 Q (F0 m 13 ls []) := by
    intro m_many m_figures m_tail m_round H locs ls hf hP hD hS hl
    unfold f_X11_lost_J13 at hf
    refine lv_iconst (v := (-1 : Int32)) hx hb dX11_lost_13 (by decide) ?_
    obtain rfl := Option.some.inj hf
    exact hQ () 14 _ _ _ dX11_lost_14 hP hD hS
  refine lv_iload_n hx hb dX11_lost_0 rfl (lv_at hl 1 rfl) ?_
  refine lv_iload_n hx hb dX11_lost_1 rfl (lv_at hl 2 rfl) ?_
  obtain ⟨r7, hc8, hf⟩ := ob_some hf
  refine kc_i (k_runS ⟨hx, hb, hml, hown, hts⟩ (c_X11_isTo hc8) (va_cwS 2 hts gX11_lost_X11_isTo rfl rfl rfl (by decide +kernel) ⟨Nat.le_of_ble_eq_true rfl, Nat.le_of_ble_eq_true rfl⟩) hK hN hP hD kA_0 rfl hl.1 rfl (Nat.le_of_ble_eq_true rfl) dX11_lost_2 ⟨Nat.le_of_ble_eq_true rfl, Nat.le_of_ble_eq_true rfl⟩) hP hD hS hA kI_0 (fun _ H locs hP hD hS => ?_)
  refine lv_if_eq (tgt := 13) hx hb dX11_lost_5 (by decide) (fun c9 => ?_) (fun c9 => ?_)
  · have hf := if_t hf c9
    exact hJ13 m_many m_figures m_tail m_round _ _ _ hf hP hD hS (lv_sub hl [] rfl)
  · have hf := if_f hf c9
    refine lv_iload_n hx hb dX11_lost_8 rfl (lv_at hl 3 rfl) ?_
    refine lv_iconst (v := (-1 : Int32)) hx hb dX11_lost_9 (by decide) ?_
    refine lv_icmp_ge (tgt := 15) hx hb dX11_lost_10 (by decide) (fun c10 => ?_) (fun c10 => ?_)
    · have hf := if_t hf c10
      refine lv_iconst (v := (0 : Int32)) hx hb dX11_lost_15 (by decide) ?_
      refine lv_istore (lv' := [(4, .int (0 : Int32)), (0, .ref (qM 0)), (1, .int a1), (2, .int a2), (3, .int a3)]) hx hb dX11_lost_16 hl (by decide) rfl (fun ls hl => ?_)
      refine lv_iconst (v := (0 : Int32)) hx hb dX11_lost_18 (by decide) ?_
      refine lv_istore (lv' := [(5, .int (0 : Int32)), (4, .int (0 : Int32)), (0, .ref (qM 0)), (1, .int a1), (2, .int a2), (3, .int a3)]) hx hb dX11_lost_19 hl (by decide) rfl (fun ls hl => ?_)
      obtain ⟨ex11, hcl, hf⟩ := ob_some hf
      refine hL21 F ((0 : Int32), (0 : Int32), m_many, m_figures, m_tail, m_round) ex11 _ _ _ hcl (fun r hr0 => ?_) (fun er12 hr0 H locs ls hP hD hS hl => ?_) hP hD hS (lv_sub hl [2, 3, 4, 5, 1, 0] rfl)
      · subst hr0; exact Option.some.inj (sm_inl hf)
      · subst hr0
        have hf := sm_inr hf
        refine lv_iload_n hx hb dX11_lost_74 rfl (lv_at hl 0 rfl) ?_
        refine lv_iconst (v := (-1 : Int32)) hx hb dX11_lost_75 (by decide) ?_
        refine lv_icmp_ne (tgt := 84) hx hb dX11_lost_76 (by decide) (fun c13 => ?_) (fun c13 => ?_)
        · have hf := if_f hf c13
          refine lv_bipush (v := (-4 : Int32)) hx hb dX11_lost_84 (by decide) ?_
          exact hJ86 (-4 : Int32) er12.2.1 er12.2.2.1 er12.2.2.2.1 er12.2.2.2.2 _ _ _ hf hP hD hS (lv_sub hl [] rfl)
        · have hf := if_t hf c13
          refine lv_iload hx hb dX11_lost_79 (lv_at hl 1 rfl) ?_
          refine lv_goto (tgt := 86) hx hb dX11_lost_81 (by decide) ?_
          exact hJ86 er12.1 er12.2.1 er12.2.2.1 er12.2.2.2.1 er12.2.2.2.2 _ _ _ hf hP hD hS (lv_sub hl [] rfl)
    · have hf := if_f hf c10
      exact hJ13 m_many m_figures m_tail m_round _ _ _ hf hP hD hS (lv_sub hl [] rfl)
def f_X11_come_J160 (F : Nat) (s0 : Int32) (m_many : Int32) (m_figures : Nat → Int32) (m_tail : Int32) (m_round : Int32) : Option (Int32 × Int32 × (Nat → Int32) × Int32 × Int32) := some (s0, m_many, m_figures, m_tail, m_round)
def f_X11_come_J139 (F : Nat) (rec : (Int32 × Int32 × Int32 × (Nat → Int32) × Int32 × Int32) → Option (Int32 × Int32 × (Nat → Int32) × Int32 × Int32)) (x8 : Int32) (s0 : Int32) (s1 : Int32) (m_many : Int32) (m_figures : Nat → Int32) (m_tail : Int32) (m_round : Int32) : Option (Int32 × Int32 × (Nat → Int32) × Int32 × Int32) := rec ((s0 + s1), (x8 + (1 : Int32)), m_many, m_figures, m_tail, m_round)
def f_X11_come_J138 (F : Nat) (rec : (Int32 × Int32 × Int32 × (Nat → Int32) × Int32 × Int32) → Option (Int32 × Int32 × (Nat → Int32) × Int32 × Int32)) (x8 : Int32) (s0 : Int32) (m_many : Int32) (m_figures : Nat → Int32) (m_tail : Int32) (m_round : Int32) : Option (Int32 × Int32 × (Nat → Int32) × Int32 × Int32) := f_X11_come_J139 F rec x8 s0 (0 : Int32) m_many m_figures m_tail m_round
def f_X11_come_B91 (F : Nat) (a1 : Int32) (a2 : Int32) (a3 : Int64) (a5 : Int32) (m_base : Int32) (m_f : Nat → Int32) (x6 : Int32) (rec : Int32 × Int32 × Int32 × (Nat → Int32) × Int32 × Int32 → Option (Int32 × Int32 × (Nat → Int32) × Int32 × Int32)) (x : Int32 × Int32 × Int32 × (Nat → Int32) × Int32 × Int32) : Option (Int32 × Int32 × (Nat → Int32) × Int32 × Int32) := if a2 < x.2.1 then (some (x.1, x.2.2.1, x.2.2.2.1, x.2.2.2.2.1, x.2.2.2.2.2)) else (if a5 = 0 then ((f_X11_layChain F a1 x.2.1.toInt64 m_base m_f x.2.2.1 x.2.2.2.1 x.2.2.2.2.1 x.2.2.2.2.2).bind (fun r3 => if r3.2.2.2 = x6 then ((f_X11_leastOf F a1 x.2.1.toInt64 m_base m_f r3.1 r3.2.1 r3.2.2.1 r3.2.2.2).bind (fun r6 => if r6.1 = a3 then (f_X11_come_J139 F rec x.2.1 x.1 (1 : Int32) r6.2.1 r6.2.2 r3.2.2.1 r3.2.2.2) else (f_X11_come_J138 F rec x.2.1 x.1 r6.2.1 r6.2.2 r3.2.2.1 r3.2.2.2))) else (f_X11_come_J138 F rec x.2.1 x.1 r3.1 r3.2.1 r3.2.2.1 r3.2.2.2))) else (some (x.1, x.2.2.1, x.2.2.2.1, x.2.2.2.2.1, x.2.2.2.2.2)))
def f_X11_come_J82 (F : Nat) (m_many : Int32) (m_figures : Nat → Int32) (m_tail : Int32) (m_round : Int32) : Option (Int32 × Int32 × (Nat → Int32) × Int32 × Int32) := some ((-4 : Int32), m_many, m_figures, m_tail, m_round)
def f_X11_come_J43 (F : Nat) (m_many : Int32) (m_figures : Nat → Int32) (m_tail : Int32) (m_round : Int32) : Option (Int32 × Int32 × (Nat → Int32) × Int32 × Int32) := some ((-1 : Int32), m_many, m_figures, m_tail, m_round)
def f_X11_come_J9 (F : Nat) (a1 : Int32) (a2 : Int32) (a3 : Int64) (a5 : Int32) (m_base : Int32) (m_f : Nat → Int32) (m_many : Int32) (m_figures : Nat → Int32) (m_tail : Int32) (m_round : Int32) : Option (Int32 × Int32 × (Nat → Int32) × Int32 × Int32) := (f_X11_in F a2.toInt64 (0 : Int64) (3000 : Int64)).bind (fun r9 => if r9 = 0 then (f_X11_come_J43 F m_many m_figures m_tail m_round) else ((f_X11_in F a3 (0 : Int64) (1000000000000000 : Int64)).bind (fun r12 => if r12 = 0 then (f_X11_come_J43 F m_many m_figures m_tail m_round) else ((f_X11_in F a5.toInt64 (0 : Int64) (1 : Int64)).bind (fun r15 => if r15 = 0 then (f_X11_come_J43 F m_many m_figures m_tail m_round) else ((f_X11_layChain F a1 a3 m_base m_f m_many m_figures m_tail m_round).bind (fun r18 => if r18.2.2.2 = 0 then (f_X11_come_J82 F r18.1 r18.2.1 r18.2.2.1 r18.2.2.2) else (if 0 < r18.2.2.1 then (f_X11_come_J82 F r18.1 r18.2.1 r18.2.2.1 r18.2.2.2) else ((f_X11_leastOf F a1 a3 m_base m_f r18.1 r18.2.1 r18.2.2.1 r18.2.2.2).bind (fun r22 => if r22.1 = a3 then ((lp (f_X11_come_B91 F a1 a2 a3 a5 m_base m_f r18.2.2.2) F ((0 : Int32), (0 : Int32), r22.2.1, r22.2.2, r18.2.2.1, r18.2.2.2)).bind (fun ex25 => if a5 = 0 then (f_X11_come_J160 F ex25.1 ex25.2.1 ex25.2.2.1 ex25.2.2.2.1 ex25.2.2.2.2) else (f_X11_come_J160 F r18.2.2.2 ex25.2.1 ex25.2.2.1 ex25.2.2.2.1 ex25.2.2.2.2))) else (f_X11_come_J82 F r22.2.1 r22.2.2 r18.2.2.1 r18.2.2.2)))))))))))
def f_X11_come (F : Nat) (a1 : Int32) (a2 : Int32) (a3 : Int64) (a5 : Int32) (m_base : Int32) (m_f : Nat → Int32) (m_many : Int32) (m_figures : Nat → Int32) (m_tail : Int32) (m_round : Int32) : Option (Int32 × Int32 × (Nat → Int32) × Int32 × Int32) := if a1 = 0 then (f_X11_come_J9 F a1 a2 a3 a5 m_base m_f m_many m_figures m_tail m_round) else (if a1 = (3 : Int32) then (f_X11_come_J9 F a1 a2 a3 a5 m_base m_f m_many m_figures m_tail m_round) else (f_X11_come_J43 F m_many m_figures m_tail m_round))
abbrev rmX11_come : Room := { frames := 5, cells := 0, slots := 0, locals := 137 }
set_option maxHeartbeats 1000000 in
set_option maxRecDepth 100000 in
theorem c_X11_come {l : Launch} {D : va_G} {cy : Nat → ClassId} {qM : Nat → Nat} {m_base : Int32} {m_f : Nat → Int32} {m_many : Int32} {m_figures : Nat → Int32} {m_tail : Int32} {m_round : Int32} {m_rounds : Int32} {m_leasts : Nat → Int64} {m_likes : Int32} {m_like : Nat → Int32} {m_isTwo : Nat → Int32} {m_came : Nat → Int32} {m_by : Nat → Int32} {m_queue : Nat → Int32} {m_kind : Int32} {m_parts : Int32} {m_wanted : Int32} {m_allowed : Int32} {m_bitOf : Nat → Int32} {m_met : Int32} {m_row : Nat → Int32} {m_narrows : Int32} {m_narrow : Nat → Int64} {m_isMade : Nat → Int32} {a1 : Int32} {a2 : Int32} {a3 : Int64} {a5 : Int32} {F : Nat} {res : Int32 × Int32 × (Nat → Int32) × Int32 × Int32} (hf : f_X11_come F a1 a2 a3 a5 m_base m_f m_many m_figures m_tail m_round = some res) : kM l yX11_come wsX11_come rmX11_come D cy [.ref (qM 0), .int a1, .int a2, .long a3, .int a5] (gM cy qM m_base m_f m_many m_figures m_tail m_round m_rounds m_leasts m_likes m_like m_isTwo m_came m_by m_queue m_kind m_parts m_wanted m_allowed m_bitOf m_met m_row m_narrows m_narrow m_isMade) (kQi D cy (fun _ : Unit => gM cy qM m_base m_f res.2.1 res.2.2.1 res.2.2.2.1 res.2.2.2.2 m_rounds m_leasts m_likes m_like m_isTwo m_came m_by m_queue m_kind m_parts m_wanted m_allowed m_bitOf m_met m_row m_narrows m_narrow m_isMade) res.1) := by
  refine kent_i (cc := cX11_come) (maxL := 9) (by decide) rfl (Nat.le_of_ble_eq_true rfl) ?_
  intro p e0 s m ar below meth c A Q ls ⟨hx, hb, hml, hr, hts, hown, hlocks, hnm⟩ hA hK hN hQ hP hD hS hl
  have hl : lv_has ls 9 [(0, .ref (qM 0)), (1, .int a1), (2, .int a2), (3, .long a3), (5, .int a5)] := hl
  have hown : s.vm.findClass RX11 = some m.cls := hown
  have huX11 : ∀ x ∈ u_ws RX11 TX11 24, x ∈ wsX11_come := by decide +kernel
  have fk97 : (Cond.fieldLink RX11 97 "FigurePlayModel" "round" "I").before ar s = true := hts _ (by decide +kernel)
  have fk124 : (Cond.constantLong RX11 124 (3000)).before ar s = true := hts _ (by decide +kernel)
  have fk68 : (Cond.constantLong RX11 68 (1000000000000000)).before ar s = true := hts _ (by decide +kernel)
  have fk100 : (Cond.fieldLink RX11 100 "FigurePlayModel" "tail" "I").before ar s = true := hts _ (by decide +kernel)
  unfold f_X11_come at hf
  have hJ160 : ∀ (s0 : Int32) (m_many : Int32) (m_figures : Nat → Int32) (m_tail : Int32) (m_round : Int32) (H : Heap) (locs : List Loc) (ls : Array Slot), f_X11_come_J160 F s0 m_many m_figures m_tail m_round = some res → va_P D vwCl (gM cy qM m_base m_f m_many m_figures m_tail m_round m_rounds m_leasts m_likes m_like m_isTwo m_came m_by m_queue m_kind m_parts m_wanted m_allowed m_bitOf m_met m_row m_narrows m_narrow m_isMade) H → va_D A (gM cy qM m_base m_f m_many m_figures m_tail m_round m_rounds m_leasts m_likes m_like m_isTwo m_came m_by m_queue m_kind m_parts m_wanted m_allowed m_bitOf m_met m_row m_narrows m_narrow m_isMade) → va_S A s.heap H locs → lv_has ls 9 [] → W p l e0 rmX11_come s m ar below meth c H locs 0 0 Q (F0 m 160 ls [.int s0]) := by
    intro s0 m_many m_figures m_tail m_round H locs ls hf hP hD hS hl
    unfold f_X11_come_J160 at hf
    obtain rfl := Option.some.inj hf
    exact hQ () 160 _ _ _ dX11_come_160 hP hD hS
  have hL91 : ∀ (x6 : Int32) (k : Nat) (x : Int32 × Int32 × Int32 × (Nat → Int32) × Int32 × Int32) (ex : Int32 × Int32 × (Nat → Int32) × Int32 × Int32) (H : Heap) (locs : List Loc) (ls : Array Slot), lp (f_X11_come_B91 F a1 a2 a3 a5 m_base m_f x6) k x = some ex → (∀ (H : Heap) (locs : List Loc) (ls : Array Slot), va_P D vwCl (gM cy qM m_base m_f ex.2.1 ex.2.2.1 ex.2.2.2.1 ex.2.2.2.2 m_rounds m_leasts m_likes m_like m_isTwo m_came m_by m_queue m_kind m_parts m_wanted m_allowed m_bitOf m_met m_row m_narrows m_narrow m_isMade) H → va_D A (gM cy qM m_base m_f ex.2.1 ex.2.2.1 ex.2.2.2.1 ex.2.2.2.2 m_rounds m_leasts m_likes m_like m_isTwo m_came m_by m_queue m_kind m_parts m_wanted m_allowed m_bitOf m_met m_row m_narrows m_narrow m_isMade) → va_S A s.heap H locs → lv_has ls 9 [(5, .int a5), (6, .int x6), (7, .int ex.1)] → W p l e0 rmX11_come s m ar below meth c H locs 0 0 Q (F0 m 148 ls [])) → va_P D vwCl (gM cy qM m_base m_f x.2.2.1 x.2.2.2.1 x.2.2.2.2.1 x.2.2.2.2.2 m_rounds m_leasts m_likes m_like m_isTwo m_came m_by m_queue m_kind m_parts m_wanted m_allowed m_bitOf m_met m_row m_narrows m_narrow m_isMade) H → va_D A (gM cy qM m_base m_f x.2.2.1 x.2.2.2.1 x.2.2.2.2.1 x.2.2.2.2.2 m_rounds m_leasts m_likes m_like m_isTwo m_came m_by m_queue m_kind m_parts m_wanted m_allowed m_bitOf m_met m_row m_narrows m_narrow m_isMade) → va_S A s.heap H locs → lv_has ls 9 [(0, .ref (qM 0)), (1, .int a1), (2, .int a2), (3, .long a3), (5, .int a5), (6, .int x6), (7, .int x.1), (8, .int x.2.1)] → W p l e0 rmX11_come s m ar below meth c H locs 0 0 Q (F0 m 91 ls []) := by
    intro x6 k
    induction k with
    | zero => intro x ex H locs ls hf; exact no_some hf
    | succ k ih =>
      intro x ex H locs ls hf hex hP hD hS hl
      have hf : f_X11_come_B91 F a1 a2 a3 a5 m_base m_f x6 (lp (f_X11_come_B91 F a1 a2 a3 a5 m_base m_f x6) k) x = some ex := hf
      unfold f_X11_come_B91 at hf
      have hJ139 : ∀ (x8 : Int32) (s0 : Int32) (s1 : Int32) (m_many : Int32) (m_figures : Nat → Int32) (m_tail : Int32) (m_round : Int32) (H : Heap) (locs : List Loc) (ls : Array Slot), f_X11_come_J139 F (lp (f_X11_come_B91 F a1 a2 a3 a5 m_base m_f x6) k) x8 s0 s1 m_many m_figures m_tail m_round = some ex → va_P D vwCl (gM cy qM m_base m_f m_many m_figures m_tail m_round m_rounds m_leasts m_likes m_like m_isTwo m_came m_by m_queue m_kind m_parts m_wanted m_allowed m_bitOf m_met m_row m_narrows m_narrow m_isMade) H → va_D A (gM cy qM m_base m_f m_many m_figures m_tail m_round m_rounds m_leasts m_likes m_like m_isTwo m_came m_by m_queue m_kind m_parts m_wanted m_allowed m_bitOf m_met m_row m_narrows m_narrow m_isMade) → va_S A s.heap H locs → lv_has ls 9 [(0, .ref (qM 0)), (1, .int a1), (2, .int a2), (3, .long a3), (5, .int a5), (6, .int x6), (8, .int x8)] → W p l e0 rmX11_come s m ar below meth c H locs 0 0 Q (F0 m 139 ls [.int s1, .int s0]) := by
        intro x8 s0 s1 m_many m_figures m_tail m_round H locs ls hf hP hD hS hl
        unfold f_X11_come_J139 at hf
        refine lv_iadd hx hb dX11_come_139 ?_
        refine lv_istore (lv' := [(7, .int (s0 + s1)), (0, .ref (qM 0)), (1, .int a1), (2, .int a2), (3, .long a3), (5, .int a5), (6, .int x6), (8, .int x8)]) hx hb dX11_come_140 hl (by decide) rfl (fun ls hl => ?_)
        refine lv_iinc (v := (x8 + (1 : Int32))) (lv' := [(8, .int (x8 + (1 : Int32))), (7, .int (s0 + s1)), (0, .ref (qM 0)), (1, .int a1), (2, .int a2), (3, .long a3), (5, .int a5), (6, .int x6)]) hx hb dX11_come_142 hl (k := 7) rfl rfl (by decide) rfl (fun ls hl => ?_)
        refine lv_goto (tgt := 91) hx hb dX11_come_145 (by decide) ?_
        exact ih ((s0 + s1), (x8 + (1 : Int32)), m_many, m_figures, m_tail, m_round) ex _ _ _ hf hex hP hD hS (lv_sub hl [2, 3, 4, 5, 6, 7, 1, 0] rfl)
      have hJ138 : ∀ (x8 : Int32) (s0 : Int32) (m_many : Int32) (m_figures : Nat → Int32) (m_tail : Int32) (m_round : Int32) (H : Heap) (locs : List Loc) (ls : Array Slot), f_X11_come_J138 F (lp (f_X11_come_B91 F a1 a2 a3 a5 m_base m_f x6) k) x8 s0 m_many m_figures m_tail m_round = some ex → va_P D vwCl (gM cy qM m_base m_f m_many m_figures m_tail m_round m_rounds m_leasts m_likes m_like m_isTwo m_came m_by m_queue m_kind m_parts m_wanted m_allowed m_bitOf m_met m_row m_narrows m_narrow m_isMade) H → va_D A (gM cy qM m_base m_f m_many m_figures m_tail m_round m_rounds m_leasts m_likes m_like m_isTwo m_came m_by m_queue m_kind m_parts m_wanted m_allowed m_bitOf m_met m_row m_narrows m_narrow m_isMade) → va_S A s.heap H locs → lv_has ls 9 [(0, .ref (qM 0)), (1, .int a1), (2, .int a2), (3, .long a3), (5, .int a5), (6, .int x6), (8, .int x8)] → W p l e0 rmX11_come s m ar below meth c H locs 0 0 Q (F0 m 138 ls [.int s0]) := by
        intro x8 s0 m_many m_figures m_tail m_round H locs ls hf hP hD hS hl
        unfold f_X11_come_J138 at hf
        refine lv_iconst (v := (0 : Int32)) hx hb dX11_come_138 (by decide) ?_
        exact hJ139 x8 s0 (0 : Int32) m_many m_figures m_tail m_round _ _ _ hf hP hD hS (lv_sub hl [0, 1, 2, 3, 4, 5, 6] rfl)
      refine lv_iload hx hb dX11_come_91 (lv_at hl 7 rfl) ?_
      refine lv_iload_n hx hb dX11_come_93 rfl (lv_at hl 2 rfl) ?_
      refine lv_icmp_gt (tgt := 148) hx hb dX11_come_94 (by decide) (fun c1 => ?_) (fun c1 => ?_)
      · have hf := if_t hf c1
        obtain rfl := Option.some.inj hf
        exact hex _ _ _ hP hD hS (lv_sub hl [4, 5, 6] rfl)
      · have hf := if_f hf c1
        refine lv_iload hx hb dX11_come_97 (lv_at hl 4 rfl) ?_
        refine lv_if_ne (tgt := 148) hx hb dX11_come_99 (by decide) (fun c2 => ?_) (fun c2 => ?_)
        · have hf := if_f hf c2
          obtain rfl := Option.some.inj hf
          exact hex _ _ _ hP hD hS (lv_sub hl [4, 5, 6] rfl)
        · have hf := if_t hf c2
          refine lv_aload_n hx hb dX11_come_102 rfl (lv_at hl 0 rfl) ?_
          refine lv_iload_n hx hb dX11_come_103 rfl (lv_at hl 1 rfl) ?_
          refine lv_iload hx hb dX11_come_104 (lv_at hl 7 rfl) ?_
          refine lv_i2l hx hb dX11_come_106 rfl ?_
          obtain ⟨r3, hc4, hf⟩ := ob_some hf
          refine kc_v (k_run ⟨hx, hb, hml, hown, hts⟩ (c_X11_layChain hc4) (cwV 2 hts gX11_come_X11_layChain rfl rfl rfl (by decide +kernel) ⟨Nat.le_of_ble_eq_true rfl, Nat.le_of_ble_eq_true rfl⟩) hK hN hP hD kA_s (ci := 11) (q0 := 0) rfl rfl rfl rfl hl.1 rfl (Nat.le_of_ble_eq_true rfl) dX11_come_107 ⟨Nat.le_of_ble_eq_true rfl, Nat.le_of_ble_eq_true rfl⟩) hP hD hS hA kI_s (fun _ H locs hP hD hS => ?_)
          refine lv_iload hx hb dX11_come_110 (lv_at hl 6 rfl) ?_
          refine lv_aload_n hx hb dX11_come_112 rfl (lv_at hl 0 rfl) ?_
          refine va_get (D := D) (ci := 11) (C := RX11) (T := TX11) (N := 24) hx hb hts huX11 hown hK hP 0 rfl rfl 5 (by decide) fk97 (fun _ h9 => h9) rfl dX11_come_113 ?_
          refine lv_iload hx hb dX11_come_116 (lv_at hl 5 rfl) ?_
          refine lv_icmp_ne (tgt := 138) hx hb dX11_come_118 (by decide) (fun c5 => ?_) (fun c5 => ?_)
          · have hf := if_f hf c5
            exact hJ138 x.2.1 x.1 r3.1 r3.2.1 r3.2.2.1 r3.2.2.2 _ _ _ hf hP hD hS (lv_sub hl [0, 1, 2, 3, 4, 5, 7] rfl)
          · have hf := if_t hf c5
            refine lv_aload_n hx hb dX11_come_121 rfl (lv_at hl 0 rfl) ?_
            refine lv_iload_n hx hb dX11_come_122 rfl (lv_at hl 1 rfl) ?_
            refine lv_iload hx hb dX11_come_123 (lv_at hl 7 rfl) ?_
            refine lv_i2l hx hb dX11_come_125 rfl ?_
            obtain ⟨r6, hc7, hf⟩ := ob_some hf
            refine kc_l (k_run ⟨hx, hb, hml, hown, hts⟩ (c_X11_leastOf hc7) (cwV 2 hts gX11_come_X11_leastOf rfl rfl rfl (by decide +kernel) ⟨Nat.le_of_ble_eq_true rfl, Nat.le_of_ble_eq_true rfl⟩) hK hN hP hD kA_s (ci := 11) (q0 := 0) rfl rfl rfl rfl hl.1 rfl (Nat.le_of_ble_eq_true rfl) dX11_come_126 ⟨Nat.le_of_ble_eq_true rfl, Nat.le_of_ble_eq_true rfl⟩) hP hD hS hA kI_s (fun _ H locs hP hD hS => ?_)
            refine lv_lload_n hx hb dX11_come_129 rfl (lv_at hl 3 rfl) ?_
            refine kl_ne (tgt := 138) hx hb dX11_come_130 dX11_come_131 (by decide) (fun c8 => ?_) (fun c8 => ?_)
            · have hf := if_f hf c8
              exact hJ138 x.2.1 x.1 r6.2.1 r6.2.2 r3.2.2.1 r3.2.2.2 _ _ _ hf hP hD hS (lv_sub hl [0, 1, 2, 3, 4, 5, 7] rfl)
            · have hf := if_t hf c8
              refine lv_iconst (v := (1 : Int32)) hx hb dX11_come_134 (by decide) ?_
              refine lv_goto (tgt := 139) hx hb dX11_come_135 (by decide) ?_
              exact hJ139 x.2.1 x.1 (1 : Int32) r6.2.1 r6.2.2 r3.2.2.1 r3.2.2.2 _ _ _ hf hP hD hS (lv_sub hl [0, 1, 2, 3, 4, 5, 7] rfl)
  have hJ82 : ∀ (m_many : Int32) (m_figures : Nat → Int32) (m_tail : Int32) (m_round : Int32) (H : Heap) (locs : List Loc) (ls : Array Slot), f_X11_come_J82 F m_many m_figures m_tail m_round = some res → va_P D vwCl (gM cy qM m_base m_f m_many m_figures m_tail m_round m_rounds m_leasts m_likes m_like m_isTwo m_came m_by m_queue m_kind m_parts m_wanted m_allowed m_bitOf m_met m_row m_narrows m_narrow m_isMade) H → va_D A (gM cy qM m_base m_f m_many m_figures m_tail m_round m_rounds m_leasts m_likes m_like m_isTwo m_came m_by m_queue m_kind m_parts m_wanted m_allowed m_bitOf m_met m_row m_narrows m_narrow m_isMade) → va_S A s.heap H locs → lv_has ls 9 [] → W p l e0 rmX11_come s m ar below meth c H locs 0 0 Q (F0 m 82 ls []) := by
    intro m_many m_figures m_tail m_round H locs ls hf hP hD hS hl
    unfold f_X11_come_J82 at hf
    refine lv_bipush (v := (-4 : Int32)) hx hb dX11_come_82 (by decide) ?_
    obtain rfl := Option.some.inj hf
    exact hQ () 84 _ _ _ dX11_come_84 hP hD hS
  have hJ43 : ∀ (m_many : Int32) (m_figures : Nat → Int32) (m_tail : Int32) (m_round : Int32) (H : Heap) (locs : List Loc) (ls : Array Slot), f_X11_come_J43 F m_many m_figures m_tail m_round = some res → va_P D vwCl (gM cy qM m_base m_f m_many m_figures m_tail m_round m_rounds m_leasts m_likes m_like m_isTwo m_came m_by m_queue m_kind m_parts m_wanted m_allowed m_bitOf m_met m_row m_narrows m_narrow m_isMade) H → va_D A (gM cy qM m_base m_f m_many m_figures m_tail m_round m_rounds m_leasts m_likes m_like m_isTwo m_came m_by m_queue m_kind m_parts m_wanted m_allowed m_bitOf m_met m_row m_narrows m_narrow m_isMade) → va_S A s.heap H locs → lv_has ls 9 [] → W p l e0 rmX11_come s m ar below meth c H locs 0 0 Q (F0 m 43 ls []) := by
    intro m_many m_figures m_tail m_round H locs ls hf hP hD hS hl
    unfold f_X11_come_J43 at hf
    refine lv_iconst (v := (-1 : Int32)) hx hb dX11_come_43 (by decide) ?_
    obtain rfl := Option.some.inj hf
    exact hQ () 44 _ _ _ dX11_come_44 hP hD hS
  have hJ9 : ∀ (m_many : Int32) (m_figures : Nat → Int32) (m_tail : Int32) (m_round : Int32) (H : Heap) (locs : List Loc) (ls : Array Slot), f_X11_come_J9 F a1 a2 a3 a5 m_base m_f m_many m_figures m_tail m_round = some res → va_P D vwCl (gM cy qM m_base m_f m_many m_figures m_tail m_round m_rounds m_leasts m_likes m_like m_isTwo m_came m_by m_queue m_kind m_parts m_wanted m_allowed m_bitOf m_met m_row m_narrows m_narrow m_isMade) H → va_D A (gM cy qM m_base m_f m_many m_figures m_tail m_round m_rounds m_leasts m_likes m_like m_isTwo m_came m_by m_queue m_kind m_parts m_wanted m_allowed m_bitOf m_met m_row m_narrows m_narrow m_isMade) → va_S A s.heap H locs → lv_has ls 9 [(0, .ref (qM 0)), (1, .int a1), (2, .int a2), (3, .long a3), (5, .int a5)] → W p l e0 rmX11_come s m ar below meth c H locs 0 0 Q (F0 m 9 ls []) := by
    intro m_many m_figures m_tail m_round H locs ls hf hP hD hS hl
    unfold f_X11_come_J9 at hf
    refine lv_iload_n hx hb dX11_come_9 rfl (lv_at hl 2 rfl) ?_
    refine lv_i2l hx hb dX11_come_10 rfl ?_
    refine lv_lconst (v := (0 : Int64)) hx hb dX11_come_11 (by decide) ?_
    refine lv_ldc2 (v := (3000 : Int64)) hx hb hown fk124 dX11_come_12 ?_
    obtain ⟨r9, hc10, hf⟩ := ob_some hf
    refine kc_i (k_runS ⟨hx, hb, hml, hown, hts⟩ (c_X11_in hc10) (va_cwS 3 hts gX11_come_X11_in rfl rfl rfl (by decide +kernel) ⟨Nat.le_of_ble_eq_true rfl, Nat.le_of_ble_eq_true rfl⟩) hK hN hP hD kA_0 rfl hl.1 rfl (Nat.le_of_ble_eq_true rfl) dX11_come_15 ⟨Nat.le_of_ble_eq_true rfl, Nat.le_of_ble_eq_true rfl⟩) hP hD hS hA kI_0 (fun _ H locs hP hD hS => ?_)
    refine lv_if_eq (tgt := 43) hx hb dX11_come_18 (by decide) (fun c11 => ?_) (fun c11 => ?_)
    · have hf := if_t hf c11
      exact hJ43 m_many m_figures m_tail m_round _ _ _ hf hP hD hS (lv_sub hl [] rfl)
    · have hf := if_f hf c11
      refine lv_lload_n hx hb dX11_come_21 rfl (lv_at hl 3 rfl) ?_
      refine lv_lconst (v := (0 : Int64)) hx hb dX11_come_22 (by decide) ?_
      refine lv_ldc2 (v := (1000000000000000 : Int64)) hx hb hown fk68 dX11_come_23 ?_
      obtain ⟨r12, hc13, hf⟩ := ob_some hf
      refine kc_i (k_runS ⟨hx, hb, hml, hown, hts⟩ (c_X11_in hc13) (va_cwS 3 hts gX11_come_X11_in rfl rfl rfl (by decide +kernel) ⟨Nat.le_of_ble_eq_true rfl, Nat.le_of_ble_eq_true rfl⟩) hK hN hP hD kA_0 rfl hl.1 rfl (Nat.le_of_ble_eq_true rfl) dX11_come_26 ⟨Nat.le_of_ble_eq_true rfl, Nat.le_of_ble_eq_true rfl⟩) hP hD hS hA kI_0 (fun _ H locs hP hD hS => ?_)
      refine lv_if_eq (tgt := 43) hx hb dX11_come_29 (by decide) (fun c14 => ?_) (fun c14 => ?_)
      · have hf := if_t hf c14
        exact hJ43 m_many m_figures m_tail m_round _ _ _ hf hP hD hS (lv_sub hl [] rfl)
      · have hf := if_f hf c14
        refine lv_iload hx hb dX11_come_32 (lv_at hl 4 rfl) ?_
        refine lv_i2l hx hb dX11_come_34 rfl ?_
        refine lv_lconst (v := (0 : Int64)) hx hb dX11_come_35 (by decide) ?_
        refine lv_lconst (v := (1 : Int64)) hx hb dX11_come_36 (by decide) ?_
        obtain ⟨r15, hc16, hf⟩ := ob_some hf
        refine kc_i (k_runS ⟨hx, hb, hml, hown, hts⟩ (c_X11_in hc16) (va_cwS 3 hts gX11_come_X11_in rfl rfl rfl (by decide +kernel) ⟨Nat.le_of_ble_eq_true rfl, Nat.le_of_ble_eq_true rfl⟩) hK hN hP hD kA_0 rfl hl.1 rfl (Nat.le_of_ble_eq_true rfl) dX11_come_37 ⟨Nat.le_of_ble_eq_true rfl, Nat.le_of_ble_eq_true rfl⟩) hP hD hS hA kI_0 (fun _ H locs hP hD hS => ?_)
        refine lv_if_ne (tgt := 45) hx hb dX11_come_40 (by decide) (fun c17 => ?_) (fun c17 => ?_)
        · have hf := if_f hf c17
          refine lv_aload_n hx hb dX11_come_45 rfl (lv_at hl 0 rfl) ?_
          refine lv_iload_n hx hb dX11_come_46 rfl (lv_at hl 1 rfl) ?_
          refine lv_lload_n hx hb dX11_come_47 rfl (lv_at hl 3 rfl) ?_
          obtain ⟨r18, hc19, hf⟩ := ob_some hf
          refine kc_v (k_run ⟨hx, hb, hml, hown, hts⟩ (c_X11_layChain hc19) (cwV 2 hts gX11_come_X11_layChain rfl rfl rfl (by decide +kernel) ⟨Nat.le_of_ble_eq_true rfl, Nat.le_of_ble_eq_true rfl⟩) hK hN hP hD kA_s (ci := 11) (q0 := 0) rfl rfl rfl rfl hl.1 rfl (Nat.le_of_ble_eq_true rfl) dX11_come_48 ⟨Nat.le_of_ble_eq_true rfl, Nat.le_of_ble_eq_true rfl⟩) hP hD hS hA kI_s (fun _ H locs hP hD hS => ?_)
          refine lv_aload_n hx hb dX11_come_51 rfl (lv_at hl 0 rfl) ?_
          refine va_get (D := D) (ci := 11) (C := RX11) (T := TX11) (N := 24) hx hb hts huX11 hown hK hP 0 rfl rfl 5 (by decide) fk97 (fun _ h9 => h9) rfl dX11_come_52 ?_
          refine lv_istore (lv' := [(6, .int r18.2.2.2), (0, .ref (qM 0)), (1, .int a1), (2, .int a2), (3, .long a3), (5, .int a5)]) hx hb dX11_come_55 hl (by decide) rfl (fun ls hl => ?_)
          refine lv_aload_n hx hb dX11_come_57 rfl (lv_at hl 1 rfl) ?_
          refine va_get (D := D) (ci := 11) (C := RX11) (T := TX11) (N := 24) hx hb hts huX11 hown hK hP 0 rfl rfl 5 (by decide) fk97 (fun _ h9 => h9) rfl dX11_come_58 ?_
          refine lv_if_eq (tgt := 82) hx hb dX11_come_61 (by decide) (fun c20 => ?_) (fun c20 => ?_)
          · have hf := if_t hf c20
            exact hJ82 r18.1 r18.2.1 r18.2.2.1 r18.2.2.2 _ _ _ hf hP hD hS (lv_sub hl [] rfl)
          · have hf := if_f hf c20
            refine lv_aload_n hx hb dX11_come_64 rfl (lv_at hl 1 rfl) ?_
            refine va_get (D := D) (ci := 11) (C := RX11) (T := TX11) (N := 24) hx hb hts huX11 hown hK hP 0 rfl rfl 4 (by decide) fk100 (fun _ h9 => h9) rfl dX11_come_65 ?_
            refine lv_if_gt (tgt := 82) hx hb dX11_come_68 (by decide) (fun c21 => ?_) (fun c21 => ?_)
            · have hf := if_t hf c21
              exact hJ82 r18.1 r18.2.1 r18.2.2.1 r18.2.2.2 _ _ _ hf hP hD hS (lv_sub hl [] rfl)
            · have hf := if_f hf c21
              refine lv_aload_n hx hb dX11_come_71 rfl (lv_at hl 1 rfl) ?_
              refine lv_iload_n hx hb dX11_come_72 rfl (lv_at hl 2 rfl) ?_
              refine lv_lload_n hx hb dX11_come_73 rfl (lv_at hl 4 rfl) ?_
              obtain ⟨r22, hc23, hf⟩ := ob_some hf
              refine kc_l (k_run ⟨hx, hb, hml, hown, hts⟩ (c_X11_leastOf hc23) (cwV 2 hts gX11_come_X11_leastOf rfl rfl rfl (by decide +kernel) ⟨Nat.le_of_ble_eq_true rfl, Nat.le_of_ble_eq_true rfl⟩) hK hN hP hD kA_s (ci := 11) (q0 := 0) rfl rfl rfl rfl hl.1 rfl (Nat.le_of_ble_eq_true rfl) dX11_come_74 ⟨Nat.le_of_ble_eq_true rfl, Nat.le_of_ble_eq_true rfl⟩) hP hD hS hA kI_s (fun _ H locs hP hD hS => ?_)
              refine lv_lload_n hx hb dX11_come_77 rfl (lv_at hl 4 rfl) ?_
              refine kl_eq (tgt := 85) hx hb dX11_come_78 dX11_come_79 (by decide) (fun c24 => ?_) (fun c24 => ?_)
              · have hf := if_t hf c24
                refine lv_iconst (v := (0 : Int32)) hx hb dX11_come_85 (by decide) ?_
                refine lv_istore (lv' := [(7, .int (0 : Int32)), (6, .int r18.2.2.2), (0, .ref (qM 0)), (1, .int a1), (2, .int a2), (3, .long a3), (5, .int a5)]) hx hb dX11_come_86 hl (by decide) rfl (fun ls hl => ?_)
                refine lv_iconst (v := (0 : Int32)) hx hb dX11_come_88 (by decide) ?_
                refine lv_istore (lv' := [(8, .int (0 : Int32)), (7, .int (0 : Int32)), (6, .int r18.2.2.2), (0, .ref (qM 0)), (1, .int a1), (2, .int a2), (3, .long a3), (5, .int a5)]) hx hb dX11_come_89 hl (by decide) rfl (fun ls hl => ?_)
                obtain ⟨ex25, hcl, hf⟩ := ob_some hf
                refine hL91 r18.2.2.2 F ((0 : Int32), (0 : Int32), r22.2.1, r22.2.2, r18.2.2.1, r18.2.2.2) ex25 _ _ _ hcl (fun H locs ls hP hD hS hl => ?_) hP hD hS (lv_sub hl [3, 4, 5, 6, 7, 2, 1, 0] rfl)
                refine lv_iload hx hb dX11_come_148 (lv_at hl 0 rfl) ?_
                refine lv_if_ne (tgt := 158) hx hb dX11_come_150 (by decide) (fun c26 => ?_) (fun c26 => ?_)
                · have hf := if_f hf c26
                  refine lv_iload hx hb dX11_come_158 (lv_at hl 1 rfl) ?_
                  exact hJ160 r18.2.2.2 ex25.2.1 ex25.2.2.1 ex25.2.2.2.1 ex25.2.2.2.2 _ _ _ hf hP hD hS (lv_sub hl [] rfl)
                · have hf := if_t hf c26
                  refine lv_iload hx hb dX11_come_153 (lv_at hl 2 rfl) ?_
                  refine lv_goto (tgt := 160) hx hb dX11_come_155 (by decide) ?_
                  exact hJ160 ex25.1 ex25.2.1 ex25.2.2.1 ex25.2.2.2.1 ex25.2.2.2.2 _ _ _ hf hP hD hS (lv_sub hl [] rfl)
              · have hf := if_f hf c24
                exact hJ82 r22.2.1 r22.2.2 r18.2.2.1 r18.2.2.2 _ _ _ hf hP hD hS (lv_sub hl [] rfl)
        · have hf := if_t hf c17
          exact hJ43 m_many m_figures m_tail m_round _ _ _ hf hP hD hS (lv_sub hl [] rfl)
  refine lv_iload_n hx hb dX11_come_0 rfl (lv_at hl 1 rfl) ?_
  refine lv_if_eq (tgt := 9) hx hb dX11_come_1 (by decide) (fun c27 => ?_) (fun c27 => ?_)
  · have hf := if_t hf c27
    exact hJ9 m_many m_figures m_tail m_round _ _ _ hf hP hD hS (lv_sub hl [0, 1, 2, 3, 4] rfl)
  · have hf := if_f hf c27
    refine lv_iload_n hx hb dX11_come_4 rfl (lv_at hl 1 rfl) ?_
    refine lv_iconst (v := (3 : Int32)) hx hb dX11_come_5 (by decide) ?_
    refine lv_icmp_ne (tgt := 43) hx hb dX11_come_6 (by decide) (fun c28 => ?_) (fun c28 => ?_)
    · have hf := if_f hf c28
      exact hJ43 m_many m_figures m_tail m_round _ _ _ hf hP hD hS (lv_sub hl [] rfl)
    · have hf := if_t hf c28
      exact hJ9 m_many m_figures m_tail m_round _ _ _ hf hP hD hS (lv_sub hl [0, 1, 2, 3, 4] rfl)
def f_X11_makes_J126 (F : Nat) (s0 : Int32) (m_many : Int32) (m_figures : Nat → Int32) : Option (Int32 × Int32 × (Nat → Int32)) := some (s0, m_many, m_figures)
def f_X11_makes_J104 (F : Nat) (rec : (Int32 × Int32 × Int32 × (Nat → Int32)) → Option ((Int32 × Int32 × (Nat → Int32)) ⊕ (Int32 × Int32 × (Nat → Int32)))) (x7 : Int32) (s0 : Int32) (s1 : Int32) (m_many : Int32) (m_figures : Nat → Int32) : Option ((Int32 × Int32 × (Nat → Int32)) ⊕ (Int32 × Int32 × (Nat → Int32))) := rec ((s0 + s1), (x7 + (1 : Int32)), m_many, m_figures)
def f_X11_makes_J92 (F : Nat) (rec : (Int32 × Int32 × Int32 × (Nat → Int32)) → Option ((Int32 × Int32 × (Nat → Int32)) ⊕ (Int32 × Int32 × (Nat → Int32)))) (x6 : Int32) (x7 : Int32) (x8 : Int32) (m_many : Int32) (m_figures : Nat → Int32) : Option ((Int32 × Int32 × (Nat → Int32)) ⊕ (Int32 × Int32 × (Nat → Int32))) := if x8 = 0 then (f_X11_makes_J104 F rec x7 x6 (0 : Int32) m_many m_figures) else (f_X11_makes_J104 F rec x7 x6 (1 : Int32) m_many m_figures)
def f_X11_makes_J75 (F : Nat) (a5 : Int32) (rec : (Int32 × Int32 × Int32 × (Nat → Int32)) → Option ((Int32 × Int32 × (Nat → Int32)) ⊕ (Int32 × Int32 × (Nat → Int32)))) (x6 : Int32) (x7 : Int32) (s0 : Int32) (m_many : Int32) (m_figures : Nat → Int32) : Option ((Int32 × Int32 × (Nat → Int32)) ⊕ (Int32 × Int32 × (Nat → Int32))) := if s0 = 0 then (f_X11_makes_J92 F rec x6 x7 s0 m_many m_figures) else (if x6 = a5 then (some (.inl (x7, m_many, m_figures))) else (f_X11_makes_J92 F rec x6 x7 s0 m_many m_figures))
def f_X11_makes_B50 (F : Nat) (a1 : Int32) (a2 : Int64) (a4 : Int32) (a5 : Int32) (m_base : Int32) (m_f : Nat → Int32) (rec : Int32 × Int32 × Int32 × (Nat → Int32) → Option ((Int32 × Int32 × (Nat → Int32)) ⊕ (Int32 × Int32 × (Nat → Int32)))) (x : Int32 × Int32 × Int32 × (Nat → Int32)) : Option ((Int32 × Int32 × (Nat → Int32)) ⊕ (Int32 × Int32 × (Nat → Int32))) := if a4 < x.2.1 then (some (.inr (x.1, x.2.2.1, x.2.2.2))) else ((f_X11_stepOf F a1 x.2.1.toInt64 m_base m_f x.2.2.1 x.2.2.2).bind (fun r5 => if r5.1 = a2 then (f_X11_makes_J75 F a5 rec x.1 x.2.1 (1 : Int32) r5.2.1 r5.2.2) else (f_X11_makes_J75 F a5 rec x.1 x.2.1 (0 : Int32) r5.2.1 r5.2.2)))
def f_X11_makes_J42 (F : Nat) (m_many : Int32) (m_figures : Nat → Int32) : Option (Int32 × Int32 × (Nat → Int32)) := some ((-1 : Int32), m_many, m_figures)
def f_X11_makes (F : Nat) (a1 : Int32) (a2 : Int64) (a4 : Int32) (a5 : Int32) (m_base : Int32) (m_f : Nat → Int32) (m_many : Int32) (m_figures : Nat → Int32) : Option (Int32 × Int32 × (Nat → Int32)) := (f_X11_in F a1.toInt64 (0 : Int64) (5 : Int64)).bind (fun r8 => if r8 = 0 then (f_X11_makes_J42 F m_many m_figures) else ((f_X11_in F a2 (0 : Int64) (1000000000000000 : Int64)).bind (fun r11 => if r11 = 0 then (f_X11_makes_J42 F m_many m_figures) else ((f_X11_in F a4.toInt64 (0 : Int64) (20000 : Int64)).bind (fun r14 => if r14 = 0 then (f_X11_makes_J42 F m_many m_figures) else (if (-1 : Int32) ≤ a5 then ((lp (f_X11_makes_B50 F a1 a2 a4 a5 m_base m_f) F ((0 : Int32), (0 : Int32), m_many, m_figures)).bind (fun ex18 => Sum.elim (fun r => some r) (fun er19 => if a5 = (-1 : Int32) then (f_X11_makes_J126 F er19.1 er19.2.1 er19.2.2) else (f_X11_makes_J126 F (-4 : Int32) er19.2.1 er19.2.2)) ex18)) else (f_X11_makes_J42 F m_many m_figures)))))))
abbrev rmX11_makes : Room := { frames := 3, cells := 0, slots := 0, locals := 75 }
set_option maxHeartbeats 1000000 in
set_option maxRecDepth 100000 in
theorem c_X11_makes {l : Launch} {D : va_G} {cy : Nat → ClassId} {qM : Nat → Nat} {m_base : Int32} {m_f : Nat → Int32} {m_many : Int32} {m_figures : Nat → Int32} {m_tail : Int32} {m_round : Int32} {m_rounds : Int32} {m_leasts : Nat → Int64} {m_likes : Int32} {m_like : Nat → Int32} {m_isTwo : Nat → Int32} {m_came : Nat → Int32} {m_by : Nat → Int32} {m_queue : Nat → Int32} {m_kind : Int32} {m_parts : Int32} {m_wanted : Int32} {m_allowed : Int32} {m_bitOf : Nat → Int32} {m_met : Int32} {m_row : Nat → Int32} {m_narrows : Int32} {m_narrow : Nat → Int64} {m_isMade : Nat → Int32} {a1 : Int32} {a2 : Int64} {a4 : Int32} {a5 : Int32} {F : Nat} {res : Int32 × Int32 × (Nat → Int32)} (hf : f_X11_makes F a1 a2 a4 a5 m_base m_f m_many m_figures = some res) : kM l yX11_makes wsX11_makes rmX11_makes D cy [.ref (qM 0), .int a1, .long a2, .int a4, .int a5] (gM cy qM m_base m_f m_many m_figures m_tail m_round m_rounds m_leasts m_likes m_like m_isTwo m_came m_by m_queue m_kind m_parts m_wanted m_allowed m_bitOf m_met m_row m_narrows m_narrow m_isMade) (kQi D cy (fun _ : Unit => gM cy qM m_base m_f res.2.1 res.2.2 m_tail m_round m_rounds m_leasts m_likes m_like m_isTwo m_came m_by m_queue m_kind m_parts m_wanted m_allowed m_bitOf m_met m_row m_narrows m_narrow m_isMade) res.1) := by
  refine kent_i (cc := cX11_makes) (maxL := 9) (by decide) rfl (Nat.le_of_ble_eq_true rfl) ?_
  intro p e0 s m ar below meth c A Q ls ⟨hx, hb, hml, hr, hts, hown, hlocks, hnm⟩ hA hK hN hQ hP hD hS hl
  have hl : lv_has ls 9 [(0, .ref (qM 0)), (1, .int a1), (2, .long a2), (4, .int a4), (5, .int a5)] := hl
  have hown : s.vm.findClass RX11 = some m.cls := hown
  have fk89 : (Cond.constantLong RX11 89 (5)).before ar s = true := hts _ (by decide +kernel)
  have fk68 : (Cond.constantLong RX11 68 (1000000000000000)).before ar s = true := hts _ (by decide +kernel)
  have fk116 : (Cond.constantLong RX11 116 (20000)).before ar s = true := hts _ (by decide +kernel)
  unfold f_X11_makes at hf
  have hJ126 : ∀ (s0 : Int32) (m_many : Int32) (m_figures : Nat → Int32) (H : Heap) (locs : List Loc) (ls : Array Slot), f_X11_makes_J126 F s0 m_many m_figures = some res → va_P D vwCl (gM cy qM m_base m_f m_many m_figures m_tail m_round m_rounds m_leasts m_likes m_like m_isTwo m_came m_by m_queue m_kind m_parts m_wanted m_allowed m_bitOf m_met m_row m_narrows m_narrow m_isMade) H → va_D A (gM cy qM m_base m_f m_many m_figures m_tail m_round m_rounds m_leasts m_likes m_like m_isTwo m_came m_by m_queue m_kind m_parts m_wanted m_allowed m_bitOf m_met m_row m_narrows m_narrow m_isMade) → va_S A s.heap H locs → lv_has ls 9 [] → W p l e0 rmX11_makes s m ar below meth c H locs 0 0 Q (F0 m 126 ls [.int s0]) := by
    intro s0 m_many m_figures H locs ls hf hP hD hS hl
    unfold f_X11_makes_J126 at hf
    obtain rfl := Option.some.inj hf
    exact hQ () 126 _ _ _ dX11_makes_126 hP hD hS
  have hL50 : ∀ (k : Nat) (x : Int32 × Int32 × Int32 × (Nat → Int32)) (ex : (Int32 × Int32 × (Nat → Int32)) ⊕ (Int32 × Int32 × (Nat → Int32))) (H : Heap) (locs : List Loc) (ls : Array Slot), lp (f_X11_makes_B50 F a1 a2 a4 a5 m_base m_f) k x = some ex → (∀ r, ex = .inl r → r = res) → (∀ er, ex = .inr er → ∀ (H : Heap) (locs : List Loc) (ls : Array Slot), va_P D vwCl (gM cy qM m_base m_f er.2.1 er.2.2 m_tail m_round m_rounds m_leasts m_likes m_like m_isTwo m_came m_by m_queue m_kind m_parts m_wanted m_allowed m_bitOf m_met m_row m_narrows m_narrow m_isMade) H → va_D A (gM cy qM m_base m_f er.2.1 er.2.2 m_tail m_round m_rounds m_leasts m_likes m_like m_isTwo m_came m_by m_queue m_kind m_parts m_wanted m_allowed m_bitOf m_met m_row m_narrows m_narrow m_isMade) → va_S A s.heap H locs → lv_has ls 9 [(5, .int a5), (6, .int er.1)] → W p l e0 rmX11_makes s m ar below meth c H locs 0 0 Q (F0 m 113 ls [])) → va_P D vwCl (gM cy qM m_base m_f x.2.2.1 x.2.2.2 m_tail m_round m_rounds m_leasts m_likes m_like m_isTwo m_came m_by m_queue m_kind m_parts m_wanted m_allowed m_bitOf m_met m_row m_narrows m_narrow m_isMade) H → va_D A (gM cy qM m_base m_f x.2.2.1 x.2.2.2 m_tail m_round m_rounds m_leasts m_likes m_like m_isTwo m_came m_by m_queue m_kind m_parts m_wanted m_allowed m_bitOf m_met m_row m_narrows m_narrow m_isMade) → va_S A s.heap H locs → lv_has ls 9 [(0, .ref (qM 0)), (1, .int a1), (2, .long a2), (4, .int a4), (5, .int a5), (6, .int x.1), (7, .int x.2.1)] → W p l e0 rmX11_makes s m ar below meth c H locs 0 0 Q (F0 m 50 ls []) := by
    intro k
    induction k with
    | zero => intro x ex H locs ls hf; exact no_some hf
    | succ k ih =>
      intro x ex H locs ls hf hret hex hP hD hS hl
      have hf : f_X11_makes_B50 F a1 a2 a4 a5 m_base m_f (lp (f_X11_makes_B50 F a1 a2 a4 a5 m_base m_f) k) x = some ex := hf
      unfold f_X11_makes_B50 at hf
      have hJ104 : ∀ (x7 : Int32) (s0 : Int32) (s1 : Int32) (m_many : Int32) (m_figures : Nat → Int32) (H : Heap) (locs : List Loc) (ls : Array Slot), f_X11_makes_J104 F (lp (f_X11_makes_B50 F a1 a2 a4 a5 m_base m_f) k) x7 s0 s1 m_many m_figures = some ex → va_P D vwCl (gM cy qM m_base m_f m_many m_figures m_tail m_round m_rounds m_leasts m_likes m_like m_isTwo m_came m_by m_queue m_kind m_parts m_wanted m_allowed m_bitOf m_met m_row m_narrows m_narrow m_isMade) H → va_D A (gM cy qM m_base m_f m_many m_figures m_tail m_round m_rounds m_leasts m_likes m_like m_isTwo m_came m_by m_queue m_kind m_parts m_wanted m_allowed m_bitOf m_met m_row m_narrows m_narrow m_isMade) → va_S A s.heap H locs → lv_has ls 9 [(0, .ref (qM 0)), (1, .int a1), (2, .long a2), (4, .int a4), (5, .int a5), (7, .int x7)] → W p l e0 rmX11_makes s m ar below meth c H locs 0 0 Q (F0 m 104 ls [.int s1, .int s0]) := by
        intro x7 s0 s1 m_many m_figures H locs ls hf hP hD hS hl
        unfold f_X11_makes_J104 at hf
        refine lv_iadd hx hb dX11_makes_104 ?_
        refine lv_istore (lv' := [(6, .int (s0 + s1)), (0, .ref (qM 0)), (1, .int a1), (2, .long a2), (4, .int a4), (5, .int a5), (7, .int x7)]) hx hb dX11_makes_105 hl (by decide) rfl (fun ls hl => ?_)
        refine lv_iinc (v := (x7 + (1 : Int32))) (lv' := [(7, .int (x7 + (1 : Int32))), (6, .int (s0 + s1)), (0, .ref (qM 0)), (1, .int a1), (2, .long a2), (4, .int a4), (5, .int a5)]) hx hb dX11_makes_107 hl (k := 6) rfl rfl (by decide) rfl (fun ls hl => ?_)
        refine lv_goto (tgt := 50) hx hb dX11_makes_110 (by decide) ?_
        exact ih ((s0 + s1), (x7 + (1 : Int32)), m_many, m_figures) ex _ _ _ hf hret hex hP hD hS (lv_sub hl [2, 3, 4, 5, 6, 1, 0] rfl)
      have hJ92 : ∀ (x6 : Int32) (x7 : Int32) (x8 : Int32) (m_many : Int32) (m_figures : Nat → Int32) (H : Heap) (locs : List Loc) (ls : Array Slot), f_X11_makes_J92 F (lp (f_X11_makes_B50 F a1 a2 a4 a5 m_base m_f) k) x6 x7 x8 m_many m_figures = some ex → va_P D vwCl (gM cy qM m_base m_f m_many m_figures m_tail m_round m_rounds m_leasts m_likes m_like m_isTwo m_came m_by m_queue m_kind m_parts m_wanted m_allowed m_bitOf m_met m_row m_narrows m_narrow m_isMade) H → va_D A (gM cy qM m_base m_f m_many m_figures m_tail m_round m_rounds m_leasts m_likes m_like m_isTwo m_came m_by m_queue m_kind m_parts m_wanted m_allowed m_bitOf m_met m_row m_narrows m_narrow m_isMade) → va_S A s.heap H locs → lv_has ls 9 [(0, .ref (qM 0)), (1, .int a1), (2, .long a2), (4, .int a4), (5, .int a5), (6, .int x6), (7, .int x7), (8, .int x8)] → W p l e0 rmX11_makes s m ar below meth c H locs 0 0 Q (F0 m 92 ls []) := by
        intro x6 x7 x8 m_many m_figures H locs ls hf hP hD hS hl
        unfold f_X11_makes_J92 at hf
        refine lv_iload hx hb dX11_makes_92 (lv_at hl 5 rfl) ?_
        refine lv_iload hx hb dX11_makes_94 (lv_at hl 7 rfl) ?_
        refine lv_if_eq (tgt := 103) hx hb dX11_makes_96 (by decide) (fun c1 => ?_) (fun c1 => ?_)
        · have hf := if_t hf c1
          refine lv_iconst (v := (0 : Int32)) hx hb dX11_makes_103 (by decide) ?_
          exact hJ104 x7 x6 (0 : Int32) m_many m_figures _ _ _ hf hP hD hS (lv_sub hl [0, 1, 2, 3, 4, 6] rfl)
        · have hf := if_f hf c1
          refine lv_iconst (v := (1 : Int32)) hx hb dX11_makes_99 (by decide) ?_
          refine lv_goto (tgt := 104) hx hb dX11_makes_100 (by decide) ?_
          exact hJ104 x7 x6 (1 : Int32) m_many m_figures _ _ _ hf hP hD hS (lv_sub hl [0, 1, 2, 3, 4, 6] rfl)
      have hJ75 : ∀ (x6 : Int32) (x7 : Int32) (s0 : Int32) (m_many : Int32) (m_figures : Nat → Int32) (H : Heap) (locs : List Loc) (ls : Array Slot), f_X11_makes_J75 F a5 (lp (f_X11_makes_B50 F a1 a2 a4 a5 m_base m_f) k) x6 x7 s0 m_many m_figures = some ex → va_P D vwCl (gM cy qM m_base m_f m_many m_figures m_tail m_round m_rounds m_leasts m_likes m_like m_isTwo m_came m_by m_queue m_kind m_parts m_wanted m_allowed m_bitOf m_met m_row m_narrows m_narrow m_isMade) H → va_D A (gM cy qM m_base m_f m_many m_figures m_tail m_round m_rounds m_leasts m_likes m_like m_isTwo m_came m_by m_queue m_kind m_parts m_wanted m_allowed m_bitOf m_met m_row m_narrows m_narrow m_isMade) → va_S A s.heap H locs → lv_has ls 9 [(0, .ref (qM 0)), (1, .int a1), (2, .long a2), (4, .int a4), (5, .int a5), (6, .int x6), (7, .int x7)] → W p l e0 rmX11_makes s m ar below meth c H locs 0 0 Q (F0 m 75 ls [.int s0]) := by
        intro x6 x7 s0 m_many m_figures H locs ls hf hP hD hS hl
        unfold f_X11_makes_J75 at hf
        refine lv_istore (lv' := [(8, .int s0), (0, .ref (qM 0)), (1, .int a1), (2, .long a2), (4, .int a4), (5, .int a5), (6, .int x6), (7, .int x7)]) hx hb dX11_makes_75 hl (by decide) rfl (fun ls hl => ?_)
        refine lv_iload hx hb dX11_makes_77 (lv_at hl 0 rfl) ?_
        refine lv_if_eq (tgt := 92) hx hb dX11_makes_79 (by decide) (fun c2 => ?_) (fun c2 => ?_)
        · have hf := if_t hf c2
          exact hJ92 x6 x7 s0 m_many m_figures _ _ _ hf hP hD hS (lv_sub hl [1, 2, 3, 4, 5, 6, 7, 0] rfl)
        · have hf := if_f hf c2
          refine lv_iload hx hb dX11_makes_82 (lv_at hl 6 rfl) ?_
          refine lv_iload hx hb dX11_makes_84 (lv_at hl 5 rfl) ?_
          refine lv_icmp_ne (tgt := 92) hx hb dX11_makes_86 (by decide) (fun c3 => ?_) (fun c3 => ?_)
          · have hf := if_f hf c3
            exact hJ92 x6 x7 s0 m_many m_figures _ _ _ hf hP hD hS (lv_sub hl [1, 2, 3, 4, 5, 6, 7, 0] rfl)
          · have hf := if_t hf c3
            refine lv_iload hx hb dX11_makes_89 (lv_at hl 7 rfl) ?_
            obtain rfl := Option.some.inj hf
            obtain rfl := hret _ rfl
            exact hQ () 91 _ _ _ dX11_makes_91 hP hD hS
      refine lv_iload hx hb dX11_makes_50 (lv_at hl 6 rfl) ?_
      refine lv_iload hx hb dX11_makes_52 (lv_at hl 3 rfl) ?_
      refine lv_icmp_gt (tgt := 113) hx hb dX11_makes_54 (by decide) (fun c4 => ?_) (fun c4 => ?_)
      · have hf := if_t hf c4
        obtain rfl := Option.some.inj hf
        exact hex _ rfl _ _ _ hP hD hS (lv_sub hl [4, 5] rfl)
      · have hf := if_f hf c4
        refine lv_aload_n hx hb dX11_makes_57 rfl (lv_at hl 0 rfl) ?_
        refine lv_iload_n hx hb dX11_makes_58 rfl (lv_at hl 1 rfl) ?_
        refine lv_iload hx hb dX11_makes_59 (lv_at hl 6 rfl) ?_
        refine lv_i2l hx hb dX11_makes_61 rfl ?_
        obtain ⟨r5, hc6, hf⟩ := ob_some hf
        refine kc_l (k_run ⟨hx, hb, hml, hown, hts⟩ (c_X11_stepOf hc6) (cwV 2 hts gX11_makes_X11_stepOf rfl rfl rfl (by decide +kernel) ⟨Nat.le_of_ble_eq_true rfl, Nat.le_of_ble_eq_true rfl⟩) hK hN hP hD kA_s (ci := 11) (q0 := 0) rfl rfl rfl rfl hl.1 rfl (Nat.le_of_ble_eq_true rfl) dX11_makes_62 ⟨Nat.le_of_ble_eq_true rfl, Nat.le_of_ble_eq_true rfl⟩) hP hD hS hA kI_s (fun _ H locs hP hD hS => ?_)
        refine lv_lload_n hx hb dX11_makes_65 rfl (lv_at hl 2 rfl) ?_
        refine kl_ne (tgt := 74) hx hb dX11_makes_66 dX11_makes_67 (by decide) (fun c7 => ?_) (fun c7 => ?_)
        · have hf := if_f hf c7
          refine lv_iconst (v := (0 : Int32)) hx hb dX11_makes_74 (by decide) ?_
          exact hJ75 x.1 x.2.1 (0 : Int32) r5.2.1 r5.2.2 _ _ _ hf hP hD hS (lv_sub hl [0, 1, 2, 3, 4, 5, 6] rfl)
        · have hf := if_t hf c7
          refine lv_iconst (v := (1 : Int32)) hx hb dX11_makes_70 (by decide) ?_
          refine lv_goto (tgt := 75) hx hb dX11_makes_71 (by decide) ?_
          exact hJ75 x.1 x.2.1 (1 : Int32) r5.2.1 r5.2.2 _ _ _ hf hP hD hS (lv_sub hl [0, 1, 2, 3, 4, 5, 6] rfl)
  have hJ42 : ∀ (m_many : Int32) (m_figures : Nat → Int32) (H : Heap) (locs : List Loc) (ls : Array Slot), f_X11_makes_J42 F m_many m_figures = some res → va_P D vwCl (gM cy qM m_base m_f m_many m_figures m_tail m_round m_rounds m_leasts m_likes m_like m_isTwo m_came m_by m_queue m_kind m_parts m_wanted m_allowed m_bitOf m_met m_row m_narrows m_narrow m_isMade) H → va_D A (gM cy qM m_base m_f m_many m_figures m_tail m_round m_rounds m_leasts m_likes m_like m_isTwo m_came m_by m_queue m_kind m_parts m_wanted m_allowed m_bitOf m_met m_row m_narrows m_narrow m_isMade) → va_S A s.heap H locs → lv_has ls 9 [] → W p l e0 rmX11_makes s m ar below meth c H locs 0 0 Q (F0 m 42 ls []) := by
    intro m_many m_figures H locs ls hf hP hD hS hl
    unfold f_X11_makes_J42 at hf
    refine lv_iconst (v := (-1 : Int32)) hx hb dX11_makes_42 (by decide) ?_
    obtain rfl := Option.some.inj hf
    exact hQ () 43 _ _ _ dX11_makes_43 hP hD hS
  refine lv_iload_n hx hb dX11_makes_0 rfl (lv_at hl 1 rfl) ?_
  refine lv_i2l hx hb dX11_makes_1 rfl ?_
  refine lv_lconst (v := (0 : Int64)) hx hb dX11_makes_2 (by decide) ?_
  refine lv_ldc2 (v := (5 : Int64)) hx hb hown fk89 dX11_makes_3 ?_
  obtain ⟨r8, hc9, hf⟩ := ob_some hf
  refine kc_i (k_runS ⟨hx, hb, hml, hown, hts⟩ (c_X11_in hc9) (va_cwS 3 hts gX11_makes_X11_in rfl rfl rfl (by decide +kernel) ⟨Nat.le_of_ble_eq_true rfl, Nat.le_of_ble_eq_true rfl⟩) hK hN hP hD kA_0 rfl hl.1 rfl (Nat.le_of_ble_eq_true rfl) dX11_makes_6 ⟨Nat.le_of_ble_eq_true rfl, Nat.le_of_ble_eq_true rfl⟩) hP hD hS hA kI_0 (fun _ H locs hP hD hS => ?_)
  refine lv_if_eq (tgt := 42) hx hb dX11_makes_9 (by decide) (fun c10 => ?_) (fun c10 => ?_)
  · have hf := if_t hf c10
    exact hJ42 m_many m_figures _ _ _ hf hP hD hS (lv_sub hl [] rfl)
  · have hf := if_f hf c10
    refine lv_lload_n hx hb dX11_makes_12 rfl (lv_at hl 2 rfl) ?_
    refine lv_lconst (v := (0 : Int64)) hx hb dX11_makes_13 (by decide) ?_
    refine lv_ldc2 (v := (1000000000000000 : Int64)) hx hb hown fk68 dX11_makes_14 ?_
    obtain ⟨r11, hc12, hf⟩ := ob_some hf
    refine kc_i (k_runS ⟨hx, hb, hml, hown, hts⟩ (c_X11_in hc12) (va_cwS 3 hts gX11_makes_X11_in rfl rfl rfl (by decide +kernel) ⟨Nat.le_of_ble_eq_true rfl, Nat.le_of_ble_eq_true rfl⟩) hK hN hP hD kA_0 rfl hl.1 rfl (Nat.le_of_ble_eq_true rfl) dX11_makes_17 ⟨Nat.le_of_ble_eq_true rfl, Nat.le_of_ble_eq_true rfl⟩) hP hD hS hA kI_0 (fun _ H locs hP hD hS => ?_)
    refine lv_if_eq (tgt := 42) hx hb dX11_makes_20 (by decide) (fun c13 => ?_) (fun c13 => ?_)
    · have hf := if_t hf c13
      exact hJ42 m_many m_figures _ _ _ hf hP hD hS (lv_sub hl [] rfl)
    · have hf := if_f hf c13
      refine lv_iload hx hb dX11_makes_23 (lv_at hl 3 rfl) ?_
      refine lv_i2l hx hb dX11_makes_25 rfl ?_
      refine lv_lconst (v := (0 : Int64)) hx hb dX11_makes_26 (by decide) ?_
      refine lv_ldc2 (v := (20000 : Int64)) hx hb hown fk116 dX11_makes_27 ?_
      obtain ⟨r14, hc15, hf⟩ := ob_some hf
      refine kc_i (k_runS ⟨hx, hb, hml, hown, hts⟩ (c_X11_in hc15) (va_cwS 3 hts gX11_makes_X11_in rfl rfl rfl (by decide +kernel) ⟨Nat.le_of_ble_eq_true rfl, Nat.le_of_ble_eq_true rfl⟩) hK hN hP hD kA_0 rfl hl.1 rfl (Nat.le_of_ble_eq_true rfl) dX11_makes_30 ⟨Nat.le_of_ble_eq_true rfl, Nat.le_of_ble_eq_true rfl⟩) hP hD hS hA kI_0 (fun _ H locs hP hD hS => ?_)
      refine lv_if_eq (tgt := 42) hx hb dX11_makes_33 (by decide) (fun c16 => ?_) (fun c16 => ?_)
      · have hf := if_t hf c16
        exact hJ42 m_many m_figures _ _ _ hf hP hD hS (lv_sub hl [] rfl)
      · have hf := if_f hf c16
        refine lv_iload hx hb dX11_makes_36 (lv_at hl 4 rfl) ?_
        refine lv_iconst (v := (-1 : Int32)) hx hb dX11_makes_38 (by decide) ?_
        refine lv_icmp_ge (tgt := 44) hx hb dX11_makes_39 (by decide) (fun c17 => ?_) (fun c17 => ?_)
        · have hf := if_t hf c17
          refine lv_iconst (v := (0 : Int32)) hx hb dX11_makes_44 (by decide) ?_
          refine lv_istore (lv' := [(6, .int (0 : Int32)), (0, .ref (qM 0)), (1, .int a1), (2, .long a2), (4, .int a4), (5, .int a5)]) hx hb dX11_makes_45 hl (by decide) rfl (fun ls hl => ?_)
          refine lv_iconst (v := (0 : Int32)) hx hb dX11_makes_47 (by decide) ?_
          refine lv_istore (lv' := [(7, .int (0 : Int32)), (6, .int (0 : Int32)), (0, .ref (qM 0)), (1, .int a1), (2, .long a2), (4, .int a4), (5, .int a5)]) hx hb dX11_makes_48 hl (by decide) rfl (fun ls hl => ?_)
          obtain ⟨ex18, hcl, hf⟩ := ob_some hf
          refine hL50 F ((0 : Int32), (0 : Int32), m_many, m_figures) ex18 _ _ _ hcl (fun r hr0 => ?_) (fun er19 hr0 H locs ls hP hD hS hl => ?_) hP hD hS (lv_sub hl [2, 3, 4, 5, 6, 1, 0] rfl)
          · subst hr0; exact Option.some.inj (sm_inl hf)
          · subst hr0
            have hf := sm_inr hf
            refine lv_iload hx hb dX11_makes_113 (lv_at hl 0 rfl) ?_
            refine lv_iconst (v := (-1 : Int32)) hx hb dX11_makes_115 (by decide) ?_
            refine lv_icmp_ne (tgt := 124) hx hb dX11_makes_116 (by decide) (fun c20 => ?_) (fun c20 => ?_)
            · have hf := if_f hf c20
              refine lv_bipush (v := (-4 : Int32)) hx hb dX11_makes_124 (by decide) ?_
              exact hJ126 (-4 : Int32) er19.2.1 er19.2.2 _ _ _ hf hP hD hS (lv_sub hl [] rfl)
            · have hf := if_t hf c20
              refine lv_iload hx hb dX11_makes_119 (lv_at hl 1 rfl) ?_
              refine lv_goto (tgt := 126) hx hb dX11_makes_121 (by decide) ?_
              exact hJ126 er19.1 er19.2.1 er19.2.2 _ _ _ hf hP hD hS (lv_sub hl [] rfl)
        · have hf := if_f hf c17
          exact hJ42 m_many m_figures _ _ _ hf hP hD hS (lv_sub hl [] rfl)
def f_X11_power_B5 (F : Nat) (a1 : Int32) (m_base : Int32) (rec : Int64 × Int32 → Option (Int64)) (x : Int64 × Int32) : Option (Int64) := if a1 ≤ x.2 then (some x.1) else (rec ((x.1 * m_base.toInt64), (x.2 + (1 : Int32))))
def f_X11_power (F : Nat) (a1 : Int32) (m_base : Int32) : Option (Int64) := (lp (f_X11_power_B5 F a1 m_base) F ((1 : Int64), (0 : Int32))).bind (fun ex2 => some ex2)
abbrev rmX11_power : Room := { frames := 0, cells := 0, slots := 0, locals := 0 }
set_option maxHeartbeats 1000000 in
set_option maxRecDepth 100000 in
theorem c_X11_power {l : Launch} {D : va_G} {cy : Nat → ClassId} {qM : Nat → Nat} {m_base : Int32} {m_f : Nat → Int32} {m_many : Int32} {m_figures : Nat → Int32} {m_tail : Int32} {m_round : Int32} {m_rounds : Int32} {m_leasts : Nat → Int64} {m_likes : Int32} {m_like : Nat → Int32} {m_isTwo : Nat → Int32} {m_came : Nat → Int32} {m_by : Nat → Int32} {m_queue : Nat → Int32} {m_kind : Int32} {m_parts : Int32} {m_wanted : Int32} {m_allowed : Int32} {m_bitOf : Nat → Int32} {m_met : Int32} {m_row : Nat → Int32} {m_narrows : Int32} {m_narrow : Nat → Int64} {m_isMade : Nat → Int32} {a1 : Int32} {F : Nat} {res : Int64} (hf : f_X11_power F a1 m_base = some res) : kM l yX11_power wsX11_power rmX11_power D cy [.ref (qM 0), .int a1] (gM cy qM m_base m_f m_many m_figures m_tail m_round m_rounds m_leasts m_likes m_like m_isTwo m_came m_by m_queue m_kind m_parts m_wanted m_allowed m_bitOf m_met m_row m_narrows m_narrow m_isMade) (kQl D cy (fun _ : Unit => gM cy qM m_base m_f m_many m_figures m_tail m_round m_rounds m_leasts m_likes m_like m_isTwo m_came m_by m_queue m_kind m_parts m_wanted m_allowed m_bitOf m_met m_row m_narrows m_narrow m_isMade) res) := by
  refine kent_l (cc := cX11_power) (maxL := 5) (by decide) rfl (Nat.le_of_ble_eq_true rfl) ?_
  intro p e0 s m ar below meth c A Q ls ⟨hx, hb, hml, hr, hts, hown, hlocks, hnm⟩ hA hK hN hQ hP hD hS hl
  have hl : lv_has ls 5 [(0, .ref (qM 0)), (1, .int a1)] := hl
  have hown : s.vm.findClass RX11 = some m.cls := hown
  have huX11 : ∀ x ∈ u_ws RX11 TX11 24, x ∈ wsX11_power := by decide +kernel
  have fk7 : (Cond.fieldLink RX11 7 "FigurePlayModel" "base" "I").before ar s = true := hts _ (by decide +kernel)
  unfold f_X11_power at hf
  have hL5 : ∀ (k : Nat) (x : Int64 × Int32) (ex : Int64) (H : Heap) (locs : List Loc) (ls : Array Slot), lp (f_X11_power_B5 F a1 m_base) k x = some ex → (∀ (H : Heap) (locs : List Loc) (ls : Array Slot), va_P D vwCl (gM cy qM m_base m_f m_many m_figures m_tail m_round m_rounds m_leasts m_likes m_like m_isTwo m_came m_by m_queue m_kind m_parts m_wanted m_allowed m_bitOf m_met m_row m_narrows m_narrow m_isMade) H → va_D A (gM cy qM m_base m_f m_many m_figures m_tail m_round m_rounds m_leasts m_likes m_like m_isTwo m_came m_by m_queue m_kind m_parts m_wanted m_allowed m_bitOf m_met m_row m_narrows m_narrow m_isMade) → va_S A s.heap H locs → lv_has ls 5 [(2, .long ex)] → W p l e0 rmX11_power s m ar below meth c H locs 0 0 Q (F0 m 25 ls [])) → va_P D vwCl (gM cy qM m_base m_f m_many m_figures m_tail m_round m_rounds m_leasts m_likes m_like m_isTwo m_came m_by m_queue m_kind m_parts m_wanted m_allowed m_bitOf m_met m_row m_narrows m_narrow m_isMade) H → va_D A (gM cy qM m_base m_f m_many m_figures m_tail m_round m_rounds m_leasts m_likes m_like m_isTwo m_came m_by m_queue m_kind m_parts m_wanted m_allowed m_bitOf m_met m_row m_narrows m_narrow m_isMade) → va_S A s.heap H locs → lv_has ls 5 [(0, .ref (qM 0)), (1, .int a1), (2, .long x.1), (4, .int x.2)] → W p l e0 rmX11_power s m ar below meth c H locs 0 0 Q (F0 m 5 ls []) := by
    intro k
    induction k with
    | zero => intro x ex H locs ls hf; exact no_some hf
    | succ k ih =>
      intro x ex H locs ls hf hex hP hD hS hl
      have hf : f_X11_power_B5 F a1 m_base (lp (f_X11_power_B5 F a1 m_base) k) x = some ex := hf
      unfold f_X11_power_B5 at hf
      refine lv_iload hx hb dX11_power_5 (lv_at hl 3 rfl) ?_
      refine lv_iload_n hx hb dX11_power_7 rfl (lv_at hl 1 rfl) ?_
      refine lv_icmp_ge (tgt := 25) hx hb dX11_power_8 (by decide) (fun c1 => ?_) (fun c1 => ?_)
      · have hf := if_t hf c1
        obtain rfl := Option.some.inj hf
        exact hex _ _ _ hP hD hS (lv_sub hl [2] rfl)
      · have hf := if_f hf c1
        refine lv_lload_n hx hb dX11_power_11 rfl (lv_at hl 2 rfl) ?_
        refine lv_aload_n hx hb dX11_power_12 rfl (lv_at hl 0 rfl) ?_
        refine va_get (D := D) (ci := 11) (C := RX11) (T := TX11) (N := 24) hx hb hts huX11 hown hK hP 0 rfl rfl 0 (by decide) fk7 (fun _ h9 => h9) rfl dX11_power_13 ?_
        refine lv_i2l hx hb dX11_power_16 rfl ?_
        refine lv_lmul hx hb dX11_power_17 ?_
        refine lv_lstore_n (lv' := [(2, .long (x.1 * m_base.toInt64)), (0, .ref (qM 0)), (1, .int a1), (4, .int x.2)]) hx hb dX11_power_18 rfl hl (by decide) rfl (fun ls hl => ?_)
        refine lv_iinc (v := (x.2 + (1 : Int32))) (lv' := [(4, .int (x.2 + (1 : Int32))), (2, .long (x.1 * m_base.toInt64)), (0, .ref (qM 0)), (1, .int a1)]) hx hb dX11_power_19 hl (k := 3) rfl rfl (by decide) rfl (fun ls hl => ?_)
        refine lv_goto (tgt := 5) hx hb dX11_power_22 (by decide) ?_
        exact ih ((x.1 * m_base.toInt64), (x.2 + (1 : Int32))) ex _ _ _ hf hex hP hD hS (lv_sub hl [2, 3, 1, 0] rfl)
  refine lv_lconst (v := (1 : Int64)) hx hb dX11_power_0 (by decide) ?_
  refine lv_lstore_n (lv' := [(2, .long (1 : Int64)), (0, .ref (qM 0)), (1, .int a1)]) hx hb dX11_power_1 rfl hl (by decide) rfl (fun ls hl => ?_)
  refine lv_iconst (v := (0 : Int32)) hx hb dX11_power_2 (by decide) ?_
  refine lv_istore (lv' := [(4, .int (0 : Int32)), (2, .long (1 : Int64)), (0, .ref (qM 0)), (1, .int a1)]) hx hb dX11_power_3 hl (by decide) rfl (fun ls hl => ?_)
  obtain ⟨ex2, hcl, hf⟩ := ob_some hf
  refine hL5 F ((1 : Int64), (0 : Int32)) ex2 _ _ _ hcl (fun H locs ls hP hD hS hl => ?_) hP hD hS (lv_sub hl [2, 3, 1, 0] rfl)
  refine lv_lload_n hx hb dX11_power_25 rfl (lv_at hl 0 rfl) ?_
  obtain rfl := Option.some.inj hf
  exact hQ () 26 _ _ _ dX11_power_26 hP hD hS
def f_X11_whole_B26 (F : Nat) (a3 : Int32) (m_base : Int32) (rec : Int64 × Int64 × Int32 → Option (Int64)) (x : Int64 × Int64 × Int32) : Option (Int64) := ck (¬ (2 : Int32) = 0) (if (a3 / (2 : Int32)) ≤ x.2.2 then (some x.1) else (ck (¬ m_base.toInt64 = 0) (ck (¬ m_base.toInt64 = 0) (rec (((x.1 * m_base.toInt64) + (x.2.1 - x.2.1 / m_base.toInt64 * m_base.toInt64)), (x.2.1 / m_base.toInt64), (x.2.2 + (1 : Int32)))))))
def f_X11_whole_J21 (F : Nat) (a3 : Int32) (m_base : Int32) (x4 : Int64) (s0 : Int64) : Option (Int64) := (lp (f_X11_whole_B26 F a3 m_base) F (x4, s0, (0 : Int32))).bind (fun ex5 => some ex5)
def f_X11_whole (F : Nat) (a1 : Int64) (a3 : Int32) (m_base : Int32) : Option (Int64) := ck (¬ (2 : Int32) = 0) (if (a3 - a3 / (2 : Int32) * (2 : Int32)) = (1 : Int32) then (ck (¬ m_base.toInt64 = 0) (f_X11_whole_J21 F a3 m_base a1 (a1 / m_base.toInt64))) else (f_X11_whole_J21 F a3 m_base a1 a1))
abbrev rmX11_whole : Room := { frames := 0, cells := 0, slots := 0, locals := 0 }
set_option maxHeartbeats 1000000 in
set_option maxRecDepth 100000 in
theorem c_X11_whole {l : Launch} {D : va_G} {cy : Nat → ClassId} {qM : Nat → Nat} {m_base : Int32} {m_f : Nat → Int32} {m_many : Int32} {m_figures : Nat → Int32} {m_tail : Int32} {m_round : Int32} {m_rounds : Int32} {m_leasts : Nat → Int64} {m_likes : Int32} {m_like : Nat → Int32} {m_isTwo : Nat → Int32} {m_came : Nat → Int32} {m_by : Nat → Int32} {m_queue : Nat → Int32} {m_kind : Int32} {m_parts : Int32} {m_wanted : Int32} {m_allowed : Int32} {m_bitOf : Nat → Int32} {m_met : Int32} {m_row : Nat → Int32} {m_narrows : Int32} {m_narrow : Nat → Int64} {m_isMade : Nat → Int32} {a1 : Int64} {a3 : Int32} {F : Nat} {res : Int64} (hf : f_X11_whole F a1 a3 m_base = some res) : kM l yX11_whole wsX11_whole rmX11_whole D cy [.ref (qM 0), .long a1, .int a3] (gM cy qM m_base m_f m_many m_figures m_tail m_round m_rounds m_leasts m_likes m_like m_isTwo m_came m_by m_queue m_kind m_parts m_wanted m_allowed m_bitOf m_met m_row m_narrows m_narrow m_isMade) (kQl D cy (fun _ : Unit => gM cy qM m_base m_f m_many m_figures m_tail m_round m_rounds m_leasts m_likes m_like m_isTwo m_came m_by m_queue m_kind m_parts m_wanted m_allowed m_bitOf m_met m_row m_narrows m_narrow m_isMade) res) := by
  refine kent_l (cc := cX11_whole) (maxL := 9) (by decide) rfl (Nat.le_of_ble_eq_true rfl) ?_
  intro p e0 s m ar below meth c A Q ls ⟨hx, hb, hml, hr, hts, hown, hlocks, hnm⟩ hA hK hN hQ hP hD hS hl
  have hl : lv_has ls 9 [(0, .ref (qM 0)), (1, .long a1), (3, .int a3)] := hl
  have hown : s.vm.findClass RX11 = some m.cls := hown
  have huX11 : ∀ x ∈ u_ws RX11 TX11 24, x ∈ wsX11_whole := by decide +kernel
  have fk7 : (Cond.fieldLink RX11 7 "FigurePlayModel" "base" "I").before ar s = true := hts _ (by decide +kernel)
  unfold f_X11_whole at hf
  have hL26 : ∀ (k : Nat) (x : Int64 × Int64 × Int32) (ex : Int64) (H : Heap) (locs : List Loc) (ls : Array Slot), lp (f_X11_whole_B26 F a3 m_base) k x = some ex → (∀ (H : Heap) (locs : List Loc) (ls : Array Slot), va_P D vwCl (gM cy qM m_base m_f m_many m_figures m_tail m_round m_rounds m_leasts m_likes m_like m_isTwo m_came m_by m_queue m_kind m_parts m_wanted m_allowed m_bitOf m_met m_row m_narrows m_narrow m_isMade) H → va_D A (gM cy qM m_base m_f m_many m_figures m_tail m_round m_rounds m_leasts m_likes m_like m_isTwo m_came m_by m_queue m_kind m_parts m_wanted m_allowed m_bitOf m_met m_row m_narrows m_narrow m_isMade) → va_S A s.heap H locs → lv_has ls 9 [(4, .long ex)] → W p l e0 rmX11_whole s m ar below meth c H locs 0 0 Q (F0 m 69 ls [])) → va_P D vwCl (gM cy qM m_base m_f m_many m_figures m_tail m_round m_rounds m_leasts m_likes m_like m_isTwo m_came m_by m_queue m_kind m_parts m_wanted m_allowed m_bitOf m_met m_row m_narrows m_narrow m_isMade) H → va_D A (gM cy qM m_base m_f m_many m_figures m_tail m_round m_rounds m_leasts m_likes m_like m_isTwo m_came m_by m_queue m_kind m_parts m_wanted m_allowed m_bitOf m_met m_row m_narrows m_narrow m_isMade) → va_S A s.heap H locs → lv_has ls 9 [(0, .ref (qM 0)), (3, .int a3), (4, .long x.1), (6, .long x.2.1), (8, .int x.2.2)] → W p l e0 rmX11_whole s m ar below meth c H locs 0 0 Q (F0 m 26 ls []) := by
    intro k
    induction k with
    | zero => intro x ex H locs ls hf; exact no_some hf
    | succ k ih =>
      intro x ex H locs ls hf hex hP hD hS hl
      have hf : f_X11_whole_B26 F a3 m_base (lp (f_X11_whole_B26 F a3 m_base) k) x = some ex := hf
      unfold f_X11_whole_B26 at hf
      refine lv_iload hx hb dX11_whole_26 (lv_at hl 4 rfl) ?_
      refine lv_iload_n hx hb dX11_whole_28 rfl (lv_at hl 1 rfl) ?_
      refine lv_iconst (v := (2 : Int32)) hx hb dX11_whole_29 (by decide) ?_
      obtain ⟨c1, hf⟩ := ck_some hf
      refine lv_idiv hx hb dX11_whole_30 c1 ?_
      refine lv_icmp_ge (tgt := 69) hx hb dX11_whole_31 (by decide) (fun c2 => ?_) (fun c2 => ?_)
      · have hf := if_t hf c2
        obtain rfl := Option.some.inj hf
        exact hex _ _ _ hP hD hS (lv_sub hl [2] rfl)
      · have hf := if_f hf c2
        refine lv_lload hx hb dX11_whole_34 (lv_at hl 2 rfl) ?_
        refine lv_aload_n hx hb dX11_whole_36 rfl (lv_at hl 0 rfl) ?_
        refine va_get (D := D) (ci := 11) (C := RX11) (T := TX11) (N := 24) hx hb hts huX11 hown hK hP 0 rfl rfl 0 (by decide) fk7 (fun _ h9 => h9) rfl dX11_whole_37 ?_
        refine lv_i2l hx hb dX11_whole_40 rfl ?_
        refine lv_lmul hx hb dX11_whole_41 ?_
        refine lv_lload hx hb dX11_whole_42 (lv_at hl 3 rfl) ?_
        refine lv_aload_n hx hb dX11_whole_44 rfl (lv_at hl 0 rfl) ?_
        refine va_get (D := D) (ci := 11) (C := RX11) (T := TX11) (N := 24) hx hb hts huX11 hown hK hP 0 rfl rfl 0 (by decide) fk7 (fun _ h9 => h9) rfl dX11_whole_45 ?_
        refine lv_i2l hx hb dX11_whole_48 rfl ?_
        obtain ⟨c3, hf⟩ := ck_some hf
        refine lv_lrem hx hb dX11_whole_49 c3 ?_
        refine lv_ladd hx hb dX11_whole_50 ?_
        refine lv_lstore (lv' := [(4, .long ((x.1 * m_base.toInt64) + (x.2.1 - x.2.1 / m_base.toInt64 * m_base.toInt64))), (0, .ref (qM 0)), (3, .int a3), (6, .long x.2.1), (8, .int x.2.2)]) hx hb dX11_whole_51 hl (by decide) rfl (fun ls hl => ?_)
        refine lv_lload hx hb dX11_whole_53 (lv_at hl 3 rfl) ?_
        refine lv_aload_n hx hb dX11_whole_55 rfl (lv_at hl 1 rfl) ?_
        refine va_get (D := D) (ci := 11) (C := RX11) (T := TX11) (N := 24) hx hb hts huX11 hown hK hP 0 rfl rfl 0 (by decide) fk7 (fun _ h9 => h9) rfl dX11_whole_56 ?_
        refine lv_i2l hx hb dX11_whole_59 rfl ?_
        obtain ⟨c4, hf⟩ := ck_some hf
        refine lv_ldiv hx hb dX11_whole_60 c4 ?_
        refine lv_lstore (lv' := [(6, .long (x.2.1 / m_base.toInt64)), (4, .long ((x.1 * m_base.toInt64) + (x.2.1 - x.2.1 / m_base.toInt64 * m_base.toInt64))), (0, .ref (qM 0)), (3, .int a3), (8, .int x.2.2)]) hx hb dX11_whole_61 hl (by decide) rfl (fun ls hl => ?_)
        refine lv_iinc (v := (x.2.2 + (1 : Int32))) (lv' := [(8, .int (x.2.2 + (1 : Int32))), (6, .long (x.2.1 / m_base.toInt64)), (4, .long ((x.1 * m_base.toInt64) + (x.2.1 - x.2.1 / m_base.toInt64 * m_base.toInt64))), (0, .ref (qM 0)), (3, .int a3)]) hx hb dX11_whole_63 hl (k := 4) rfl rfl (by decide) rfl (fun ls hl => ?_)
        refine lv_goto (tgt := 26) hx hb dX11_whole_66 (by decide) ?_
        exact ih (((x.1 * m_base.toInt64) + (x.2.1 - x.2.1 / m_base.toInt64 * m_base.toInt64)), (x.2.1 / m_base.toInt64), (x.2.2 + (1 : Int32))) ex _ _ _ hf hex hP hD hS (lv_sub hl [3, 4, 2, 1, 0] rfl)
  have hJ21 : ∀ (x4 : Int64) (s0 : Int64) (H : Heap) (locs : List Loc) (ls : Array Slot), f_X11_whole_J21 F a3 m_base x4 s0 = some res → va_P D vwCl (gM cy qM m_base m_f m_many m_figures m_tail m_round m_rounds m_leasts m_likes m_like m_isTwo m_came m_by m_queue m_kind m_parts m_wanted m_allowed m_bitOf m_met m_row m_narrows m_narrow m_isMade) H → va_D A (gM cy qM m_base m_f m_many m_figures m_tail m_round m_rounds m_leasts m_likes m_like m_isTwo m_came m_by m_queue m_kind m_parts m_wanted m_allowed m_bitOf m_met m_row m_narrows m_narrow m_isMade) → va_S A s.heap H locs → lv_has ls 9 [(0, .ref (qM 0)), (3, .int a3), (4, .long x4)] → W p l e0 rmX11_whole s m ar below meth c H locs 0 0 Q (F0 m 21 ls [.long s0]) := by
    intro x4 s0 H locs ls hf hP hD hS hl
    unfold f_X11_whole_J21 at hf
    refine lv_lstore (lv' := [(6, .long s0), (0, .ref (qM 0)), (3, .int a3), (4, .long x4)]) hx hb dX11_whole_21 hl (by decide) rfl (fun ls hl => ?_)
    refine lv_iconst (v := (0 : Int32)) hx hb dX11_whole_23 (by decide) ?_
    refine lv_istore (lv' := [(8, .int (0 : Int32)), (6, .long s0), (0, .ref (qM 0)), (3, .int a3), (4, .long x4)]) hx hb dX11_whole_24 hl (by decide) rfl (fun ls hl => ?_)
    obtain ⟨ex5, hcl, hf⟩ := ob_some hf
    refine hL26 F (x4, s0, (0 : Int32)) ex5 _ _ _ hcl (fun H locs ls hP hD hS hl => ?_) hP hD hS (lv_sub hl [2, 3, 4, 1, 0] rfl)
    refine lv_lload hx hb dX11_whole_69 (lv_at hl 0 rfl) ?_
    obtain rfl := Option.some.inj hf
    exact hQ () 71 _ _ _ dX11_whole_71 hP hD hS
  refine lv_lload_n hx hb dX11_whole_0 rfl (lv_at hl 1 rfl) ?_
  refine lv_lstore (lv' := [(4, .long a1), (0, .ref (qM 0)), (1, .long a1), (3, .int a3)]) hx hb dX11_whole_1 hl (by decide) rfl (fun ls hl => ?_)
  refine lv_iload_n hx hb dX11_whole_3 rfl (lv_at hl 3 rfl) ?_
  refine lv_iconst (v := (2 : Int32)) hx hb dX11_whole_4 (by decide) ?_
  obtain ⟨c6, hf⟩ := ck_some hf
  refine lv_irem hx hb dX11_whole_5 c6 ?_
  refine lv_iconst (v := (1 : Int32)) hx hb dX11_whole_6 (by decide) ?_
  refine lv_icmp_ne (tgt := 20) hx hb dX11_whole_7 (by decide) (fun c7 => ?_) (fun c7 => ?_)
  · have hf := if_f hf c7
    refine lv_lload_n hx hb dX11_whole_20 rfl (lv_at hl 2 rfl) ?_
    exact hJ21 a1 a1 _ _ _ hf hP hD hS (lv_sub hl [1, 3, 0] rfl)
  · have hf := if_t hf c7
    refine lv_lload_n hx hb dX11_whole_10 rfl (lv_at hl 2 rfl) ?_
    refine lv_aload_n hx hb dX11_whole_11 rfl (lv_at hl 1 rfl) ?_
    refine va_get (D := D) (ci := 11) (C := RX11) (T := TX11) (N := 24) hx hb hts huX11 hown hK hP 0 rfl rfl 0 (by decide) fk7 (fun _ h9 => h9) rfl dX11_whole_12 ?_
    refine lv_i2l hx hb dX11_whole_15 rfl ?_
    obtain ⟨c8, hf⟩ := ck_some hf
    refine lv_ldiv hx hb dX11_whole_16 c8 ?_
    refine lv_goto (tgt := 21) hx hb dX11_whole_17 (by decide) ?_
    exact hJ21 a1 (a1 / m_base.toInt64) _ _ _ hf hP hD hS (lv_sub hl [1, 3, 0] rfl)
def f_X11_alikesOf_J34 (F : Nat) (s0 : Int64) : Option (Int64) := some s0
def f_X11_alikesOf (F : Nat) (a1 : Int32) (m_base : Int32) : Option (Int64) := if a1 = (1 : Int32) then (f_X11_alikesOf_J34 F m_base.toInt64) else (ck (¬ (2 : Int32) = 0) ((f_X11_power F ((a1 + (1 : Int32)) / (2 : Int32)) m_base).bind (fun r3 => ck (¬ (2 : Int32) = 0) ((f_X11_power F (((a1 + (1 : Int32)) / (2 : Int32)) - (1 : Int32)) m_base).bind (fun r6 => f_X11_alikesOf_J34 F (r3 - r6))))))
abbrev rmX11_alikesOf : Room := { frames := 1, cells := 0, slots := 0, locals := 24 }
set_option maxHeartbeats 1000000 in
set_option maxRecDepth 100000 in
theorem c_X11_alikesOf {l : Launch} {D : va_G} {cy : Nat → ClassId} {qM : Nat → Nat} {m_base : Int32} {m_f : Nat → Int32} {m_many : Int32} {m_figures : Nat → Int32} {m_tail : Int32} {m_round : Int32} {m_rounds : Int32} {m_leasts : Nat → Int64} {m_likes : Int32} {m_like : Nat → Int32} {m_isTwo : Nat → Int32} {m_came : Nat → Int32} {m_by : Nat → Int32} {m_queue : Nat → Int32} {m_kind : Int32} {m_parts : Int32} {m_wanted : Int32} {m_allowed : Int32} {m_bitOf : Nat → Int32} {m_met : Int32} {m_row : Nat → Int32} {m_narrows : Int32} {m_narrow : Nat → Int64} {m_isMade : Nat → Int32} {a1 : Int32} {F : Nat} {res : Int64} (hf : f_X11_alikesOf F a1 m_base = some res) : kM l yX11_alikesOf wsX11_alikesOf rmX11_alikesOf D cy [.ref (qM 0), .int a1] (gM cy qM m_base m_f m_many m_figures m_tail m_round m_rounds m_leasts m_likes m_like m_isTwo m_came m_by m_queue m_kind m_parts m_wanted m_allowed m_bitOf m_met m_row m_narrows m_narrow m_isMade) (kQl D cy (fun _ : Unit => gM cy qM m_base m_f m_many m_figures m_tail m_round m_rounds m_leasts m_likes m_like m_isTwo m_came m_by m_queue m_kind m_parts m_wanted m_allowed m_bitOf m_met m_row m_narrows m_narrow m_isMade) res) := by
  refine kent_l (cc := cX11_alikesOf) (maxL := 2) (by decide) rfl (Nat.le_of_ble_eq_true rfl) ?_
  intro p e0 s m ar below meth c A Q ls ⟨hx, hb, hml, hr, hts, hown, hlocks, hnm⟩ hA hK hN hQ hP hD hS hl
  have hl : lv_has ls 2 [(0, .ref (qM 0)), (1, .int a1)] := hl
  have hown : s.vm.findClass RX11 = some m.cls := hown
  have huX11 : ∀ x ∈ u_ws RX11 TX11 24, x ∈ wsX11_alikesOf := by decide +kernel
  have fk7 : (Cond.fieldLink RX11 7 "FigurePlayModel" "base" "I").before ar s = true := hts _ (by decide +kernel)
  unfold f_X11_alikesOf at hf
  have hJ34 : ∀ (s0 : Int64) (H : Heap) (locs : List Loc) (ls : Array Slot), f_X11_alikesOf_J34 F s0 = some res → va_P D vwCl (gM cy qM m_base m_f m_many m_figures m_tail m_round m_rounds m_leasts m_likes m_like m_isTwo m_came m_by m_queue m_kind m_parts m_wanted m_allowed m_bitOf m_met m_row m_narrows m_narrow m_isMade) H → va_D A (gM cy qM m_base m_f m_many m_figures m_tail m_round m_rounds m_leasts m_likes m_like m_isTwo m_came m_by m_queue m_kind m_parts m_wanted m_allowed m_bitOf m_met m_row m_narrows m_narrow m_isMade) → va_S A s.heap H locs → lv_has ls 2 [] → W p l e0 rmX11_alikesOf s m ar below meth c H locs 0 0 Q (F0 m 34 ls [.long s0]) := by
    intro s0 H locs ls hf hP hD hS hl
    unfold f_X11_alikesOf_J34 at hf
    obtain rfl := Option.some.inj hf
    exact hQ () 34 _ _ _ dX11_alikesOf_34 hP hD hS
  refine lv_iload_n hx hb dX11_alikesOf_0 rfl (lv_at hl 1 rfl) ?_
  refine lv_iconst (v := (1 : Int32)) hx hb dX11_alikesOf_1 (by decide) ?_
  refine lv_icmp_ne (tgt := 13) hx hb dX11_alikesOf_2 (by decide) (fun c1 => ?_) (fun c1 => ?_)
  · have hf := if_f hf c1
    refine lv_aload_n hx hb dX11_alikesOf_13 rfl (lv_at hl 0 rfl) ?_
    refine lv_iload_n hx hb dX11_alikesOf_14 rfl (lv_at hl 1 rfl) ?_
    refine lv_iconst (v := (1 : Int32)) hx hb dX11_alikesOf_15 (by decide) ?_
    refine lv_iadd hx hb dX11_alikesOf_16 ?_
    refine lv_iconst (v := (2 : Int32)) hx hb dX11_alikesOf_17 (by decide) ?_
    obtain ⟨c2, hf⟩ := ck_some hf
    refine lv_idiv hx hb dX11_alikesOf_18 c2 ?_
    obtain ⟨r3, hc4, hf⟩ := ob_some hf
    refine kc_l (k_run ⟨hx, hb, hml, hown, hts⟩ (c_X11_power hc4) (cwV 1 hts gX11_alikesOf_X11_power rfl rfl rfl (by decide +kernel) ⟨Nat.le_of_ble_eq_true rfl, Nat.le_of_ble_eq_true rfl⟩) hK hN hP hD kA_s (ci := 11) (q0 := 0) rfl rfl rfl rfl hl.1 rfl (Nat.le_of_ble_eq_true rfl) dX11_alikesOf_19 ⟨Nat.le_of_ble_eq_true rfl, Nat.le_of_ble_eq_true rfl⟩) hP hD hS hA kI_s (fun _ H locs hP hD hS => ?_)
    refine lv_aload_n hx hb dX11_alikesOf_22 rfl (lv_at hl 0 rfl) ?_
    refine lv_iload_n hx hb dX11_alikesOf_23 rfl (lv_at hl 1 rfl) ?_
    refine lv_iconst (v := (1 : Int32)) hx hb dX11_alikesOf_24 (by decide) ?_
    refine lv_iadd hx hb dX11_alikesOf_25 ?_
    refine lv_iconst (v := (2 : Int32)) hx hb dX11_alikesOf_26 (by decide) ?_
    obtain ⟨c5, hf⟩ := ck_some hf
    refine lv_idiv hx hb dX11_alikesOf_27 c5 ?_
    refine lv_iconst (v := (1 : Int32)) hx hb dX11_alikesOf_28 (by decide) ?_
    refine lv_isub hx hb dX11_alikesOf_29 ?_
    obtain ⟨r6, hc7, hf⟩ := ob_some hf
    refine kc_l (k_run ⟨hx, hb, hml, hown, hts⟩ (c_X11_power hc7) (cwV 1 hts gX11_alikesOf_X11_power rfl rfl rfl (by decide +kernel) ⟨Nat.le_of_ble_eq_true rfl, Nat.le_of_ble_eq_true rfl⟩) hK hN hP hD kA_s (ci := 11) (q0 := 0) rfl rfl rfl rfl hl.1 rfl (Nat.le_of_ble_eq_true rfl) dX11_alikesOf_30 ⟨Nat.le_of_ble_eq_true rfl, Nat.le_of_ble_eq_true rfl⟩) hP hD hS hA kI_s (fun _ H locs hP hD hS => ?_)
    refine lv_lsub hx hb dX11_alikesOf_33 ?_
    exact hJ34 (r3 - r6) _ _ _ hf hP hD hS (lv_sub hl [] rfl)
  · have hf := if_t hf c1
    refine lv_aload_n hx hb dX11_alikesOf_5 rfl (lv_at hl 0 rfl) ?_
    refine va_get (D := D) (ci := 11) (C := RX11) (T := TX11) (N := 24) hx hb hts huX11 hown hK hP 0 rfl rfl 0 (by decide) fk7 (fun _ h9 => h9) rfl dX11_alikesOf_6 ?_
    refine lv_i2l hx hb dX11_alikesOf_9 rfl ?_
    refine lv_goto (tgt := 34) hx hb dX11_alikesOf_10 (by decide) ?_
    exact hJ34 m_base.toInt64 _ _ _ hf hP hD hS (lv_sub hl [] rfl)
def f_X11_alikesTo_J101 (F : Nat) (s0 : Int64) (s1 : Int64) (m_many : Int32) (m_figures : Nat → Int32) : Option (Int64 × Int32 × (Nat → Int32)) := some ((s0 + s1), m_many, m_figures)
def f_X11_alikesTo_B33 (F : Nat) (m_base : Int32) (x3 : Int32) (m_many : Int32) (m_figures : Nat → Int32) (rec : Int64 × Int32 → Option (Int64)) (x : Int64 × Int32) : Option (Int64) := if x3 ≤ x.2 then (some x.1) else ((f_X11_alikesOf F x.2 m_base).bind (fun r2 => rec ((x.1 + r2), (x.2 + (1 : Int32)))))
def f_X11_alikesTo (F : Nat) (a1 : Int64) (m_base : Int32) (m_many : Int32) (m_figures : Nat → Int32) : Option (Int64 × Int32 × (Nat → Int32)) := if (0 : Int64) ≤ a1 then ((f_X11_lay F a1 m_base m_many m_figures).bind (fun r5 => if r5.1 = (1 : Int32) then (some ((a1 + (1 : Int64)), r5.1, r5.2)) else ((lp (f_X11_alikesTo_B33 F m_base r5.1 r5.1 r5.2) F ((0 : Int64), (1 : Int32))).bind (fun ex8 => ck (¬ (2 : Int32) = 0) ((f_X11_power F (r5.1 / (2 : Int32)) m_base).bind (fun r10 => ck (¬ r10 = 0) (ck (¬ (2 : Int32) = 0) ((f_X11_power F (((r5.1 + (1 : Int32)) / (2 : Int32)) - (1 : Int32)) m_base).bind (fun r14 => (f_X11_whole F (a1 / r10) r5.1 m_base).bind (fun r16 => if a1 < r16 then (f_X11_alikesTo_J101 F ((ex8 + (a1 / r10)) - r14) (0 : Int64) r5.1 r5.2) else (f_X11_alikesTo_J101 F ((ex8 + (a1 / r10)) - r14) (1 : Int64) r5.1 r5.2))))))))))) else (some ((0 : Int64), m_many, m_figures))
abbrev rmX11_alikesTo : Room := { frames := 2, cells := 0, slots := 0, locals := 45 }
set_option maxHeartbeats 1000000 in
set_option maxRecDepth 100000 in
theorem c_X11_alikesTo {l : Launch} {D : va_G} {cy : Nat → ClassId} {qM : Nat → Nat} {m_base : Int32} {m_f : Nat → Int32} {m_many : Int32} {m_figures : Nat → Int32} {m_tail : Int32} {m_round : Int32} {m_rounds : Int32} {m_leasts : Nat → Int64} {m_likes : Int32} {m_like : Nat → Int32} {m_isTwo : Nat → Int32} {m_came : Nat → Int32} {m_by : Nat → Int32} {m_queue : Nat → Int32} {m_kind : Int32} {m_parts : Int32} {m_wanted : Int32} {m_allowed : Int32} {m_bitOf : Nat → Int32} {m_met : Int32} {m_row : Nat → Int32} {m_narrows : Int32} {m_narrow : Nat → Int64} {m_isMade : Nat → Int32} {a1 : Int64} {F : Nat} {res : Int64 × Int32 × (Nat → Int32)} (hf : f_X11_alikesTo F a1 m_base m_many m_figures = some res) : kM l yX11_alikesTo wsX11_alikesTo rmX11_alikesTo D cy [.ref (qM 0), .long a1] (gM cy qM m_base m_f m_many m_figures m_tail m_round m_rounds m_leasts m_likes m_like m_isTwo m_came m_by m_queue m_kind m_parts m_wanted m_allowed m_bitOf m_met m_row m_narrows m_narrow m_isMade) (kQl D cy (fun _ : Unit => gM cy qM m_base m_f res.2.1 res.2.2 m_tail m_round m_rounds m_leasts m_likes m_like m_isTwo m_came m_by m_queue m_kind m_parts m_wanted m_allowed m_bitOf m_met m_row m_narrows m_narrow m_isMade) res.1) := by
  refine kent_l (cc := cX11_alikesTo) (maxL := 8) (by decide) rfl (Nat.le_of_ble_eq_true rfl) ?_
  intro p e0 s m ar below meth c A Q ls ⟨hx, hb, hml, hr, hts, hown, hlocks, hnm⟩ hA hK hN hQ hP hD hS hl
  have hl : lv_has ls 8 [(0, .ref (qM 0)), (1, .long a1)] := hl
  have hown : s.vm.findClass RX11 = some m.cls := hown
  have huX11 : ∀ x ∈ u_ws RX11 TX11 24, x ∈ wsX11_alikesTo := by decide +kernel
  have fk65 : (Cond.fieldLink RX11 65 "FigurePlayModel" "many" "I").before ar s = true := hts _ (by decide +kernel)
  unfold f_X11_alikesTo at hf
  have hJ101 : ∀ (s0 : Int64) (s1 : Int64) (m_many : Int32) (m_figures : Nat → Int32) (H : Heap) (locs : List Loc) (ls : Array Slot), f_X11_alikesTo_J101 F s0 s1 m_many m_figures = some res → va_P D vwCl (gM cy qM m_base m_f m_many m_figures m_tail m_round m_rounds m_leasts m_likes m_like m_isTwo m_came m_by m_queue m_kind m_parts m_wanted m_allowed m_bitOf m_met m_row m_narrows m_narrow m_isMade) H → va_D A (gM cy qM m_base m_f m_many m_figures m_tail m_round m_rounds m_leasts m_likes m_like m_isTwo m_came m_by m_queue m_kind m_parts m_wanted m_allowed m_bitOf m_met m_row m_narrows m_narrow m_isMade) → va_S A s.heap H locs → lv_has ls 8 [] → W p l e0 rmX11_alikesTo s m ar below meth c H locs 0 0 Q (F0 m 101 ls [.long s1, .long s0]) := by
    intro s0 s1 m_many m_figures H locs ls hf hP hD hS hl
    unfold f_X11_alikesTo_J101 at hf
    refine lv_ladd hx hb dX11_alikesTo_101 ?_
    obtain rfl := Option.some.inj hf
    exact hQ () 102 _ _ _ dX11_alikesTo_102 hP hD hS
  have hL33 : ∀ (x3 : Int32) (m_many : Int32) (m_figures : Nat → Int32) (k : Nat) (x : Int64 × Int32) (ex : Int64) (H : Heap) (locs : List Loc) (ls : Array Slot), lp (f_X11_alikesTo_B33 F m_base x3 m_many m_figures) k x = some ex → (∀ (H : Heap) (locs : List Loc) (ls : Array Slot), va_P D vwCl (gM cy qM m_base m_f m_many m_figures m_tail m_round m_rounds m_leasts m_likes m_like m_isTwo m_came m_by m_queue m_kind m_parts m_wanted m_allowed m_bitOf m_met m_row m_narrows m_narrow m_isMade) H → va_D A (gM cy qM m_base m_f m_many m_figures m_tail m_round m_rounds m_leasts m_likes m_like m_isTwo m_came m_by m_queue m_kind m_parts m_wanted m_allowed m_bitOf m_met m_row m_narrows m_narrow m_isMade) → va_S A s.heap H locs → lv_has ls 8 [(0, .ref (qM 0)), (1, .long a1), (3, .int x3), (4, .long ex)] → W p l e0 rmX11_alikesTo s m ar below meth c H locs 0 0 Q (F0 m 56 ls [])) → va_P D vwCl (gM cy qM m_base m_f m_many m_figures m_tail m_round m_rounds m_leasts m_likes m_like m_isTwo m_came m_by m_queue m_kind m_parts m_wanted m_allowed m_bitOf m_met m_row m_narrows m_narrow m_isMade) H → va_D A (gM cy qM m_base m_f m_many m_figures m_tail m_round m_rounds m_leasts m_likes m_like m_isTwo m_came m_by m_queue m_kind m_parts m_wanted m_allowed m_bitOf m_met m_row m_narrows m_narrow m_isMade) → va_S A s.heap H locs → lv_has ls 8 [(0, .ref (qM 0)), (1, .long a1), (3, .int x3), (4, .long x.1), (6, .int x.2)] → W p l e0 rmX11_alikesTo s m ar below meth c H locs 0 0 Q (F0 m 33 ls []) := by
    intro x3 m_many m_figures k
    induction k with
    | zero => intro x ex H locs ls hf; exact no_some hf
    | succ k ih =>
      intro x ex H locs ls hf hex hP hD hS hl
      have hf : f_X11_alikesTo_B33 F m_base x3 m_many m_figures (lp (f_X11_alikesTo_B33 F m_base x3 m_many m_figures) k) x = some ex := hf
      unfold f_X11_alikesTo_B33 at hf
      refine lv_iload hx hb dX11_alikesTo_33 (lv_at hl 4 rfl) ?_
      refine lv_iload_n hx hb dX11_alikesTo_35 rfl (lv_at hl 2 rfl) ?_
      refine lv_icmp_ge (tgt := 56) hx hb dX11_alikesTo_36 (by decide) (fun c1 => ?_) (fun c1 => ?_)
      · have hf := if_t hf c1
        obtain rfl := Option.some.inj hf
        exact hex _ _ _ hP hD hS (lv_sub hl [0, 1, 2, 3] rfl)
      · have hf := if_f hf c1
        refine lv_lload hx hb dX11_alikesTo_39 (lv_at hl 3 rfl) ?_
        refine lv_aload_n hx hb dX11_alikesTo_41 rfl (lv_at hl 0 rfl) ?_
        refine lv_iload hx hb dX11_alikesTo_42 (lv_at hl 4 rfl) ?_
        obtain ⟨r2, hc3, hf⟩ := ob_some hf
        refine kc_l (k_run ⟨hx, hb, hml, hown, hts⟩ (c_X11_alikesOf hc3) (cwV 1 hts gX11_alikesTo_X11_alikesOf rfl rfl rfl (by decide +kernel) ⟨Nat.le_of_ble_eq_true rfl, Nat.le_of_ble_eq_true rfl⟩) hK hN hP hD kA_s (ci := 11) (q0 := 0) rfl rfl rfl rfl hl.1 rfl (Nat.le_of_ble_eq_true rfl) dX11_alikesTo_44 ⟨Nat.le_of_ble_eq_true rfl, Nat.le_of_ble_eq_true rfl⟩) hP hD hS hA kI_s (fun _ H locs hP hD hS => ?_)
        refine lv_ladd hx hb dX11_alikesTo_47 ?_
        refine lv_lstore (lv' := [(4, .long (x.1 + r2)), (0, .ref (qM 0)), (1, .long a1), (3, .int x3), (6, .int x.2)]) hx hb dX11_alikesTo_48 hl (by decide) rfl (fun ls hl => ?_)
        refine lv_iinc (v := (x.2 + (1 : Int32))) (lv' := [(6, .int (x.2 + (1 : Int32))), (4, .long (x.1 + r2)), (0, .ref (qM 0)), (1, .long a1), (3, .int x3)]) hx hb dX11_alikesTo_50 hl (k := 4) rfl rfl (by decide) rfl (fun ls hl => ?_)
        refine lv_goto (tgt := 33) hx hb dX11_alikesTo_53 (by decide) ?_
        exact ih ((x.1 + r2), (x.2 + (1 : Int32))) ex _ _ _ hf hex hP hD hS (lv_sub hl [2, 3, 4, 1, 0] rfl)
  refine lv_lload_n hx hb dX11_alikesTo_0 rfl (lv_at hl 1 rfl) ?_
  refine lv_lconst (v := (0 : Int64)) hx hb dX11_alikesTo_1 (by decide) ?_
  refine kl_ge (tgt := 8) hx hb dX11_alikesTo_2 dX11_alikesTo_3 (by decide) (fun c4 => ?_) (fun c4 => ?_)
  · have hf := if_t hf c4
    refine lv_aload_n hx hb dX11_alikesTo_8 rfl (lv_at hl 0 rfl) ?_
    refine lv_lload_n hx hb dX11_alikesTo_9 rfl (lv_at hl 1 rfl) ?_
    obtain ⟨r5, hc6, hf⟩ := ob_some hf
    refine kc_v (k_run ⟨hx, hb, hml, hown, hts⟩ (c_X11_lay hc6) (cwV 1 hts gX11_alikesTo_X11_lay rfl rfl rfl (by decide +kernel) ⟨Nat.le_of_ble_eq_true rfl, Nat.le_of_ble_eq_true rfl⟩) hK hN hP hD kA_s (ci := 11) (q0 := 0) rfl rfl rfl rfl hl.1 rfl (Nat.le_of_ble_eq_true rfl) dX11_alikesTo_10 ⟨Nat.le_of_ble_eq_true rfl, Nat.le_of_ble_eq_true rfl⟩) hP hD hS hA kI_s (fun _ H locs hP hD hS => ?_)
    refine lv_aload_n hx hb dX11_alikesTo_13 rfl (lv_at hl 0 rfl) ?_
    refine va_get (D := D) (ci := 11) (C := RX11) (T := TX11) (N := 24) hx hb hts huX11 hown hK hP 0 rfl rfl 2 (by decide) fk65 (fun _ h9 => h9) rfl dX11_alikesTo_14 ?_
    refine lv_istore_n (lv' := [(3, .int r5.1), (0, .ref (qM 0)), (1, .long a1)]) hx hb dX11_alikesTo_17 rfl hl (by decide) rfl (fun ls hl => ?_)
    refine lv_iload_n hx hb dX11_alikesTo_18 rfl (lv_at hl 0 rfl) ?_
    refine lv_iconst (v := (1 : Int32)) hx hb dX11_alikesTo_19 (by decide) ?_
    refine lv_icmp_ne (tgt := 27) hx hb dX11_alikesTo_20 (by decide) (fun c7 => ?_) (fun c7 => ?_)
    · have hf := if_f hf c7
      refine lv_lconst (v := (0 : Int64)) hx hb dX11_alikesTo_27 (by decide) ?_
      refine lv_lstore (lv' := [(4, .long (0 : Int64)), (3, .int r5.1), (0, .ref (qM 0)), (1, .long a1)]) hx hb dX11_alikesTo_28 hl (by decide) rfl (fun ls hl => ?_)
      refine lv_iconst (v := (1 : Int32)) hx hb dX11_alikesTo_30 (by decide) ?_
      refine lv_istore (lv' := [(6, .int (1 : Int32)), (4, .long (0 : Int64)), (3, .int r5.1), (0, .ref (qM 0)), (1, .long a1)]) hx hb dX11_alikesTo_31 hl (by decide) rfl (fun ls hl => ?_)
      obtain ⟨ex8, hcl, hf⟩ := ob_some hf
      refine hL33 r5.1 r5.1 r5.2 F ((0 : Int64), (1 : Int32)) ex8 _ _ _ hcl (fun H locs ls hP hD hS hl => ?_) hP hD hS (lv_sub hl [3, 4, 2, 1, 0] rfl)
      refine lv_lload_n hx hb dX11_alikesTo_56 rfl (lv_at hl 1 rfl) ?_
      refine lv_aload_n hx hb dX11_alikesTo_57 rfl (lv_at hl 0 rfl) ?_
      refine lv_iload_n hx hb dX11_alikesTo_58 rfl (lv_at hl 2 rfl) ?_
      refine lv_iconst (v := (2 : Int32)) hx hb dX11_alikesTo_59 (by decide) ?_
      obtain ⟨c9, hf⟩ := ck_some hf
      refine lv_idiv hx hb dX11_alikesTo_60 c9 ?_
      obtain ⟨r10, hc11, hf⟩ := ob_some hf
      refine kc_l (k_run ⟨hx, hb, hml, hown, hts⟩ (c_X11_power hc11) (cwV 1 hts gX11_alikesTo_X11_power rfl rfl rfl (by decide +kernel) ⟨Nat.le_of_ble_eq_true rfl, Nat.le_of_ble_eq_true rfl⟩) hK hN hP hD kA_s (ci := 11) (q0 := 0) rfl rfl rfl rfl hl.1 rfl (Nat.le_of_ble_eq_true rfl) dX11_alikesTo_61 ⟨Nat.le_of_ble_eq_true rfl, Nat.le_of_ble_eq_true rfl⟩) hP hD hS hA kI_s (fun _ H locs hP hD hS => ?_)
      obtain ⟨c12, hf⟩ := ck_some hf
      refine lv_ldiv hx hb dX11_alikesTo_64 c12 ?_
      refine lv_lstore (lv' := [(6, .long (a1 / r10)), (0, .ref (qM 0)), (1, .long a1), (3, .int r5.1), (4, .long ex8)]) hx hb dX11_alikesTo_65 hl (by decide) rfl (fun ls hl => ?_)
      refine lv_lload hx hb dX11_alikesTo_67 (lv_at hl 4 rfl) ?_
      refine lv_lload hx hb dX11_alikesTo_69 (lv_at hl 0 rfl) ?_
      refine lv_ladd hx hb dX11_alikesTo_71 ?_
      refine lv_aload_n hx hb dX11_alikesTo_72 rfl (lv_at hl 1 rfl) ?_
      refine lv_iload_n hx hb dX11_alikesTo_73 rfl (lv_at hl 3 rfl) ?_
      refine lv_iconst (v := (1 : Int32)) hx hb dX11_alikesTo_74 (by decide) ?_
      refine lv_iadd hx hb dX11_alikesTo_75 ?_
      refine lv_iconst (v := (2 : Int32)) hx hb dX11_alikesTo_76 (by decide) ?_
      obtain ⟨c13, hf⟩ := ck_some hf
      refine lv_idiv hx hb dX11_alikesTo_77 c13 ?_
      refine lv_iconst (v := (1 : Int32)) hx hb dX11_alikesTo_78 (by decide) ?_
      refine lv_isub hx hb dX11_alikesTo_79 ?_
      obtain ⟨r14, hc15, hf⟩ := ob_some hf
      refine kc_l (k_run ⟨hx, hb, hml, hown, hts⟩ (c_X11_power hc15) (cwV 1 hts gX11_alikesTo_X11_power rfl rfl rfl (by decide +kernel) ⟨Nat.le_of_ble_eq_true rfl, Nat.le_of_ble_eq_true rfl⟩) hK hN hP hD kA_s (ci := 11) (q0 := 0) rfl rfl rfl rfl hl.1 rfl (Nat.le_of_ble_eq_true rfl) dX11_alikesTo_80 ⟨Nat.le_of_ble_eq_true rfl, Nat.le_of_ble_eq_true rfl⟩) hP hD hS hA kI_s (fun _ H locs hP hD hS => ?_)
      refine lv_lsub hx hb dX11_alikesTo_83 ?_
      refine lv_aload_n hx hb dX11_alikesTo_84 rfl (lv_at hl 1 rfl) ?_
      refine lv_lload hx hb dX11_alikesTo_85 (lv_at hl 0 rfl) ?_
      refine lv_iload_n hx hb dX11_alikesTo_87 rfl (lv_at hl 3 rfl) ?_
      obtain ⟨r16, hc17, hf⟩ := ob_some hf
      refine kc_l (k_run ⟨hx, hb, hml, hown, hts⟩ (c_X11_whole hc17) (cwV 2 hts gX11_alikesTo_X11_whole rfl rfl rfl (by decide +kernel) ⟨Nat.le_of_ble_eq_true rfl, Nat.le_of_ble_eq_true rfl⟩) hK hN hP hD kA_s (ci := 11) (q0 := 0) rfl rfl rfl rfl hl.1 rfl (Nat.le_of_ble_eq_true rfl) dX11_alikesTo_88 ⟨Nat.le_of_ble_eq_true rfl, Nat.le_of_ble_eq_true rfl⟩) hP hD hS hA kI_s (fun _ H locs hP hD hS => ?_)
      refine lv_lload_n hx hb dX11_alikesTo_91 rfl (lv_at hl 2 rfl) ?_
      refine kl_gt (tgt := 100) hx hb dX11_alikesTo_92 dX11_alikesTo_93 (by decide) (fun c18 => ?_) (fun c18 => ?_)
      · have hf := if_t hf c18
        refine lv_lconst (v := (0 : Int64)) hx hb dX11_alikesTo_100 (by decide) ?_
        exact hJ101 ((ex8 + (a1 / r10)) - r14) (0 : Int64) r5.1 r5.2 _ _ _ hf hP hD hS (lv_sub hl [] rfl)
      · have hf := if_f hf c18
        refine lv_lconst (v := (1 : Int64)) hx hb dX11_alikesTo_96 (by decide) ?_
        refine lv_goto (tgt := 101) hx hb dX11_alikesTo_97 (by decide) ?_
        exact hJ101 ((ex8 + (a1 / r10)) - r14) (1 : Int64) r5.1 r5.2 _ _ _ hf hP hD hS (lv_sub hl [] rfl)
    · have hf := if_t hf c7
      refine lv_lload_n hx hb dX11_alikesTo_23 rfl (lv_at hl 2 rfl) ?_
      refine lv_lconst (v := (1 : Int64)) hx hb dX11_alikesTo_24 (by decide) ?_
      refine lv_ladd hx hb dX11_alikesTo_25 ?_
      obtain rfl := Option.some.inj hf
      exact hQ () 26 _ _ _ dX11_alikesTo_26 hP hD hS
  · have hf := if_f hf c4
    refine lv_lconst (v := (0 : Int64)) hx hb dX11_alikesTo_6 (by decide) ?_
    obtain rfl := Option.some.inj hf
    exact hQ () 7 _ _ _ dX11_alikesTo_7 hP hD hS
def f_X11_alikeOf_J111 (F : Nat) (s0 : Int64) (m_many : Int32) (m_figures : Nat → Int32) : Option (Int64 × Int32 × (Nat → Int32)) := some (s0, m_many, m_figures)
def f_X11_alikeOf_J92 (F : Nat) (s0 : Int64) (m_many : Int32) (m_figures : Nat → Int32) : Option (Int64 × Int32 × (Nat → Int32)) := if s0 ≤ (1000000000000000 : Int64) then (f_X11_alikeOf_J111 F s0 m_many m_figures) else (f_X11_alikeOf_J111 F (-4 : Int64) m_many m_figures)
def f_X11_alikeOf_B18 (F : Nat) (m_base : Int32) (x6 : Int32) (m_many : Int32) (m_figures : Nat → Int32) (rec : Int64 × Int32 → Option (Int64 × Int32)) (x : Int64 × Int32) : Option (Int64 × Int32) := if x6 < x.2 then (some (x.1, x.2)) else ((f_X11_alikesOf F x.2 m_base).bind (fun r3 => if x.1 < r3 then (some (x.1, x.2)) else ((f_X11_alikesOf F x.2 m_base).bind (fun r6 => rec ((x.1 - r6), (x.2 + (1 : Int32)))))))
def f_X11_alikeOf (F : Nat) (a1 : Int64) (m_base : Int32) (m_many : Int32) (m_figures : Nat → Int32) : Option (Int64 × Int32 × (Nat → Int32)) := (f_X11_lay F (1000000000000000 : Int64) m_base m_many m_figures).bind (fun r8 => (lp (f_X11_alikeOf_B18 F m_base r8.1 r8.1 r8.2) F (a1, (1 : Int32))).bind (fun ex10 => if ex10.2 ≤ r8.1 then (if ex10.2 = (1 : Int32) then (f_X11_alikeOf_J92 F ex10.1 r8.1 r8.2) else (ck (¬ (2 : Int32) = 0) ((f_X11_power F (((ex10.2 + (1 : Int32)) / (2 : Int32)) - (1 : Int32)) m_base).bind (fun r14 => (f_X11_whole F (ex10.1 + r14) ex10.2 m_base).bind (fun r16 => f_X11_alikeOf_J92 F r16 r8.1 r8.2))))) else (some ((-4 : Int64), r8.1, r8.2))))
abbrev rmX11_alikeOf : Room := { frames := 2, cells := 0, slots := 0, locals := 45 }
set_option maxHeartbeats 1000000 in
set_option maxRecDepth 100000 in
theorem c_X11_alikeOf {l : Launch} {D : va_G} {cy : Nat → ClassId} {qM : Nat → Nat} {m_base : Int32} {m_f : Nat → Int32} {m_many : Int32} {m_figures : Nat → Int32} {m_tail : Int32} {m_round : Int32} {m_rounds : Int32} {m_leasts : Nat → Int64} {m_likes : Int32} {m_like : Nat → Int32} {m_isTwo : Nat → Int32} {m_came : Nat → Int32} {m_by : Nat → Int32} {m_queue : Nat → Int32} {m_kind : Int32} {m_parts : Int32} {m_wanted : Int32} {m_allowed : Int32} {m_bitOf : Nat → Int32} {m_met : Int32} {m_row : Nat → Int32} {m_narrows : Int32} {m_narrow : Nat → Int64} {m_isMade : Nat → Int32} {a1 : Int64} {F : Nat} {res : Int64 × Int32 × (Nat → Int32)} (hf : f_X11_alikeOf F a1 m_base m_many m_figures = some res) : kM l yX11_alikeOf wsX11_alikeOf rmX11_alikeOf D cy [.ref (qM 0), .long a1] (gM cy qM m_base m_f m_many m_figures m_tail m_round m_rounds m_leasts m_likes m_like m_isTwo m_came m_by m_queue m_kind m_parts m_wanted m_allowed m_bitOf m_met m_row m_narrows m_narrow m_isMade) (kQl D cy (fun _ : Unit => gM cy qM m_base m_f res.2.1 res.2.2 m_tail m_round m_rounds m_leasts m_likes m_like m_isTwo m_came m_by m_queue m_kind m_parts m_wanted m_allowed m_bitOf m_met m_row m_narrows m_narrow m_isMade) res.1) := by
  refine kent_l (cc := cX11_alikeOf) (maxL := 9) (by decide) rfl (Nat.le_of_ble_eq_true rfl) ?_
  intro p e0 s m ar below meth c A Q ls ⟨hx, hb, hml, hr, hts, hown, hlocks, hnm⟩ hA hK hN hQ hP hD hS hl
  have hl : lv_has ls 9 [(0, .ref (qM 0)), (1, .long a1)] := hl
  have hown : s.vm.findClass RX11 = some m.cls := hown
  have fk68 : (Cond.constantLong RX11 68 (1000000000000000)).before ar s = true := hts _ (by decide +kernel)
  have fk111 : (Cond.constantLong RX11 111 (-4)).before ar s = true := hts _ (by decide +kernel)
  have huX11 : ∀ x ∈ u_ws RX11 TX11 24, x ∈ wsX11_alikeOf := by decide +kernel
  have fk65 : (Cond.fieldLink RX11 65 "FigurePlayModel" "many" "I").before ar s = true := hts _ (by decide +kernel)
  unfold f_X11_alikeOf at hf
  have hJ111 : ∀ (s0 : Int64) (m_many : Int32) (m_figures : Nat → Int32) (H : Heap) (locs : List Loc) (ls : Array Slot), f_X11_alikeOf_J111 F s0 m_many m_figures = some res → va_P D vwCl (gM cy qM m_base m_f m_many m_figures m_tail m_round m_rounds m_leasts m_likes m_like m_isTwo m_came m_by m_queue m_kind m_parts m_wanted m_allowed m_bitOf m_met m_row m_narrows m_narrow m_isMade) H → va_D A (gM cy qM m_base m_f m_many m_figures m_tail m_round m_rounds m_leasts m_likes m_like m_isTwo m_came m_by m_queue m_kind m_parts m_wanted m_allowed m_bitOf m_met m_row m_narrows m_narrow m_isMade) → va_S A s.heap H locs → lv_has ls 9 [] → W p l e0 rmX11_alikeOf s m ar below meth c H locs 0 0 Q (F0 m 111 ls [.long s0]) := by
    intro s0 m_many m_figures H locs ls hf hP hD hS hl
    unfold f_X11_alikeOf_J111 at hf
    obtain rfl := Option.some.inj hf
    exact hQ () 111 _ _ _ dX11_alikeOf_111 hP hD hS
  have hJ92 : ∀ (s0 : Int64) (m_many : Int32) (m_figures : Nat → Int32) (H : Heap) (locs : List Loc) (ls : Array Slot), f_X11_alikeOf_J92 F s0 m_many m_figures = some res → va_P D vwCl (gM cy qM m_base m_f m_many m_figures m_tail m_round m_rounds m_leasts m_likes m_like m_isTwo m_came m_by m_queue m_kind m_parts m_wanted m_allowed m_bitOf m_met m_row m_narrows m_narrow m_isMade) H → va_D A (gM cy qM m_base m_f m_many m_figures m_tail m_round m_rounds m_leasts m_likes m_like m_isTwo m_came m_by m_queue m_kind m_parts m_wanted m_allowed m_bitOf m_met m_row m_narrows m_narrow m_isMade) → va_S A s.heap H locs → lv_has ls 9 [] → W p l e0 rmX11_alikeOf s m ar below meth c H locs 0 0 Q (F0 m 92 ls [.long s0]) := by
    intro s0 m_many m_figures H locs ls hf hP hD hS hl
    unfold f_X11_alikeOf_J92 at hf
    refine lv_lstore (lv' := [(7, .long s0)]) hx hb dX11_alikeOf_92 hl (by decide) rfl (fun ls hl => ?_)
    refine lv_lload hx hb dX11_alikeOf_94 (lv_at hl 0 rfl) ?_
    refine lv_ldc2 (v := (1000000000000000 : Int64)) hx hb hown fk68 dX11_alikeOf_96 ?_
    refine kl_le (tgt := 109) hx hb dX11_alikeOf_99 dX11_alikeOf_100 (by decide) (fun c1 => ?_) (fun c1 => ?_)
    · have hf := if_t hf c1
      refine lv_lload hx hb dX11_alikeOf_109 (lv_at hl 0 rfl) ?_
      exact hJ111 s0 m_many m_figures _ _ _ hf hP hD hS (lv_sub hl [] rfl)
    · have hf := if_f hf c1
      refine lv_ldc2 (v := (-4 : Int64)) hx hb hown fk111 dX11_alikeOf_103 ?_
      refine lv_goto (tgt := 111) hx hb dX11_alikeOf_106 (by decide) ?_
      exact hJ111 (-4 : Int64) m_many m_figures _ _ _ hf hP hD hS (lv_sub hl [] rfl)
  have hL18 : ∀ (x6 : Int32) (m_many : Int32) (m_figures : Nat → Int32) (k : Nat) (x : Int64 × Int32) (ex : Int64 × Int32) (H : Heap) (locs : List Loc) (ls : Array Slot), lp (f_X11_alikeOf_B18 F m_base x6 m_many m_figures) k x = some ex → (∀ (H : Heap) (locs : List Loc) (ls : Array Slot), va_P D vwCl (gM cy qM m_base m_f m_many m_figures m_tail m_round m_rounds m_leasts m_likes m_like m_isTwo m_came m_by m_queue m_kind m_parts m_wanted m_allowed m_bitOf m_met m_row m_narrows m_narrow m_isMade) H → va_D A (gM cy qM m_base m_f m_many m_figures m_tail m_round m_rounds m_leasts m_likes m_like m_isTwo m_came m_by m_queue m_kind m_parts m_wanted m_allowed m_bitOf m_met m_row m_narrows m_narrow m_isMade) → va_S A s.heap H locs → lv_has ls 9 [(0, .ref (qM 0)), (3, .long ex.1), (5, .int ex.2), (6, .int x6)] → W p l e0 rmX11_alikeOf s m ar below meth c H locs 0 0 Q (F0 m 51 ls [])) → va_P D vwCl (gM cy qM m_base m_f m_many m_figures m_tail m_round m_rounds m_leasts m_likes m_like m_isTwo m_came m_by m_queue m_kind m_parts m_wanted m_allowed m_bitOf m_met m_row m_narrows m_narrow m_isMade) H → va_D A (gM cy qM m_base m_f m_many m_figures m_tail m_round m_rounds m_leasts m_likes m_like m_isTwo m_came m_by m_queue m_kind m_parts m_wanted m_allowed m_bitOf m_met m_row m_narrows m_narrow m_isMade) → va_S A s.heap H locs → lv_has ls 9 [(0, .ref (qM 0)), (3, .long x.1), (5, .int x.2), (6, .int x6)] → W p l e0 rmX11_alikeOf s m ar below meth c H locs 0 0 Q (F0 m 18 ls []) := by
    intro x6 m_many m_figures k
    induction k with
    | zero => intro x ex H locs ls hf; exact no_some hf
    | succ k ih =>
      intro x ex H locs ls hf hex hP hD hS hl
      have hf : f_X11_alikeOf_B18 F m_base x6 m_many m_figures (lp (f_X11_alikeOf_B18 F m_base x6 m_many m_figures) k) x = some ex := hf
      unfold f_X11_alikeOf_B18 at hf
      refine lv_iload hx hb dX11_alikeOf_18 (lv_at hl 2 rfl) ?_
      refine lv_iload hx hb dX11_alikeOf_20 (lv_at hl 3 rfl) ?_
      refine lv_icmp_gt (tgt := 51) hx hb dX11_alikeOf_22 (by decide) (fun c2 => ?_) (fun c2 => ?_)
      · have hf := if_t hf c2
        obtain rfl := Option.some.inj hf
        exact hex _ _ _ hP hD hS (lv_sub hl [0, 1, 2, 3] rfl)
      · have hf := if_f hf c2
        refine lv_lload_n hx hb dX11_alikeOf_25 rfl (lv_at hl 1 rfl) ?_
        refine lv_aload_n hx hb dX11_alikeOf_26 rfl (lv_at hl 0 rfl) ?_
        refine lv_iload hx hb dX11_alikeOf_27 (lv_at hl 2 rfl) ?_
        obtain ⟨r3, hc4, hf⟩ := ob_some hf
        refine kc_l (k_run ⟨hx, hb, hml, hown, hts⟩ (c_X11_alikesOf hc4) (cwV 1 hts gX11_alikeOf_X11_alikesOf rfl rfl rfl (by decide +kernel) ⟨Nat.le_of_ble_eq_true rfl, Nat.le_of_ble_eq_true rfl⟩) hK hN hP hD kA_s (ci := 11) (q0 := 0) rfl rfl rfl rfl hl.1 rfl (Nat.le_of_ble_eq_true rfl) dX11_alikeOf_29 ⟨Nat.le_of_ble_eq_true rfl, Nat.le_of_ble_eq_true rfl⟩) hP hD hS hA kI_s (fun _ H locs hP hD hS => ?_)
        refine kl_lt (tgt := 51) hx hb dX11_alikeOf_32 dX11_alikeOf_33 (by decide) (fun c5 => ?_) (fun c5 => ?_)
        · have hf := if_t hf c5
          obtain rfl := Option.some.inj hf
          exact hex _ _ _ hP hD hS (lv_sub hl [0, 1, 2, 3] rfl)
        · have hf := if_f hf c5
          refine lv_lload_n hx hb dX11_alikeOf_36 rfl (lv_at hl 1 rfl) ?_
          refine lv_aload_n hx hb dX11_alikeOf_37 rfl (lv_at hl 0 rfl) ?_
          refine lv_iload hx hb dX11_alikeOf_38 (lv_at hl 2 rfl) ?_
          obtain ⟨r6, hc7, hf⟩ := ob_some hf
          refine kc_l (k_run ⟨hx, hb, hml, hown, hts⟩ (c_X11_alikesOf hc7) (cwV 1 hts gX11_alikeOf_X11_alikesOf rfl rfl rfl (by decide +kernel) ⟨Nat.le_of_ble_eq_true rfl, Nat.le_of_ble_eq_true rfl⟩) hK hN hP hD kA_s (ci := 11) (q0 := 0) rfl rfl rfl rfl hl.1 rfl (Nat.le_of_ble_eq_true rfl) dX11_alikeOf_40 ⟨Nat.le_of_ble_eq_true rfl, Nat.le_of_ble_eq_true rfl⟩) hP hD hS hA kI_s (fun _ H locs hP hD hS => ?_)
          refine lv_lsub hx hb dX11_alikeOf_43 ?_
          refine lv_lstore_n (lv' := [(3, .long (x.1 - r6)), (0, .ref (qM 0)), (5, .int x.2), (6, .int x6)]) hx hb dX11_alikeOf_44 rfl hl (by decide) rfl (fun ls hl => ?_)
          refine lv_iinc (v := (x.2 + (1 : Int32))) (lv' := [(5, .int (x.2 + (1 : Int32))), (3, .long (x.1 - r6)), (0, .ref (qM 0)), (6, .int x6)]) hx hb dX11_alikeOf_45 hl (k := 2) rfl rfl (by decide) rfl (fun ls hl => ?_)
          refine lv_goto (tgt := 18) hx hb dX11_alikeOf_48 (by decide) ?_
          exact ih ((x.1 - r6), (x.2 + (1 : Int32))) ex _ _ _ hf hex hP hD hS (lv_sub hl [2, 1, 0, 3] rfl)
  refine lv_lload_n hx hb dX11_alikeOf_0 rfl (lv_at hl 1 rfl) ?_
  refine lv_lstore_n (lv' := [(3, .long a1), (0, .ref (qM 0)), (1, .long a1)]) hx hb dX11_alikeOf_1 rfl hl (by decide) rfl (fun ls hl => ?_)
  refine lv_iconst (v := (1 : Int32)) hx hb dX11_alikeOf_2 (by decide) ?_
  refine lv_istore (lv' := [(5, .int (1 : Int32)), (3, .long a1), (0, .ref (qM 0)), (1, .long a1)]) hx hb dX11_alikeOf_3 hl (by decide) rfl (fun ls hl => ?_)
  refine lv_aload_n hx hb dX11_alikeOf_5 rfl (lv_at hl 2 rfl) ?_
  refine lv_ldc2 (v := (1000000000000000 : Int64)) hx hb hown fk68 dX11_alikeOf_6 ?_
  obtain ⟨r8, hc9, hf⟩ := ob_some hf
  refine kc_v (k_run ⟨hx, hb, hml, hown, hts⟩ (c_X11_lay hc9) (cwV 1 hts gX11_alikeOf_X11_lay rfl rfl rfl (by decide +kernel) ⟨Nat.le_of_ble_eq_true rfl, Nat.le_of_ble_eq_true rfl⟩) hK hN hP hD kA_s (ci := 11) (q0 := 0) rfl rfl rfl rfl hl.1 rfl (Nat.le_of_ble_eq_true rfl) dX11_alikeOf_9 ⟨Nat.le_of_ble_eq_true rfl, Nat.le_of_ble_eq_true rfl⟩) hP hD hS hA kI_s (fun _ H locs hP hD hS => ?_)
  refine lv_aload_n hx hb dX11_alikeOf_12 rfl (lv_at hl 2 rfl) ?_
  refine va_get (D := D) (ci := 11) (C := RX11) (T := TX11) (N := 24) hx hb hts huX11 hown hK hP 0 rfl rfl 2 (by decide) fk65 (fun _ h9 => h9) rfl dX11_alikeOf_13 ?_
  refine lv_istore (lv' := [(6, .int r8.1), (5, .int (1 : Int32)), (3, .long a1), (0, .ref (qM 0)), (1, .long a1)]) hx hb dX11_alikeOf_16 hl (by decide) rfl (fun ls hl => ?_)
  obtain ⟨ex10, hcl, hf⟩ := ob_some hf
  refine hL18 r8.1 r8.1 r8.2 F (a1, (1 : Int32)) ex10 _ _ _ hcl (fun H locs ls hP hD hS hl => ?_) hP hD hS (lv_sub hl [3, 2, 1, 0] rfl)
  refine lv_iload hx hb dX11_alikeOf_51 (lv_at hl 2 rfl) ?_
  refine lv_iload hx hb dX11_alikeOf_53 (lv_at hl 3 rfl) ?_
  refine lv_icmp_le (tgt := 62) hx hb dX11_alikeOf_55 (by decide) (fun c11 => ?_) (fun c11 => ?_)
  · have hf := if_t hf c11
    refine lv_iload hx hb dX11_alikeOf_62 (lv_at hl 2 rfl) ?_
    refine lv_iconst (v := (1 : Int32)) hx hb dX11_alikeOf_64 (by decide) ?_
    refine lv_icmp_ne (tgt := 72) hx hb dX11_alikeOf_65 (by decide) (fun c12 => ?_) (fun c12 => ?_)
    · have hf := if_f hf c12
      refine lv_aload_n hx hb dX11_alikeOf_72 rfl (lv_at hl 0 rfl) ?_
      refine lv_lload_n hx hb dX11_alikeOf_73 rfl (lv_at hl 1 rfl) ?_
      refine lv_aload_n hx hb dX11_alikeOf_74 rfl (lv_at hl 0 rfl) ?_
      refine lv_iload hx hb dX11_alikeOf_75 (lv_at hl 2 rfl) ?_
      refine lv_iconst (v := (1 : Int32)) hx hb dX11_alikeOf_77 (by decide) ?_
      refine lv_iadd hx hb dX11_alikeOf_78 ?_
      refine lv_iconst (v := (2 : Int32)) hx hb dX11_alikeOf_79 (by decide) ?_
      obtain ⟨c13, hf⟩ := ck_some hf
      refine lv_idiv hx hb dX11_alikeOf_80 c13 ?_
      refine lv_iconst (v := (1 : Int32)) hx hb dX11_alikeOf_81 (by decide) ?_
      refine lv_isub hx hb dX11_alikeOf_82 ?_
      obtain ⟨r14, hc15, hf⟩ := ob_some hf
      refine kc_l (k_run ⟨hx, hb, hml, hown, hts⟩ (c_X11_power hc15) (cwV 1 hts gX11_alikeOf_X11_power rfl rfl rfl (by decide +kernel) ⟨Nat.le_of_ble_eq_true rfl, Nat.le_of_ble_eq_true rfl⟩) hK hN hP hD kA_s (ci := 11) (q0 := 0) rfl rfl rfl rfl hl.1 rfl (Nat.le_of_ble_eq_true rfl) dX11_alikeOf_83 ⟨Nat.le_of_ble_eq_true rfl, Nat.le_of_ble_eq_true rfl⟩) hP hD hS hA kI_s (fun _ H locs hP hD hS => ?_)
      refine lv_ladd hx hb dX11_alikeOf_86 ?_
      refine lv_iload hx hb dX11_alikeOf_87 (lv_at hl 2 rfl) ?_
      obtain ⟨r16, hc17, hf⟩ := ob_some hf
      refine kc_l (k_run ⟨hx, hb, hml, hown, hts⟩ (c_X11_whole hc17) (cwV 2 hts gX11_alikeOf_X11_whole rfl rfl rfl (by decide +kernel) ⟨Nat.le_of_ble_eq_true rfl, Nat.le_of_ble_eq_true rfl⟩) hK hN hP hD kA_s (ci := 11) (q0 := 0) rfl rfl rfl rfl hl.1 rfl (Nat.le_of_ble_eq_true rfl) dX11_alikeOf_89 ⟨Nat.le_of_ble_eq_true rfl, Nat.le_of_ble_eq_true rfl⟩) hP hD hS hA kI_s (fun _ H locs hP hD hS => ?_)
      exact hJ92 r16 r8.1 r8.2 _ _ _ hf hP hD hS (lv_sub hl [] rfl)
    · have hf := if_t hf c12
      refine lv_lload_n hx hb dX11_alikeOf_68 rfl (lv_at hl 1 rfl) ?_
      refine lv_goto (tgt := 92) hx hb dX11_alikeOf_69 (by decide) ?_
      exact hJ92 ex10.1 r8.1 r8.2 _ _ _ hf hP hD hS (lv_sub hl [] rfl)
  · have hf := if_f hf c11
    refine lv_ldc2 (v := (-4 : Int64)) hx hb hown fk111 dX11_alikeOf_58 ?_
    obtain rfl := Option.some.inj hf
    exact hQ () 61 _ _ _ dX11_alikeOf_61 hP hD hS
def f_X11_alike_J30 (F : Nat) (s0 : Int32) (m_many : Int32) (m_figures : Nat → Int32) : Option (Int32 × Int32 × (Nat → Int32)) := some (s0, m_many, m_figures)
def f_X11_alike (F : Nat) (a1 : Int64) (m_base : Int32) (m_many : Int32) (m_figures : Nat → Int32) : Option (Int32 × Int32 × (Nat → Int32)) := (f_X11_in F a1 (0 : Int64) (1000000000000000 : Int64)).bind (fun r1 => if r1 = 0 then (f_X11_alike_J30 F (-1 : Int32) m_many m_figures) else ((f_X11_turned F a1 m_base m_many m_figures).bind (fun r4 => if r4.1 = a1 then (f_X11_alike_J30 F (1 : Int32) r4.2.1 r4.2.2) else (f_X11_alike_J30 F (0 : Int32) r4.2.1 r4.2.2))))
abbrev rmX11_alike : Room := { frames := 2, cells := 0, slots := 0, locals := 49 }
set_option maxHeartbeats 1000000 in
set_option maxRecDepth 100000 in
theorem c_X11_alike {l : Launch} {D : va_G} {cy : Nat → ClassId} {qM : Nat → Nat} {m_base : Int32} {m_f : Nat → Int32} {m_many : Int32} {m_figures : Nat → Int32} {m_tail : Int32} {m_round : Int32} {m_rounds : Int32} {m_leasts : Nat → Int64} {m_likes : Int32} {m_like : Nat → Int32} {m_isTwo : Nat → Int32} {m_came : Nat → Int32} {m_by : Nat → Int32} {m_queue : Nat → Int32} {m_kind : Int32} {m_parts : Int32} {m_wanted : Int32} {m_allowed : Int32} {m_bitOf : Nat → Int32} {m_met : Int32} {m_row : Nat → Int32} {m_narrows : Int32} {m_narrow : Nat → Int64} {m_isMade : Nat → Int32} {a1 : Int64} {F : Nat} {res : Int32 × Int32 × (Nat → Int32)} (hf : f_X11_alike F a1 m_base m_many m_figures = some res) : kM l yX11_alike wsX11_alike rmX11_alike D cy [.ref (qM 0), .long a1] (gM cy qM m_base m_f m_many m_figures m_tail m_round m_rounds m_leasts m_likes m_like m_isTwo m_came m_by m_queue m_kind m_parts m_wanted m_allowed m_bitOf m_met m_row m_narrows m_narrow m_isMade) (kQi D cy (fun _ : Unit => gM cy qM m_base m_f res.2.1 res.2.2 m_tail m_round m_rounds m_leasts m_likes m_like m_isTwo m_came m_by m_queue m_kind m_parts m_wanted m_allowed m_bitOf m_met m_row m_narrows m_narrow m_isMade) res.1) := by
  refine kent_i (cc := cX11_alike) (maxL := 3) (by decide) rfl (Nat.le_of_ble_eq_true rfl) ?_
  intro p e0 s m ar below meth c A Q ls ⟨hx, hb, hml, hr, hts, hown, hlocks, hnm⟩ hA hK hN hQ hP hD hS hl
  have hl : lv_has ls 3 [(0, .ref (qM 0)), (1, .long a1)] := hl
  have hown : s.vm.findClass RX11 = some m.cls := hown
  have fk68 : (Cond.constantLong RX11 68 (1000000000000000)).before ar s = true := hts _ (by decide +kernel)
  unfold f_X11_alike at hf
  have hJ30 : ∀ (s0 : Int32) (m_many : Int32) (m_figures : Nat → Int32) (H : Heap) (locs : List Loc) (ls : Array Slot), f_X11_alike_J30 F s0 m_many m_figures = some res → va_P D vwCl (gM cy qM m_base m_f m_many m_figures m_tail m_round m_rounds m_leasts m_likes m_like m_isTwo m_came m_by m_queue m_kind m_parts m_wanted m_allowed m_bitOf m_met m_row m_narrows m_narrow m_isMade) H → va_D A (gM cy qM m_base m_f m_many m_figures m_tail m_round m_rounds m_leasts m_likes m_like m_isTwo m_came m_by m_queue m_kind m_parts m_wanted m_allowed m_bitOf m_met m_row m_narrows m_narrow m_isMade) → va_S A s.heap H locs → lv_has ls 3 [] → W p l e0 rmX11_alike s m ar below meth c H locs 0 0 Q (F0 m 30 ls [.int s0]) := by
    intro s0 m_many m_figures H locs ls hf hP hD hS hl
    unfold f_X11_alike_J30 at hf
    obtain rfl := Option.some.inj hf
    exact hQ () 30 _ _ _ dX11_alike_30 hP hD hS
  refine lv_lload_n hx hb dX11_alike_0 rfl (lv_at hl 1 rfl) ?_
  refine lv_lconst (v := (0 : Int64)) hx hb dX11_alike_1 (by decide) ?_
  refine lv_ldc2 (v := (1000000000000000 : Int64)) hx hb hown fk68 dX11_alike_2 ?_
  obtain ⟨r1, hc2, hf⟩ := ob_some hf
  refine kc_i (k_runS ⟨hx, hb, hml, hown, hts⟩ (c_X11_in hc2) (va_cwS 3 hts gX11_alike_X11_in rfl rfl rfl (by decide +kernel) ⟨Nat.le_of_ble_eq_true rfl, Nat.le_of_ble_eq_true rfl⟩) hK hN hP hD kA_0 rfl hl.1 rfl (Nat.le_of_ble_eq_true rfl) dX11_alike_5 ⟨Nat.le_of_ble_eq_true rfl, Nat.le_of_ble_eq_true rfl⟩) hP hD hS hA kI_0 (fun _ H locs hP hD hS => ?_)
  refine lv_if_ne (tgt := 15) hx hb dX11_alike_8 (by decide) (fun c3 => ?_) (fun c3 => ?_)
  · have hf := if_f hf c3
    refine lv_aload_n hx hb dX11_alike_15 rfl (lv_at hl 0 rfl) ?_
    refine lv_lload_n hx hb dX11_alike_16 rfl (lv_at hl 1 rfl) ?_
    obtain ⟨r4, hc5, hf⟩ := ob_some hf
    refine kc_l (k_run ⟨hx, hb, hml, hown, hts⟩ (c_X11_turned hc5) (cwV 1 hts gX11_alike_X11_turned rfl rfl rfl (by decide +kernel) ⟨Nat.le_of_ble_eq_true rfl, Nat.le_of_ble_eq_true rfl⟩) hK hN hP hD kA_s (ci := 11) (q0 := 0) rfl rfl rfl rfl hl.1 rfl (Nat.le_of_ble_eq_true rfl) dX11_alike_17 ⟨Nat.le_of_ble_eq_true rfl, Nat.le_of_ble_eq_true rfl⟩) hP hD hS hA kI_s (fun _ H locs hP hD hS => ?_)
    refine lv_lload_n hx hb dX11_alike_20 rfl (lv_at hl 1 rfl) ?_
    refine kl_ne (tgt := 29) hx hb dX11_alike_21 dX11_alike_22 (by decide) (fun c6 => ?_) (fun c6 => ?_)
    · have hf := if_f hf c6
      refine lv_iconst (v := (0 : Int32)) hx hb dX11_alike_29 (by decide) ?_
      exact hJ30 (0 : Int32) r4.2.1 r4.2.2 _ _ _ hf hP hD hS (lv_sub hl [] rfl)
    · have hf := if_t hf c6
      refine lv_iconst (v := (1 : Int32)) hx hb dX11_alike_25 (by decide) ?_
      refine lv_goto (tgt := 30) hx hb dX11_alike_26 (by decide) ?_
      exact hJ30 (1 : Int32) r4.2.1 r4.2.2 _ _ _ hf hP hD hS (lv_sub hl [] rfl)
  · have hf := if_t hf c3
    refine lv_iconst (v := (-1 : Int32)) hx hb dX11_alike_11 (by decide) ?_
    refine lv_goto (tgt := 30) hx hb dX11_alike_12 (by decide) ?_
    exact hJ30 (-1 : Int32) m_many m_figures _ _ _ hf hP hD hS (lv_sub hl [] rfl)
def f_X11_alikes_J22 (F : Nat) (s0 : Int64) (m_many : Int32) (m_figures : Nat → Int32) : Option (Int64 × Int32 × (Nat → Int32)) := some (s0, m_many, m_figures)
def f_X11_alikes (F : Nat) (a1 : Int64) (m_base : Int32) (m_many : Int32) (m_figures : Nat → Int32) : Option (Int64 × Int32 × (Nat → Int32)) := (f_X11_in F a1 (0 : Int64) (1000000000000000 : Int64)).bind (fun r1 => if r1 = 0 then (f_X11_alikes_J22 F (-1 : Int64) m_many m_figures) else ((f_X11_alikesTo F a1 m_base m_many m_figures).bind (fun r4 => f_X11_alikes_J22 F r4.1 r4.2.1 r4.2.2)))
abbrev rmX11_alikes : Room := { frames := 3, cells := 0, slots := 0, locals := 72 }
set_option maxHeartbeats 1000000 in
set_option maxRecDepth 100000 in
theorem c_X11_alikes {l : Launch} {D : va_G} {cy : Nat → ClassId} {qM : Nat → Nat} {m_base : Int32} {m_f : Nat → Int32} {m_many : Int32} {m_figures : Nat → Int32} {m_tail : Int32} {m_round : Int32} {m_rounds : Int32} {m_leasts : Nat → Int64} {m_likes : Int32} {m_like : Nat → Int32} {m_isTwo : Nat → Int32} {m_came : Nat → Int32} {m_by : Nat → Int32} {m_queue : Nat → Int32} {m_kind : Int32} {m_parts : Int32} {m_wanted : Int32} {m_allowed : Int32} {m_bitOf : Nat → Int32} {m_met : Int32} {m_row : Nat → Int32} {m_narrows : Int32} {m_narrow : Nat → Int64} {m_isMade : Nat → Int32} {a1 : Int64} {F : Nat} {res : Int64 × Int32 × (Nat → Int32)} (hf : f_X11_alikes F a1 m_base m_many m_figures = some res) : kM l yX11_alikes wsX11_alikes rmX11_alikes D cy [.ref (qM 0), .long a1] (gM cy qM m_base m_f m_many m_figures m_tail m_round m_rounds m_leasts m_likes m_like m_isTwo m_came m_by m_queue m_kind m_parts m_wanted m_allowed m_bitOf m_met m_row m_narrows m_narrow m_isMade) (kQl D cy (fun _ : Unit => gM cy qM m_base m_f res.2.1 res.2.2 m_tail m_round m_rounds m_leasts m_likes m_like m_isTwo m_came m_by m_queue m_kind m_parts m_wanted m_allowed m_bitOf m_met m_row m_narrows m_narrow m_isMade) res.1) := by
  refine kent_l (cc := cX11_alikes) (maxL := 3) (by decide) rfl (Nat.le_of_ble_eq_true rfl) ?_
  intro p e0 s m ar below meth c A Q ls ⟨hx, hb, hml, hr, hts, hown, hlocks, hnm⟩ hA hK hN hQ hP hD hS hl
  have hl : lv_has ls 3 [(0, .ref (qM 0)), (1, .long a1)] := hl
  have hown : s.vm.findClass RX11 = some m.cls := hown
  have fk68 : (Cond.constantLong RX11 68 (1000000000000000)).before ar s = true := hts _ (by decide +kernel)
  have fk95 : (Cond.constantLong RX11 95 (-1)).before ar s = true := hts _ (by decide +kernel)
  unfold f_X11_alikes at hf
  have hJ22 : ∀ (s0 : Int64) (m_many : Int32) (m_figures : Nat → Int32) (H : Heap) (locs : List Loc) (ls : Array Slot), f_X11_alikes_J22 F s0 m_many m_figures = some res → va_P D vwCl (gM cy qM m_base m_f m_many m_figures m_tail m_round m_rounds m_leasts m_likes m_like m_isTwo m_came m_by m_queue m_kind m_parts m_wanted m_allowed m_bitOf m_met m_row m_narrows m_narrow m_isMade) H → va_D A (gM cy qM m_base m_f m_many m_figures m_tail m_round m_rounds m_leasts m_likes m_like m_isTwo m_came m_by m_queue m_kind m_parts m_wanted m_allowed m_bitOf m_met m_row m_narrows m_narrow m_isMade) → va_S A s.heap H locs → lv_has ls 3 [] → W p l e0 rmX11_alikes s m ar below meth c H locs 0 0 Q (F0 m 22 ls [.long s0]) := by
    intro s0 m_many m_figures H locs ls hf hP hD hS hl
    unfold f_X11_alikes_J22 at hf
    obtain rfl := Option.some.inj hf
    exact hQ () 22 _ _ _ dX11_alikes_22 hP hD hS
  refine lv_lload_n hx hb dX11_alikes_0 rfl (lv_at hl 1 rfl) ?_
  refine lv_lconst (v := (0 : Int64)) hx hb dX11_alikes_1 (by decide) ?_
  refine lv_ldc2 (v := (1000000000000000 : Int64)) hx hb hown fk68 dX11_alikes_2 ?_
  obtain ⟨r1, hc2, hf⟩ := ob_some hf
  refine kc_i (k_runS ⟨hx, hb, hml, hown, hts⟩ (c_X11_in hc2) (va_cwS 3 hts gX11_alikes_X11_in rfl rfl rfl (by decide +kernel) ⟨Nat.le_of_ble_eq_true rfl, Nat.le_of_ble_eq_true rfl⟩) hK hN hP hD kA_0 rfl hl.1 rfl (Nat.le_of_ble_eq_true rfl) dX11_alikes_5 ⟨Nat.le_of_ble_eq_true rfl, Nat.le_of_ble_eq_true rfl⟩) hP hD hS hA kI_0 (fun _ H locs hP hD hS => ?_)
  refine lv_if_eq (tgt := 19) hx hb dX11_alikes_8 (by decide) (fun c3 => ?_) (fun c3 => ?_)
  · have hf := if_t hf c3
    refine lv_ldc2 (v := (-1 : Int64)) hx hb hown fk95 dX11_alikes_19 ?_
    exact hJ22 (-1 : Int64) m_many m_figures _ _ _ hf hP hD hS (lv_sub hl [] rfl)
  · have hf := if_f hf c3
    refine lv_aload_n hx hb dX11_alikes_11 rfl (lv_at hl 0 rfl) ?_
    refine lv_lload_n hx hb dX11_alikes_12 rfl (lv_at hl 1 rfl) ?_
    obtain ⟨r4, hc5, hf⟩ := ob_some hf
    refine kc_l (k_run ⟨hx, hb, hml, hown, hts⟩ (c_X11_alikesTo hc5) (cwV 1 hts gX11_alikes_X11_alikesTo rfl rfl rfl (by decide +kernel) ⟨Nat.le_of_ble_eq_true rfl, Nat.le_of_ble_eq_true rfl⟩) hK hN hP hD kA_s (ci := 11) (q0 := 0) rfl rfl rfl rfl hl.1 rfl (Nat.le_of_ble_eq_true rfl) dX11_alikes_13 ⟨Nat.le_of_ble_eq_true rfl, Nat.le_of_ble_eq_true rfl⟩) hP hD hS hA kI_s (fun _ H locs hP hD hS => ?_)
    refine lv_goto (tgt := 22) hx hb dX11_alikes_16 (by decide) ?_
    exact hJ22 r4.1 r4.2.1 r4.2.2 _ _ _ hf hP hD hS (lv_sub hl [] rfl)
def f_X11_alikeAt_J17 (F : Nat) (s0 : Int64) (m_many : Int32) (m_figures : Nat → Int32) : Option (Int64 × Int32 × (Nat → Int32)) := some (s0, m_many, m_figures)
def f_X11_alikeAt (F : Nat) (a1 : Int64) (m_base : Int32) (m_many : Int32) (m_figures : Nat → Int32) : Option (Int64 × Int32 × (Nat → Int32)) := if (0 : Int64) ≤ a1 then ((f_X11_alikeOf F a1 m_base m_many m_figures).bind (fun r2 => f_X11_alikeAt_J17 F r2.1 r2.2.1 r2.2.2)) else (f_X11_alikeAt_J17 F (-1 : Int64) m_many m_figures)
abbrev rmX11_alikeAt : Room := { frames := 3, cells := 0, slots := 0, locals := 73 }
set_option maxHeartbeats 1000000 in
set_option maxRecDepth 100000 in
theorem c_X11_alikeAt {l : Launch} {D : va_G} {cy : Nat → ClassId} {qM : Nat → Nat} {m_base : Int32} {m_f : Nat → Int32} {m_many : Int32} {m_figures : Nat → Int32} {m_tail : Int32} {m_round : Int32} {m_rounds : Int32} {m_leasts : Nat → Int64} {m_likes : Int32} {m_like : Nat → Int32} {m_isTwo : Nat → Int32} {m_came : Nat → Int32} {m_by : Nat → Int32} {m_queue : Nat → Int32} {m_kind : Int32} {m_parts : Int32} {m_wanted : Int32} {m_allowed : Int32} {m_bitOf : Nat → Int32} {m_met : Int32} {m_row : Nat → Int32} {m_narrows : Int32} {m_narrow : Nat → Int64} {m_isMade : Nat → Int32} {a1 : Int64} {F : Nat} {res : Int64 × Int32 × (Nat → Int32)} (hf : f_X11_alikeAt F a1 m_base m_many m_figures = some res) : kM l yX11_alikeAt wsX11_alikeAt rmX11_alikeAt D cy [.ref (qM 0), .long a1] (gM cy qM m_base m_f m_many m_figures m_tail m_round m_rounds m_leasts m_likes m_like m_isTwo m_came m_by m_queue m_kind m_parts m_wanted m_allowed m_bitOf m_met m_row m_narrows m_narrow m_isMade) (kQl D cy (fun _ : Unit => gM cy qM m_base m_f res.2.1 res.2.2 m_tail m_round m_rounds m_leasts m_likes m_like m_isTwo m_came m_by m_queue m_kind m_parts m_wanted m_allowed m_bitOf m_met m_row m_narrows m_narrow m_isMade) res.1) := by
  refine kent_l (cc := cX11_alikeAt) (maxL := 3) (by decide) rfl (Nat.le_of_ble_eq_true rfl) ?_
  intro p e0 s m ar below meth c A Q ls ⟨hx, hb, hml, hr, hts, hown, hlocks, hnm⟩ hA hK hN hQ hP hD hS hl
  have hl : lv_has ls 3 [(0, .ref (qM 0)), (1, .long a1)] := hl
  have hown : s.vm.findClass RX11 = some m.cls := hown
  have fk95 : (Cond.constantLong RX11 95 (-1)).before ar s = true := hts _ (by decide +kernel)
  unfold f_X11_alikeAt at hf
  have hJ17 : ∀ (s0 : Int64) (m_many : Int32) (m_figures : Nat → Int32) (H : Heap) (locs : List Loc) (ls : Array Slot), f_X11_alikeAt_J17 F s0 m_many m_figures = some res → va_P D vwCl (gM cy qM m_base m_f m_many m_figures m_tail m_round m_rounds m_leasts m_likes m_like m_isTwo m_came m_by m_queue m_kind m_parts m_wanted m_allowed m_bitOf m_met m_row m_narrows m_narrow m_isMade) H → va_D A (gM cy qM m_base m_f m_many m_figures m_tail m_round m_rounds m_leasts m_likes m_like m_isTwo m_came m_by m_queue m_kind m_parts m_wanted m_allowed m_bitOf m_met m_row m_narrows m_narrow m_isMade) → va_S A s.heap H locs → lv_has ls 3 [] → W p l e0 rmX11_alikeAt s m ar below meth c H locs 0 0 Q (F0 m 17 ls [.long s0]) := by
    intro s0 m_many m_figures H locs ls hf hP hD hS hl
    unfold f_X11_alikeAt_J17 at hf
    obtain rfl := Option.some.inj hf
    exact hQ () 17 _ _ _ dX11_alikeAt_17 hP hD hS
  refine lv_lload_n hx hb dX11_alikeAt_0 rfl (lv_at hl 1 rfl) ?_
  refine lv_lconst (v := (0 : Int64)) hx hb dX11_alikeAt_1 (by decide) ?_
  refine kl_ge (tgt := 12) hx hb dX11_alikeAt_2 dX11_alikeAt_3 (by decide) (fun c1 => ?_) (fun c1 => ?_)
  · have hf := if_t hf c1
    refine lv_aload_n hx hb dX11_alikeAt_12 rfl (lv_at hl 0 rfl) ?_
    refine lv_lload_n hx hb dX11_alikeAt_13 rfl (lv_at hl 1 rfl) ?_
    obtain ⟨r2, hc3, hf⟩ := ob_some hf
    refine kc_l (k_run ⟨hx, hb, hml, hown, hts⟩ (c_X11_alikeOf hc3) (cwV 1 hts gX11_alikeAt_X11_alikeOf rfl rfl rfl (by decide +kernel) ⟨Nat.le_of_ble_eq_true rfl, Nat.le_of_ble_eq_true rfl⟩) hK hN hP hD kA_s (ci := 11) (q0 := 0) rfl rfl rfl rfl hl.1 rfl (Nat.le_of_ble_eq_true rfl) dX11_alikeAt_14 ⟨Nat.le_of_ble_eq_true rfl, Nat.le_of_ble_eq_true rfl⟩) hP hD hS hA kI_s (fun _ H locs hP hD hS => ?_)
    exact hJ17 r2.1 r2.2.1 r2.2.2 _ _ _ hf hP hD hS (lv_sub hl [] rfl)
  · have hf := if_f hf c1
    refine lv_ldc2 (v := (-1 : Int64)) hx hb hown fk95 dX11_alikeAt_6 ?_
    refine lv_goto (tgt := 17) hx hb dX11_alikeAt_9 (by decide) ?_
    exact hJ17 (-1 : Int64) m_many m_figures _ _ _ hf hP hD hS (lv_sub hl [] rfl)
def f_X11_next_J28 (F : Nat) (s0 : Int64) (m_many : Int32) (m_figures : Nat → Int32) : Option (Int64 × Int32 × (Nat → Int32)) := some (s0, m_many, m_figures)
def f_X11_next (F : Nat) (a1 : Int64) (m_base : Int32) (m_many : Int32) (m_figures : Nat → Int32) : Option (Int64 × Int32 × (Nat → Int32)) := (f_X11_in F a1 (0 : Int64) (1000000000000000 : Int64)).bind (fun r1 => if r1 = 0 then (f_X11_next_J28 F (-1 : Int64) m_many m_figures) else ((f_X11_alikesTo F (a1 - (1 : Int64)) m_base m_many m_figures).bind (fun r4 => (f_X11_alikeOf F r4.1 m_base r4.2.1 r4.2.2).bind (fun r6 => f_X11_next_J28 F r6.1 r6.2.1 r6.2.2))))
abbrev rmX11_next : Room := { frames := 3, cells := 0, slots := 0, locals := 73 }
set_option maxHeartbeats 1000000 in
set_option maxRecDepth 100000 in
theorem c_X11_next {l : Launch} {D : va_G} {cy : Nat → ClassId} {qM : Nat → Nat} {m_base : Int32} {m_f : Nat → Int32} {m_many : Int32} {m_figures : Nat → Int32} {m_tail : Int32} {m_round : Int32} {m_rounds : Int32} {m_leasts : Nat → Int64} {m_likes : Int32} {m_like : Nat → Int32} {m_isTwo : Nat → Int32} {m_came : Nat → Int32} {m_by : Nat → Int32} {m_queue : Nat → Int32} {m_kind : Int32} {m_parts : Int32} {m_wanted : Int32} {m_allowed : Int32} {m_bitOf : Nat → Int32} {m_met : Int32} {m_row : Nat → Int32} {m_narrows : Int32} {m_narrow : Nat → Int64} {m_isMade : Nat → Int32} {a1 : Int64} {F : Nat} {res : Int64 × Int32 × (Nat → Int32)} (hf : f_X11_next F a1 m_base m_many m_figures = some res) : kM l yX11_next wsX11_next rmX11_next D cy [.ref (qM 0), .long a1] (gM cy qM m_base m_f m_many m_figures m_tail m_round m_rounds m_leasts m_likes m_like m_isTwo m_came m_by m_queue m_kind m_parts m_wanted m_allowed m_bitOf m_met m_row m_narrows m_narrow m_isMade) (kQl D cy (fun _ : Unit => gM cy qM m_base m_f res.2.1 res.2.2 m_tail m_round m_rounds m_leasts m_likes m_like m_isTwo m_came m_by m_queue m_kind m_parts m_wanted m_allowed m_bitOf m_met m_row m_narrows m_narrow m_isMade) res.1) := by
  refine kent_l (cc := cX11_next) (maxL := 3) (by decide) rfl (Nat.le_of_ble_eq_true rfl) ?_
  intro p e0 s m ar below meth c A Q ls ⟨hx, hb, hml, hr, hts, hown, hlocks, hnm⟩ hA hK hN hQ hP hD hS hl
  have hl : lv_has ls 3 [(0, .ref (qM 0)), (1, .long a1)] := hl
  have hown : s.vm.findClass RX11 = some m.cls := hown
  have fk68 : (Cond.constantLong RX11 68 (1000000000000000)).before ar s = true := hts _ (by decide +kernel)
  have fk95 : (Cond.constantLong RX11 95 (-1)).before ar s = true := hts _ (by decide +kernel)
  unfold f_X11_next at hf
  have hJ28 : ∀ (s0 : Int64) (m_many : Int32) (m_figures : Nat → Int32) (H : Heap) (locs : List Loc) (ls : Array Slot), f_X11_next_J28 F s0 m_many m_figures = some res → va_P D vwCl (gM cy qM m_base m_f m_many m_figures m_tail m_round m_rounds m_leasts m_likes m_like m_isTwo m_came m_by m_queue m_kind m_parts m_wanted m_allowed m_bitOf m_met m_row m_narrows m_narrow m_isMade) H → va_D A (gM cy qM m_base m_f m_many m_figures m_tail m_round m_rounds m_leasts m_likes m_like m_isTwo m_came m_by m_queue m_kind m_parts m_wanted m_allowed m_bitOf m_met m_row m_narrows m_narrow m_isMade) → va_S A s.heap H locs → lv_has ls 3 [] → W p l e0 rmX11_next s m ar below meth c H locs 0 0 Q (F0 m 28 ls [.long s0]) := by
    intro s0 m_many m_figures H locs ls hf hP hD hS hl
    unfold f_X11_next_J28 at hf
    obtain rfl := Option.some.inj hf
    exact hQ () 28 _ _ _ dX11_next_28 hP hD hS
  refine lv_lload_n hx hb dX11_next_0 rfl (lv_at hl 1 rfl) ?_
  refine lv_lconst (v := (0 : Int64)) hx hb dX11_next_1 (by decide) ?_
  refine lv_ldc2 (v := (1000000000000000 : Int64)) hx hb hown fk68 dX11_next_2 ?_
  obtain ⟨r1, hc2, hf⟩ := ob_some hf
  refine kc_i (k_runS ⟨hx, hb, hml, hown, hts⟩ (c_X11_in hc2) (va_cwS 3 hts gX11_next_X11_in rfl rfl rfl (by decide +kernel) ⟨Nat.le_of_ble_eq_true rfl, Nat.le_of_ble_eq_true rfl⟩) hK hN hP hD kA_0 rfl hl.1 rfl (Nat.le_of_ble_eq_true rfl) dX11_next_5 ⟨Nat.le_of_ble_eq_true rfl, Nat.le_of_ble_eq_true rfl⟩) hP hD hS hA kI_0 (fun _ H locs hP hD hS => ?_)
  refine lv_if_eq (tgt := 25) hx hb dX11_next_8 (by decide) (fun c3 => ?_) (fun c3 => ?_)
  · have hf := if_t hf c3
    refine lv_ldc2 (v := (-1 : Int64)) hx hb hown fk95 dX11_next_25 ?_
    exact hJ28 (-1 : Int64) m_many m_figures _ _ _ hf hP hD hS (lv_sub hl [] rfl)
  · have hf := if_f hf c3
    refine lv_aload_n hx hb dX11_next_11 rfl (lv_at hl 0 rfl) ?_
    refine lv_aload_n hx hb dX11_next_12 rfl (lv_at hl 0 rfl) ?_
    refine lv_lload_n hx hb dX11_next_13 rfl (lv_at hl 1 rfl) ?_
    refine lv_lconst (v := (1 : Int64)) hx hb dX11_next_14 (by decide) ?_
    refine lv_lsub hx hb dX11_next_15 ?_
    obtain ⟨r4, hc5, hf⟩ := ob_some hf
    refine kc_l (k_run ⟨hx, hb, hml, hown, hts⟩ (c_X11_alikesTo hc5) (cwV 1 hts gX11_next_X11_alikesTo rfl rfl rfl (by decide +kernel) ⟨Nat.le_of_ble_eq_true rfl, Nat.le_of_ble_eq_true rfl⟩) hK hN hP hD kA_s (ci := 11) (q0 := 0) rfl rfl rfl rfl hl.1 rfl (Nat.le_of_ble_eq_true rfl) dX11_next_16 ⟨Nat.le_of_ble_eq_true rfl, Nat.le_of_ble_eq_true rfl⟩) hP hD hS hA kI_s (fun _ H locs hP hD hS => ?_)
    obtain ⟨r6, hc7, hf⟩ := ob_some hf
    refine kc_l (k_run ⟨hx, hb, hml, hown, hts⟩ (c_X11_alikeOf hc7) (cwV 1 hts gX11_next_X11_alikeOf rfl rfl rfl (by decide +kernel) ⟨Nat.le_of_ble_eq_true rfl, Nat.le_of_ble_eq_true rfl⟩) hK hN hP hD kA_s (ci := 11) (q0 := 0) rfl rfl rfl rfl hl.1 rfl (Nat.le_of_ble_eq_true rfl) dX11_next_19 ⟨Nat.le_of_ble_eq_true rfl, Nat.le_of_ble_eq_true rfl⟩) hP hD hS hA kI_s (fun _ H locs hP hD hS => ?_)
    refine lv_goto (tgt := 28) hx hb dX11_next_22 (by decide) ?_
    exact hJ28 r6.1 r6.2.1 r6.2.2 _ _ _ hf hP hD hS (lv_sub hl [] rfl)
