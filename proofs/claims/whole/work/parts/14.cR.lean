/-! the class: functions and contracts -/
def f_X3_isMirror_B12 (F : Nat) (x3 : Int32) (g_row : Nat → Int32) (rec : Int32 → Option ((Int32 × (Nat → Int32)) ⊕ (Unit))) (x : Int32) : Option ((Int32 × (Nat → Int32)) ⊕ (Unit)) := ck (¬ (2 : Int32) = 0) (if (x3 / (2 : Int32)) ≤ x then (some (.inr ())) else (ck (¬ (x < 0 ∨ 64 ≤ x.toNatClampNeg)) (ck (¬ (((x3 - (1 : Int32)) - x) < 0 ∨ 64 ≤ ((x3 - (1 : Int32)) - x).toNatClampNeg)) (if (g_row x.toNatClampNeg) = (g_row ((x3 - (1 : Int32)) - x).toNatClampNeg) then (rec (x + (1 : Int32))) else (some (.inl ((0 : Int32), g_row)))))))
def f_X3_isMirror (F : Nat) (a1 : Int64) (g_base : Int32) (g_row : Nat → Int32) : Option (Int32 × (Nat → Int32)) := (f_X1_split F a1 g_base g_row).bind (fun r6 => (lp (f_X3_isMirror_B12 F r6.1 r6.2) F (0 : Int32)).bind (fun ex9 => Sum.elim (fun r => some r) (fun er10 => some ((1 : Int32), r6.2)) ex9))
abbrev rmX3_isMirror : Room := { frames := 1, cells := 0, slots := 0, locals := 25 }
set_option maxHeartbeats 1000000 in
set_option maxRecDepth 100000 in
theorem c_X3_isMirror {l : Launch} {D : va_G} {cy : Nat → ClassId} {qR : Nat → Nat} {qG : Nat → Nat} {g_base : Int32} {g_worth : Nat → Int32} {g_row : Nat → Int32} {g_many : Nat → Int32} {g_version : Int32} {a1 : Int64} {F : Nat} {res : Int32 × (Nat → Int32)} (hf : f_X3_isMirror F a1 g_base g_row = some res) : kM l yX3_isMirror wsX3_isMirror rmX3_isMirror D cy [.ref (qR 0), .long a1] (gR cy qR (qG 0) ++ (gG cy qG g_base g_worth g_row g_many g_version)) (kQi D cy (fun _ : Unit => gR cy qR (qG 0) ++ (gG cy qG g_base g_worth res.2 g_many g_version)) res.1) := by
  refine kent_z (cc := cX3_isMirror) (maxL := 5) (by decide) rfl (Nat.le_of_ble_eq_true rfl) ?_
  intro p e0 s m ar below meth c A Q ls ⟨hx, hb, hml, hr, hts, hown, hlocks, hnm⟩ hA hK hN hQ hP hD hS hl
  have hl : lv_has ls 5 [(0, .ref (qR 0)), (1, .long a1)] := hl
  have hown : s.vm.findClass RX3 = some m.cls := hown
  have huX3 : ∀ x ∈ u_ws RX3 TX3 1, x ∈ wsX3_isMirror := by decide +kernel
  have fk9 : (Cond.fieldLink RX3 9 "FigurePlay$Mirrors" "figures" "LFigurePlay$Figures;").before ar s = true := hts _ (by decide +kernel)
  have huX1 : ∀ x ∈ u_ws RX1 TX1 5, x ∈ wsX3_isMirror := by decide +kernel
  have fk21 : (Cond.fieldLink RX3 21 "FigurePlay$Figures" "row" "[I").before ar s = true := hts _ (by decide +kernel)
  unfold f_X3_isMirror at hf
  have hL12 : ∀ (x3 : Int32) (g_row : Nat → Int32) (k : Nat) (x : Int32) (ex : (Int32 × (Nat → Int32)) ⊕ (Unit)) (H : Heap) (locs : List Loc) (ls : Array Slot), lp (f_X3_isMirror_B12 F x3 g_row) k x = some ex → (∀ r, ex = .inl r → r = res) → (∀ er, ex = .inr er → ∀ (H : Heap) (locs : List Loc) (ls : Array Slot), va_P D vwCl (gR cy qR (qG 0) ++ (gG cy qG g_base g_worth g_row g_many g_version)) H → va_D A (gR cy qR (qG 0) ++ (gG cy qG g_base g_worth g_row g_many g_version)) → va_S A s.heap H locs → lv_has ls 5 [] → W p l e0 rmX3_isMirror s m ar below meth c H locs 0 0 Q (F0 m 55 ls [])) → va_P D vwCl (gR cy qR (qG 0) ++ (gG cy qG g_base g_worth g_row g_many g_version)) H → va_D A (gR cy qR (qG 0) ++ (gG cy qG g_base g_worth g_row g_many g_version)) → va_S A s.heap H locs → lv_has ls 5 [(0, .ref (qR 0)), (3, .int x3), (4, .int x)] → W p l e0 rmX3_isMirror s m ar below meth c H locs 0 0 Q (F0 m 12 ls []) := by
    intro x3 g_row k
    induction k with
    | zero => intro x ex H locs ls hf; exact no_some hf
    | succ k ih =>
      intro x ex H locs ls hf hret hex hP hD hS hl
      have hf : f_X3_isMirror_B12 F x3 g_row (lp (f_X3_isMirror_B12 F x3 g_row) k) x = some ex := hf
      unfold f_X3_isMirror_B12 at hf
      refine lv_iload hx hb dX3_isMirror_12 (lv_at hl 2 rfl) ?_
      refine lv_iload_n hx hb dX3_isMirror_14 rfl (lv_at hl 1 rfl) ?_
      refine lv_iconst (v := (2 : Int32)) hx hb dX3_isMirror_15 (by decide) ?_
      obtain ⟨c1, hf⟩ := ck_some hf
      refine lv_idiv hx hb dX3_isMirror_16 c1 ?_
      refine lv_icmp_ge (tgt := 55) hx hb dX3_isMirror_17 (by decide) (fun c2 => ?_) (fun c2 => ?_)
      · have hf := if_t hf c2
        obtain rfl := Option.some.inj hf
        exact hex _ rfl _ _ _ hP hD hS (lv_sub hl [] rfl)
      · have hf := if_f hf c2
        refine lv_aload_n hx hb dX3_isMirror_20 rfl (lv_at hl 0 rfl) ?_
        refine va_get (v := .ref (qG 0)) (D := D) (ci := 3) (C := RX3) (T := TX3) (N := 1) hx hb hts huX3 hown hK hP 0 rfl rfl 0 (by decide) fk9 (fun _ h9 => h9) rfl dX3_isMirror_21 ?_
        refine va_get (v := .ref (qG 2)) (D := D) (ci := 1) (C := RX1) (T := TX1) (N := 5) hx hb hts huX1 hown hK hP 1 rfl rfl 2 (by decide) fk21 (fun _ h9 => h9) rfl dX3_isMirror_24 ?_
        refine lv_iload hx hb dX3_isMirror_27 (lv_at hl 2 rfl) ?_
        obtain ⟨c3, hf⟩ := ck_some hf
        refine va_iald hx hb hK hP 3 0 rfl rfl c3 dX3_isMirror_29 ?_
        refine lv_aload_n hx hb dX3_isMirror_30 rfl (lv_at hl 0 rfl) ?_
        refine va_get (v := .ref (qG 0)) (D := D) (ci := 3) (C := RX3) (T := TX3) (N := 1) hx hb hts huX3 hown hK hP 0 rfl rfl 0 (by decide) fk9 (fun _ h9 => h9) rfl dX3_isMirror_31 ?_
        refine va_get (v := .ref (qG 2)) (D := D) (ci := 1) (C := RX1) (T := TX1) (N := 5) hx hb hts huX1 hown hK hP 1 rfl rfl 2 (by decide) fk21 (fun _ h9 => h9) rfl dX3_isMirror_34 ?_
        refine lv_iload_n hx hb dX3_isMirror_37 rfl (lv_at hl 1 rfl) ?_
        refine lv_iconst (v := (1 : Int32)) hx hb dX3_isMirror_38 (by decide) ?_
        refine lv_isub hx hb dX3_isMirror_39 ?_
        refine lv_iload hx hb dX3_isMirror_40 (lv_at hl 2 rfl) ?_
        refine lv_isub hx hb dX3_isMirror_42 ?_
        obtain ⟨c4, hf⟩ := ck_some hf
        refine va_iald hx hb hK hP 3 0 rfl rfl c4 dX3_isMirror_43 ?_
        refine lv_icmp_eq (tgt := 49) hx hb dX3_isMirror_44 (by decide) (fun c5 => ?_) (fun c5 => ?_)
        · have hf := if_t hf c5
          refine lv_iinc (v := (x + (1 : Int32))) (lv' := [(4, .int (x + (1 : Int32))), (0, .ref (qR 0)), (3, .int x3)]) hx hb dX3_isMirror_49 hl (k := 2) rfl rfl (by decide) rfl (fun ls hl => ?_)
          refine lv_goto (tgt := 12) hx hb dX3_isMirror_52 (by decide) ?_
          exact ih (x + (1 : Int32)) ex _ _ _ hf hret hex hP hD hS (lv_sub hl [1, 2, 0] rfl)
        · have hf := if_f hf c5
          refine lv_iconst (v := (0 : Int32)) hx hb dX3_isMirror_47 (by decide) ?_
          obtain rfl := Option.some.inj hf
          obtain rfl := hret _ rfl
          exact hQ () 48 _ _ _ (show (0 : Int32) &&& 1 = (0 : Int32) from by decide) dX3_isMirror_48 hP hD hS
  refine lv_aload_n hx hb dX3_isMirror_0 rfl (lv_at hl 0 rfl) ?_
  refine va_get (v := .ref (qG 0)) (D := D) (ci := 3) (C := RX3) (T := TX3) (N := 1) hx hb hts huX3 hown hK hP 0 rfl rfl 0 (by decide) fk9 (fun _ h9 => h9) rfl dX3_isMirror_1 ?_
  refine lv_lload_n hx hb dX3_isMirror_4 rfl (lv_at hl 1 rfl) ?_
  obtain ⟨r6, hc7, hf⟩ := ob_some hf
  have hI8 : kIn (gR cy qR (qG 0) ++ (gG cy qG g_base g_worth g_row g_many g_version)) (gG cy qG g_base g_worth g_row g_many g_version) (kpick (gR cy qR (qG 0) ++ (gG cy qG g_base g_worth g_row g_many g_version)) [0]) (fun _ : Unit => gG cy qG g_base g_worth r6.2 g_many g_version) (fun _ : Unit => gR cy qR (qG 0) ++ (gG cy qG g_base g_worth r6.2 g_many g_version)) [1, 2, 3, 4] [0] [0, 1, 2, 3, 4] := ⟨rfl, rfl, rfl, rfl, by decide, rfl, fun _ => rfl⟩
  refine kc_i (k_run ⟨hx, hb, hml, hown, hts⟩ (c_X1_split hc7) (cwV 1 hts gX3_isMirror_X1_split rfl rfl rfl (by decide +kernel) ⟨Nat.le_of_ble_eq_true rfl, Nat.le_of_ble_eq_true rfl⟩) hK hN hP hD ⟨hI8.1, hI8.2.2.1⟩ (ci := 1) (q0 := 0) rfl rfl rfl rfl hl.1 rfl (Nat.le_of_ble_eq_true rfl) dX3_isMirror_5 ⟨Nat.le_of_ble_eq_true rfl, Nat.le_of_ble_eq_true rfl⟩) hP hD hS hA hI8 (fun _ H locs hP hD hS => ?_)
  refine lv_istore_n (lv' := [(3, .int r6.1), (0, .ref (qR 0)), (1, .long a1)]) hx hb dX3_isMirror_8 rfl hl (by decide) rfl (fun ls hl => ?_)
  refine lv_iconst (v := (0 : Int32)) hx hb dX3_isMirror_9 (by decide) ?_
  refine lv_istore (lv' := [(4, .int (0 : Int32)), (3, .int r6.1), (0, .ref (qR 0)), (1, .long a1)]) hx hb dX3_isMirror_10 hl (by decide) rfl (fun ls hl => ?_)
  obtain ⟨ex9, hcl, hf⟩ := ob_some hf
  refine hL12 r6.1 r6.2 F (0 : Int32) ex9 _ _ _ hcl (fun r hr0 => ?_) (fun er10 hr0 H locs ls hP hD hS hl => ?_) hP hD hS (lv_sub hl [2, 1, 0] rfl)
  · subst hr0; exact Option.some.inj (sm_inl hf)
  · subst hr0
    have hf := sm_inr hf
    refine lv_iconst (v := (1 : Int32)) hx hb dX3_isMirror_55 (by decide) ?_
    obtain rfl := Option.some.inj hf
    exact hQ () 56 _ _ _ (show (1 : Int32) &&& 1 = (1 : Int32) from by decide) dX3_isMirror_56 hP hD hS
def f_X3_halfOf_B6 (F : Nat) (a3 : Int32) (g_base : Int32) (rec : Int64 × Int32 → Option (Int64)) (x : Int64 × Int32) : Option (Int64) := ck (¬ (2 : Int32) = 0) (if (a3 / (2 : Int32)) ≤ x.2 then (some x.1) else (ck (¬ g_base.toInt64 = 0) (rec ((x.1 / g_base.toInt64), (x.2 + (1 : Int32))))))
def f_X3_halfOf (F : Nat) (a1 : Int64) (a3 : Int32) (g_base : Int32) : Option (Int64) := (lp (f_X3_halfOf_B6 F a3 g_base) F (a1, (0 : Int32))).bind (fun ex4 => some ex4)
abbrev rmX3_halfOf : Room := { frames := 0, cells := 0, slots := 0, locals := 0 }
set_option maxHeartbeats 1000000 in
set_option maxRecDepth 100000 in
theorem c_X3_halfOf {l : Launch} {D : va_G} {cy : Nat → ClassId} {qR : Nat → Nat} {qG : Nat → Nat} {g_base : Int32} {g_worth : Nat → Int32} {g_row : Nat → Int32} {g_many : Nat → Int32} {g_version : Int32} {a1 : Int64} {a3 : Int32} {F : Nat} {res : Int64} (hf : f_X3_halfOf F a1 a3 g_base = some res) : kM l yX3_halfOf wsX3_halfOf rmX3_halfOf D cy [.ref (qR 0), .long a1, .int a3] (gR cy qR (qG 0) ++ (gG cy qG g_base g_worth g_row g_many g_version)) (kQl D cy (fun _ : Unit => gR cy qR (qG 0) ++ (gG cy qG g_base g_worth g_row g_many g_version)) res) := by
  refine kent_l (cc := cX3_halfOf) (maxL := 7) (by decide) rfl (Nat.le_of_ble_eq_true rfl) ?_
  intro p e0 s m ar below meth c A Q ls ⟨hx, hb, hml, hr, hts, hown, hlocks, hnm⟩ hA hK hN hQ hP hD hS hl
  have hl : lv_has ls 7 [(0, .ref (qR 0)), (1, .long a1), (3, .int a3)] := hl
  have hown : s.vm.findClass RX3 = some m.cls := hown
  have huX3 : ∀ x ∈ u_ws RX3 TX3 1, x ∈ wsX3_halfOf := by decide +kernel
  have fk9 : (Cond.fieldLink RX3 9 "FigurePlay$Mirrors" "figures" "LFigurePlay$Figures;").before ar s = true := hts _ (by decide +kernel)
  have huX1 : ∀ x ∈ u_ws RX1 TX1 5, x ∈ wsX3_halfOf := by decide +kernel
  have fk47 : (Cond.fieldLink RX3 47 "FigurePlay$Figures" "base" "I").before ar s = true := hts _ (by decide +kernel)
  unfold f_X3_halfOf at hf
  have hL6 : ∀ (k : Nat) (x : Int64 × Int32) (ex : Int64) (H : Heap) (locs : List Loc) (ls : Array Slot), lp (f_X3_halfOf_B6 F a3 g_base) k x = some ex → (∀ (H : Heap) (locs : List Loc) (ls : Array Slot), va_P D vwCl (gR cy qR (qG 0) ++ (gG cy qG g_base g_worth g_row g_many g_version)) H → va_D A (gR cy qR (qG 0) ++ (gG cy qG g_base g_worth g_row g_many g_version)) → va_S A s.heap H locs → lv_has ls 7 [(4, .long ex)] → W p l e0 rmX3_halfOf s m ar below meth c H locs 0 0 Q (F0 m 33 ls [])) → va_P D vwCl (gR cy qR (qG 0) ++ (gG cy qG g_base g_worth g_row g_many g_version)) H → va_D A (gR cy qR (qG 0) ++ (gG cy qG g_base g_worth g_row g_many g_version)) → va_S A s.heap H locs → lv_has ls 7 [(0, .ref (qR 0)), (3, .int a3), (4, .long x.1), (6, .int x.2)] → W p l e0 rmX3_halfOf s m ar below meth c H locs 0 0 Q (F0 m 6 ls []) := by
    intro k
    induction k with
    | zero => intro x ex H locs ls hf; exact no_some hf
    | succ k ih =>
      intro x ex H locs ls hf hex hP hD hS hl
      have hf : f_X3_halfOf_B6 F a3 g_base (lp (f_X3_halfOf_B6 F a3 g_base) k) x = some ex := hf
      unfold f_X3_halfOf_B6 at hf
      refine lv_iload hx hb dX3_halfOf_6 (lv_at hl 3 rfl) ?_
      refine lv_iload_n hx hb dX3_halfOf_8 rfl (lv_at hl 1 rfl) ?_
      refine lv_iconst (v := (2 : Int32)) hx hb dX3_halfOf_9 (by decide) ?_
      obtain ⟨c1, hf⟩ := ck_some hf
      refine lv_idiv hx hb dX3_halfOf_10 c1 ?_
      refine lv_icmp_ge (tgt := 33) hx hb dX3_halfOf_11 (by decide) (fun c2 => ?_) (fun c2 => ?_)
      · have hf := if_t hf c2
        obtain rfl := Option.some.inj hf
        exact hex _ _ _ hP hD hS (lv_sub hl [2] rfl)
      · have hf := if_f hf c2
        refine lv_lload hx hb dX3_halfOf_14 (lv_at hl 2 rfl) ?_
        refine lv_aload_n hx hb dX3_halfOf_16 rfl (lv_at hl 0 rfl) ?_
        refine va_get (v := .ref (qG 0)) (D := D) (ci := 3) (C := RX3) (T := TX3) (N := 1) hx hb hts huX3 hown hK hP 0 rfl rfl 0 (by decide) fk9 (fun _ h9 => h9) rfl dX3_halfOf_17 ?_
        refine va_get (D := D) (ci := 1) (C := RX1) (T := TX1) (N := 5) hx hb hts huX1 hown hK hP 1 rfl rfl 0 (by decide) fk47 (fun _ h9 => h9) rfl dX3_halfOf_20 ?_
        refine lv_i2l hx hb dX3_halfOf_23 rfl ?_
        obtain ⟨c3, hf⟩ := ck_some hf
        refine lv_ldiv hx hb dX3_halfOf_24 c3 ?_
        refine lv_lstore (lv' := [(4, .long (x.1 / g_base.toInt64)), (0, .ref (qR 0)), (3, .int a3), (6, .int x.2)]) hx hb dX3_halfOf_25 hl (by decide) rfl (fun ls hl => ?_)
        refine lv_iinc (v := (x.2 + (1 : Int32))) (lv' := [(6, .int (x.2 + (1 : Int32))), (4, .long (x.1 / g_base.toInt64)), (0, .ref (qR 0)), (3, .int a3)]) hx hb dX3_halfOf_27 hl (k := 3) rfl rfl (by decide) rfl (fun ls hl => ?_)
        refine lv_goto (tgt := 6) hx hb dX3_halfOf_30 (by decide) ?_
        exact ih ((x.1 / g_base.toInt64), (x.2 + (1 : Int32))) ex _ _ _ hf hex hP hD hS (lv_sub hl [2, 3, 1, 0] rfl)
  refine lv_lload_n hx hb dX3_halfOf_0 rfl (lv_at hl 1 rfl) ?_
  refine lv_lstore (lv' := [(4, .long a1), (0, .ref (qR 0)), (1, .long a1), (3, .int a3)]) hx hb dX3_halfOf_1 hl (by decide) rfl (fun ls hl => ?_)
  refine lv_iconst (v := (0 : Int32)) hx hb dX3_halfOf_3 (by decide) ?_
  refine lv_istore (lv' := [(6, .int (0 : Int32)), (4, .long a1), (0, .ref (qR 0)), (1, .long a1), (3, .int a3)]) hx hb dX3_halfOf_4 hl (by decide) rfl (fun ls hl => ?_)
  obtain ⟨ex4, hcl, hf⟩ := ob_some hf
  refine hL6 F (a1, (0 : Int32)) ex4 _ _ _ hcl (fun H locs ls hP hD hS hl => ?_) hP hD hS (lv_sub hl [2, 4, 1, 0] rfl)
  refine lv_lload hx hb dX3_halfOf_33 (lv_at hl 0 rfl) ?_
  obtain rfl := Option.some.inj hf
  exact hQ () 35 _ _ _ dX3_halfOf_35 hP hD hS
def f_X3_leastHalf (F : Nat) (a1 : Int32) (g_base : Int32) : Option (Int64) := ck (¬ (2 : Int32) = 0) ((f_X1_power F (((a1 + (1 : Int32)) / (2 : Int32)) - (1 : Int32)) g_base).bind (fun r2 => some r2))
abbrev rmX3_leastHalf : Room := { frames := 1, cells := 0, slots := 0, locals := 24 }
set_option maxHeartbeats 1000000 in
set_option maxRecDepth 100000 in
theorem c_X3_leastHalf {l : Launch} {D : va_G} {cy : Nat → ClassId} {qR : Nat → Nat} {qG : Nat → Nat} {g_base : Int32} {g_worth : Nat → Int32} {g_row : Nat → Int32} {g_many : Nat → Int32} {g_version : Int32} {a1 : Int32} {F : Nat} {res : Int64} (hf : f_X3_leastHalf F a1 g_base = some res) : kM l yX3_leastHalf wsX3_leastHalf rmX3_leastHalf D cy [.ref (qR 0), .int a1] (gR cy qR (qG 0) ++ (gG cy qG g_base g_worth g_row g_many g_version)) (kQl D cy (fun _ : Unit => gR cy qR (qG 0) ++ (gG cy qG g_base g_worth g_row g_many g_version)) res) := by
  refine kent_l (cc := cX3_leastHalf) (maxL := 2) (by decide) rfl (Nat.le_of_ble_eq_true rfl) ?_
  intro p e0 s m ar below meth c A Q ls ⟨hx, hb, hml, hr, hts, hown, hlocks, hnm⟩ hA hK hN hQ hP hD hS hl
  have hl : lv_has ls 2 [(0, .ref (qR 0)), (1, .int a1)] := hl
  have hown : s.vm.findClass RX3 = some m.cls := hown
  have huX3 : ∀ x ∈ u_ws RX3 TX3 1, x ∈ wsX3_leastHalf := by decide +kernel
  have fk9 : (Cond.fieldLink RX3 9 "FigurePlay$Mirrors" "figures" "LFigurePlay$Figures;").before ar s = true := hts _ (by decide +kernel)
  unfold f_X3_leastHalf at hf
  refine lv_aload_n hx hb dX3_leastHalf_0 rfl (lv_at hl 0 rfl) ?_
  refine va_get (v := .ref (qG 0)) (D := D) (ci := 3) (C := RX3) (T := TX3) (N := 1) hx hb hts huX3 hown hK hP 0 rfl rfl 0 (by decide) fk9 (fun _ h9 => h9) rfl dX3_leastHalf_1 ?_
  refine lv_iload_n hx hb dX3_leastHalf_4 rfl (lv_at hl 1 rfl) ?_
  refine lv_iconst (v := (1 : Int32)) hx hb dX3_leastHalf_5 (by decide) ?_
  refine lv_iadd hx hb dX3_leastHalf_6 ?_
  refine lv_iconst (v := (2 : Int32)) hx hb dX3_leastHalf_7 (by decide) ?_
  obtain ⟨c1, hf⟩ := ck_some hf
  refine lv_idiv hx hb dX3_leastHalf_8 c1 ?_
  refine lv_iconst (v := (1 : Int32)) hx hb dX3_leastHalf_9 (by decide) ?_
  refine lv_isub hx hb dX3_leastHalf_10 ?_
  obtain ⟨r2, hc3, hf⟩ := ob_some hf
  have hI4 : kIn (gR cy qR (qG 0) ++ (gG cy qG g_base g_worth g_row g_many g_version)) (gG cy qG g_base g_worth g_row g_many g_version) (kpick (gR cy qR (qG 0) ++ (gG cy qG g_base g_worth g_row g_many g_version)) [0]) (fun _ : Unit => gG cy qG g_base g_worth g_row g_many g_version) (fun _ : Unit => gR cy qR (qG 0) ++ (gG cy qG g_base g_worth g_row g_many g_version)) [1, 2, 3, 4] [0] [0, 1, 2, 3, 4] := ⟨rfl, rfl, rfl, rfl, by decide, rfl, fun _ => rfl⟩
  refine kc_l (k_run ⟨hx, hb, hml, hown, hts⟩ (c_X1_power hc3) (cwV 1 hts gX3_leastHalf_X1_power rfl rfl rfl (by decide +kernel) ⟨Nat.le_of_ble_eq_true rfl, Nat.le_of_ble_eq_true rfl⟩) hK hN hP hD ⟨hI4.1, hI4.2.2.1⟩ (ci := 1) (q0 := 0) rfl rfl rfl rfl hl.1 rfl (Nat.le_of_ble_eq_true rfl) dX3_leastHalf_11 ⟨Nat.le_of_ble_eq_true rfl, Nat.le_of_ble_eq_true rfl⟩) hP hD hS hA hI4 (fun _ H locs hP hD hS => ?_)
  obtain rfl := Option.some.inj hf
  exact hQ () 14 _ _ _ dX3_leastHalf_14 hP hD hS
def f_X3_manyOfSize (F : Nat) (a1 : Int32) (g_base : Int32) : Option (Int64) := (f_X3_leastHalf F a1 g_base).bind (fun r1 => some ((g_base - (1 : Int32)).toInt64 * r1))
abbrev rmX3_manyOfSize : Room := { frames := 2, cells := 0, slots := 0, locals := 45 }
set_option maxHeartbeats 1000000 in
set_option maxRecDepth 100000 in
theorem c_X3_manyOfSize {l : Launch} {D : va_G} {cy : Nat → ClassId} {qR : Nat → Nat} {qG : Nat → Nat} {g_base : Int32} {g_worth : Nat → Int32} {g_row : Nat → Int32} {g_many : Nat → Int32} {g_version : Int32} {a1 : Int32} {F : Nat} {res : Int64} (hf : f_X3_manyOfSize F a1 g_base = some res) : kM l yX3_manyOfSize wsX3_manyOfSize rmX3_manyOfSize D cy [.ref (qR 0), .int a1] (gR cy qR (qG 0) ++ (gG cy qG g_base g_worth g_row g_many g_version)) (kQl D cy (fun _ : Unit => gR cy qR (qG 0) ++ (gG cy qG g_base g_worth g_row g_many g_version)) res) := by
  refine kent_l (cc := cX3_manyOfSize) (maxL := 2) (by decide) rfl (Nat.le_of_ble_eq_true rfl) ?_
  intro p e0 s m ar below meth c A Q ls ⟨hx, hb, hml, hr, hts, hown, hlocks, hnm⟩ hA hK hN hQ hP hD hS hl
  have hl : lv_has ls 2 [(0, .ref (qR 0)), (1, .int a1)] := hl
  have hown : s.vm.findClass RX3 = some m.cls := hown
  have huX3 : ∀ x ∈ u_ws RX3 TX3 1, x ∈ wsX3_manyOfSize := by decide +kernel
  have fk9 : (Cond.fieldLink RX3 9 "FigurePlay$Mirrors" "figures" "LFigurePlay$Figures;").before ar s = true := hts _ (by decide +kernel)
  have huX1 : ∀ x ∈ u_ws RX1 TX1 5, x ∈ wsX3_manyOfSize := by decide +kernel
  have fk47 : (Cond.fieldLink RX3 47 "FigurePlay$Figures" "base" "I").before ar s = true := hts _ (by decide +kernel)
  unfold f_X3_manyOfSize at hf
  refine lv_aload_n hx hb dX3_manyOfSize_0 rfl (lv_at hl 0 rfl) ?_
  refine va_get (v := .ref (qG 0)) (D := D) (ci := 3) (C := RX3) (T := TX3) (N := 1) hx hb hts huX3 hown hK hP 0 rfl rfl 0 (by decide) fk9 (fun _ h9 => h9) rfl dX3_manyOfSize_1 ?_
  refine va_get (D := D) (ci := 1) (C := RX1) (T := TX1) (N := 5) hx hb hts huX1 hown hK hP 1 rfl rfl 0 (by decide) fk47 (fun _ h9 => h9) rfl dX3_manyOfSize_4 ?_
  refine lv_iconst (v := (1 : Int32)) hx hb dX3_manyOfSize_7 (by decide) ?_
  refine lv_isub hx hb dX3_manyOfSize_8 ?_
  refine lv_i2l hx hb dX3_manyOfSize_9 rfl ?_
  refine lv_aload_n hx hb dX3_manyOfSize_10 rfl (lv_at hl 0 rfl) ?_
  refine lv_iload_n hx hb dX3_manyOfSize_11 rfl (lv_at hl 1 rfl) ?_
  obtain ⟨r1, hc2, hf⟩ := ob_some hf
  refine kc_l (k_run ⟨hx, hb, hml, hown, hts⟩ (c_X3_leastHalf hc2) (cwV 1 hts gX3_manyOfSize_X3_leastHalf rfl rfl rfl (by decide +kernel) ⟨Nat.le_of_ble_eq_true rfl, Nat.le_of_ble_eq_true rfl⟩) hK hN hP hD kA_s (ci := 3) (q0 := 0) rfl rfl rfl rfl hl.1 rfl (Nat.le_of_ble_eq_true rfl) dX3_manyOfSize_12 ⟨Nat.le_of_ble_eq_true rfl, Nat.le_of_ble_eq_true rfl⟩) hP hD hS hA kI_s (fun _ H locs hP hD hS => ?_)
  refine lv_lmul hx hb dX3_manyOfSize_15 ?_
  obtain rfl := Option.some.inj hf
  exact hQ () 16 _ _ _ dX3_manyOfSize_16 hP hD hS
def f_X3_mirrored_B28 (F : Nat) (a3 : Int32) (g_base : Int32) (rec : Int64 × Int64 × Int32 → Option (Int64)) (x : Int64 × Int64 × Int32) : Option (Int64) := ck (¬ (2 : Int32) = 0) (if (a3 / (2 : Int32)) ≤ x.2.2 then (some x.1) else (ck (¬ g_base.toInt64 = 0) (ck (¬ g_base.toInt64 = 0) (rec (((x.1 * g_base.toInt64) + (x.2.1 - x.2.1 / g_base.toInt64 * g_base.toInt64)), (x.2.1 / g_base.toInt64), (x.2.2 + (1 : Int32)))))))
def f_X3_mirrored_J23 (F : Nat) (a3 : Int32) (g_base : Int32) (x4 : Int64) (s0 : Int64) : Option (Int64) := (lp (f_X3_mirrored_B28 F a3 g_base) F (x4, s0, (0 : Int32))).bind (fun ex5 => some ex5)
def f_X3_mirrored (F : Nat) (a1 : Int64) (a3 : Int32) (g_base : Int32) : Option (Int64) := ck (¬ (2 : Int32) = 0) (if (a3 - a3 / (2 : Int32) * (2 : Int32)) = 0 then (f_X3_mirrored_J23 F a3 g_base a1 a1) else (ck (¬ g_base.toInt64 = 0) (f_X3_mirrored_J23 F a3 g_base a1 (a1 / g_base.toInt64))))
abbrev rmX3_mirrored : Room := { frames := 0, cells := 0, slots := 0, locals := 0 }
set_option maxHeartbeats 1000000 in
set_option maxRecDepth 100000 in
theorem c_X3_mirrored {l : Launch} {D : va_G} {cy : Nat → ClassId} {qR : Nat → Nat} {qG : Nat → Nat} {g_base : Int32} {g_worth : Nat → Int32} {g_row : Nat → Int32} {g_many : Nat → Int32} {g_version : Int32} {a1 : Int64} {a3 : Int32} {F : Nat} {res : Int64} (hf : f_X3_mirrored F a1 a3 g_base = some res) : kM l yX3_mirrored wsX3_mirrored rmX3_mirrored D cy [.ref (qR 0), .long a1, .int a3] (gR cy qR (qG 0) ++ (gG cy qG g_base g_worth g_row g_many g_version)) (kQl D cy (fun _ : Unit => gR cy qR (qG 0) ++ (gG cy qG g_base g_worth g_row g_many g_version)) res) := by
  refine kent_l (cc := cX3_mirrored) (maxL := 9) (by decide) rfl (Nat.le_of_ble_eq_true rfl) ?_
  intro p e0 s m ar below meth c A Q ls ⟨hx, hb, hml, hr, hts, hown, hlocks, hnm⟩ hA hK hN hQ hP hD hS hl
  have hl : lv_has ls 9 [(0, .ref (qR 0)), (1, .long a1), (3, .int a3)] := hl
  have hown : s.vm.findClass RX3 = some m.cls := hown
  have huX3 : ∀ x ∈ u_ws RX3 TX3 1, x ∈ wsX3_mirrored := by decide +kernel
  have fk9 : (Cond.fieldLink RX3 9 "FigurePlay$Mirrors" "figures" "LFigurePlay$Figures;").before ar s = true := hts _ (by decide +kernel)
  have huX1 : ∀ x ∈ u_ws RX1 TX1 5, x ∈ wsX3_mirrored := by decide +kernel
  have fk47 : (Cond.fieldLink RX3 47 "FigurePlay$Figures" "base" "I").before ar s = true := hts _ (by decide +kernel)
  unfold f_X3_mirrored at hf
  have hL28 : ∀ (k : Nat) (x : Int64 × Int64 × Int32) (ex : Int64) (H : Heap) (locs : List Loc) (ls : Array Slot), lp (f_X3_mirrored_B28 F a3 g_base) k x = some ex → (∀ (H : Heap) (locs : List Loc) (ls : Array Slot), va_P D vwCl (gR cy qR (qG 0) ++ (gG cy qG g_base g_worth g_row g_many g_version)) H → va_D A (gR cy qR (qG 0) ++ (gG cy qG g_base g_worth g_row g_many g_version)) → va_S A s.heap H locs → lv_has ls 9 [(4, .long ex)] → W p l e0 rmX3_mirrored s m ar below meth c H locs 0 0 Q (F0 m 80 ls [])) → va_P D vwCl (gR cy qR (qG 0) ++ (gG cy qG g_base g_worth g_row g_many g_version)) H → va_D A (gR cy qR (qG 0) ++ (gG cy qG g_base g_worth g_row g_many g_version)) → va_S A s.heap H locs → lv_has ls 9 [(0, .ref (qR 0)), (3, .int a3), (4, .long x.1), (6, .long x.2.1), (8, .int x.2.2)] → W p l e0 rmX3_mirrored s m ar below meth c H locs 0 0 Q (F0 m 28 ls []) := by
    intro k
    induction k with
    | zero => intro x ex H locs ls hf; exact no_some hf
    | succ k ih =>
      intro x ex H locs ls hf hex hP hD hS hl
      have hf : f_X3_mirrored_B28 F a3 g_base (lp (f_X3_mirrored_B28 F a3 g_base) k) x = some ex := hf
      unfold f_X3_mirrored_B28 at hf
      refine lv_iload hx hb dX3_mirrored_28 (lv_at hl 4 rfl) ?_
      refine lv_iload_n hx hb dX3_mirrored_30 rfl (lv_at hl 1 rfl) ?_
      refine lv_iconst (v := (2 : Int32)) hx hb dX3_mirrored_31 (by decide) ?_
      obtain ⟨c1, hf⟩ := ck_some hf
      refine lv_idiv hx hb dX3_mirrored_32 c1 ?_
      refine lv_icmp_ge (tgt := 80) hx hb dX3_mirrored_33 (by decide) (fun c2 => ?_) (fun c2 => ?_)
      · have hf := if_t hf c2
        obtain rfl := Option.some.inj hf
        exact hex _ _ _ hP hD hS (lv_sub hl [2] rfl)
      · have hf := if_f hf c2
        refine lv_lload hx hb dX3_mirrored_36 (lv_at hl 2 rfl) ?_
        refine lv_aload_n hx hb dX3_mirrored_38 rfl (lv_at hl 0 rfl) ?_
        refine va_get (v := .ref (qG 0)) (D := D) (ci := 3) (C := RX3) (T := TX3) (N := 1) hx hb hts huX3 hown hK hP 0 rfl rfl 0 (by decide) fk9 (fun _ h9 => h9) rfl dX3_mirrored_39 ?_
        refine va_get (D := D) (ci := 1) (C := RX1) (T := TX1) (N := 5) hx hb hts huX1 hown hK hP 1 rfl rfl 0 (by decide) fk47 (fun _ h9 => h9) rfl dX3_mirrored_42 ?_
        refine lv_i2l hx hb dX3_mirrored_45 rfl ?_
        refine lv_lmul hx hb dX3_mirrored_46 ?_
        refine lv_lload hx hb dX3_mirrored_47 (lv_at hl 3 rfl) ?_
        refine lv_aload_n hx hb dX3_mirrored_49 rfl (lv_at hl 0 rfl) ?_
        refine va_get (v := .ref (qG 0)) (D := D) (ci := 3) (C := RX3) (T := TX3) (N := 1) hx hb hts huX3 hown hK hP 0 rfl rfl 0 (by decide) fk9 (fun _ h9 => h9) rfl dX3_mirrored_50 ?_
        refine va_get (D := D) (ci := 1) (C := RX1) (T := TX1) (N := 5) hx hb hts huX1 hown hK hP 1 rfl rfl 0 (by decide) fk47 (fun _ h9 => h9) rfl dX3_mirrored_53 ?_
        refine lv_i2l hx hb dX3_mirrored_56 rfl ?_
        obtain ⟨c3, hf⟩ := ck_some hf
        refine lv_lrem hx hb dX3_mirrored_57 c3 ?_
        refine lv_ladd hx hb dX3_mirrored_58 ?_
        refine lv_lstore (lv' := [(4, .long ((x.1 * g_base.toInt64) + (x.2.1 - x.2.1 / g_base.toInt64 * g_base.toInt64))), (0, .ref (qR 0)), (3, .int a3), (6, .long x.2.1), (8, .int x.2.2)]) hx hb dX3_mirrored_59 hl (by decide) rfl (fun ls hl => ?_)
        refine lv_lload hx hb dX3_mirrored_61 (lv_at hl 3 rfl) ?_
        refine lv_aload_n hx hb dX3_mirrored_63 rfl (lv_at hl 1 rfl) ?_
        refine va_get (v := .ref (qG 0)) (D := D) (ci := 3) (C := RX3) (T := TX3) (N := 1) hx hb hts huX3 hown hK hP 0 rfl rfl 0 (by decide) fk9 (fun _ h9 => h9) rfl dX3_mirrored_64 ?_
        refine va_get (D := D) (ci := 1) (C := RX1) (T := TX1) (N := 5) hx hb hts huX1 hown hK hP 1 rfl rfl 0 (by decide) fk47 (fun _ h9 => h9) rfl dX3_mirrored_67 ?_
        refine lv_i2l hx hb dX3_mirrored_70 rfl ?_
        obtain ⟨c4, hf⟩ := ck_some hf
        refine lv_ldiv hx hb dX3_mirrored_71 c4 ?_
        refine lv_lstore (lv' := [(6, .long (x.2.1 / g_base.toInt64)), (4, .long ((x.1 * g_base.toInt64) + (x.2.1 - x.2.1 / g_base.toInt64 * g_base.toInt64))), (0, .ref (qR 0)), (3, .int a3), (8, .int x.2.2)]) hx hb dX3_mirrored_72 hl (by decide) rfl (fun ls hl => ?_)
        refine lv_iinc (v := (x.2.2 + (1 : Int32))) (lv' := [(8, .int (x.2.2 + (1 : Int32))), (6, .long (x.2.1 / g_base.toInt64)), (4, .long ((x.1 * g_base.toInt64) + (x.2.1 - x.2.1 / g_base.toInt64 * g_base.toInt64))), (0, .ref (qR 0)), (3, .int a3)]) hx hb dX3_mirrored_74 hl (k := 4) rfl rfl (by decide) rfl (fun ls hl => ?_)
        refine lv_goto (tgt := 28) hx hb dX3_mirrored_77 (by decide) ?_
        exact ih (((x.1 * g_base.toInt64) + (x.2.1 - x.2.1 / g_base.toInt64 * g_base.toInt64)), (x.2.1 / g_base.toInt64), (x.2.2 + (1 : Int32))) ex _ _ _ hf hex hP hD hS (lv_sub hl [3, 4, 2, 1, 0] rfl)
  have hJ23 : ∀ (x4 : Int64) (s0 : Int64) (H : Heap) (locs : List Loc) (ls : Array Slot), f_X3_mirrored_J23 F a3 g_base x4 s0 = some res → va_P D vwCl (gR cy qR (qG 0) ++ (gG cy qG g_base g_worth g_row g_many g_version)) H → va_D A (gR cy qR (qG 0) ++ (gG cy qG g_base g_worth g_row g_many g_version)) → va_S A s.heap H locs → lv_has ls 9 [(0, .ref (qR 0)), (3, .int a3), (4, .long x4)] → W p l e0 rmX3_mirrored s m ar below meth c H locs 0 0 Q (F0 m 23 ls [.long s0]) := by
    intro x4 s0 H locs ls hf hP hD hS hl
    unfold f_X3_mirrored_J23 at hf
    refine lv_lstore (lv' := [(6, .long s0), (0, .ref (qR 0)), (3, .int a3), (4, .long x4)]) hx hb dX3_mirrored_23 hl (by decide) rfl (fun ls hl => ?_)
    refine lv_iconst (v := (0 : Int32)) hx hb dX3_mirrored_25 (by decide) ?_
    refine lv_istore (lv' := [(8, .int (0 : Int32)), (6, .long s0), (0, .ref (qR 0)), (3, .int a3), (4, .long x4)]) hx hb dX3_mirrored_26 hl (by decide) rfl (fun ls hl => ?_)
    obtain ⟨ex5, hcl, hf⟩ := ob_some hf
    refine hL28 F (x4, s0, (0 : Int32)) ex5 _ _ _ hcl (fun H locs ls hP hD hS hl => ?_) hP hD hS (lv_sub hl [2, 3, 4, 1, 0] rfl)
    refine lv_lload hx hb dX3_mirrored_80 (lv_at hl 0 rfl) ?_
    obtain rfl := Option.some.inj hf
    exact hQ () 82 _ _ _ dX3_mirrored_82 hP hD hS
  refine lv_lload_n hx hb dX3_mirrored_0 rfl (lv_at hl 1 rfl) ?_
  refine lv_lstore (lv' := [(4, .long a1), (0, .ref (qR 0)), (1, .long a1), (3, .int a3)]) hx hb dX3_mirrored_1 hl (by decide) rfl (fun ls hl => ?_)
  refine lv_iload_n hx hb dX3_mirrored_3 rfl (lv_at hl 3 rfl) ?_
  refine lv_iconst (v := (2 : Int32)) hx hb dX3_mirrored_4 (by decide) ?_
  obtain ⟨c6, hf⟩ := ck_some hf
  refine lv_irem hx hb dX3_mirrored_5 c6 ?_
  refine lv_if_ne (tgt := 13) hx hb dX3_mirrored_6 (by decide) (fun c7 => ?_) (fun c7 => ?_)
  · have hf := if_f hf c7
    refine lv_lload_n hx hb dX3_mirrored_13 rfl (lv_at hl 2 rfl) ?_
    refine lv_aload_n hx hb dX3_mirrored_14 rfl (lv_at hl 1 rfl) ?_
    refine va_get (v := .ref (qG 0)) (D := D) (ci := 3) (C := RX3) (T := TX3) (N := 1) hx hb hts huX3 hown hK hP 0 rfl rfl 0 (by decide) fk9 (fun _ h9 => h9) rfl dX3_mirrored_15 ?_
    refine va_get (D := D) (ci := 1) (C := RX1) (T := TX1) (N := 5) hx hb hts huX1 hown hK hP 1 rfl rfl 0 (by decide) fk47 (fun _ h9 => h9) rfl dX3_mirrored_18 ?_
    refine lv_i2l hx hb dX3_mirrored_21 rfl ?_
    obtain ⟨c8, hf⟩ := ck_some hf
    refine lv_ldiv hx hb dX3_mirrored_22 c8 ?_
    exact hJ23 a1 (a1 / g_base.toInt64) _ _ _ hf hP hD hS (lv_sub hl [1, 3, 0] rfl)
  · have hf := if_t hf c7
    refine lv_lload_n hx hb dX3_mirrored_9 rfl (lv_at hl 2 rfl) ?_
    refine lv_goto (tgt := 23) hx hb dX3_mirrored_10 (by decide) ?_
    exact hJ23 a1 a1 _ _ _ hf hP hD hS (lv_sub hl [1, 3, 0] rfl)
def f_X3_manyTo_J80 (F : Nat) (s0 : Int64) (g_row : Nat → Int32) : Option (Int64 × (Nat → Int32)) := some (s0, g_row)
def f_X3_manyTo_B23 (F : Nat) (g_base : Int32) (x3 : Int32) (x4 : Int64) (g_row : Nat → Int32) (rec : Int64 × Int32 → Option (Int64)) (x : Int64 × Int32) : Option (Int64) := if x3 ≤ x.2 then (some x.1) else ((f_X3_manyOfSize F x.2 g_base).bind (fun r2 => rec ((x.1 + r2), (x.2 + (1 : Int32)))))
def f_X3_manyTo (F : Nat) (a1 : Int64) (g_base : Int32) (g_row : Nat → Int32) : Option (Int64 × (Nat → Int32)) := (f_X1_split F a1 g_base g_row).bind (fun r4 => (f_X3_halfOf F a1 r4.1 g_base).bind (fun r7 => (lp (f_X3_manyTo_B23 F g_base r4.1 r7 r4.2) F ((1 : Int64), (1 : Int32))).bind (fun ex9 => (f_X3_leastHalf F r4.1 g_base).bind (fun r10 => (f_X3_mirrored F r7 r4.1 g_base).bind (fun r12 => if a1 < r12 then (f_X3_manyTo_J80 F (ex9 + (r7 - r10)) r4.2) else (f_X3_manyTo_J80 F ((ex9 + (r7 - r10)) + (1 : Int64)) r4.2))))))
abbrev rmX3_manyTo : Room := { frames := 3, cells := 0, slots := 0, locals := 66 }
set_option maxHeartbeats 1000000 in
set_option maxRecDepth 100000 in
theorem c_X3_manyTo {l : Launch} {D : va_G} {cy : Nat → ClassId} {qR : Nat → Nat} {qG : Nat → Nat} {g_base : Int32} {g_worth : Nat → Int32} {g_row : Nat → Int32} {g_many : Nat → Int32} {g_version : Int32} {a1 : Int64} {F : Nat} {res : Int64 × (Nat → Int32)} (hf : f_X3_manyTo F a1 g_base g_row = some res) : kM l yX3_manyTo wsX3_manyTo rmX3_manyTo D cy [.ref (qR 0), .long a1] (gR cy qR (qG 0) ++ (gG cy qG g_base g_worth g_row g_many g_version)) (kQl D cy (fun _ : Unit => gR cy qR (qG 0) ++ (gG cy qG g_base g_worth res.2 g_many g_version)) res.1) := by
  refine kent_l (cc := cX3_manyTo) (maxL := 9) (by decide) rfl (Nat.le_of_ble_eq_true rfl) ?_
  intro p e0 s m ar below meth c A Q ls ⟨hx, hb, hml, hr, hts, hown, hlocks, hnm⟩ hA hK hN hQ hP hD hS hl
  have hl : lv_has ls 9 [(0, .ref (qR 0)), (1, .long a1)] := hl
  have hown : s.vm.findClass RX3 = some m.cls := hown
  have huX3 : ∀ x ∈ u_ws RX3 TX3 1, x ∈ wsX3_manyTo := by decide +kernel
  have fk9 : (Cond.fieldLink RX3 9 "FigurePlay$Mirrors" "figures" "LFigurePlay$Figures;").before ar s = true := hts _ (by decide +kernel)
  unfold f_X3_manyTo at hf
  have hJ80 : ∀ (s0 : Int64) (g_row : Nat → Int32) (H : Heap) (locs : List Loc) (ls : Array Slot), f_X3_manyTo_J80 F s0 g_row = some res → va_P D vwCl (gR cy qR (qG 0) ++ (gG cy qG g_base g_worth g_row g_many g_version)) H → va_D A (gR cy qR (qG 0) ++ (gG cy qG g_base g_worth g_row g_many g_version)) → va_S A s.heap H locs → lv_has ls 9 [] → W p l e0 rmX3_manyTo s m ar below meth c H locs 0 0 Q (F0 m 80 ls [.long s0]) := by
    intro s0 g_row H locs ls hf hP hD hS hl
    unfold f_X3_manyTo_J80 at hf
    obtain rfl := Option.some.inj hf
    exact hQ () 80 _ _ _ dX3_manyTo_80 hP hD hS
  have hL23 : ∀ (x3 : Int32) (x4 : Int64) (g_row : Nat → Int32) (k : Nat) (x : Int64 × Int32) (ex : Int64) (H : Heap) (locs : List Loc) (ls : Array Slot), lp (f_X3_manyTo_B23 F g_base x3 x4 g_row) k x = some ex → (∀ (H : Heap) (locs : List Loc) (ls : Array Slot), va_P D vwCl (gR cy qR (qG 0) ++ (gG cy qG g_base g_worth g_row g_many g_version)) H → va_D A (gR cy qR (qG 0) ++ (gG cy qG g_base g_worth g_row g_many g_version)) → va_S A s.heap H locs → lv_has ls 9 [(0, .ref (qR 0)), (1, .long a1), (3, .int x3), (4, .long x4), (6, .long ex)] → W p l e0 rmX3_manyTo s m ar below meth c H locs 0 0 Q (F0 m 46 ls [])) → va_P D vwCl (gR cy qR (qG 0) ++ (gG cy qG g_base g_worth g_row g_many g_version)) H → va_D A (gR cy qR (qG 0) ++ (gG cy qG g_base g_worth g_row g_many g_version)) → va_S A s.heap H locs → lv_has ls 9 [(0, .ref (qR 0)), (1, .long a1), (3, .int x3), (4, .long x4), (6, .long x.1), (8, .int x.2)] → W p l e0 rmX3_manyTo s m ar below meth c H locs 0 0 Q (F0 m 23 ls []) := by
    intro x3 x4 g_row k
    induction k with
    | zero => intro x ex H locs ls hf; exact no_some hf
    | succ k ih =>
      intro x ex H locs ls hf hex hP hD hS hl
      have hf : f_X3_manyTo_B23 F g_base x3 x4 g_row (lp (f_X3_manyTo_B23 F g_base x3 x4 g_row) k) x = some ex := hf
      unfold f_X3_manyTo_B23 at hf
      refine lv_iload hx hb dX3_manyTo_23 (lv_at hl 5 rfl) ?_
      refine lv_iload_n hx hb dX3_manyTo_25 rfl (lv_at hl 2 rfl) ?_
      refine lv_icmp_ge (tgt := 46) hx hb dX3_manyTo_26 (by decide) (fun c1 => ?_) (fun c1 => ?_)
      · have hf := if_t hf c1
        obtain rfl := Option.some.inj hf
        exact hex _ _ _ hP hD hS (lv_sub hl [0, 1, 2, 3, 4] rfl)
      · have hf := if_f hf c1
        refine lv_lload hx hb dX3_manyTo_29 (lv_at hl 4 rfl) ?_
        refine lv_aload_n hx hb dX3_manyTo_31 rfl (lv_at hl 0 rfl) ?_
        refine lv_iload hx hb dX3_manyTo_32 (lv_at hl 5 rfl) ?_
        obtain ⟨r2, hc3, hf⟩ := ob_some hf
        refine kc_l (k_run ⟨hx, hb, hml, hown, hts⟩ (c_X3_manyOfSize hc3) (cwV 1 hts gX3_manyTo_X3_manyOfSize rfl rfl rfl (by decide +kernel) ⟨Nat.le_of_ble_eq_true rfl, Nat.le_of_ble_eq_true rfl⟩) hK hN hP hD kA_s (ci := 3) (q0 := 0) rfl rfl rfl rfl hl.1 rfl (Nat.le_of_ble_eq_true rfl) dX3_manyTo_34 ⟨Nat.le_of_ble_eq_true rfl, Nat.le_of_ble_eq_true rfl⟩) hP hD hS hA kI_s (fun _ H locs hP hD hS => ?_)
        refine lv_ladd hx hb dX3_manyTo_37 ?_
        refine lv_lstore (lv' := [(6, .long (x.1 + r2)), (0, .ref (qR 0)), (1, .long a1), (3, .int x3), (4, .long x4), (8, .int x.2)]) hx hb dX3_manyTo_38 hl (by decide) rfl (fun ls hl => ?_)
        refine lv_iinc (v := (x.2 + (1 : Int32))) (lv' := [(8, .int (x.2 + (1 : Int32))), (6, .long (x.1 + r2)), (0, .ref (qR 0)), (1, .long a1), (3, .int x3), (4, .long x4)]) hx hb dX3_manyTo_40 hl (k := 5) rfl rfl (by decide) rfl (fun ls hl => ?_)
        refine lv_goto (tgt := 23) hx hb dX3_manyTo_43 (by decide) ?_
        exact ih ((x.1 + r2), (x.2 + (1 : Int32))) ex _ _ _ hf hex hP hD hS (lv_sub hl [2, 3, 4, 5, 1, 0] rfl)
  refine lv_aload_n hx hb dX3_manyTo_0 rfl (lv_at hl 0 rfl) ?_
  refine va_get (v := .ref (qG 0)) (D := D) (ci := 3) (C := RX3) (T := TX3) (N := 1) hx hb hts huX3 hown hK hP 0 rfl rfl 0 (by decide) fk9 (fun _ h9 => h9) rfl dX3_manyTo_1 ?_
  refine lv_lload_n hx hb dX3_manyTo_4 rfl (lv_at hl 1 rfl) ?_
  obtain ⟨r4, hc5, hf⟩ := ob_some hf
  have hI6 : kIn (gR cy qR (qG 0) ++ (gG cy qG g_base g_worth g_row g_many g_version)) (gG cy qG g_base g_worth g_row g_many g_version) (kpick (gR cy qR (qG 0) ++ (gG cy qG g_base g_worth g_row g_many g_version)) [0]) (fun _ : Unit => gG cy qG g_base g_worth r4.2 g_many g_version) (fun _ : Unit => gR cy qR (qG 0) ++ (gG cy qG g_base g_worth r4.2 g_many g_version)) [1, 2, 3, 4] [0] [0, 1, 2, 3, 4] := ⟨rfl, rfl, rfl, rfl, by decide, rfl, fun _ => rfl⟩
  refine kc_i (k_run ⟨hx, hb, hml, hown, hts⟩ (c_X1_split hc5) (cwV 1 hts gX3_manyTo_X1_split rfl rfl rfl (by decide +kernel) ⟨Nat.le_of_ble_eq_true rfl, Nat.le_of_ble_eq_true rfl⟩) hK hN hP hD ⟨hI6.1, hI6.2.2.1⟩ (ci := 1) (q0 := 0) rfl rfl rfl rfl hl.1 rfl (Nat.le_of_ble_eq_true rfl) dX3_manyTo_5 ⟨Nat.le_of_ble_eq_true rfl, Nat.le_of_ble_eq_true rfl⟩) hP hD hS hA hI6 (fun _ H locs hP hD hS => ?_)
  refine lv_istore_n (lv' := [(3, .int r4.1), (0, .ref (qR 0)), (1, .long a1)]) hx hb dX3_manyTo_8 rfl hl (by decide) rfl (fun ls hl => ?_)
  refine lv_aload_n hx hb dX3_manyTo_9 rfl (lv_at hl 1 rfl) ?_
  refine lv_lload_n hx hb dX3_manyTo_10 rfl (lv_at hl 2 rfl) ?_
  refine lv_iload_n hx hb dX3_manyTo_11 rfl (lv_at hl 0 rfl) ?_
  obtain ⟨r7, hc8, hf⟩ := ob_some hf
  refine kc_l (k_run ⟨hx, hb, hml, hown, hts⟩ (c_X3_halfOf hc8) (cwV 2 hts gX3_manyTo_X3_halfOf rfl rfl rfl (by decide +kernel) ⟨Nat.le_of_ble_eq_true rfl, Nat.le_of_ble_eq_true rfl⟩) hK hN hP hD kA_s (ci := 3) (q0 := 0) rfl rfl rfl rfl hl.1 rfl (Nat.le_of_ble_eq_true rfl) dX3_manyTo_12 ⟨Nat.le_of_ble_eq_true rfl, Nat.le_of_ble_eq_true rfl⟩) hP hD hS hA kI_s (fun _ H locs hP hD hS => ?_)
  refine lv_lstore (lv' := [(4, .long r7), (3, .int r4.1), (0, .ref (qR 0)), (1, .long a1)]) hx hb dX3_manyTo_15 hl (by decide) rfl (fun ls hl => ?_)
  refine lv_lconst (v := (1 : Int64)) hx hb dX3_manyTo_17 (by decide) ?_
  refine lv_lstore (lv' := [(6, .long (1 : Int64)), (4, .long r7), (3, .int r4.1), (0, .ref (qR 0)), (1, .long a1)]) hx hb dX3_manyTo_18 hl (by decide) rfl (fun ls hl => ?_)
  refine lv_iconst (v := (1 : Int32)) hx hb dX3_manyTo_20 (by decide) ?_
  refine lv_istore (lv' := [(8, .int (1 : Int32)), (6, .long (1 : Int64)), (4, .long r7), (3, .int r4.1), (0, .ref (qR 0)), (1, .long a1)]) hx hb dX3_manyTo_21 hl (by decide) rfl (fun ls hl => ?_)
  obtain ⟨ex9, hcl, hf⟩ := ob_some hf
  refine hL23 r4.1 r7 r4.2 F ((1 : Int64), (1 : Int32)) ex9 _ _ _ hcl (fun H locs ls hP hD hS hl => ?_) hP hD hS (lv_sub hl [4, 5, 3, 2, 1, 0] rfl)
  refine lv_lload hx hb dX3_manyTo_46 (lv_at hl 4 rfl) ?_
  refine lv_lload hx hb dX3_manyTo_48 (lv_at hl 3 rfl) ?_
  refine lv_aload_n hx hb dX3_manyTo_50 rfl (lv_at hl 0 rfl) ?_
  refine lv_iload_n hx hb dX3_manyTo_51 rfl (lv_at hl 2 rfl) ?_
  obtain ⟨r10, hc11, hf⟩ := ob_some hf
  refine kc_l (k_run ⟨hx, hb, hml, hown, hts⟩ (c_X3_leastHalf hc11) (cwV 1 hts gX3_manyTo_X3_leastHalf rfl rfl rfl (by decide +kernel) ⟨Nat.le_of_ble_eq_true rfl, Nat.le_of_ble_eq_true rfl⟩) hK hN hP hD kA_s (ci := 3) (q0 := 0) rfl rfl rfl rfl hl.1 rfl (Nat.le_of_ble_eq_true rfl) dX3_manyTo_52 ⟨Nat.le_of_ble_eq_true rfl, Nat.le_of_ble_eq_true rfl⟩) hP hD hS hA kI_s (fun _ H locs hP hD hS => ?_)
  refine lv_lsub hx hb dX3_manyTo_55 ?_
  refine lv_ladd hx hb dX3_manyTo_56 ?_
  refine lv_lstore (lv' := [(6, .long (ex9 + (r7 - r10))), (0, .ref (qR 0)), (1, .long a1), (3, .int r4.1), (4, .long r7)]) hx hb dX3_manyTo_57 hl (by decide) rfl (fun ls hl => ?_)
  refine lv_aload_n hx hb dX3_manyTo_59 rfl (lv_at hl 1 rfl) ?_
  refine lv_lload hx hb dX3_manyTo_60 (lv_at hl 4 rfl) ?_
  refine lv_iload_n hx hb dX3_manyTo_62 rfl (lv_at hl 3 rfl) ?_
  obtain ⟨r12, hc13, hf⟩ := ob_some hf
  refine kc_l (k_run ⟨hx, hb, hml, hown, hts⟩ (c_X3_mirrored hc13) (cwV 2 hts gX3_manyTo_X3_mirrored rfl rfl rfl (by decide +kernel) ⟨Nat.le_of_ble_eq_true rfl, Nat.le_of_ble_eq_true rfl⟩) hK hN hP hD kA_s (ci := 3) (q0 := 0) rfl rfl rfl rfl hl.1 rfl (Nat.le_of_ble_eq_true rfl) dX3_manyTo_63 ⟨Nat.le_of_ble_eq_true rfl, Nat.le_of_ble_eq_true rfl⟩) hP hD hS hA kI_s (fun _ H locs hP hD hS => ?_)
  refine lv_lload_n hx hb dX3_manyTo_66 rfl (lv_at hl 2 rfl) ?_
  refine kl_gt (tgt := 78) hx hb dX3_manyTo_67 dX3_manyTo_68 (by decide) (fun c14 => ?_) (fun c14 => ?_)
  · have hf := if_t hf c14
    refine lv_lload hx hb dX3_manyTo_78 (lv_at hl 0 rfl) ?_
    exact hJ80 (ex9 + (r7 - r10)) r4.2 _ _ _ hf hP hD hS (lv_sub hl [] rfl)
  · have hf := if_f hf c14
    refine lv_lload hx hb dX3_manyTo_71 (lv_at hl 0 rfl) ?_
    refine lv_lconst (v := (1 : Int64)) hx hb dX3_manyTo_73 (by decide) ?_
    refine lv_ladd hx hb dX3_manyTo_74 ?_
    refine lv_goto (tgt := 80) hx hb dX3_manyTo_75 (by decide) ?_
    exact hJ80 ((ex9 + (r7 - r10)) + (1 : Int64)) r4.2 _ _ _ hf hP hD hS (lv_sub hl [] rfl)
def f_X3_numberOrNone_J15 (F : Nat) (s0 : Int64) : Option (Int64) := some s0
def f_X3_numberOrNone (F : Nat) (a0 : Int64) : Option (Int64) := if (1000000000000000 : Int64) < a0 then (f_X3_numberOrNone_J15 F (-4 : Int64)) else (f_X3_numberOrNone_J15 F a0)
abbrev rmX3_numberOrNone : Room := { frames := 0, cells := 0, slots := 0, locals := 0 }
set_option maxHeartbeats 1000000 in
set_option maxRecDepth 100000 in
theorem c_X3_numberOrNone {l : Launch} {D : va_G} {cy : Nat → ClassId} {a0 : Int64} {F : Nat} {res : Int64} (hf : f_X3_numberOrNone F a0 = some res) : kM l yX3_numberOrNone wsX3_numberOrNone rmX3_numberOrNone D cy [.long a0] ([]) (kQl D cy (fun _ : Unit => []) res) := by
  refine kent_l (cc := cX3_numberOrNone) (maxL := 2) (by decide) rfl (Nat.le_of_ble_eq_true rfl) ?_
  intro p e0 s m ar below meth c A Q ls ⟨hx, hb, hml, hr, hts, hown, hlocks, hnm⟩ hA hK hN hQ hP hD hS hl
  have hl : lv_has ls 2 [(0, .long a0)] := hl
  have hown : s.vm.findClass RX3 = some m.cls := hown
  have fk39 : (Cond.constantLong RX3 39 (1000000000000000)).before ar s = true := hts _ (by decide +kernel)
  have fk45 : (Cond.constantLong RX3 45 (-4)).before ar s = true := hts _ (by decide +kernel)
  unfold f_X3_numberOrNone at hf
  have hJ15 : ∀ (s0 : Int64) (H : Heap) (locs : List Loc) (ls : Array Slot), f_X3_numberOrNone_J15 F s0 = some res → va_P D vwCl ([]) H → va_D A ([]) → va_S A s.heap H locs → lv_has ls 2 [] → W p l e0 rmX3_numberOrNone s m ar below meth c H locs 0 0 Q (F0 m 15 ls [.long s0]) := by
    intro s0 H locs ls hf hP hD hS hl
    unfold f_X3_numberOrNone_J15 at hf
    obtain rfl := Option.some.inj hf
    exact hQ () 15 _ _ _ dX3_numberOrNone_15 hP hD hS
  refine lv_lload_n hx hb dX3_numberOrNone_0 rfl (lv_at hl 0 rfl) ?_
  refine lv_ldc2 (v := (1000000000000000 : Int64)) hx hb hown fk39 dX3_numberOrNone_1 ?_
  refine kl_gt (tgt := 12) hx hb dX3_numberOrNone_4 dX3_numberOrNone_5 (by decide) (fun c1 => ?_) (fun c1 => ?_)
  · have hf := if_t hf c1
    refine lv_ldc2 (v := (-4 : Int64)) hx hb hown fk45 dX3_numberOrNone_12 ?_
    exact hJ15 (-4 : Int64) _ _ _ hf hP hD hS (lv_sub hl [] rfl)
  · have hf := if_f hf c1
    refine lv_lload_n hx hb dX3_numberOrNone_8 rfl (lv_at hl 0 rfl) ?_
    refine lv_goto (tgt := 15) hx hb dX3_numberOrNone_9 (by decide) ?_
    exact hJ15 a0 _ _ _ hf hP hD hS (lv_sub hl [] rfl)
def f_X3_at_B27 (F : Nat) (g_base : Int32) (x3 : Int32) (g_row : Nat → Int32) (rec : Int64 × Int32 → Option ((Int64 × (Nat → Int32)) ⊕ (Unit))) (x : Int64 × Int32) : Option ((Int64 × (Nat → Int32)) ⊕ (Unit)) := if x3 < x.2 then (some (.inr ())) else ((f_X3_manyOfSize F x.2 g_base).bind (fun r2 => if r2 ≤ x.1 then (rec ((x.1 - r2), (x.2 + (1 : Int32)))) else ((f_X3_leastHalf F x.2 g_base).bind (fun r5 => (f_X3_mirrored F (r5 + x.1) x.2 g_base).bind (fun r7 => (f_X3_numberOrNone F r7).bind (fun r9 => some (.inl (r9, g_row))))))))
def f_X3_at (F : Nat) (a1 : Int64) (g_base : Int32) (g_row : Nat → Int32) : Option (Int64 × (Nat → Int32)) := if a1 = (0 : Int64) then (some ((0 : Int64), g_row)) else ((f_X1_split F (1000000000000000 : Int64) g_base g_row).bind (fun r12 => (lp (f_X3_at_B27 F g_base r12.1 r12.2) F ((a1 - (1 : Int64)), (1 : Int32))).bind (fun ex15 => Sum.elim (fun r => some r) (fun er16 => some ((-4 : Int64), r12.2)) ex15)))
abbrev rmX3_at : Room := { frames := 3, cells := 0, slots := 0, locals := 66 }
set_option maxHeartbeats 1000000 in
set_option maxRecDepth 100000 in
theorem c_X3_at {l : Launch} {D : va_G} {cy : Nat → ClassId} {qR : Nat → Nat} {qG : Nat → Nat} {g_base : Int32} {g_worth : Nat → Int32} {g_row : Nat → Int32} {g_many : Nat → Int32} {g_version : Int32} {a1 : Int64} {F : Nat} {res : Int64 × (Nat → Int32)} (hf : f_X3_at F a1 g_base g_row = some res) : kM l yX3_at wsX3_at rmX3_at D cy [.ref (qR 0), .long a1] (gR cy qR (qG 0) ++ (gG cy qG g_base g_worth g_row g_many g_version)) (kQl D cy (fun _ : Unit => gR cy qR (qG 0) ++ (gG cy qG g_base g_worth res.2 g_many g_version)) res.1) := by
  refine kent_l (cc := cX3_at) (maxL := 9) (by decide) rfl (Nat.le_of_ble_eq_true rfl) ?_
  intro p e0 s m ar below meth c A Q ls ⟨hx, hb, hml, hr, hts, hown, hlocks, hnm⟩ hA hK hN hQ hP hD hS hl
  have hl : lv_has ls 9 [(0, .ref (qR 0)), (1, .long a1)] := hl
  have hown : s.vm.findClass RX3 = some m.cls := hown
  have huX3 : ∀ x ∈ u_ws RX3 TX3 1, x ∈ wsX3_at := by decide +kernel
  have fk9 : (Cond.fieldLink RX3 9 "FigurePlay$Mirrors" "figures" "LFigurePlay$Figures;").before ar s = true := hts _ (by decide +kernel)
  have fk39 : (Cond.constantLong RX3 39 (1000000000000000)).before ar s = true := hts _ (by decide +kernel)
  have fk45 : (Cond.constantLong RX3 45 (-4)).before ar s = true := hts _ (by decide +kernel)
  unfold f_X3_at at hf
  have hL27 : ∀ (x3 : Int32) (g_row : Nat → Int32) (k : Nat) (x : Int64 × Int32) (ex : (Int64 × (Nat → Int32)) ⊕ (Unit)) (H : Heap) (locs : List Loc) (ls : Array Slot), lp (f_X3_at_B27 F g_base x3 g_row) k x = some ex → (∀ r, ex = .inl r → r = res) → (∀ er, ex = .inr er → ∀ (H : Heap) (locs : List Loc) (ls : Array Slot), va_P D vwCl (gR cy qR (qG 0) ++ (gG cy qG g_base g_worth g_row g_many g_version)) H → va_D A (gR cy qR (qG 0) ++ (gG cy qG g_base g_worth g_row g_many g_version)) → va_S A s.heap H locs → lv_has ls 9 [] → W p l e0 rmX3_at s m ar below meth c H locs 0 0 Q (F0 m 81 ls [])) → va_P D vwCl (gR cy qR (qG 0) ++ (gG cy qG g_base g_worth g_row g_many g_version)) H → va_D A (gR cy qR (qG 0) ++ (gG cy qG g_base g_worth g_row g_many g_version)) → va_S A s.heap H locs → lv_has ls 9 [(0, .ref (qR 0)), (3, .int x3), (4, .long x.1), (6, .int x.2)] → W p l e0 rmX3_at s m ar below meth c H locs 0 0 Q (F0 m 27 ls []) := by
    intro x3 g_row k
    induction k with
    | zero => intro x ex H locs ls hf; exact no_some hf
    | succ k ih =>
      intro x ex H locs ls hf hret hex hP hD hS hl
      have hf : f_X3_at_B27 F g_base x3 g_row (lp (f_X3_at_B27 F g_base x3 g_row) k) x = some ex := hf
      unfold f_X3_at_B27 at hf
      refine lv_iload hx hb dX3_at_27 (lv_at hl 3 rfl) ?_
      refine lv_iload_n hx hb dX3_at_29 rfl (lv_at hl 1 rfl) ?_
      refine lv_icmp_gt (tgt := 81) hx hb dX3_at_30 (by decide) (fun c1 => ?_) (fun c1 => ?_)
      · have hf := if_t hf c1
        obtain rfl := Option.some.inj hf
        exact hex _ rfl _ _ _ hP hD hS (lv_sub hl [] rfl)
      · have hf := if_f hf c1
        refine lv_aload_n hx hb dX3_at_33 rfl (lv_at hl 0 rfl) ?_
        refine lv_iload hx hb dX3_at_34 (lv_at hl 3 rfl) ?_
        obtain ⟨r2, hc3, hf⟩ := ob_some hf
        refine kc_l (k_run ⟨hx, hb, hml, hown, hts⟩ (c_X3_manyOfSize hc3) (cwV 1 hts gX3_at_X3_manyOfSize rfl rfl rfl (by decide +kernel) ⟨Nat.le_of_ble_eq_true rfl, Nat.le_of_ble_eq_true rfl⟩) hK hN hP hD kA_s (ci := 3) (q0 := 0) rfl rfl rfl rfl hl.1 rfl (Nat.le_of_ble_eq_true rfl) dX3_at_36 ⟨Nat.le_of_ble_eq_true rfl, Nat.le_of_ble_eq_true rfl⟩) hP hD hS hA kI_s (fun _ H locs hP hD hS => ?_)
        refine lv_lstore (lv' := [(7, .long r2), (0, .ref (qR 0)), (3, .int x3), (4, .long x.1), (6, .int x.2)]) hx hb dX3_at_39 hl (by decide) rfl (fun ls hl => ?_)
        refine lv_lload hx hb dX3_at_41 (lv_at hl 3 rfl) ?_
        refine lv_lload hx hb dX3_at_43 (lv_at hl 0 rfl) ?_
        refine kl_ge (tgt := 68) hx hb dX3_at_45 dX3_at_46 (by decide) (fun c4 => ?_) (fun c4 => ?_)
        · have hf := if_t hf c4
          refine lv_lload hx hb dX3_at_68 (lv_at hl 3 rfl) ?_
          refine lv_lload hx hb dX3_at_70 (lv_at hl 0 rfl) ?_
          refine lv_lsub hx hb dX3_at_72 ?_
          refine lv_lstore (lv' := [(4, .long (x.1 - r2)), (7, .long r2), (0, .ref (qR 0)), (3, .int x3), (6, .int x.2)]) hx hb dX3_at_73 hl (by decide) rfl (fun ls hl => ?_)
          refine lv_iinc (v := (x.2 + (1 : Int32))) (lv' := [(6, .int (x.2 + (1 : Int32))), (4, .long (x.1 - r2)), (7, .long r2), (0, .ref (qR 0)), (3, .int x3)]) hx hb dX3_at_75 hl (k := 4) rfl rfl (by decide) rfl (fun ls hl => ?_)
          refine lv_goto (tgt := 27) hx hb dX3_at_78 (by decide) ?_
          exact ih ((x.1 - r2), (x.2 + (1 : Int32))) ex _ _ _ hf hret hex hP hD hS (lv_sub hl [3, 4, 1, 0] rfl)
        · have hf := if_f hf c4
          refine lv_aload_n hx hb dX3_at_49 rfl (lv_at hl 1 rfl) ?_
          refine lv_aload_n hx hb dX3_at_50 rfl (lv_at hl 1 rfl) ?_
          refine lv_iload hx hb dX3_at_51 (lv_at hl 4 rfl) ?_
          obtain ⟨r5, hc6, hf⟩ := ob_some hf
          refine kc_l (k_run ⟨hx, hb, hml, hown, hts⟩ (c_X3_leastHalf hc6) (cwV 1 hts gX3_at_X3_leastHalf rfl rfl rfl (by decide +kernel) ⟨Nat.le_of_ble_eq_true rfl, Nat.le_of_ble_eq_true rfl⟩) hK hN hP hD kA_s (ci := 3) (q0 := 0) rfl rfl rfl rfl hl.1 rfl (Nat.le_of_ble_eq_true rfl) dX3_at_53 ⟨Nat.le_of_ble_eq_true rfl, Nat.le_of_ble_eq_true rfl⟩) hP hD hS hA kI_s (fun _ H locs hP hD hS => ?_)
          refine lv_lload hx hb dX3_at_56 (lv_at hl 3 rfl) ?_
          refine lv_ladd hx hb dX3_at_58 ?_
          refine lv_iload hx hb dX3_at_59 (lv_at hl 4 rfl) ?_
          obtain ⟨r7, hc8, hf⟩ := ob_some hf
          refine kc_l (k_run ⟨hx, hb, hml, hown, hts⟩ (c_X3_mirrored hc8) (cwV 2 hts gX3_at_X3_mirrored rfl rfl rfl (by decide +kernel) ⟨Nat.le_of_ble_eq_true rfl, Nat.le_of_ble_eq_true rfl⟩) hK hN hP hD kA_s (ci := 3) (q0 := 0) rfl rfl rfl rfl hl.1 rfl (Nat.le_of_ble_eq_true rfl) dX3_at_61 ⟨Nat.le_of_ble_eq_true rfl, Nat.le_of_ble_eq_true rfl⟩) hP hD hS hA kI_s (fun _ H locs hP hD hS => ?_)
          obtain ⟨r9, hc10, hf⟩ := ob_some hf
          refine kc_l (k_runS ⟨hx, hb, hml, hown, hts⟩ (c_X3_numberOrNone hc10) (va_cwS 1 hts gX3_at_X3_numberOrNone rfl rfl rfl (by decide +kernel) ⟨Nat.le_of_ble_eq_true rfl, Nat.le_of_ble_eq_true rfl⟩) hK hN hP hD kA_0 rfl hl.1 rfl (Nat.le_of_ble_eq_true rfl) dX3_at_64 ⟨Nat.le_of_ble_eq_true rfl, Nat.le_of_ble_eq_true rfl⟩) hP hD hS hA kI_0 (fun _ H locs hP hD hS => ?_)
          obtain rfl := Option.some.inj hf
          obtain rfl := hret _ rfl
          exact hQ () 67 _ _ _ dX3_at_67 hP hD hS
  refine lv_lload_n hx hb dX3_at_0 rfl (lv_at hl 1 rfl) ?_
  refine lv_lconst (v := (0 : Int64)) hx hb dX3_at_1 (by decide) ?_
  refine kl_ne (tgt := 8) hx hb dX3_at_2 dX3_at_3 (by decide) (fun c11 => ?_) (fun c11 => ?_)
  · have hf := if_f hf c11
    refine lv_aload_n hx hb dX3_at_8 rfl (lv_at hl 0 rfl) ?_
    refine va_get (v := .ref (qG 0)) (D := D) (ci := 3) (C := RX3) (T := TX3) (N := 1) hx hb hts huX3 hown hK hP 0 rfl rfl 0 (by decide) fk9 (fun _ h9 => h9) rfl dX3_at_9 ?_
    refine lv_ldc2 (v := (1000000000000000 : Int64)) hx hb hown fk39 dX3_at_12 ?_
    obtain ⟨r12, hc13, hf⟩ := ob_some hf
    have hI14 : kIn (gR cy qR (qG 0) ++ (gG cy qG g_base g_worth g_row g_many g_version)) (gG cy qG g_base g_worth g_row g_many g_version) (kpick (gR cy qR (qG 0) ++ (gG cy qG g_base g_worth g_row g_many g_version)) [0]) (fun _ : Unit => gG cy qG g_base g_worth r12.2 g_many g_version) (fun _ : Unit => gR cy qR (qG 0) ++ (gG cy qG g_base g_worth r12.2 g_many g_version)) [1, 2, 3, 4] [0] [0, 1, 2, 3, 4] := ⟨rfl, rfl, rfl, rfl, by decide, rfl, fun _ => rfl⟩
    refine kc_i (k_run ⟨hx, hb, hml, hown, hts⟩ (c_X1_split hc13) (cwV 1 hts gX3_at_X1_split rfl rfl rfl (by decide +kernel) ⟨Nat.le_of_ble_eq_true rfl, Nat.le_of_ble_eq_true rfl⟩) hK hN hP hD ⟨hI14.1, hI14.2.2.1⟩ (ci := 1) (q0 := 0) rfl rfl rfl rfl hl.1 rfl (Nat.le_of_ble_eq_true rfl) dX3_at_15 ⟨Nat.le_of_ble_eq_true rfl, Nat.le_of_ble_eq_true rfl⟩) hP hD hS hA hI14 (fun _ H locs hP hD hS => ?_)
    refine lv_istore_n (lv' := [(3, .int r12.1), (0, .ref (qR 0)), (1, .long a1)]) hx hb dX3_at_18 rfl hl (by decide) rfl (fun ls hl => ?_)
    refine lv_lload_n hx hb dX3_at_19 rfl (lv_at hl 2 rfl) ?_
    refine lv_lconst (v := (1 : Int64)) hx hb dX3_at_20 (by decide) ?_
    refine lv_lsub hx hb dX3_at_21 ?_
    refine lv_lstore (lv' := [(4, .long (a1 - (1 : Int64))), (3, .int r12.1), (0, .ref (qR 0)), (1, .long a1)]) hx hb dX3_at_22 hl (by decide) rfl (fun ls hl => ?_)
    refine lv_iconst (v := (1 : Int32)) hx hb dX3_at_24 (by decide) ?_
    refine lv_istore (lv' := [(6, .int (1 : Int32)), (4, .long (a1 - (1 : Int64))), (3, .int r12.1), (0, .ref (qR 0)), (1, .long a1)]) hx hb dX3_at_25 hl (by decide) rfl (fun ls hl => ?_)
    obtain ⟨ex15, hcl, hf⟩ := ob_some hf
    refine hL27 r12.1 r12.2 F ((a1 - (1 : Int64)), (1 : Int32)) ex15 _ _ _ hcl (fun r hr0 => ?_) (fun er16 hr0 H locs ls hP hD hS hl => ?_) hP hD hS (lv_sub hl [3, 2, 1, 0] rfl)
    · subst hr0; exact Option.some.inj (sm_inl hf)
    · subst hr0
      have hf := sm_inr hf
      refine lv_ldc2 (v := (-4 : Int64)) hx hb hown fk45 dX3_at_81 ?_
      obtain rfl := Option.some.inj hf
      exact hQ () 84 _ _ _ dX3_at_84 hP hD hS
  · have hf := if_t hf c11
    refine lv_lconst (v := (0 : Int64)) hx hb dX3_at_6 (by decide) ?_
    obtain rfl := Option.some.inj hf
    exact hQ () 7 _ _ _ dX3_at_7 hP hD hS
def f_X3_leastFrom_J47 (F : Nat) (s0 : Int64) (g_row : Nat → Int32) : Option (Int64 × (Nat → Int32)) := (f_X3_numberOrNone F s0).bind (fun r1 => some (r1, g_row))
def f_X3_leastFrom (F : Nat) (a1 : Int64) (g_base : Int32) (g_row : Nat → Int32) : Option (Int64 × (Nat → Int32)) := (f_X1_split F a1 g_base g_row).bind (fun r3 => (f_X3_halfOf F a1 r3.1 g_base).bind (fun r6 => (f_X3_mirrored F r6 r3.1 g_base).bind (fun r8 => if r8 < a1 then ((f_X3_mirrored F (r6 + (1 : Int64)) r3.1 g_base).bind (fun r11 => f_X3_leastFrom_J47 F r11 r3.2)) else (f_X3_leastFrom_J47 F r8 r3.2))))
abbrev rmX3_leastFrom : Room := { frames := 1, cells := 0, slots := 0, locals := 28 }
set_option maxHeartbeats 1000000 in
set_option maxRecDepth 100000 in
theorem c_X3_leastFrom {l : Launch} {D : va_G} {cy : Nat → ClassId} {qR : Nat → Nat} {qG : Nat → Nat} {g_base : Int32} {g_worth : Nat → Int32} {g_row : Nat → Int32} {g_many : Nat → Int32} {g_version : Int32} {a1 : Int64} {F : Nat} {res : Int64 × (Nat → Int32)} (hf : f_X3_leastFrom F a1 g_base g_row = some res) : kM l yX3_leastFrom wsX3_leastFrom rmX3_leastFrom D cy [.ref (qR 0), .long a1] (gR cy qR (qG 0) ++ (gG cy qG g_base g_worth g_row g_many g_version)) (kQl D cy (fun _ : Unit => gR cy qR (qG 0) ++ (gG cy qG g_base g_worth res.2 g_many g_version)) res.1) := by
  refine kent_l (cc := cX3_leastFrom) (maxL := 8) (by decide) rfl (Nat.le_of_ble_eq_true rfl) ?_
  intro p e0 s m ar below meth c A Q ls ⟨hx, hb, hml, hr, hts, hown, hlocks, hnm⟩ hA hK hN hQ hP hD hS hl
  have hl : lv_has ls 8 [(0, .ref (qR 0)), (1, .long a1)] := hl
  have hown : s.vm.findClass RX3 = some m.cls := hown
  have huX3 : ∀ x ∈ u_ws RX3 TX3 1, x ∈ wsX3_leastFrom := by decide +kernel
  have fk9 : (Cond.fieldLink RX3 9 "FigurePlay$Mirrors" "figures" "LFigurePlay$Figures;").before ar s = true := hts _ (by decide +kernel)
  unfold f_X3_leastFrom at hf
  have hJ47 : ∀ (s0 : Int64) (g_row : Nat → Int32) (H : Heap) (locs : List Loc) (ls : Array Slot), f_X3_leastFrom_J47 F s0 g_row = some res → va_P D vwCl (gR cy qR (qG 0) ++ (gG cy qG g_base g_worth g_row g_many g_version)) H → va_D A (gR cy qR (qG 0) ++ (gG cy qG g_base g_worth g_row g_many g_version)) → va_S A s.heap H locs → lv_has ls 8 [] → W p l e0 rmX3_leastFrom s m ar below meth c H locs 0 0 Q (F0 m 47 ls [.long s0]) := by
    intro s0 g_row H locs ls hf hP hD hS hl
    unfold f_X3_leastFrom_J47 at hf
    obtain ⟨r1, hc2, hf⟩ := ob_some hf
    refine kc_l (k_runS ⟨hx, hb, hml, hown, hts⟩ (c_X3_numberOrNone hc2) (va_cwS 1 hts gX3_leastFrom_X3_numberOrNone rfl rfl rfl (by decide +kernel) ⟨Nat.le_of_ble_eq_true rfl, Nat.le_of_ble_eq_true rfl⟩) hK hN hP hD kA_0 rfl hl.1 rfl (Nat.le_of_ble_eq_true rfl) dX3_leastFrom_47 ⟨Nat.le_of_ble_eq_true rfl, Nat.le_of_ble_eq_true rfl⟩) hP hD hS hA kI_0 (fun _ H locs hP hD hS => ?_)
    obtain rfl := Option.some.inj hf
    exact hQ () 50 _ _ _ dX3_leastFrom_50 hP hD hS
  refine lv_aload_n hx hb dX3_leastFrom_0 rfl (lv_at hl 0 rfl) ?_
  refine va_get (v := .ref (qG 0)) (D := D) (ci := 3) (C := RX3) (T := TX3) (N := 1) hx hb hts huX3 hown hK hP 0 rfl rfl 0 (by decide) fk9 (fun _ h9 => h9) rfl dX3_leastFrom_1 ?_
  refine lv_lload_n hx hb dX3_leastFrom_4 rfl (lv_at hl 1 rfl) ?_
  obtain ⟨r3, hc4, hf⟩ := ob_some hf
  have hI5 : kIn (gR cy qR (qG 0) ++ (gG cy qG g_base g_worth g_row g_many g_version)) (gG cy qG g_base g_worth g_row g_many g_version) (kpick (gR cy qR (qG 0) ++ (gG cy qG g_base g_worth g_row g_many g_version)) [0]) (fun _ : Unit => gG cy qG g_base g_worth r3.2 g_many g_version) (fun _ : Unit => gR cy qR (qG 0) ++ (gG cy qG g_base g_worth r3.2 g_many g_version)) [1, 2, 3, 4] [0] [0, 1, 2, 3, 4] := ⟨rfl, rfl, rfl, rfl, by decide, rfl, fun _ => rfl⟩
  refine kc_i (k_run ⟨hx, hb, hml, hown, hts⟩ (c_X1_split hc4) (cwV 1 hts gX3_leastFrom_X1_split rfl rfl rfl (by decide +kernel) ⟨Nat.le_of_ble_eq_true rfl, Nat.le_of_ble_eq_true rfl⟩) hK hN hP hD ⟨hI5.1, hI5.2.2.1⟩ (ci := 1) (q0 := 0) rfl rfl rfl rfl hl.1 rfl (Nat.le_of_ble_eq_true rfl) dX3_leastFrom_5 ⟨Nat.le_of_ble_eq_true rfl, Nat.le_of_ble_eq_true rfl⟩) hP hD hS hA hI5 (fun _ H locs hP hD hS => ?_)
  refine lv_istore_n (lv' := [(3, .int r3.1), (0, .ref (qR 0)), (1, .long a1)]) hx hb dX3_leastFrom_8 rfl hl (by decide) rfl (fun ls hl => ?_)
  refine lv_aload_n hx hb dX3_leastFrom_9 rfl (lv_at hl 1 rfl) ?_
  refine lv_lload_n hx hb dX3_leastFrom_10 rfl (lv_at hl 2 rfl) ?_
  refine lv_iload_n hx hb dX3_leastFrom_11 rfl (lv_at hl 0 rfl) ?_
  obtain ⟨r6, hc7, hf⟩ := ob_some hf
  refine kc_l (k_run ⟨hx, hb, hml, hown, hts⟩ (c_X3_halfOf hc7) (cwV 2 hts gX3_leastFrom_X3_halfOf rfl rfl rfl (by decide +kernel) ⟨Nat.le_of_ble_eq_true rfl, Nat.le_of_ble_eq_true rfl⟩) hK hN hP hD kA_s (ci := 3) (q0 := 0) rfl rfl rfl rfl hl.1 rfl (Nat.le_of_ble_eq_true rfl) dX3_leastFrom_12 ⟨Nat.le_of_ble_eq_true rfl, Nat.le_of_ble_eq_true rfl⟩) hP hD hS hA kI_s (fun _ H locs hP hD hS => ?_)
  refine lv_lstore (lv' := [(4, .long r6), (3, .int r3.1), (0, .ref (qR 0)), (1, .long a1)]) hx hb dX3_leastFrom_15 hl (by decide) rfl (fun ls hl => ?_)
  refine lv_aload_n hx hb dX3_leastFrom_17 rfl (lv_at hl 2 rfl) ?_
  refine lv_lload hx hb dX3_leastFrom_18 (lv_at hl 0 rfl) ?_
  refine lv_iload_n hx hb dX3_leastFrom_20 rfl (lv_at hl 1 rfl) ?_
  obtain ⟨r8, hc9, hf⟩ := ob_some hf
  refine kc_l (k_run ⟨hx, hb, hml, hown, hts⟩ (c_X3_mirrored hc9) (cwV 2 hts gX3_leastFrom_X3_mirrored rfl rfl rfl (by decide +kernel) ⟨Nat.le_of_ble_eq_true rfl, Nat.le_of_ble_eq_true rfl⟩) hK hN hP hD kA_s (ci := 3) (q0 := 0) rfl rfl rfl rfl hl.1 rfl (Nat.le_of_ble_eq_true rfl) dX3_leastFrom_21 ⟨Nat.le_of_ble_eq_true rfl, Nat.le_of_ble_eq_true rfl⟩) hP hD hS hA kI_s (fun _ H locs hP hD hS => ?_)
  refine lv_lstore (lv' := [(6, .long r8), (4, .long r6), (3, .int r3.1), (0, .ref (qR 0)), (1, .long a1)]) hx hb dX3_leastFrom_24 hl (by decide) rfl (fun ls hl => ?_)
  refine lv_lload hx hb dX3_leastFrom_26 (lv_at hl 0 rfl) ?_
  refine lv_lload_n hx hb dX3_leastFrom_28 rfl (lv_at hl 4 rfl) ?_
  refine kl_lt (tgt := 38) hx hb dX3_leastFrom_29 dX3_leastFrom_30 (by decide) (fun c10 => ?_) (fun c10 => ?_)
  · have hf := if_t hf c10
    refine lv_aload_n hx hb dX3_leastFrom_38 rfl (lv_at hl 3 rfl) ?_
    refine lv_lload hx hb dX3_leastFrom_39 (lv_at hl 1 rfl) ?_
    refine lv_lconst (v := (1 : Int64)) hx hb dX3_leastFrom_41 (by decide) ?_
    refine lv_ladd hx hb dX3_leastFrom_42 ?_
    refine lv_iload_n hx hb dX3_leastFrom_43 rfl (lv_at hl 2 rfl) ?_
    obtain ⟨r11, hc12, hf⟩ := ob_some hf
    refine kc_l (k_run ⟨hx, hb, hml, hown, hts⟩ (c_X3_mirrored hc12) (cwV 2 hts gX3_leastFrom_X3_mirrored rfl rfl rfl (by decide +kernel) ⟨Nat.le_of_ble_eq_true rfl, Nat.le_of_ble_eq_true rfl⟩) hK hN hP hD kA_s (ci := 3) (q0 := 0) rfl rfl rfl rfl hl.1 rfl (Nat.le_of_ble_eq_true rfl) dX3_leastFrom_44 ⟨Nat.le_of_ble_eq_true rfl, Nat.le_of_ble_eq_true rfl⟩) hP hD hS hA kI_s (fun _ H locs hP hD hS => ?_)
    exact hJ47 r11 r3.2 _ _ _ hf hP hD hS (lv_sub hl [] rfl)
  · have hf := if_f hf c10
    refine lv_lload hx hb dX3_leastFrom_33 (lv_at hl 0 rfl) ?_
    refine lv_goto (tgt := 47) hx hb dX3_leastFrom_35 (by decide) ?_
    exact hJ47 r8 r3.2 _ _ _ hf hP hD hS (lv_sub hl [] rfl)
def f_X5_isByTwo_J27 (F : Nat) (s0 : Int32) : Option (Int32) := ck (s0 &&& 1 = s0) (some s0)
def f_X5_isByTwo_J26 (F : Nat) : Option (Int32) := f_X5_isByTwo_J27 F (0 : Int32)
def f_X5_isByTwo (F : Nat) (a1 : Int32) (b_byTwo : Nat → Int32) : Option (Int32) := if a1 < 0 then (f_X5_isByTwo_J26 F) else (if (10001 : Int32) ≤ a1 then (f_X5_isByTwo_J26 F) else (ck (¬ (a1 < 0 ∨ 10001 ≤ a1.toNatClampNeg)) (if (b_byTwo a1.toNatClampNeg) = 0 then (f_X5_isByTwo_J26 F) else (f_X5_isByTwo_J27 F (1 : Int32)))))
abbrev rmX5_isByTwo : Room := { frames := 0, cells := 0, slots := 0, locals := 0 }
set_option maxHeartbeats 1000000 in
set_option maxRecDepth 100000 in
theorem c_X5_isByTwo {l : Launch} {D : va_G} {cy : Nat → ClassId} {qB : Nat → Nat} {qR : Nat → Nat} {qG : Nat → Nat} {b_base : Int32} {b_alone : Nat → Int32} {b_size : Int32} {b_byTwo : Nat → Int32} {g_base : Int32} {g_worth : Nat → Int32} {g_row : Nat → Int32} {g_many : Nat → Int32} {g_version : Int32} {a1 : Int32} {F : Nat} {res : Int32} (hf : f_X5_isByTwo F a1 b_byTwo = some res) : kM l yX5_isByTwo wsX5_isByTwo rmX5_isByTwo D cy [.ref (qB 0), .int a1] (gB cy qB (qR 0) b_base b_alone b_size b_byTwo ++ (gR cy qR (qG 0) ++ (gG cy qG g_base g_worth g_row g_many g_version))) (kQi D cy (fun _ : Unit => gB cy qB (qR 0) b_base b_alone b_size b_byTwo ++ (gR cy qR (qG 0) ++ (gG cy qG g_base g_worth g_row g_many g_version))) res) := by
  refine kent_z (cc := cX5_isByTwo) (maxL := 2) (by decide) rfl (Nat.le_of_ble_eq_true rfl) ?_
  intro p e0 s m ar below meth c A Q ls ⟨hx, hb, hml, hr, hts, hown, hlocks, hnm⟩ hA hK hN hQ hP hD hS hl
  have hl : lv_has ls 2 [(0, .ref (qB 0)), (1, .int a1)] := hl
  have hown : s.vm.findClass RX5 = some m.cls := hown
  have huX5 : ∀ x ∈ u_ws RX5 TX5 5, x ∈ wsX5_isByTwo := by decide +kernel
  have fk22 : (Cond.fieldLink RX5 22 "FigurePlay$Parts" "byTwo" "[Z").before ar s = true := hts _ (by decide +kernel)
  unfold f_X5_isByTwo at hf
  have hJ27 : ∀ (s0 : Int32) (H : Heap) (locs : List Loc) (ls : Array Slot), f_X5_isByTwo_J27 F s0 = some res → va_P D vwCl (gB cy qB (qR 0) b_base b_alone b_size b_byTwo ++ (gR cy qR (qG 0) ++ (gG cy qG g_base g_worth g_row g_many g_version))) H → va_D A (gB cy qB (qR 0) b_base b_alone b_size b_byTwo ++ (gR cy qR (qG 0) ++ (gG cy qG g_base g_worth g_row g_many g_version))) → va_S A s.heap H locs → lv_has ls 2 [] → W p l e0 rmX5_isByTwo s m ar below meth c H locs 0 0 Q (F0 m 27 ls [.int s0]) := by
    intro s0 H locs ls hf hP hD hS hl
    unfold f_X5_isByTwo_J27 at hf
    obtain ⟨cz, hf⟩ := ck_some hf
    obtain rfl := Option.some.inj hf
    exact hQ () 27 _ _ _ cz dX5_isByTwo_27 hP hD hS
  have hJ26 : ∀ (H : Heap) (locs : List Loc) (ls : Array Slot), f_X5_isByTwo_J26 F = some res → va_P D vwCl (gB cy qB (qR 0) b_base b_alone b_size b_byTwo ++ (gR cy qR (qG 0) ++ (gG cy qG g_base g_worth g_row g_many g_version))) H → va_D A (gB cy qB (qR 0) b_base b_alone b_size b_byTwo ++ (gR cy qR (qG 0) ++ (gG cy qG g_base g_worth g_row g_many g_version))) → va_S A s.heap H locs → lv_has ls 2 [] → W p l e0 rmX5_isByTwo s m ar below meth c H locs 0 0 Q (F0 m 26 ls []) := by
    intro H locs ls hf hP hD hS hl
    unfold f_X5_isByTwo_J26 at hf
    refine lv_iconst (v := (0 : Int32)) hx hb dX5_isByTwo_26 (by decide) ?_
    exact hJ27 (0 : Int32) _ _ _ hf hP hD hS (lv_sub hl [] rfl)
  refine lv_iload_n hx hb dX5_isByTwo_0 rfl (lv_at hl 1 rfl) ?_
  refine lv_if_lt (tgt := 26) hx hb dX5_isByTwo_1 (by decide) (fun c1 => ?_) (fun c1 => ?_)
  · have hf := if_t hf c1
    exact hJ26 _ _ _ hf hP hD hS (lv_sub hl [] rfl)
  · have hf := if_f hf c1
    refine lv_iload_n hx hb dX5_isByTwo_4 rfl (lv_at hl 1 rfl) ?_
    refine lv_aload_n hx hb dX5_isByTwo_5 rfl (lv_at hl 0 rfl) ?_
    refine va_get (v := .ref (qB 2)) (D := D) (ci := 5) (C := RX5) (T := TX5) (N := 5) hx hb hts huX5 hown hK hP 0 rfl rfl 4 (by decide) fk22 (fun _ h9 => h9) rfl dX5_isByTwo_6 ?_
    refine va_alen (v := (10001 : Int32)) hx hb hK hP 2 2 rfl rfl rfl dX5_isByTwo_9 ?_
    refine lv_icmp_ge (tgt := 26) hx hb dX5_isByTwo_10 (by decide) (fun c2 => ?_) (fun c2 => ?_)
    · have hf := if_t hf c2
      exact hJ26 _ _ _ hf hP hD hS (lv_sub hl [] rfl)
    · have hf := if_f hf c2
      refine lv_aload_n hx hb dX5_isByTwo_13 rfl (lv_at hl 0 rfl) ?_
      refine va_get (v := .ref (qB 2)) (D := D) (ci := 5) (C := RX5) (T := TX5) (N := 5) hx hb hts huX5 hown hK hP 0 rfl rfl 4 (by decide) fk22 (fun _ h9 => h9) rfl dX5_isByTwo_14 ?_
      refine lv_iload_n hx hb dX5_isByTwo_17 rfl (lv_at hl 1 rfl) ?_
      obtain ⟨c3, hf⟩ := ck_some hf
      refine va_zald hx hb hK hP 2 2 rfl rfl c3 dX5_isByTwo_18 ?_
      refine lv_if_eq (tgt := 26) hx hb dX5_isByTwo_19 (by decide) (fun c4 => ?_) (fun c4 => ?_)
      · have hf := if_t hf c4
        exact hJ26 _ _ _ hf hP hD hS (lv_sub hl [] rfl)
      · have hf := if_f hf c4
        refine lv_iconst (v := (1 : Int32)) hx hb dX5_isByTwo_22 (by decide) ?_
        refine lv_goto (tgt := 27) hx hb dX5_isByTwo_23 (by decide) ?_
        exact hJ27 (1 : Int32) _ _ _ hf hP hD hS (lv_sub hl [] rfl)
def f_X5_renew_B143 (F : Nat) (x1 : Int32) (g_row : Nat → Int32) (b_base : Int32) (b_alone : Nat → Int32) (b_size : Int32) (rec : Int32 × (Nat → Int32) → Option ((Nat → Int32))) (x : Int32 × (Nat → Int32)) : Option ((Nat → Int32)) := if b_size ≤ x.1 then (some x.2) else (ck (¬ (x1 < 0 ∨ 512 ≤ x1.toNatClampNeg)) (ck (¬ (x.1 < 0 ∨ 512 ≤ x.1.toNatClampNeg)) (if (10001 : Int32) ≤ ((b_alone x1.toNatClampNeg) + (b_alone x.1.toNatClampNeg)) then (some x.2) else (ck (¬ (x1 < 0 ∨ 512 ≤ x1.toNatClampNeg)) (ck (¬ (x.1 < 0 ∨ 512 ≤ x.1.toNatClampNeg)) (ck (¬ (((b_alone x1.toNatClampNeg) + (b_alone x.1.toNatClampNeg)) < 0 ∨ 10001 ≤ ((b_alone x1.toNatClampNeg) + (b_alone x.1.toNatClampNeg)).toNatClampNeg)) (rec ((x.1 + (1 : Int32)), (upd x.2 ((b_alone x1.toNatClampNeg) + (b_alone x.1.toNatClampNeg)).toNatClampNeg (vp_nar .boolean (1 : Int32)))))))))))
def f_X5_renew_B133 (F : Nat) (g_row : Nat → Int32) (b_base : Int32) (b_alone : Nat → Int32) (b_size : Int32) (rec : Int32 × (Nat → Int32) → Option ((Nat → Int32))) (x : Int32 × (Nat → Int32)) : Option ((Nat → Int32)) := if b_size ≤ x.1 then (some x.2) else ((lp (f_X5_renew_B143 F x.1 g_row b_base b_alone b_size) F (x.1, x.2)).bind (fun ex9 => rec ((x.1 + (1 : Int32)), ex9)))
def f_X5_renew_B109 (F : Nat) (g_row : Nat → Int32) (b_base : Int32) (b_alone : Nat → Int32) (b_size : Int32) (rec : Int32 × (Nat → Int32) → Option ((Nat → Int32))) (x : Int32 × (Nat → Int32)) : Option ((Nat → Int32)) := if (10001 : Int32) ≤ x.1 then (some x.2) else (ck (¬ (x.1 < 0 ∨ 10001 ≤ x.1.toNatClampNeg)) (rec ((x.1 + (1 : Int32)), (upd x.2 x.1.toNatClampNeg (vp_nar .boolean (0 : Int32))))))
def f_X5_renew_B37 (F : Nat) (g_base : Int32) (b_base : Int32) (b_byTwo : Nat → Int32) (rec : (Nat → Int32) × (Nat → Int32) × Int32 → Option ((Nat → Int32) × (Nat → Int32) × Int32)) (x : (Nat → Int32) × (Nat → Int32) × Int32) : Option ((Nat → Int32) × (Nat → Int32) × Int32) := if (512 : Int32) ≤ x.2.2 then (some (x.1, x.2.1, x.2.2)) else ((f_X3_at F (x.2.2 + (1 : Int32)).toInt64 g_base x.1).bind (fun r13 => if (10000 : Int64) < r13.1 then (some (r13.2, x.2.1, x.2.2)) else ((f_X3_at F (x.2.2 + (1 : Int32)).toInt64 g_base r13.2).bind (fun r17 => ck (¬ (x.2.2 < 0 ∨ 512 ≤ x.2.2.toNatClampNeg)) (rec (r17.2, (upd x.2.1 x.2.2.toNatClampNeg r17.1.toInt32), (x.2.2 + (1 : Int32))))))))
def f_X5_renew (F : Nat) (g_base : Int32) (g_row : Nat → Int32) (b_base : Int32) (b_alone : Nat → Int32) (b_size : Int32) (b_byTwo : Nat → Int32) : Option ((Nat → Int32) × Int32 × (Nat → Int32) × Int32 × (Nat → Int32)) := if b_base = g_base then (some (g_row, b_base, b_alone, b_size, b_byTwo)) else ((lp (f_X5_renew_B37 F g_base g_base b_byTwo) F (g_row, b_alone, (0 : Int32))).bind (fun ex22 => (lp (f_X5_renew_B109 F ex22.1 g_base ex22.2.1 ex22.2.2) F ((0 : Int32), b_byTwo)).bind (fun ex23 => (lp (f_X5_renew_B133 F ex22.1 g_base ex22.2.1 ex22.2.2) F ((0 : Int32), ex23)).bind (fun ex24 => some (ex22.1, g_base, ex22.2.1, ex22.2.2, ex24)))))
abbrev rmX5_renew : Room := { frames := 4, cells := 0, slots := 0, locals := 94 }
set_option maxHeartbeats 1000000 in
set_option maxRecDepth 100000 in
theorem c_X5_renew {l : Launch} {D : va_G} {cy : Nat → ClassId} {qB : Nat → Nat} {qR : Nat → Nat} {qG : Nat → Nat} {b_base : Int32} {b_alone : Nat → Int32} {b_size : Int32} {b_byTwo : Nat → Int32} {g_base : Int32} {g_worth : Nat → Int32} {g_row : Nat → Int32} {g_many : Nat → Int32} {g_version : Int32} {F : Nat} {res : (Nat → Int32) × Int32 × (Nat → Int32) × Int32 × (Nat → Int32)} (hf : f_X5_renew F g_base g_row b_base b_alone b_size b_byTwo = some res) : kM l yX5_renew wsX5_renew rmX5_renew D cy [.ref (qB 0)] (gB cy qB (qR 0) b_base b_alone b_size b_byTwo ++ (gR cy qR (qG 0) ++ (gG cy qG g_base g_worth g_row g_many g_version))) (kQv D cy (fun _ : Unit => gB cy qB (qR 0) res.2.1 res.2.2.1 res.2.2.2.1 res.2.2.2.2 ++ (gR cy qR (qG 0) ++ (gG cy qG g_base g_worth res.1 g_many g_version)))) := by
  refine kent_v (cc := cX5_renew) (maxL := 3) (by decide) rfl (Nat.le_of_ble_eq_true rfl) ?_
  intro p e0 s m ar below meth c A Q ls ⟨hx, hb, hml, hr, hts, hown, hlocks, hnm⟩ hA hK hN hQ hP hD hS hl
  have hl : lv_has ls 3 [(0, .ref (qB 0))] := hl
  have hown : s.vm.findClass RX5 = some m.cls := hown
  have huX5 : ∀ x ∈ u_ws RX5 TX5 5, x ∈ wsX5_renew := by decide +kernel
  have fk19 : (Cond.fieldLink RX5 19 "FigurePlay$Parts" "size" "I").before ar s = true := hts _ (by decide +kernel)
  have fk15 : (Cond.fieldLink RX5 15 "FigurePlay$Parts" "alone" "[I").before ar s = true := hts _ (by decide +kernel)
  have fk22 : (Cond.fieldLink RX5 22 "FigurePlay$Parts" "byTwo" "[Z").before ar s = true := hts _ (by decide +kernel)
  have fk26 : (Cond.fieldLink RX5 26 "FigurePlay$Parts" "mirrors" "LFigurePlay$Mirrors;").before ar s = true := hts _ (by decide +kernel)
  have fk54 : (Cond.constantLong RX5 54 (10000)).before ar s = true := hts _ (by decide +kernel)
  have fk9 : (Cond.fieldLink RX5 9 "FigurePlay$Parts" "base" "I").before ar s = true := hts _ (by decide +kernel)
  have huX3 : ∀ x ∈ u_ws RX3 TX3 1, x ∈ wsX5_renew := by decide +kernel
  have fk43 : (Cond.fieldLink RX5 43 "FigurePlay$Mirrors" "figures" "LFigurePlay$Figures;").before ar s = true := hts _ (by decide +kernel)
  have huX1 : ∀ x ∈ u_ws RX1 TX1 5, x ∈ wsX5_renew := by decide +kernel
  have fk47 : (Cond.fieldLink RX5 47 "FigurePlay$Figures" "base" "I").before ar s = true := hts _ (by decide +kernel)
  unfold f_X5_renew at hf
  have hL133 : ∀ (g_row : Nat → Int32) (b_base : Int32) (b_alone : Nat → Int32) (b_size : Int32) (k : Nat) (x : Int32 × (Nat → Int32)) (ex : (Nat → Int32)) (H : Heap) (locs : List Loc) (ls : Array Slot), lp (f_X5_renew_B133 F g_row b_base b_alone b_size) k x = some ex → (∀ (H : Heap) (locs : List Loc) (ls : Array Slot), va_P D vwCl (gB cy qB (qR 0) b_base b_alone b_size ex ++ (gR cy qR (qG 0) ++ (gG cy qG g_base g_worth g_row g_many g_version))) H → va_D A (gB cy qB (qR 0) b_base b_alone b_size ex ++ (gR cy qR (qG 0) ++ (gG cy qG g_base g_worth g_row g_many g_version))) → va_S A s.heap H locs → lv_has ls 3 [] → W p l e0 rmX5_renew s m ar below meth c H locs 0 0 Q (F0 m 203 ls [])) → va_P D vwCl (gB cy qB (qR 0) b_base b_alone b_size x.2 ++ (gR cy qR (qG 0) ++ (gG cy qG g_base g_worth g_row g_many g_version))) H → va_D A (gB cy qB (qR 0) b_base b_alone b_size x.2 ++ (gR cy qR (qG 0) ++ (gG cy qG g_base g_worth g_row g_many g_version))) → va_S A s.heap H locs → lv_has ls 3 [(0, .ref (qB 0)), (1, .int x.1)] → W p l e0 rmX5_renew s m ar below meth c H locs 0 0 Q (F0 m 133 ls []) := by
    intro g_row b_base b_alone b_size k
    induction k with
    | zero => intro x ex H locs ls hf; exact no_some hf
    | succ k ih =>
      intro x ex H locs ls hf hex hP hD hS hl
      have hf : f_X5_renew_B133 F g_row b_base b_alone b_size (lp (f_X5_renew_B133 F g_row b_base b_alone b_size) k) x = some ex := hf
      unfold f_X5_renew_B133 at hf
      have hL143 : ∀ (x1 : Int32) (g_row : Nat → Int32) (b_base : Int32) (b_alone : Nat → Int32) (b_size : Int32) (k : Nat) (x : Int32 × (Nat → Int32)) (ex : (Nat → Int32)) (H : Heap) (locs : List Loc) (ls : Array Slot), lp (f_X5_renew_B143 F x1 g_row b_base b_alone b_size) k x = some ex → (∀ (H : Heap) (locs : List Loc) (ls : Array Slot), va_P D vwCl (gB cy qB (qR 0) b_base b_alone b_size ex ++ (gR cy qR (qG 0) ++ (gG cy qG g_base g_worth g_row g_many g_version))) H → va_D A (gB cy qB (qR 0) b_base b_alone b_size ex ++ (gR cy qR (qG 0) ++ (gG cy qG g_base g_worth g_row g_many g_version))) → va_S A s.heap H locs → lv_has ls 3 [(0, .ref (qB 0)), (1, .int x1)] → W p l e0 rmX5_renew s m ar below meth c H locs 0 0 Q (F0 m 197 ls [])) → va_P D vwCl (gB cy qB (qR 0) b_base b_alone b_size x.2 ++ (gR cy qR (qG 0) ++ (gG cy qG g_base g_worth g_row g_many g_version))) H → va_D A (gB cy qB (qR 0) b_base b_alone b_size x.2 ++ (gR cy qR (qG 0) ++ (gG cy qG g_base g_worth g_row g_many g_version))) → va_S A s.heap H locs → lv_has ls 3 [(0, .ref (qB 0)), (1, .int x1), (2, .int x.1)] → W p l e0 rmX5_renew s m ar below meth c H locs 0 0 Q (F0 m 143 ls []) := by
        intro x1 g_row b_base b_alone b_size k
        induction k with
        | zero => intro x ex H locs ls hf; exact no_some hf
        | succ k ih =>
          intro x ex H locs ls hf hex hP hD hS hl
          have hf : f_X5_renew_B143 F x1 g_row b_base b_alone b_size (lp (f_X5_renew_B143 F x1 g_row b_base b_alone b_size) k) x = some ex := hf
          unfold f_X5_renew_B143 at hf
          refine lv_iload_n hx hb dX5_renew_143 rfl (lv_at hl 2 rfl) ?_
          refine lv_aload_n hx hb dX5_renew_144 rfl (lv_at hl 0 rfl) ?_
          refine va_get (D := D) (ci := 5) (C := RX5) (T := TX5) (N := 5) hx hb hts huX5 hown hK hP 0 rfl rfl 3 (by decide) fk19 (fun _ h9 => h9) rfl dX5_renew_145 ?_
          refine lv_icmp_ge (tgt := 197) hx hb dX5_renew_148 (by decide) (fun c1 => ?_) (fun c1 => ?_)
          · have hf := if_t hf c1
            obtain rfl := Option.some.inj hf
            exact hex _ _ _ hP hD hS (lv_sub hl [0, 1] rfl)
          · have hf := if_f hf c1
            refine lv_aload_n hx hb dX5_renew_151 rfl (lv_at hl 0 rfl) ?_
            refine va_get (v := .ref (qB 1)) (D := D) (ci := 5) (C := RX5) (T := TX5) (N := 5) hx hb hts huX5 hown hK hP 0 rfl rfl 2 (by decide) fk15 (fun _ h9 => h9) rfl dX5_renew_152 ?_
            refine lv_iload_n hx hb dX5_renew_155 rfl (lv_at hl 1 rfl) ?_
            obtain ⟨c2, hf⟩ := ck_some hf
            refine va_iald hx hb hK hP 1 0 rfl rfl c2 dX5_renew_156 ?_
            refine lv_aload_n hx hb dX5_renew_157 rfl (lv_at hl 0 rfl) ?_
            refine va_get (v := .ref (qB 1)) (D := D) (ci := 5) (C := RX5) (T := TX5) (N := 5) hx hb hts huX5 hown hK hP 0 rfl rfl 2 (by decide) fk15 (fun _ h9 => h9) rfl dX5_renew_158 ?_
            refine lv_iload_n hx hb dX5_renew_161 rfl (lv_at hl 2 rfl) ?_
            obtain ⟨c3, hf⟩ := ck_some hf
            refine va_iald hx hb hK hP 1 0 rfl rfl c3 dX5_renew_162 ?_
            refine lv_iadd hx hb dX5_renew_163 ?_
            refine lv_aload_n hx hb dX5_renew_164 rfl (lv_at hl 0 rfl) ?_
            refine va_get (v := .ref (qB 2)) (D := D) (ci := 5) (C := RX5) (T := TX5) (N := 5) hx hb hts huX5 hown hK hP 0 rfl rfl 4 (by decide) fk22 (fun _ h9 => h9) rfl dX5_renew_165 ?_
            refine va_alen (v := (10001 : Int32)) hx hb hK hP 2 2 rfl rfl rfl dX5_renew_168 ?_
            refine lv_icmp_ge (tgt := 197) hx hb dX5_renew_169 (by decide) (fun c4 => ?_) (fun c4 => ?_)
            · have hf := if_t hf c4
              obtain rfl := Option.some.inj hf
              exact hex _ _ _ hP hD hS (lv_sub hl [0, 1] rfl)
            · have hf := if_f hf c4
              refine lv_aload_n hx hb dX5_renew_172 rfl (lv_at hl 0 rfl) ?_
              refine va_get (v := .ref (qB 2)) (D := D) (ci := 5) (C := RX5) (T := TX5) (N := 5) hx hb hts huX5 hown hK hP 0 rfl rfl 4 (by decide) fk22 (fun _ h9 => h9) rfl dX5_renew_173 ?_
              refine lv_aload_n hx hb dX5_renew_176 rfl (lv_at hl 0 rfl) ?_
              refine va_get (v := .ref (qB 1)) (D := D) (ci := 5) (C := RX5) (T := TX5) (N := 5) hx hb hts huX5 hown hK hP 0 rfl rfl 2 (by decide) fk15 (fun _ h9 => h9) rfl dX5_renew_177 ?_
              refine lv_iload_n hx hb dX5_renew_180 rfl (lv_at hl 1 rfl) ?_
              obtain ⟨c5, hf⟩ := ck_some hf
              refine va_iald hx hb hK hP 1 0 rfl rfl c5 dX5_renew_181 ?_
              refine lv_aload_n hx hb dX5_renew_182 rfl (lv_at hl 0 rfl) ?_
              refine va_get (v := .ref (qB 1)) (D := D) (ci := 5) (C := RX5) (T := TX5) (N := 5) hx hb hts huX5 hown hK hP 0 rfl rfl 2 (by decide) fk15 (fun _ h9 => h9) rfl dX5_renew_183 ?_
              refine lv_iload_n hx hb dX5_renew_186 rfl (lv_at hl 2 rfl) ?_
              obtain ⟨c6, hf⟩ := ck_some hf
              refine va_iald hx hb hK hP 1 0 rfl rfl c6 dX5_renew_187 ?_
              refine lv_iadd hx hb dX5_renew_188 ?_
              refine lv_iconst (v := (1 : Int32)) hx hb dX5_renew_189 (by decide) ?_
              obtain ⟨c7, hf⟩ := ck_some hf
              refine va_zast hx hb hK hP hD hS 2 2 rfl rfl c7 dX5_renew_190 (fun H locs hP hD hS => ?_)
              have hP : va_P D vwCl (gB cy qB (qR 0) b_base b_alone b_size (upd x.2 ((b_alone x1.toNatClampNeg) + (b_alone x.1.toNatClampNeg)).toNatClampNeg (vp_nar .boolean (1 : Int32))) ++ (gR cy qR (qG 0) ++ (gG cy qG g_base g_worth g_row g_many g_version))) H := hP
              have hD : va_D A (gB cy qB (qR 0) b_base b_alone b_size (upd x.2 ((b_alone x1.toNatClampNeg) + (b_alone x.1.toNatClampNeg)).toNatClampNeg (vp_nar .boolean (1 : Int32))) ++ (gR cy qR (qG 0) ++ (gG cy qG g_base g_worth g_row g_many g_version))) := hD
              refine lv_iinc (v := (x.1 + (1 : Int32))) (lv' := [(2, .int (x.1 + (1 : Int32))), (0, .ref (qB 0)), (1, .int x1)]) hx hb dX5_renew_191 hl (k := 2) rfl rfl (by decide) rfl (fun ls hl => ?_)
              refine lv_goto (tgt := 143) hx hb dX5_renew_194 (by decide) ?_
              exact ih ((x.1 + (1 : Int32)), (upd x.2 ((b_alone x1.toNatClampNeg) + (b_alone x.1.toNatClampNeg)).toNatClampNeg (vp_nar .boolean (1 : Int32)))) ex _ _ _ hf hex hP hD hS (lv_sub hl [1, 2, 0] rfl)
      refine lv_iload_n hx hb dX5_renew_133 rfl (lv_at hl 1 rfl) ?_
      refine lv_aload_n hx hb dX5_renew_134 rfl (lv_at hl 0 rfl) ?_
      refine va_get (D := D) (ci := 5) (C := RX5) (T := TX5) (N := 5) hx hb hts huX5 hown hK hP 0 rfl rfl 3 (by decide) fk19 (fun _ h9 => h9) rfl dX5_renew_135 ?_
      refine lv_icmp_ge (tgt := 203) hx hb dX5_renew_138 (by decide) (fun c8 => ?_) (fun c8 => ?_)
      · have hf := if_t hf c8
        obtain rfl := Option.some.inj hf
        exact hex _ _ _ hP hD hS (lv_sub hl [] rfl)
      · have hf := if_f hf c8
        refine lv_iload_n hx hb dX5_renew_141 rfl (lv_at hl 1 rfl) ?_
        refine lv_istore_n (lv' := [(2, .int x.1), (0, .ref (qB 0)), (1, .int x.1)]) hx hb dX5_renew_142 rfl hl (by decide) rfl (fun ls hl => ?_)
        obtain ⟨ex9, hcl, hf⟩ := ob_some hf
        refine hL143 x.1 g_row b_base b_alone b_size F (x.1, x.2) ex9 _ _ _ hcl (fun H locs ls hP hD hS hl => ?_) hP hD hS (lv_sub hl [1, 2, 0] rfl)
        refine lv_iinc (v := (x.1 + (1 : Int32))) (lv' := [(1, .int (x.1 + (1 : Int32))), (0, .ref (qB 0))]) hx hb dX5_renew_197 hl (k := 1) rfl rfl (by decide) rfl (fun ls hl => ?_)
        refine lv_goto (tgt := 133) hx hb dX5_renew_200 (by decide) ?_
        exact ih ((x.1 + (1 : Int32)), ex9) ex _ _ _ hf hex hP hD hS (lv_sub hl [1, 0] rfl)
  have hL109 : ∀ (g_row : Nat → Int32) (b_base : Int32) (b_alone : Nat → Int32) (b_size : Int32) (k : Nat) (x : Int32 × (Nat → Int32)) (ex : (Nat → Int32)) (H : Heap) (locs : List Loc) (ls : Array Slot), lp (f_X5_renew_B109 F g_row b_base b_alone b_size) k x = some ex → (∀ (H : Heap) (locs : List Loc) (ls : Array Slot), va_P D vwCl (gB cy qB (qR 0) b_base b_alone b_size ex ++ (gR cy qR (qG 0) ++ (gG cy qG g_base g_worth g_row g_many g_version))) H → va_D A (gB cy qB (qR 0) b_base b_alone b_size ex ++ (gR cy qR (qG 0) ++ (gG cy qG g_base g_worth g_row g_many g_version))) → va_S A s.heap H locs → lv_has ls 3 [(0, .ref (qB 0))] → W p l e0 rmX5_renew s m ar below meth c H locs 0 0 Q (F0 m 131 ls [])) → va_P D vwCl (gB cy qB (qR 0) b_base b_alone b_size x.2 ++ (gR cy qR (qG 0) ++ (gG cy qG g_base g_worth g_row g_many g_version))) H → va_D A (gB cy qB (qR 0) b_base b_alone b_size x.2 ++ (gR cy qR (qG 0) ++ (gG cy qG g_base g_worth g_row g_many g_version))) → va_S A s.heap H locs → lv_has ls 3 [(0, .ref (qB 0)), (1, .int x.1)] → W p l e0 rmX5_renew s m ar below meth c H locs 0 0 Q (F0 m 109 ls []) := by
    intro g_row b_base b_alone b_size k
    induction k with
    | zero => intro x ex H locs ls hf; exact no_some hf
    | succ k ih =>
      intro x ex H locs ls hf hex hP hD hS hl
      have hf : f_X5_renew_B109 F g_row b_base b_alone b_size (lp (f_X5_renew_B109 F g_row b_base b_alone b_size) k) x = some ex := hf
      unfold f_X5_renew_B109 at hf
      refine lv_iload_n hx hb dX5_renew_109 rfl (lv_at hl 1 rfl) ?_
      refine lv_aload_n hx hb dX5_renew_110 rfl (lv_at hl 0 rfl) ?_
      refine va_get (v := .ref (qB 2)) (D := D) (ci := 5) (C := RX5) (T := TX5) (N := 5) hx hb hts huX5 hown hK hP 0 rfl rfl 4 (by decide) fk22 (fun _ h9 => h9) rfl dX5_renew_111 ?_
      refine va_alen (v := (10001 : Int32)) hx hb hK hP 2 2 rfl rfl rfl dX5_renew_114 ?_
      refine lv_icmp_ge (tgt := 131) hx hb dX5_renew_115 (by decide) (fun c10 => ?_) (fun c10 => ?_)
      · have hf := if_t hf c10
        obtain rfl := Option.some.inj hf
        exact hex _ _ _ hP hD hS (lv_sub hl [0] rfl)
      · have hf := if_f hf c10
        refine lv_aload_n hx hb dX5_renew_118 rfl (lv_at hl 0 rfl) ?_
        refine va_get (v := .ref (qB 2)) (D := D) (ci := 5) (C := RX5) (T := TX5) (N := 5) hx hb hts huX5 hown hK hP 0 rfl rfl 4 (by decide) fk22 (fun _ h9 => h9) rfl dX5_renew_119 ?_
        refine lv_iload_n hx hb dX5_renew_122 rfl (lv_at hl 1 rfl) ?_
        refine lv_iconst (v := (0 : Int32)) hx hb dX5_renew_123 (by decide) ?_
        obtain ⟨c11, hf⟩ := ck_some hf
        refine va_zast hx hb hK hP hD hS 2 2 rfl rfl c11 dX5_renew_124 (fun H locs hP hD hS => ?_)
        have hP : va_P D vwCl (gB cy qB (qR 0) b_base b_alone b_size (upd x.2 x.1.toNatClampNeg (vp_nar .boolean (0 : Int32))) ++ (gR cy qR (qG 0) ++ (gG cy qG g_base g_worth g_row g_many g_version))) H := hP
        have hD : va_D A (gB cy qB (qR 0) b_base b_alone b_size (upd x.2 x.1.toNatClampNeg (vp_nar .boolean (0 : Int32))) ++ (gR cy qR (qG 0) ++ (gG cy qG g_base g_worth g_row g_many g_version))) := hD
        refine lv_iinc (v := (x.1 + (1 : Int32))) (lv' := [(1, .int (x.1 + (1 : Int32))), (0, .ref (qB 0))]) hx hb dX5_renew_125 hl (k := 1) rfl rfl (by decide) rfl (fun ls hl => ?_)
        refine lv_goto (tgt := 109) hx hb dX5_renew_128 (by decide) ?_
        exact ih ((x.1 + (1 : Int32)), (upd x.2 x.1.toNatClampNeg (vp_nar .boolean (0 : Int32)))) ex _ _ _ hf hex hP hD hS (lv_sub hl [1, 0] rfl)
  have hL37 : ∀ (b_base : Int32) (b_byTwo : Nat → Int32) (k : Nat) (x : (Nat → Int32) × (Nat → Int32) × Int32) (ex : (Nat → Int32) × (Nat → Int32) × Int32) (H : Heap) (locs : List Loc) (ls : Array Slot), lp (f_X5_renew_B37 F g_base b_base b_byTwo) k x = some ex → (∀ (H : Heap) (locs : List Loc) (ls : Array Slot), va_P D vwCl (gB cy qB (qR 0) b_base ex.2.1 ex.2.2 b_byTwo ++ (gR cy qR (qG 0) ++ (gG cy qG g_base g_worth ex.1 g_many g_version))) H → va_D A (gB cy qB (qR 0) b_base ex.2.1 ex.2.2 b_byTwo ++ (gR cy qR (qG 0) ++ (gG cy qG g_base g_worth ex.1 g_many g_version))) → va_S A s.heap H locs → lv_has ls 3 [(0, .ref (qB 0))] → W p l e0 rmX5_renew s m ar below meth c H locs 0 0 Q (F0 m 107 ls [])) → va_P D vwCl (gB cy qB (qR 0) b_base x.2.1 x.2.2 b_byTwo ++ (gR cy qR (qG 0) ++ (gG cy qG g_base g_worth x.1 g_many g_version))) H → va_D A (gB cy qB (qR 0) b_base x.2.1 x.2.2 b_byTwo ++ (gR cy qR (qG 0) ++ (gG cy qG g_base g_worth x.1 g_many g_version))) → va_S A s.heap H locs → lv_has ls 3 [(0, .ref (qB 0))] → W p l e0 rmX5_renew s m ar below meth c H locs 0 0 Q (F0 m 37 ls []) := by
    intro b_base b_byTwo k
    induction k with
    | zero => intro x ex H locs ls hf; exact no_some hf
    | succ k ih =>
      intro x ex H locs ls hf hex hP hD hS hl
      have hf : f_X5_renew_B37 F g_base b_base b_byTwo (lp (f_X5_renew_B37 F g_base b_base b_byTwo) k) x = some ex := hf
      unfold f_X5_renew_B37 at hf
      refine lv_aload_n hx hb dX5_renew_37 rfl (lv_at hl 0 rfl) ?_
      refine va_get (D := D) (ci := 5) (C := RX5) (T := TX5) (N := 5) hx hb hts huX5 hown hK hP 0 rfl rfl 3 (by decide) fk19 (fun _ h9 => h9) rfl dX5_renew_38 ?_
      refine lv_aload_n hx hb dX5_renew_41 rfl (lv_at hl 0 rfl) ?_
      refine va_get (v := .ref (qB 1)) (D := D) (ci := 5) (C := RX5) (T := TX5) (N := 5) hx hb hts huX5 hown hK hP 0 rfl rfl 2 (by decide) fk15 (fun _ h9 => h9) rfl dX5_renew_42 ?_
      refine va_alen (v := (512 : Int32)) hx hb hK hP 1 0 rfl rfl rfl dX5_renew_45 ?_
      refine lv_icmp_ge (tgt := 107) hx hb dX5_renew_46 (by decide) (fun c12 => ?_) (fun c12 => ?_)
      · have hf := if_t hf c12
        obtain rfl := Option.some.inj hf
        exact hex _ _ _ hP hD hS (lv_sub hl [0] rfl)
      · have hf := if_f hf c12
        refine lv_aload_n hx hb dX5_renew_49 rfl (lv_at hl 0 rfl) ?_
        refine va_get (v := .ref (qR 0)) (D := D) (ci := 5) (C := RX5) (T := TX5) (N := 5) hx hb hts huX5 hown hK hP 0 rfl rfl 0 (by decide) fk26 (fun _ h9 => h9) rfl dX5_renew_50 ?_
        refine lv_aload_n hx hb dX5_renew_53 rfl (lv_at hl 0 rfl) ?_
        refine va_get (D := D) (ci := 5) (C := RX5) (T := TX5) (N := 5) hx hb hts huX5 hown hK hP 0 rfl rfl 3 (by decide) fk19 (fun _ h9 => h9) rfl dX5_renew_54 ?_
        refine lv_iconst (v := (1 : Int32)) hx hb dX5_renew_57 (by decide) ?_
        refine lv_iadd hx hb dX5_renew_58 ?_
        refine lv_i2l hx hb dX5_renew_59 rfl ?_
        obtain ⟨r13, hc14, hf⟩ := ob_some hf
        have hI15 : kIn (gB cy qB (qR 0) b_base x.2.1 x.2.2 b_byTwo ++ (gR cy qR (qG 0) ++ (gG cy qG g_base g_worth x.1 g_many g_version))) (gR cy qR (qG 0) ++ (gG cy qG g_base g_worth x.1 g_many g_version)) (kpick (gB cy qB (qR 0) b_base x.2.1 x.2.2 b_byTwo ++ (gR cy qR (qG 0) ++ (gG cy qG g_base g_worth x.1 g_many g_version))) [0, 1, 2]) (fun _ : Unit => gR cy qR (qG 0) ++ (gG cy qG g_base g_worth r13.2 g_many g_version)) (fun _ : Unit => gB cy qB (qR 0) b_base x.2.1 x.2.2 b_byTwo ++ (gR cy qR (qG 0) ++ (gG cy qG g_base g_worth r13.2 g_many g_version))) [3, 4, 5, 6, 7] [0, 1, 2] [0, 1, 2, 3, 4, 5, 6, 7] := ⟨rfl, rfl, rfl, rfl, by decide, rfl, fun _ => rfl⟩
        refine kc_l (k_run ⟨hx, hb, hml, hown, hts⟩ (c_X3_at hc14) (cwV 1 hts gX5_renew_X3_at rfl rfl rfl (by decide +kernel) ⟨Nat.le_of_ble_eq_true rfl, Nat.le_of_ble_eq_true rfl⟩) hK hN hP hD ⟨hI15.1, hI15.2.2.1⟩ (ci := 3) (q0 := 0) rfl rfl rfl rfl hl.1 rfl (Nat.le_of_ble_eq_true rfl) dX5_renew_60 ⟨Nat.le_of_ble_eq_true rfl, Nat.le_of_ble_eq_true rfl⟩) hP hD hS hA hI15 (fun _ H locs hP hD hS => ?_)
        refine lv_ldc2 (v := (10000 : Int64)) hx hb hown fk54 dX5_renew_63 ?_
        refine kl_gt (tgt := 107) hx hb dX5_renew_66 dX5_renew_67 (by decide) (fun c16 => ?_) (fun c16 => ?_)
        · have hf := if_t hf c16
          obtain rfl := Option.some.inj hf
          exact hex _ _ _ hP hD hS (lv_sub hl [0] rfl)
        · have hf := if_f hf c16
          refine lv_aload_n hx hb dX5_renew_70 rfl (lv_at hl 0 rfl) ?_
          refine va_get (v := .ref (qB 1)) (D := D) (ci := 5) (C := RX5) (T := TX5) (N := 5) hx hb hts huX5 hown hK hP 0 rfl rfl 2 (by decide) fk15 (fun _ h9 => h9) rfl dX5_renew_71 ?_
          refine lv_aload_n hx hb dX5_renew_74 rfl (lv_at hl 0 rfl) ?_
          refine va_get (D := D) (ci := 5) (C := RX5) (T := TX5) (N := 5) hx hb hts huX5 hown hK hP 0 rfl rfl 3 (by decide) fk19 (fun _ h9 => h9) rfl dX5_renew_75 ?_
          refine lv_aload_n hx hb dX5_renew_78 rfl (lv_at hl 0 rfl) ?_
          refine va_get (v := .ref (qR 0)) (D := D) (ci := 5) (C := RX5) (T := TX5) (N := 5) hx hb hts huX5 hown hK hP 0 rfl rfl 0 (by decide) fk26 (fun _ h9 => h9) rfl dX5_renew_79 ?_
          refine lv_aload_n hx hb dX5_renew_82 rfl (lv_at hl 0 rfl) ?_
          refine va_get (D := D) (ci := 5) (C := RX5) (T := TX5) (N := 5) hx hb hts huX5 hown hK hP 0 rfl rfl 3 (by decide) fk19 (fun _ h9 => h9) rfl dX5_renew_83 ?_
          refine lv_iconst (v := (1 : Int32)) hx hb dX5_renew_86 (by decide) ?_
          refine lv_iadd hx hb dX5_renew_87 ?_
          refine lv_i2l hx hb dX5_renew_88 rfl ?_
          obtain ⟨r17, hc18, hf⟩ := ob_some hf
          have hI19 : kIn (gB cy qB (qR 0) b_base x.2.1 x.2.2 b_byTwo ++ (gR cy qR (qG 0) ++ (gG cy qG g_base g_worth r13.2 g_many g_version))) (gR cy qR (qG 0) ++ (gG cy qG g_base g_worth r13.2 g_many g_version)) (kpick (gB cy qB (qR 0) b_base x.2.1 x.2.2 b_byTwo ++ (gR cy qR (qG 0) ++ (gG cy qG g_base g_worth r13.2 g_many g_version))) [0, 1, 2]) (fun _ : Unit => gR cy qR (qG 0) ++ (gG cy qG g_base g_worth r17.2 g_many g_version)) (fun _ : Unit => gB cy qB (qR 0) b_base x.2.1 x.2.2 b_byTwo ++ (gR cy qR (qG 0) ++ (gG cy qG g_base g_worth r17.2 g_many g_version))) [3, 4, 5, 6, 7] [0, 1, 2] [0, 1, 2, 3, 4, 5, 6, 7] := ⟨rfl, rfl, rfl, rfl, by decide, rfl, fun _ => rfl⟩
          refine kc_l (k_run ⟨hx, hb, hml, hown, hts⟩ (c_X3_at hc18) (cwV 1 hts gX5_renew_X3_at rfl rfl rfl (by decide +kernel) ⟨Nat.le_of_ble_eq_true rfl, Nat.le_of_ble_eq_true rfl⟩) hK hN hP hD ⟨hI19.1, hI19.2.2.1⟩ (ci := 3) (q0 := 0) rfl rfl rfl rfl hl.1 rfl (Nat.le_of_ble_eq_true rfl) dX5_renew_89 ⟨Nat.le_of_ble_eq_true rfl, Nat.le_of_ble_eq_true rfl⟩) hP hD hS hA hI19 (fun _ H locs hP hD hS => ?_)
          refine lv_l2i hx hb dX5_renew_92 rfl ?_
          obtain ⟨c20, hf⟩ := ck_some hf
          refine va_iast hx hb hK hP hD hS 1 0 rfl rfl c20 dX5_renew_93 (fun H locs hP hD hS => ?_)
          have hP : va_P D vwCl (gB cy qB (qR 0) b_base (upd x.2.1 x.2.2.toNatClampNeg r17.1.toInt32) x.2.2 b_byTwo ++ (gR cy qR (qG 0) ++ (gG cy qG g_base g_worth r17.2 g_many g_version))) H := hP
          have hD : va_D A (gB cy qB (qR 0) b_base (upd x.2.1 x.2.2.toNatClampNeg r17.1.toInt32) x.2.2 b_byTwo ++ (gR cy qR (qG 0) ++ (gG cy qG g_base g_worth r17.2 g_many g_version))) := hD
          refine lv_aload_n hx hb dX5_renew_94 rfl (lv_at hl 0 rfl) ?_
          refine lv_dup hx hb dX5_renew_95 rfl ?_
          refine va_get (D := D) (ci := 5) (C := RX5) (T := TX5) (N := 5) hx hb hts huX5 hown hK hP 0 rfl rfl 3 (by decide) fk19 (fun _ h9 => h9) rfl dX5_renew_96 ?_
          refine lv_iconst (v := (1 : Int32)) hx hb dX5_renew_99 (by decide) ?_
          refine lv_iadd hx hb dX5_renew_100 ?_
          refine va_put (D := D) (ci := 5) (v := .int (x.2.2 + (1 : Int32))) (ty := .int) (C := RX5) (T := TX5) (N := 5) hx hb hts huX5 tyX5 tyX5_ok nmX5 hown hK hP hD hS 0 rfl rfl 3 (by decide) fk19 (fun _ h9 => h9) rfl (tyX5_ok 3 (by decide)) rfl rfl (Nat.le_of_ble_eq_true rfl) dX5_renew_101 (fun H locs hP hD hS => ?_)
          have hP : va_P D vwCl (gB cy qB (qR 0) b_base (upd x.2.1 x.2.2.toNatClampNeg r17.1.toInt32) (x.2.2 + (1 : Int32)) b_byTwo ++ (gR cy qR (qG 0) ++ (gG cy qG g_base g_worth r17.2 g_many g_version))) H := hP
          have hD : va_D A (gB cy qB (qR 0) b_base (upd x.2.1 x.2.2.toNatClampNeg r17.1.toInt32) (x.2.2 + (1 : Int32)) b_byTwo ++ (gR cy qR (qG 0) ++ (gG cy qG g_base g_worth r17.2 g_many g_version))) := hD
          refine lv_goto (tgt := 37) hx hb dX5_renew_104 (by decide) ?_
          exact ih (r17.2, (upd x.2.1 x.2.2.toNatClampNeg r17.1.toInt32), (x.2.2 + (1 : Int32))) ex _ _ _ hf hex hP hD hS (lv_sub hl [0] rfl)
  refine lv_aload_n hx hb dX5_renew_0 rfl (lv_at hl 0 rfl) ?_
  refine va_get (D := D) (ci := 5) (C := RX5) (T := TX5) (N := 5) hx hb hts huX5 hown hK hP 0 rfl rfl 1 (by decide) fk9 (fun _ h9 => h9) rfl dX5_renew_1 ?_
  refine lv_aload_n hx hb dX5_renew_4 rfl (lv_at hl 0 rfl) ?_
  refine va_get (v := .ref (qR 0)) (D := D) (ci := 5) (C := RX5) (T := TX5) (N := 5) hx hb hts huX5 hown hK hP 0 rfl rfl 0 (by decide) fk26 (fun _ h9 => h9) rfl dX5_renew_5 ?_
  refine va_get (v := .ref (qG 0)) (D := D) (ci := 3) (C := RX3) (T := TX3) (N := 1) hx hb hts huX3 hown hK hP 3 rfl rfl 0 (by decide) fk43 (fun _ h9 => h9) rfl dX5_renew_8 ?_
  refine va_get (D := D) (ci := 1) (C := RX1) (T := TX1) (N := 5) hx hb hts huX1 hown hK hP 4 rfl rfl 0 (by decide) fk47 (fun _ h9 => h9) rfl dX5_renew_11 ?_
  refine lv_icmp_ne (tgt := 18) hx hb dX5_renew_14 (by decide) (fun c21 => ?_) (fun c21 => ?_)
  · have hf := if_f hf c21
    refine lv_aload_n hx hb dX5_renew_18 rfl (lv_at hl 0 rfl) ?_
    refine lv_aload_n hx hb dX5_renew_19 rfl (lv_at hl 0 rfl) ?_
    refine va_get (v := .ref (qR 0)) (D := D) (ci := 5) (C := RX5) (T := TX5) (N := 5) hx hb hts huX5 hown hK hP 0 rfl rfl 0 (by decide) fk26 (fun _ h9 => h9) rfl dX5_renew_20 ?_
    refine va_get (v := .ref (qG 0)) (D := D) (ci := 3) (C := RX3) (T := TX3) (N := 1) hx hb hts huX3 hown hK hP 3 rfl rfl 0 (by decide) fk43 (fun _ h9 => h9) rfl dX5_renew_23 ?_
    refine va_get (D := D) (ci := 1) (C := RX1) (T := TX1) (N := 5) hx hb hts huX1 hown hK hP 4 rfl rfl 0 (by decide) fk47 (fun _ h9 => h9) rfl dX5_renew_26 ?_
    refine va_put (D := D) (ci := 5) (v := .int g_base) (ty := .int) (C := RX5) (T := TX5) (N := 5) hx hb hts huX5 tyX5 tyX5_ok nmX5 hown hK hP hD hS 0 rfl rfl 1 (by decide) fk9 (fun _ h9 => h9) rfl (tyX5_ok 1 (by decide)) rfl rfl (Nat.le_of_ble_eq_true rfl) dX5_renew_29 (fun H locs hP hD hS => ?_)
    have hP : va_P D vwCl (gB cy qB (qR 0) g_base b_alone b_size b_byTwo ++ (gR cy qR (qG 0) ++ (gG cy qG g_base g_worth g_row g_many g_version))) H := hP
    have hD : va_D A (gB cy qB (qR 0) g_base b_alone b_size b_byTwo ++ (gR cy qR (qG 0) ++ (gG cy qG g_base g_worth g_row g_many g_version))) := hD
    refine lv_aload_n hx hb dX5_renew_32 rfl (lv_at hl 0 rfl) ?_
    refine lv_iconst (v := (0 : Int32)) hx hb dX5_renew_33 (by decide) ?_
    refine va_put (D := D) (ci := 5) (v := .int (0 : Int32)) (ty := .int) (C := RX5) (T := TX5) (N := 5) hx hb hts huX5 tyX5 tyX5_ok nmX5 hown hK hP hD hS 0 rfl rfl 3 (by decide) fk19 (fun _ h9 => h9) rfl (tyX5_ok 3 (by decide)) rfl rfl (Nat.le_of_ble_eq_true rfl) dX5_renew_34 (fun H locs hP hD hS => ?_)
    have hP : va_P D vwCl (gB cy qB (qR 0) g_base b_alone (0 : Int32) b_byTwo ++ (gR cy qR (qG 0) ++ (gG cy qG g_base g_worth g_row g_many g_version))) H := hP
    have hD : va_D A (gB cy qB (qR 0) g_base b_alone (0 : Int32) b_byTwo ++ (gR cy qR (qG 0) ++ (gG cy qG g_base g_worth g_row g_many g_version))) := hD
    obtain ⟨ex22, hcl, hf⟩ := ob_some hf
    refine hL37 g_base b_byTwo F (g_row, b_alone, (0 : Int32)) ex22 _ _ _ hcl (fun H locs ls hP hD hS hl => ?_) hP hD hS (lv_sub hl [0] rfl)
    refine lv_iconst (v := (0 : Int32)) hx hb dX5_renew_107 (by decide) ?_
    refine lv_istore_n (lv' := [(1, .int (0 : Int32)), (0, .ref (qB 0))]) hx hb dX5_renew_108 rfl hl (by decide) rfl (fun ls hl => ?_)
    obtain ⟨ex23, hcl, hf⟩ := ob_some hf
    refine hL109 ex22.1 g_base ex22.2.1 ex22.2.2 F ((0 : Int32), b_byTwo) ex23 _ _ _ hcl (fun H locs ls hP hD hS hl => ?_) hP hD hS (lv_sub hl [1, 0] rfl)
    refine lv_iconst (v := (0 : Int32)) hx hb dX5_renew_131 (by decide) ?_
    refine lv_istore_n (lv' := [(1, .int (0 : Int32)), (0, .ref (qB 0))]) hx hb dX5_renew_132 rfl hl (by decide) rfl (fun ls hl => ?_)
    obtain ⟨ex24, hcl, hf⟩ := ob_some hf
    refine hL133 ex22.1 g_base ex22.2.1 ex22.2.2 F ((0 : Int32), ex23) ex24 _ _ _ hcl (fun H locs ls hP hD hS hl => ?_) hP hD hS (lv_sub hl [1, 0] rfl)
    obtain rfl := Option.some.inj hf
    exact hQ () 203 _ _ _ dX5_renew_203 hP hD hS
  · have hf := if_t hf c21
    obtain rfl := Option.some.inj hf
    exact hQ () 17 _ _ _ dX5_renew_17 hP hD hS
def f_X5_fewestFor_J90 (F : Nat) (rec : (Int32) → Option ((Int32 × (Nat → Int32) × Int32 × (Nat → Int32) × Int32 × (Nat → Int32)) ⊕ (Unit))) (x2 : Int32) : Option ((Int32 × (Nat → Int32) × Int32 × (Nat → Int32) × Int32 × (Nat → Int32)) ⊕ (Unit)) := rec (x2 + (1 : Int32))
def f_X5_fewestFor_B63 (F : Nat) (a1 : Int32) (g_row : Nat → Int32) (b_base : Int32) (b_alone : Nat → Int32) (b_size : Int32) (b_byTwo : Nat → Int32) (rec : Int32 → Option ((Int32 × (Nat → Int32) × Int32 × (Nat → Int32) × Int32 × (Nat → Int32)) ⊕ (Unit))) (x : Int32) : Option ((Int32 × (Nat → Int32) × Int32 × (Nat → Int32) × Int32 × (Nat → Int32)) ⊕ (Unit)) := ck (¬ (2 : Int32) = 0) (if (a1 / (2 : Int32)) < x then (some (.inr ())) else ((f_X5_isByTwo F x b_byTwo).bind (fun r3 => if r3 = 0 then (f_X5_fewestFor_J90 F rec x) else ((f_X5_isByTwo F (a1 - x) b_byTwo).bind (fun r6 => if r6 = 0 then (f_X5_fewestFor_J90 F rec x) else (some (.inl ((4 : Int32), g_row, b_base, b_alone, b_size, b_byTwo))))))))
def f_X5_fewestFor_B30 (F : Nat) (a1 : Int32) (g_row : Nat → Int32) (b_base : Int32) (b_alone : Nat → Int32) (b_size : Int32) (b_byTwo : Nat → Int32) (rec : Int32 → Option ((Int32 × (Nat → Int32) × Int32 × (Nat → Int32) × Int32 × (Nat → Int32)) ⊕ (Unit))) (x : Int32) : Option ((Int32 × (Nat → Int32) × Int32 × (Nat → Int32) × Int32 × (Nat → Int32)) ⊕ (Unit)) := if b_size ≤ x then (some (.inr ())) else (ck (¬ (x < 0 ∨ 512 ≤ x.toNatClampNeg)) ((f_X5_isByTwo F (a1 - (b_alone x.toNatClampNeg)) b_byTwo).bind (fun r11 => if r11 = 0 then (rec (x + (1 : Int32))) else (some (.inl ((3 : Int32), g_row, b_base, b_alone, b_size, b_byTwo))))))
def f_X5_fewestFor (F : Nat) (a1 : Int32) (g_base : Int32) (g_row : Nat → Int32) (b_base : Int32) (b_alone : Nat → Int32) (b_size : Int32) (b_byTwo : Nat → Int32) : Option (Int32 × (Nat → Int32) × Int32 × (Nat → Int32) × Int32 × (Nat → Int32)) := (f_X5_renew F g_base g_row b_base b_alone b_size b_byTwo).bind (fun r14 => (f_X3_isMirror F a1.toInt64 g_base r14.1).bind (fun r16 => if r16.1 = 0 then ((f_X5_isByTwo F a1 r14.2.2.2.2).bind (fun r20 => if r20 = 0 then ((lp (f_X5_fewestFor_B30 F a1 r16.2 r14.2.1 r14.2.2.1 r14.2.2.2.1 r14.2.2.2.2) F (0 : Int32)).bind (fun ex23 => Sum.elim (fun r => some r) (fun er24 => (lp (f_X5_fewestFor_B63 F a1 r16.2 r14.2.1 r14.2.2.1 r14.2.2.2.1 r14.2.2.2.2) F (1 : Int32)).bind (fun ex25 => Sum.elim (fun r => some r) (fun er26 => some ((-4 : Int32), r16.2, r14.2.1, r14.2.2.1, r14.2.2.2.1, r14.2.2.2.2)) ex25)) ex23)) else (some ((2 : Int32), r16.2, r14.2.1, r14.2.2.1, r14.2.2.2.1, r14.2.2.2.2)))) else (some ((1 : Int32), r16.2, r14.2.1, r14.2.2.1, r14.2.2.2.1, r14.2.2.2.2))))
abbrev rmX5_fewestFor : Room := { frames := 5, cells := 0, slots := 0, locals := 116 }
set_option maxHeartbeats 1000000 in
set_option maxRecDepth 100000 in
theorem c_X5_fewestFor {l : Launch} {D : va_G} {cy : Nat → ClassId} {qB : Nat → Nat} {qR : Nat → Nat} {qG : Nat → Nat} {b_base : Int32} {b_alone : Nat → Int32} {b_size : Int32} {b_byTwo : Nat → Int32} {g_base : Int32} {g_worth : Nat → Int32} {g_row : Nat → Int32} {g_many : Nat → Int32} {g_version : Int32} {a1 : Int32} {F : Nat} {res : Int32 × (Nat → Int32) × Int32 × (Nat → Int32) × Int32 × (Nat → Int32)} (hf : f_X5_fewestFor F a1 g_base g_row b_base b_alone b_size b_byTwo = some res) : kM l yX5_fewestFor wsX5_fewestFor rmX5_fewestFor D cy [.ref (qB 0), .int a1] (gB cy qB (qR 0) b_base b_alone b_size b_byTwo ++ (gR cy qR (qG 0) ++ (gG cy qG g_base g_worth g_row g_many g_version))) (kQi D cy (fun _ : Unit => gB cy qB (qR 0) res.2.2.1 res.2.2.2.1 res.2.2.2.2.1 res.2.2.2.2.2 ++ (gR cy qR (qG 0) ++ (gG cy qG g_base g_worth res.2.1 g_many g_version))) res.1) := by
  refine kent_i (cc := cX5_fewestFor) (maxL := 3) (by decide) rfl (Nat.le_of_ble_eq_true rfl) ?_
  intro p e0 s m ar below meth c A Q ls ⟨hx, hb, hml, hr, hts, hown, hlocks, hnm⟩ hA hK hN hQ hP hD hS hl
  have hl : lv_has ls 3 [(0, .ref (qB 0)), (1, .int a1)] := hl
  have hown : s.vm.findClass RX5 = some m.cls := hown
  have huX5 : ∀ x ∈ u_ws RX5 TX5 5, x ∈ wsX5_fewestFor := by decide +kernel
  have fk19 : (Cond.fieldLink RX5 19 "FigurePlay$Parts" "size" "I").before ar s = true := hts _ (by decide +kernel)
  have fk15 : (Cond.fieldLink RX5 15 "FigurePlay$Parts" "alone" "[I").before ar s = true := hts _ (by decide +kernel)
  have fk26 : (Cond.fieldLink RX5 26 "FigurePlay$Parts" "mirrors" "LFigurePlay$Mirrors;").before ar s = true := hts _ (by decide +kernel)
  unfold f_X5_fewestFor at hf
  have hL63 : ∀ (g_row : Nat → Int32) (b_base : Int32) (b_alone : Nat → Int32) (b_size : Int32) (b_byTwo : Nat → Int32) (k : Nat) (x : Int32) (ex : (Int32 × (Nat → Int32) × Int32 × (Nat → Int32) × Int32 × (Nat → Int32)) ⊕ (Unit)) (H : Heap) (locs : List Loc) (ls : Array Slot), lp (f_X5_fewestFor_B63 F a1 g_row b_base b_alone b_size b_byTwo) k x = some ex → (∀ r, ex = .inl r → r = res) → (∀ er, ex = .inr er → ∀ (H : Heap) (locs : List Loc) (ls : Array Slot), va_P D vwCl (gB cy qB (qR 0) b_base b_alone b_size b_byTwo ++ (gR cy qR (qG 0) ++ (gG cy qG g_base g_worth g_row g_many g_version))) H → va_D A (gB cy qB (qR 0) b_base b_alone b_size b_byTwo ++ (gR cy qR (qG 0) ++ (gG cy qG g_base g_worth g_row g_many g_version))) → va_S A s.heap H locs → lv_has ls 3 [] → W p l e0 rmX5_fewestFor s m ar below meth c H locs 0 0 Q (F0 m 96 ls [])) → va_P D vwCl (gB cy qB (qR 0) b_base b_alone b_size b_byTwo ++ (gR cy qR (qG 0) ++ (gG cy qG g_base g_worth g_row g_many g_version))) H → va_D A (gB cy qB (qR 0) b_base b_alone b_size b_byTwo ++ (gR cy qR (qG 0) ++ (gG cy qG g_base g_worth g_row g_many g_version))) → va_S A s.heap H locs → lv_has ls 3 [(0, .ref (qB 0)), (1, .int a1), (2, .int x)] → W p l e0 rmX5_fewestFor s m ar below meth c H locs 0 0 Q (F0 m 63 ls []) := by
    intro g_row b_base b_alone b_size b_byTwo k
    induction k with
    | zero => intro x ex H locs ls hf; exact no_some hf
    | succ k ih =>
      intro x ex H locs ls hf hret hex hP hD hS hl
      have hf : f_X5_fewestFor_B63 F a1 g_row b_base b_alone b_size b_byTwo (lp (f_X5_fewestFor_B63 F a1 g_row b_base b_alone b_size b_byTwo) k) x = some ex := hf
      unfold f_X5_fewestFor_B63 at hf
      have hJ90 : ∀ (x2 : Int32) (H : Heap) (locs : List Loc) (ls : Array Slot), f_X5_fewestFor_J90 F (lp (f_X5_fewestFor_B63 F a1 g_row b_base b_alone b_size b_byTwo) k) x2 = some ex → va_P D vwCl (gB cy qB (qR 0) b_base b_alone b_size b_byTwo ++ (gR cy qR (qG 0) ++ (gG cy qG g_base g_worth g_row g_many g_version))) H → va_D A (gB cy qB (qR 0) b_base b_alone b_size b_byTwo ++ (gR cy qR (qG 0) ++ (gG cy qG g_base g_worth g_row g_many g_version))) → va_S A s.heap H locs → lv_has ls 3 [(0, .ref (qB 0)), (1, .int a1), (2, .int x2)] → W p l e0 rmX5_fewestFor s m ar below meth c H locs 0 0 Q (F0 m 90 ls []) := by
        intro x2 H locs ls hf hP hD hS hl
        unfold f_X5_fewestFor_J90 at hf
        refine lv_iinc (v := (x2 + (1 : Int32))) (lv' := [(2, .int (x2 + (1 : Int32))), (0, .ref (qB 0)), (1, .int a1)]) hx hb dX5_fewestFor_90 hl (k := 2) rfl rfl (by decide) rfl (fun ls hl => ?_)
        refine lv_goto (tgt := 63) hx hb dX5_fewestFor_93 (by decide) ?_
        exact ih (x2 + (1 : Int32)) ex _ _ _ hf hret hex hP hD hS (lv_sub hl [1, 2, 0] rfl)
      refine lv_iload_n hx hb dX5_fewestFor_63 rfl (lv_at hl 2 rfl) ?_
      refine lv_iload_n hx hb dX5_fewestFor_64 rfl (lv_at hl 1 rfl) ?_
      refine lv_iconst (v := (2 : Int32)) hx hb dX5_fewestFor_65 (by decide) ?_
      obtain ⟨c1, hf⟩ := ck_some hf
      refine lv_idiv hx hb dX5_fewestFor_66 c1 ?_
      refine lv_icmp_gt (tgt := 96) hx hb dX5_fewestFor_67 (by decide) (fun c2 => ?_) (fun c2 => ?_)
      · have hf := if_t hf c2
        obtain rfl := Option.some.inj hf
        exact hex _ rfl _ _ _ hP hD hS (lv_sub hl [] rfl)
      · have hf := if_f hf c2
        refine lv_aload_n hx hb dX5_fewestFor_70 rfl (lv_at hl 0 rfl) ?_
        refine lv_iload_n hx hb dX5_fewestFor_71 rfl (lv_at hl 2 rfl) ?_
        obtain ⟨r3, hc4, hf⟩ := ob_some hf
        refine kc_i (k_run ⟨hx, hb, hml, hown, hts⟩ (c_X5_isByTwo hc4) (cwV 1 hts gX5_fewestFor_X5_isByTwo rfl rfl rfl (by decide +kernel) ⟨Nat.le_of_ble_eq_true rfl, Nat.le_of_ble_eq_true rfl⟩) hK hN hP hD kA_s (ci := 5) (q0 := 0) rfl rfl rfl rfl hl.1 rfl (Nat.le_of_ble_eq_true rfl) dX5_fewestFor_72 ⟨Nat.le_of_ble_eq_true rfl, Nat.le_of_ble_eq_true rfl⟩) hP hD hS hA kI_s (fun _ H locs hP hD hS => ?_)
        refine lv_if_eq (tgt := 90) hx hb dX5_fewestFor_75 (by decide) (fun c5 => ?_) (fun c5 => ?_)
        · have hf := if_t hf c5
          exact hJ90 x _ _ _ hf hP hD hS (lv_sub hl [0, 1, 2] rfl)
        · have hf := if_f hf c5
          refine lv_aload_n hx hb dX5_fewestFor_78 rfl (lv_at hl 0 rfl) ?_
          refine lv_iload_n hx hb dX5_fewestFor_79 rfl (lv_at hl 1 rfl) ?_
          refine lv_iload_n hx hb dX5_fewestFor_80 rfl (lv_at hl 2 rfl) ?_
          refine lv_isub hx hb dX5_fewestFor_81 ?_
          obtain ⟨r6, hc7, hf⟩ := ob_some hf
          refine kc_i (k_run ⟨hx, hb, hml, hown, hts⟩ (c_X5_isByTwo hc7) (cwV 1 hts gX5_fewestFor_X5_isByTwo rfl rfl rfl (by decide +kernel) ⟨Nat.le_of_ble_eq_true rfl, Nat.le_of_ble_eq_true rfl⟩) hK hN hP hD kA_s (ci := 5) (q0 := 0) rfl rfl rfl rfl hl.1 rfl (Nat.le_of_ble_eq_true rfl) dX5_fewestFor_82 ⟨Nat.le_of_ble_eq_true rfl, Nat.le_of_ble_eq_true rfl⟩) hP hD hS hA kI_s (fun _ H locs hP hD hS => ?_)
          refine lv_if_eq (tgt := 90) hx hb dX5_fewestFor_85 (by decide) (fun c8 => ?_) (fun c8 => ?_)
          · have hf := if_t hf c8
            exact hJ90 x _ _ _ hf hP hD hS (lv_sub hl [0, 1, 2] rfl)
          · have hf := if_f hf c8
            refine lv_iconst (v := (4 : Int32)) hx hb dX5_fewestFor_88 (by decide) ?_
            obtain rfl := Option.some.inj hf
            obtain rfl := hret _ rfl
            exact hQ () 89 _ _ _ dX5_fewestFor_89 hP hD hS
  have hL30 : ∀ (g_row : Nat → Int32) (b_base : Int32) (b_alone : Nat → Int32) (b_size : Int32) (b_byTwo : Nat → Int32) (k : Nat) (x : Int32) (ex : (Int32 × (Nat → Int32) × Int32 × (Nat → Int32) × Int32 × (Nat → Int32)) ⊕ (Unit)) (H : Heap) (locs : List Loc) (ls : Array Slot), lp (f_X5_fewestFor_B30 F a1 g_row b_base b_alone b_size b_byTwo) k x = some ex → (∀ r, ex = .inl r → r = res) → (∀ er, ex = .inr er → ∀ (H : Heap) (locs : List Loc) (ls : Array Slot), va_P D vwCl (gB cy qB (qR 0) b_base b_alone b_size b_byTwo ++ (gR cy qR (qG 0) ++ (gG cy qG g_base g_worth g_row g_many g_version))) H → va_D A (gB cy qB (qR 0) b_base b_alone b_size b_byTwo ++ (gR cy qR (qG 0) ++ (gG cy qG g_base g_worth g_row g_many g_version))) → va_S A s.heap H locs → lv_has ls 3 [(0, .ref (qB 0)), (1, .int a1)] → W p l e0 rmX5_fewestFor s m ar below meth c H locs 0 0 Q (F0 m 61 ls [])) → va_P D vwCl (gB cy qB (qR 0) b_base b_alone b_size b_byTwo ++ (gR cy qR (qG 0) ++ (gG cy qG g_base g_worth g_row g_many g_version))) H → va_D A (gB cy qB (qR 0) b_base b_alone b_size b_byTwo ++ (gR cy qR (qG 0) ++ (gG cy qG g_base g_worth g_row g_many g_version))) → va_S A s.heap H locs → lv_has ls 3 [(0, .ref (qB 0)), (1, .int a1), (2, .int x)] → W p l e0 rmX5_fewestFor s m ar below meth c H locs 0 0 Q (F0 m 30 ls []) := by
    intro g_row b_base b_alone b_size b_byTwo k
    induction k with
    | zero => intro x ex H locs ls hf; exact no_some hf
    | succ k ih =>
      intro x ex H locs ls hf hret hex hP hD hS hl
      have hf : f_X5_fewestFor_B30 F a1 g_row b_base b_alone b_size b_byTwo (lp (f_X5_fewestFor_B30 F a1 g_row b_base b_alone b_size b_byTwo) k) x = some ex := hf
      unfold f_X5_fewestFor_B30 at hf
      refine lv_iload_n hx hb dX5_fewestFor_30 rfl (lv_at hl 2 rfl) ?_
      refine lv_aload_n hx hb dX5_fewestFor_31 rfl (lv_at hl 0 rfl) ?_
      refine va_get (D := D) (ci := 5) (C := RX5) (T := TX5) (N := 5) hx hb hts huX5 hown hK hP 0 rfl rfl 3 (by decide) fk19 (fun _ h9 => h9) rfl dX5_fewestFor_32 ?_
      refine lv_icmp_ge (tgt := 61) hx hb dX5_fewestFor_35 (by decide) (fun c9 => ?_) (fun c9 => ?_)
      · have hf := if_t hf c9
        obtain rfl := Option.some.inj hf
        exact hex _ rfl _ _ _ hP hD hS (lv_sub hl [0, 1] rfl)
      · have hf := if_f hf c9
        refine lv_aload_n hx hb dX5_fewestFor_38 rfl (lv_at hl 0 rfl) ?_
        refine lv_iload_n hx hb dX5_fewestFor_39 rfl (lv_at hl 1 rfl) ?_
        refine lv_aload_n hx hb dX5_fewestFor_40 rfl (lv_at hl 0 rfl) ?_
        refine va_get (v := .ref (qB 1)) (D := D) (ci := 5) (C := RX5) (T := TX5) (N := 5) hx hb hts huX5 hown hK hP 0 rfl rfl 2 (by decide) fk15 (fun _ h9 => h9) rfl dX5_fewestFor_41 ?_
        refine lv_iload_n hx hb dX5_fewestFor_44 rfl (lv_at hl 2 rfl) ?_
        obtain ⟨c10, hf⟩ := ck_some hf
        refine va_iald hx hb hK hP 1 0 rfl rfl c10 dX5_fewestFor_45 ?_
        refine lv_isub hx hb dX5_fewestFor_46 ?_
        obtain ⟨r11, hc12, hf⟩ := ob_some hf
        refine kc_i (k_run ⟨hx, hb, hml, hown, hts⟩ (c_X5_isByTwo hc12) (cwV 1 hts gX5_fewestFor_X5_isByTwo rfl rfl rfl (by decide +kernel) ⟨Nat.le_of_ble_eq_true rfl, Nat.le_of_ble_eq_true rfl⟩) hK hN hP hD kA_s (ci := 5) (q0 := 0) rfl rfl rfl rfl hl.1 rfl (Nat.le_of_ble_eq_true rfl) dX5_fewestFor_47 ⟨Nat.le_of_ble_eq_true rfl, Nat.le_of_ble_eq_true rfl⟩) hP hD hS hA kI_s (fun _ H locs hP hD hS => ?_)
        refine lv_if_eq (tgt := 55) hx hb dX5_fewestFor_50 (by decide) (fun c13 => ?_) (fun c13 => ?_)
        · have hf := if_t hf c13
          refine lv_iinc (v := (x + (1 : Int32))) (lv' := [(2, .int (x + (1 : Int32))), (0, .ref (qB 0)), (1, .int a1)]) hx hb dX5_fewestFor_55 hl (k := 2) rfl rfl (by decide) rfl (fun ls hl => ?_)
          refine lv_goto (tgt := 30) hx hb dX5_fewestFor_58 (by decide) ?_
          exact ih (x + (1 : Int32)) ex _ _ _ hf hret hex hP hD hS (lv_sub hl [1, 2, 0] rfl)
        · have hf := if_f hf c13
          refine lv_iconst (v := (3 : Int32)) hx hb dX5_fewestFor_53 (by decide) ?_
          obtain rfl := Option.some.inj hf
          obtain rfl := hret _ rfl
          exact hQ () 54 _ _ _ dX5_fewestFor_54 hP hD hS
  refine lv_aload_n hx hb dX5_fewestFor_0 rfl (lv_at hl 0 rfl) ?_
  obtain ⟨r14, hc15, hf⟩ := ob_some hf
  refine kc_v (k_run ⟨hx, hb, hml, hown, hts⟩ (c_X5_renew hc15) (cwV 0 hts gX5_fewestFor_X5_renew rfl rfl rfl (by decide +kernel) ⟨Nat.le_of_ble_eq_true rfl, Nat.le_of_ble_eq_true rfl⟩) hK hN hP hD kA_s (ci := 5) (q0 := 0) rfl rfl rfl rfl hl.1 rfl (Nat.le_of_ble_eq_true rfl) dX5_fewestFor_1 ⟨Nat.le_of_ble_eq_true rfl, Nat.le_of_ble_eq_true rfl⟩) hP hD hS hA kI_s (fun _ H locs hP hD hS => ?_)
  refine lv_aload_n hx hb dX5_fewestFor_4 rfl (lv_at hl 0 rfl) ?_
  refine va_get (v := .ref (qR 0)) (D := D) (ci := 5) (C := RX5) (T := TX5) (N := 5) hx hb hts huX5 hown hK hP 0 rfl rfl 0 (by decide) fk26 (fun _ h9 => h9) rfl dX5_fewestFor_5 ?_
  refine lv_iload_n hx hb dX5_fewestFor_8 rfl (lv_at hl 1 rfl) ?_
  refine lv_i2l hx hb dX5_fewestFor_9 rfl ?_
  obtain ⟨r16, hc17, hf⟩ := ob_some hf
  have hI18 : kIn (gB cy qB (qR 0) r14.2.1 r14.2.2.1 r14.2.2.2.1 r14.2.2.2.2 ++ (gR cy qR (qG 0) ++ (gG cy qG g_base g_worth r14.1 g_many g_version))) (gR cy qR (qG 0) ++ (gG cy qG g_base g_worth r14.1 g_many g_version)) (kpick (gB cy qB (qR 0) r14.2.1 r14.2.2.1 r14.2.2.2.1 r14.2.2.2.2 ++ (gR cy qR (qG 0) ++ (gG cy qG g_base g_worth r14.1 g_many g_version))) [0, 1, 2]) (fun _ : Unit => gR cy qR (qG 0) ++ (gG cy qG g_base g_worth r16.2 g_many g_version)) (fun _ : Unit => gB cy qB (qR 0) r14.2.1 r14.2.2.1 r14.2.2.2.1 r14.2.2.2.2 ++ (gR cy qR (qG 0) ++ (gG cy qG g_base g_worth r16.2 g_many g_version))) [3, 4, 5, 6, 7] [0, 1, 2] [0, 1, 2, 3, 4, 5, 6, 7] := ⟨rfl, rfl, rfl, rfl, by decide, rfl, fun _ => rfl⟩
  refine kc_i (k_run ⟨hx, hb, hml, hown, hts⟩ (c_X3_isMirror hc17) (cwV 1 hts gX5_fewestFor_X3_isMirror rfl rfl rfl (by decide +kernel) ⟨Nat.le_of_ble_eq_true rfl, Nat.le_of_ble_eq_true rfl⟩) hK hN hP hD ⟨hI18.1, hI18.2.2.1⟩ (ci := 3) (q0 := 0) rfl rfl rfl rfl hl.1 rfl (Nat.le_of_ble_eq_true rfl) dX5_fewestFor_10 ⟨Nat.le_of_ble_eq_true rfl, Nat.le_of_ble_eq_true rfl⟩) hP hD hS hA hI18 (fun _ H locs hP hD hS => ?_)
  refine lv_if_eq (tgt := 18) hx hb dX5_fewestFor_13 (by decide) (fun c19 => ?_) (fun c19 => ?_)
  · have hf := if_t hf c19
    refine lv_aload_n hx hb dX5_fewestFor_18 rfl (lv_at hl 0 rfl) ?_
    refine lv_iload_n hx hb dX5_fewestFor_19 rfl (lv_at hl 1 rfl) ?_
    obtain ⟨r20, hc21, hf⟩ := ob_some hf
    refine kc_i (k_run ⟨hx, hb, hml, hown, hts⟩ (c_X5_isByTwo hc21) (cwV 1 hts gX5_fewestFor_X5_isByTwo rfl rfl rfl (by decide +kernel) ⟨Nat.le_of_ble_eq_true rfl, Nat.le_of_ble_eq_true rfl⟩) hK hN hP hD kA_s (ci := 5) (q0 := 0) rfl rfl rfl rfl hl.1 rfl (Nat.le_of_ble_eq_true rfl) dX5_fewestFor_20 ⟨Nat.le_of_ble_eq_true rfl, Nat.le_of_ble_eq_true rfl⟩) hP hD hS hA kI_s (fun _ H locs hP hD hS => ?_)
    refine lv_if_eq (tgt := 28) hx hb dX5_fewestFor_23 (by decide) (fun c22 => ?_) (fun c22 => ?_)
    · have hf := if_t hf c22
      refine lv_iconst (v := (0 : Int32)) hx hb dX5_fewestFor_28 (by decide) ?_
      refine lv_istore_n (lv' := [(2, .int (0 : Int32)), (0, .ref (qB 0)), (1, .int a1)]) hx hb dX5_fewestFor_29 rfl hl (by decide) rfl (fun ls hl => ?_)
      obtain ⟨ex23, hcl, hf⟩ := ob_some hf
      refine hL30 r16.2 r14.2.1 r14.2.2.1 r14.2.2.2.1 r14.2.2.2.2 F (0 : Int32) ex23 _ _ _ hcl (fun r hr0 => ?_) (fun er24 hr0 H locs ls hP hD hS hl => ?_) hP hD hS (lv_sub hl [1, 2, 0] rfl)
      · subst hr0; exact Option.some.inj (sm_inl hf)
      · subst hr0
        have hf := sm_inr hf
        refine lv_iconst (v := (1 : Int32)) hx hb dX5_fewestFor_61 (by decide) ?_
        refine lv_istore_n (lv' := [(2, .int (1 : Int32)), (0, .ref (qB 0)), (1, .int a1)]) hx hb dX5_fewestFor_62 rfl hl (by decide) rfl (fun ls hl => ?_)
        obtain ⟨ex25, hcl, hf⟩ := ob_some hf
        refine hL63 r16.2 r14.2.1 r14.2.2.1 r14.2.2.2.1 r14.2.2.2.2 F (1 : Int32) ex25 _ _ _ hcl (fun r hr0 => ?_) (fun er26 hr0 H locs ls hP hD hS hl => ?_) hP hD hS (lv_sub hl [1, 2, 0] rfl)
        · subst hr0; exact Option.some.inj (sm_inl hf)
        · subst hr0
          have hf := sm_inr hf
          refine lv_bipush (v := (-4 : Int32)) hx hb dX5_fewestFor_96 (by decide) ?_
          obtain rfl := Option.some.inj hf
          exact hQ () 98 _ _ _ dX5_fewestFor_98 hP hD hS
    · have hf := if_f hf c22
      refine lv_iconst (v := (2 : Int32)) hx hb dX5_fewestFor_26 (by decide) ?_
      obtain rfl := Option.some.inj hf
      exact hQ () 27 _ _ _ dX5_fewestFor_27 hP hD hS
  · have hf := if_f hf c19
    refine lv_iconst (v := (1 : Int32)) hx hb dX5_fewestFor_16 (by decide) ?_
    obtain rfl := Option.some.inj hf
    exact hQ () 17 _ _ _ dX5_fewestFor_17 hP hD hS
def f_X2_renew_J146 (F : Nat) (rec : (Int32 × (Nat → Int32) × (Nat → Int32)) → Option ((Nat → Int32) × (Nat → Int32))) (x1 : Int32) (l_sums : Nat → Int32) (l_reached : Nat → Int32) : Option ((Nat → Int32) × (Nat → Int32)) := rec ((x1 + (1 : Int32)), l_sums, l_reached)
def f_X2_renew_J115 (F : Nat) (rec : (Int32 × (Nat → Int32) × (Nat → Int32)) → Option ((Nat → Int32) × (Nat → Int32))) (x1 : Int32) (s1 : Int32) (s2 : Int32) (l_sums : Nat → Int32) (l_reached : Nat → Int32) : Option ((Nat → Int32) × (Nat → Int32)) := ck (¬ (s1 < 0 ∨ 20001 ≤ s1.toNatClampNeg)) (ck (¬ (x1 < 0 ∨ 20001 ≤ x1.toNatClampNeg)) (if (20001 : Int32) ≤ (x1 + ((upd l_sums s1.toNatClampNeg s2) x1.toNatClampNeg)) then (f_X2_renew_J146 F rec x1 (upd l_sums s1.toNatClampNeg s2) l_reached) else (ck (¬ (x1 < 0 ∨ 20001 ≤ x1.toNatClampNeg)) (ck (¬ ((x1 + ((upd l_sums s1.toNatClampNeg s2) x1.toNatClampNeg)) < 0 ∨ 20001 ≤ (x1 + ((upd l_sums s1.toNatClampNeg s2) x1.toNatClampNeg)).toNatClampNeg)) (f_X2_renew_J146 F rec x1 (upd l_sums s1.toNatClampNeg s2) (upd l_reached (x1 + ((upd l_sums s1.toNatClampNeg s2) x1.toNatClampNeg)).toNatClampNeg (vp_nar .boolean (1 : Int32))))))))
def f_X2_renew_B52 (F : Nat) (g_base : Int32) (g_worth : Nat → Int32) (l_version : Int32) (rec : Int32 × (Nat → Int32) × (Nat → Int32) → Option ((Nat → Int32) × (Nat → Int32))) (x : Int32 × (Nat → Int32) × (Nat → Int32)) : Option ((Nat → Int32) × (Nat → Int32)) := if (20001 : Int32) ≤ x.1 then (some (x.2.1, x.2.2)) else (ck (¬ g_base = 0) (ck (¬ ((x.1 - x.1 / g_base * g_base) < 0 ∨ 16 ≤ (x.1 - x.1 / g_base * g_base).toNatClampNeg)) (if g_base ≤ x.1 then (ck (¬ g_base = 0) (ck (¬ ((x.1 / g_base) < 0 ∨ 20001 ≤ (x.1 / g_base).toNatClampNeg)) (f_X2_renew_J115 F rec x.1 x.1 ((x.2.1 (x.1 / g_base).toNatClampNeg) + (g_worth (x.1 - x.1 / g_base * g_base).toNatClampNeg)) x.2.1 x.2.2))) else (f_X2_renew_J115 F rec x.1 x.1 (g_worth (x.1 - x.1 / g_base * g_base).toNatClampNeg) x.2.1 x.2.2))))
def f_X2_renew_B28 (F : Nat) (l_version : Int32) (l_sums : Nat → Int32) (rec : Int32 × (Nat → Int32) → Option ((Nat → Int32))) (x : Int32 × (Nat → Int32)) : Option ((Nat → Int32)) := if (20001 : Int32) ≤ x.1 then (some x.2) else (ck (¬ (x.1 < 0 ∨ 20001 ≤ x.1.toNatClampNeg)) (rec ((x.1 + (1 : Int32)), (upd x.2 x.1.toNatClampNeg (vp_nar .boolean (0 : Int32))))))
def f_X2_renew (F : Nat) (g_base : Int32) (g_worth : Nat → Int32) (g_version : Int32) (l_version : Int32) (l_sums : Nat → Int32) (l_reached : Nat → Int32) : Option (Int32 × (Nat → Int32) × (Nat → Int32)) := if l_version = g_version then (some (l_version, l_sums, l_reached)) else ((lp (f_X2_renew_B28 F g_version l_sums) F ((0 : Int32), l_reached)).bind (fun ex15 => (lp (f_X2_renew_B52 F g_base g_worth g_version) F ((0 : Int32), l_sums, ex15)).bind (fun ex16 => some (g_version, ex16.1, ex16.2))))
abbrev rmX2_renew : Room := { frames := 0, cells := 0, slots := 0, locals := 0 }
set_option maxHeartbeats 1000000 in
set_option maxRecDepth 100000 in
theorem c_X2_renew {l : Launch} {D : va_G} {cy : Nat → ClassId} {qL : Nat → Nat} {qG : Nat → Nat} {l_version : Int32} {l_sums : Nat → Int32} {l_reached : Nat → Int32} {g_base : Int32} {g_worth : Nat → Int32} {g_row : Nat → Int32} {g_many : Nat → Int32} {g_version : Int32} {F : Nat} {res : Int32 × (Nat → Int32) × (Nat → Int32)} (hf : f_X2_renew F g_base g_worth g_version l_version l_sums l_reached = some res) : kM l yX2_renew wsX2_renew rmX2_renew D cy [.ref (qL 0)] (gL cy qL (qG 0) l_version l_sums l_reached ++ (gG cy qG g_base g_worth g_row g_many g_version)) (kQv D cy (fun _ : Unit => gL cy qL (qG 0) res.1 res.2.1 res.2.2 ++ (gG cy qG g_base g_worth g_row g_many g_version))) := by
  refine kent_v (cc := cX2_renew) (maxL := 3) (by decide) rfl (Nat.le_of_ble_eq_true rfl) ?_
  intro p e0 s m ar below meth c A Q ls ⟨hx, hb, hml, hr, hts, hown, hlocks, hnm⟩ hA hK hN hQ hP hD hS hl
  have hl : lv_has ls 3 [(0, .ref (qL 0))] := hl
  have hown : s.vm.findClass RX2 = some m.cls := hown
  have huX2 : ∀ x ∈ u_ws RX2 TX2 4, x ∈ wsX2_renew := by decide +kernel
  have fk15 : (Cond.fieldLink RX2 15 "FigurePlay$Lifts" "sums" "[I").before ar s = true := hts _ (by decide +kernel)
  have fk19 : (Cond.fieldLink RX2 19 "FigurePlay$Lifts" "reached" "[Z").before ar s = true := hts _ (by decide +kernel)
  have fk23 : (Cond.fieldLink RX2 23 "FigurePlay$Lifts" "figures" "LFigurePlay$Figures;").before ar s = true := hts _ (by decide +kernel)
  have huX1 : ∀ x ∈ u_ws RX1 TX1 5, x ∈ wsX2_renew := by decide +kernel
  have fk30 : (Cond.fieldLink RX2 30 "FigurePlay$Figures" "worth" "[I").before ar s = true := hts _ (by decide +kernel)
  have fk33 : (Cond.fieldLink RX2 33 "FigurePlay$Figures" "base" "I").before ar s = true := hts _ (by decide +kernel)
  have fk9 : (Cond.fieldLink RX2 9 "FigurePlay$Lifts" "version" "I").before ar s = true := hts _ (by decide +kernel)
  have fk27 : (Cond.fieldLink RX2 27 "FigurePlay$Figures" "version" "I").before ar s = true := hts _ (by decide +kernel)
  unfold f_X2_renew at hf
  have hL52 : ∀ (l_version : Int32) (k : Nat) (x : Int32 × (Nat → Int32) × (Nat → Int32)) (ex : (Nat → Int32) × (Nat → Int32)) (H : Heap) (locs : List Loc) (ls : Array Slot), lp (f_X2_renew_B52 F g_base g_worth l_version) k x = some ex → (∀ (H : Heap) (locs : List Loc) (ls : Array Slot), va_P D vwCl (gL cy qL (qG 0) l_version ex.1 ex.2 ++ (gG cy qG g_base g_worth g_row g_many g_version)) H → va_D A (gL cy qL (qG 0) l_version ex.1 ex.2 ++ (gG cy qG g_base g_worth g_row g_many g_version)) → va_S A s.heap H locs → lv_has ls 3 [] → W p l e0 rmX2_renew s m ar below meth c H locs 0 0 Q (F0 m 152 ls [])) → va_P D vwCl (gL cy qL (qG 0) l_version x.2.1 x.2.2 ++ (gG cy qG g_base g_worth g_row g_many g_version)) H → va_D A (gL cy qL (qG 0) l_version x.2.1 x.2.2 ++ (gG cy qG g_base g_worth g_row g_many g_version)) → va_S A s.heap H locs → lv_has ls 3 [(0, .ref (qL 0)), (1, .int x.1)] → W p l e0 rmX2_renew s m ar below meth c H locs 0 0 Q (F0 m 52 ls []) := by
    intro l_version k
    induction k with
    | zero => intro x ex H locs ls hf; exact no_some hf
    | succ k ih =>
      intro x ex H locs ls hf hex hP hD hS hl
      have hf : f_X2_renew_B52 F g_base g_worth l_version (lp (f_X2_renew_B52 F g_base g_worth l_version) k) x = some ex := hf
      unfold f_X2_renew_B52 at hf
      have hJ146 : ∀ (x1 : Int32) (l_sums : Nat → Int32) (l_reached : Nat → Int32) (H : Heap) (locs : List Loc) (ls : Array Slot), f_X2_renew_J146 F (lp (f_X2_renew_B52 F g_base g_worth l_version) k) x1 l_sums l_reached = some ex → va_P D vwCl (gL cy qL (qG 0) l_version l_sums l_reached ++ (gG cy qG g_base g_worth g_row g_many g_version)) H → va_D A (gL cy qL (qG 0) l_version l_sums l_reached ++ (gG cy qG g_base g_worth g_row g_many g_version)) → va_S A s.heap H locs → lv_has ls 3 [(0, .ref (qL 0)), (1, .int x1)] → W p l e0 rmX2_renew s m ar below meth c H locs 0 0 Q (F0 m 146 ls []) := by
        intro x1 l_sums l_reached H locs ls hf hP hD hS hl
        unfold f_X2_renew_J146 at hf
        refine lv_iinc (v := (x1 + (1 : Int32))) (lv' := [(1, .int (x1 + (1 : Int32))), (0, .ref (qL 0))]) hx hb dX2_renew_146 hl (k := 1) rfl rfl (by decide) rfl (fun ls hl => ?_)
        refine lv_goto (tgt := 52) hx hb dX2_renew_149 (by decide) ?_
        exact ih ((x1 + (1 : Int32)), l_sums, l_reached) ex _ _ _ hf hex hP hD hS (lv_sub hl [1, 0] rfl)
      have hJ115 : ∀ (x1 : Int32) (s1 : Int32) (s2 : Int32) (l_sums : Nat → Int32) (l_reached : Nat → Int32) (H : Heap) (locs : List Loc) (ls : Array Slot), f_X2_renew_J115 F (lp (f_X2_renew_B52 F g_base g_worth l_version) k) x1 s1 s2 l_sums l_reached = some ex → va_P D vwCl (gL cy qL (qG 0) l_version l_sums l_reached ++ (gG cy qG g_base g_worth g_row g_many g_version)) H → va_D A (gL cy qL (qG 0) l_version l_sums l_reached ++ (gG cy qG g_base g_worth g_row g_many g_version)) → va_S A s.heap H locs → lv_has ls 3 [(0, .ref (qL 0)), (1, .int x1)] → W p l e0 rmX2_renew s m ar below meth c H locs 0 0 Q (F0 m 115 ls [.int s2, .int s1, .ref (qL 1)]) := by
        intro x1 s1 s2 l_sums l_reached H locs ls hf hP hD hS hl
        unfold f_X2_renew_J115 at hf
        obtain ⟨c1, hf⟩ := ck_some hf
        refine va_iast hx hb hK hP hD hS 1 0 rfl rfl c1 dX2_renew_115 (fun H locs hP hD hS => ?_)
        have hP : va_P D vwCl (gL cy qL (qG 0) l_version (upd l_sums s1.toNatClampNeg s2) l_reached ++ (gG cy qG g_base g_worth g_row g_many g_version)) H := hP
        have hD : va_D A (gL cy qL (qG 0) l_version (upd l_sums s1.toNatClampNeg s2) l_reached ++ (gG cy qG g_base g_worth g_row g_many g_version)) := hD
        refine lv_iload_n hx hb dX2_renew_116 rfl (lv_at hl 1 rfl) ?_
        refine lv_aload_n hx hb dX2_renew_117 rfl (lv_at hl 0 rfl) ?_
        refine va_get (v := .ref (qL 1)) (D := D) (ci := 2) (C := RX2) (T := TX2) (N := 4) hx hb hts huX2 hown hK hP 0 rfl rfl 2 (by decide) fk15 (fun _ h9 => h9) rfl dX2_renew_118 ?_
        refine lv_iload_n hx hb dX2_renew_121 rfl (lv_at hl 1 rfl) ?_
        obtain ⟨c2, hf⟩ := ck_some hf
        refine va_iald hx hb hK hP 1 0 rfl rfl c2 dX2_renew_122 ?_
        refine lv_iadd hx hb dX2_renew_123 ?_
        refine lv_aload_n hx hb dX2_renew_124 rfl (lv_at hl 0 rfl) ?_
        refine va_get (v := .ref (qL 2)) (D := D) (ci := 2) (C := RX2) (T := TX2) (N := 4) hx hb hts huX2 hown hK hP 0 rfl rfl 3 (by decide) fk19 (fun _ h9 => h9) rfl dX2_renew_125 ?_
        refine va_alen (v := (20001 : Int32)) hx hb hK hP 2 2 rfl rfl rfl dX2_renew_128 ?_
        refine lv_icmp_ge (tgt := 146) hx hb dX2_renew_129 (by decide) (fun c3 => ?_) (fun c3 => ?_)
        · have hf := if_t hf c3
          exact hJ146 x1 (upd l_sums s1.toNatClampNeg s2) l_reached _ _ _ hf hP hD hS (lv_sub hl [0, 1] rfl)
        · have hf := if_f hf c3
          refine lv_aload_n hx hb dX2_renew_132 rfl (lv_at hl 0 rfl) ?_
          refine va_get (v := .ref (qL 2)) (D := D) (ci := 2) (C := RX2) (T := TX2) (N := 4) hx hb hts huX2 hown hK hP 0 rfl rfl 3 (by decide) fk19 (fun _ h9 => h9) rfl dX2_renew_133 ?_
          refine lv_iload_n hx hb dX2_renew_136 rfl (lv_at hl 1 rfl) ?_
          refine lv_aload_n hx hb dX2_renew_137 rfl (lv_at hl 0 rfl) ?_
          refine va_get (v := .ref (qL 1)) (D := D) (ci := 2) (C := RX2) (T := TX2) (N := 4) hx hb hts huX2 hown hK hP 0 rfl rfl 2 (by decide) fk15 (fun _ h9 => h9) rfl dX2_renew_138 ?_
          refine lv_iload_n hx hb dX2_renew_141 rfl (lv_at hl 1 rfl) ?_
          obtain ⟨c4, hf⟩ := ck_some hf
          refine va_iald hx hb hK hP 1 0 rfl rfl c4 dX2_renew_142 ?_
          refine lv_iadd hx hb dX2_renew_143 ?_
          refine lv_iconst (v := (1 : Int32)) hx hb dX2_renew_144 (by decide) ?_
          obtain ⟨c5, hf⟩ := ck_some hf
          refine va_zast hx hb hK hP hD hS 2 2 rfl rfl c5 dX2_renew_145 (fun H locs hP hD hS => ?_)
          have hP : va_P D vwCl (gL cy qL (qG 0) l_version (upd l_sums s1.toNatClampNeg s2) (upd l_reached (x1 + ((upd l_sums s1.toNatClampNeg s2) x1.toNatClampNeg)).toNatClampNeg (vp_nar .boolean (1 : Int32))) ++ (gG cy qG g_base g_worth g_row g_many g_version)) H := hP
          have hD : va_D A (gL cy qL (qG 0) l_version (upd l_sums s1.toNatClampNeg s2) (upd l_reached (x1 + ((upd l_sums s1.toNatClampNeg s2) x1.toNatClampNeg)).toNatClampNeg (vp_nar .boolean (1 : Int32))) ++ (gG cy qG g_base g_worth g_row g_many g_version)) := hD
          exact hJ146 x1 (upd l_sums s1.toNatClampNeg s2) (upd l_reached (x1 + ((upd l_sums s1.toNatClampNeg s2) x1.toNatClampNeg)).toNatClampNeg (vp_nar .boolean (1 : Int32))) _ _ _ hf hP hD hS (lv_sub hl [0, 1] rfl)
      refine lv_iload_n hx hb dX2_renew_52 rfl (lv_at hl 1 rfl) ?_
      refine lv_aload_n hx hb dX2_renew_53 rfl (lv_at hl 0 rfl) ?_
      refine va_get (v := .ref (qL 1)) (D := D) (ci := 2) (C := RX2) (T := TX2) (N := 4) hx hb hts huX2 hown hK hP 0 rfl rfl 2 (by decide) fk15 (fun _ h9 => h9) rfl dX2_renew_54 ?_
      refine va_alen (v := (20001 : Int32)) hx hb hK hP 1 0 rfl rfl rfl dX2_renew_57 ?_
      refine lv_icmp_ge (tgt := 152) hx hb dX2_renew_58 (by decide) (fun c6 => ?_) (fun c6 => ?_)
      · have hf := if_t hf c6
        obtain rfl := Option.some.inj hf
        exact hex _ _ _ hP hD hS (lv_sub hl [] rfl)
      · have hf := if_f hf c6
        refine lv_aload_n hx hb dX2_renew_61 rfl (lv_at hl 0 rfl) ?_
        refine va_get (v := .ref (qG 0)) (D := D) (ci := 2) (C := RX2) (T := TX2) (N := 4) hx hb hts huX2 hown hK hP 0 rfl rfl 0 (by decide) fk23 (fun _ h9 => h9) rfl dX2_renew_62 ?_
        refine va_get (v := .ref (qG 1)) (D := D) (ci := 1) (C := RX1) (T := TX1) (N := 5) hx hb hts huX1 hown hK hP 3 rfl rfl 1 (by decide) fk30 (fun _ h9 => h9) rfl dX2_renew_65 ?_
        refine lv_iload_n hx hb dX2_renew_68 rfl (lv_at hl 1 rfl) ?_
        refine lv_aload_n hx hb dX2_renew_69 rfl (lv_at hl 0 rfl) ?_
        refine va_get (v := .ref (qG 0)) (D := D) (ci := 2) (C := RX2) (T := TX2) (N := 4) hx hb hts huX2 hown hK hP 0 rfl rfl 0 (by decide) fk23 (fun _ h9 => h9) rfl dX2_renew_70 ?_
        refine va_get (D := D) (ci := 1) (C := RX1) (T := TX1) (N := 5) hx hb hts huX1 hown hK hP 3 rfl rfl 0 (by decide) fk33 (fun _ h9 => h9) rfl dX2_renew_73 ?_
        obtain ⟨c7, hf⟩ := ck_some hf
        refine lv_irem hx hb dX2_renew_76 c7 ?_
        obtain ⟨c8, hf⟩ := ck_some hf
        refine va_iald hx hb hK hP 4 0 rfl rfl c8 dX2_renew_77 ?_
        refine lv_istore_n (lv' := [(2, .int (g_worth (x.1 - x.1 / g_base * g_base).toNatClampNeg)), (0, .ref (qL 0)), (1, .int x.1)]) hx hb dX2_renew_78 rfl hl (by decide) rfl (fun ls hl => ?_)
        refine lv_aload_n hx hb dX2_renew_79 rfl (lv_at hl 1 rfl) ?_
        refine va_get (v := .ref (qL 1)) (D := D) (ci := 2) (C := RX2) (T := TX2) (N := 4) hx hb hts huX2 hown hK hP 0 rfl rfl 2 (by decide) fk15 (fun _ h9 => h9) rfl dX2_renew_80 ?_
        refine lv_iload_n hx hb dX2_renew_83 rfl (lv_at hl 2 rfl) ?_
        refine lv_iload_n hx hb dX2_renew_84 rfl (lv_at hl 2 rfl) ?_
        refine lv_aload_n hx hb dX2_renew_85 rfl (lv_at hl 1 rfl) ?_
        refine va_get (v := .ref (qG 0)) (D := D) (ci := 2) (C := RX2) (T := TX2) (N := 4) hx hb hts huX2 hown hK hP 0 rfl rfl 0 (by decide) fk23 (fun _ h9 => h9) rfl dX2_renew_86 ?_
        refine va_get (D := D) (ci := 1) (C := RX1) (T := TX1) (N := 5) hx hb hts huX1 hown hK hP 3 rfl rfl 0 (by decide) fk33 (fun _ h9 => h9) rfl dX2_renew_89 ?_
        refine lv_icmp_ge (tgt := 99) hx hb dX2_renew_92 (by decide) (fun c9 => ?_) (fun c9 => ?_)
        · have hf := if_t hf c9
          refine lv_aload_n hx hb dX2_renew_99 rfl (lv_at hl 1 rfl) ?_
          refine va_get (v := .ref (qL 1)) (D := D) (ci := 2) (C := RX2) (T := TX2) (N := 4) hx hb hts huX2 hown hK hP 0 rfl rfl 2 (by decide) fk15 (fun _ h9 => h9) rfl dX2_renew_100 ?_
          refine lv_iload_n hx hb dX2_renew_103 rfl (lv_at hl 2 rfl) ?_
          refine lv_aload_n hx hb dX2_renew_104 rfl (lv_at hl 1 rfl) ?_
          refine va_get (v := .ref (qG 0)) (D := D) (ci := 2) (C := RX2) (T := TX2) (N := 4) hx hb hts huX2 hown hK hP 0 rfl rfl 0 (by decide) fk23 (fun _ h9 => h9) rfl dX2_renew_105 ?_
          refine va_get (D := D) (ci := 1) (C := RX1) (T := TX1) (N := 5) hx hb hts huX1 hown hK hP 3 rfl rfl 0 (by decide) fk33 (fun _ h9 => h9) rfl dX2_renew_108 ?_
          obtain ⟨c10, hf⟩ := ck_some hf
          refine lv_idiv hx hb dX2_renew_111 c10 ?_
          obtain ⟨c11, hf⟩ := ck_some hf
          refine va_iald hx hb hK hP 1 0 rfl rfl c11 dX2_renew_112 ?_
          refine lv_iload_n hx hb dX2_renew_113 rfl (lv_at hl 0 rfl) ?_
          refine lv_iadd hx hb dX2_renew_114 ?_
          exact hJ115 x.1 x.1 ((x.2.1 (x.1 / g_base).toNatClampNeg) + (g_worth (x.1 - x.1 / g_base * g_base).toNatClampNeg)) x.2.1 x.2.2 _ _ _ hf hP hD hS (lv_sub hl [1, 2] rfl)
        · have hf := if_f hf c9
          refine lv_iload_n hx hb dX2_renew_95 rfl (lv_at hl 0 rfl) ?_
          refine lv_goto (tgt := 115) hx hb dX2_renew_96 (by decide) ?_
          exact hJ115 x.1 x.1 (g_worth (x.1 - x.1 / g_base * g_base).toNatClampNeg) x.2.1 x.2.2 _ _ _ hf hP hD hS (lv_sub hl [1, 2] rfl)
  have hL28 : ∀ (l_version : Int32) (l_sums : Nat → Int32) (k : Nat) (x : Int32 × (Nat → Int32)) (ex : (Nat → Int32)) (H : Heap) (locs : List Loc) (ls : Array Slot), lp (f_X2_renew_B28 F l_version l_sums) k x = some ex → (∀ (H : Heap) (locs : List Loc) (ls : Array Slot), va_P D vwCl (gL cy qL (qG 0) l_version l_sums ex ++ (gG cy qG g_base g_worth g_row g_many g_version)) H → va_D A (gL cy qL (qG 0) l_version l_sums ex ++ (gG cy qG g_base g_worth g_row g_many g_version)) → va_S A s.heap H locs → lv_has ls 3 [(0, .ref (qL 0))] → W p l e0 rmX2_renew s m ar below meth c H locs 0 0 Q (F0 m 50 ls [])) → va_P D vwCl (gL cy qL (qG 0) l_version l_sums x.2 ++ (gG cy qG g_base g_worth g_row g_many g_version)) H → va_D A (gL cy qL (qG 0) l_version l_sums x.2 ++ (gG cy qG g_base g_worth g_row g_many g_version)) → va_S A s.heap H locs → lv_has ls 3 [(0, .ref (qL 0)), (1, .int x.1)] → W p l e0 rmX2_renew s m ar below meth c H locs 0 0 Q (F0 m 28 ls []) := by
    intro l_version l_sums k
    induction k with
    | zero => intro x ex H locs ls hf; exact no_some hf
    | succ k ih =>
      intro x ex H locs ls hf hex hP hD hS hl
      have hf : f_X2_renew_B28 F l_version l_sums (lp (f_X2_renew_B28 F l_version l_sums) k) x = some ex := hf
      unfold f_X2_renew_B28 at hf
      refine lv_iload_n hx hb dX2_renew_28 rfl (lv_at hl 1 rfl) ?_
      refine lv_aload_n hx hb dX2_renew_29 rfl (lv_at hl 0 rfl) ?_
      refine va_get (v := .ref (qL 2)) (D := D) (ci := 2) (C := RX2) (T := TX2) (N := 4) hx hb hts huX2 hown hK hP 0 rfl rfl 3 (by decide) fk19 (fun _ h9 => h9) rfl dX2_renew_30 ?_
      refine va_alen (v := (20001 : Int32)) hx hb hK hP 2 2 rfl rfl rfl dX2_renew_33 ?_
      refine lv_icmp_ge (tgt := 50) hx hb dX2_renew_34 (by decide) (fun c12 => ?_) (fun c12 => ?_)
      · have hf := if_t hf c12
        obtain rfl := Option.some.inj hf
        exact hex _ _ _ hP hD hS (lv_sub hl [0] rfl)
      · have hf := if_f hf c12
        refine lv_aload_n hx hb dX2_renew_37 rfl (lv_at hl 0 rfl) ?_
        refine va_get (v := .ref (qL 2)) (D := D) (ci := 2) (C := RX2) (T := TX2) (N := 4) hx hb hts huX2 hown hK hP 0 rfl rfl 3 (by decide) fk19 (fun _ h9 => h9) rfl dX2_renew_38 ?_
        refine lv_iload_n hx hb dX2_renew_41 rfl (lv_at hl 1 rfl) ?_
        refine lv_iconst (v := (0 : Int32)) hx hb dX2_renew_42 (by decide) ?_
        obtain ⟨c13, hf⟩ := ck_some hf
        refine va_zast hx hb hK hP hD hS 2 2 rfl rfl c13 dX2_renew_43 (fun H locs hP hD hS => ?_)
        have hP : va_P D vwCl (gL cy qL (qG 0) l_version l_sums (upd x.2 x.1.toNatClampNeg (vp_nar .boolean (0 : Int32))) ++ (gG cy qG g_base g_worth g_row g_many g_version)) H := hP
        have hD : va_D A (gL cy qL (qG 0) l_version l_sums (upd x.2 x.1.toNatClampNeg (vp_nar .boolean (0 : Int32))) ++ (gG cy qG g_base g_worth g_row g_many g_version)) := hD
        refine lv_iinc (v := (x.1 + (1 : Int32))) (lv' := [(1, .int (x.1 + (1 : Int32))), (0, .ref (qL 0))]) hx hb dX2_renew_44 hl (k := 1) rfl rfl (by decide) rfl (fun ls hl => ?_)
        refine lv_goto (tgt := 28) hx hb dX2_renew_47 (by decide) ?_
        exact ih ((x.1 + (1 : Int32)), (upd x.2 x.1.toNatClampNeg (vp_nar .boolean (0 : Int32)))) ex _ _ _ hf hex hP hD hS (lv_sub hl [1, 0] rfl)
  refine lv_aload_n hx hb dX2_renew_0 rfl (lv_at hl 0 rfl) ?_
  refine va_get (D := D) (ci := 2) (C := RX2) (T := TX2) (N := 4) hx hb hts huX2 hown hK hP 0 rfl rfl 1 (by decide) fk9 (fun _ h9 => h9) rfl dX2_renew_1 ?_
  refine lv_aload_n hx hb dX2_renew_4 rfl (lv_at hl 0 rfl) ?_
  refine va_get (v := .ref (qG 0)) (D := D) (ci := 2) (C := RX2) (T := TX2) (N := 4) hx hb hts huX2 hown hK hP 0 rfl rfl 0 (by decide) fk23 (fun _ h9 => h9) rfl dX2_renew_5 ?_
  refine va_get (D := D) (ci := 1) (C := RX1) (T := TX1) (N := 5) hx hb hts huX1 hown hK hP 3 rfl rfl 4 (by decide) fk27 (fun _ h9 => h9) rfl dX2_renew_8 ?_
  refine lv_icmp_ne (tgt := 15) hx hb dX2_renew_11 (by decide) (fun c14 => ?_) (fun c14 => ?_)
  · have hf := if_f hf c14
    refine lv_aload_n hx hb dX2_renew_15 rfl (lv_at hl 0 rfl) ?_
    refine lv_aload_n hx hb dX2_renew_16 rfl (lv_at hl 0 rfl) ?_
    refine va_get (v := .ref (qG 0)) (D := D) (ci := 2) (C := RX2) (T := TX2) (N := 4) hx hb hts huX2 hown hK hP 0 rfl rfl 0 (by decide) fk23 (fun _ h9 => h9) rfl dX2_renew_17 ?_
    refine va_get (D := D) (ci := 1) (C := RX1) (T := TX1) (N := 5) hx hb hts huX1 hown hK hP 3 rfl rfl 4 (by decide) fk27 (fun _ h9 => h9) rfl dX2_renew_20 ?_
    refine va_put (D := D) (ci := 2) (v := .int g_version) (ty := .int) (C := RX2) (T := TX2) (N := 4) hx hb hts huX2 tyX2 tyX2_ok nmX2 hown hK hP hD hS 0 rfl rfl 1 (by decide) fk9 (fun _ h9 => h9) rfl (tyX2_ok 1 (by decide)) rfl rfl (Nat.le_of_ble_eq_true rfl) dX2_renew_23 (fun H locs hP hD hS => ?_)
    have hP : va_P D vwCl (gL cy qL (qG 0) g_version l_sums l_reached ++ (gG cy qG g_base g_worth g_row g_many g_version)) H := hP
    have hD : va_D A (gL cy qL (qG 0) g_version l_sums l_reached ++ (gG cy qG g_base g_worth g_row g_many g_version)) := hD
    refine lv_iconst (v := (0 : Int32)) hx hb dX2_renew_26 (by decide) ?_
    refine lv_istore_n (lv' := [(1, .int (0 : Int32)), (0, .ref (qL 0))]) hx hb dX2_renew_27 rfl hl (by decide) rfl (fun ls hl => ?_)
    obtain ⟨ex15, hcl, hf⟩ := ob_some hf
    refine hL28 g_version l_sums F ((0 : Int32), l_reached) ex15 _ _ _ hcl (fun H locs ls hP hD hS hl => ?_) hP hD hS (lv_sub hl [1, 0] rfl)
    refine lv_iconst (v := (0 : Int32)) hx hb dX2_renew_50 (by decide) ?_
    refine lv_istore_n (lv' := [(1, .int (0 : Int32)), (0, .ref (qL 0))]) hx hb dX2_renew_51 rfl hl (by decide) rfl (fun ls hl => ?_)
    obtain ⟨ex16, hcl, hf⟩ := ob_some hf
    refine hL52 g_version F ((0 : Int32), l_sums, ex15) ex16 _ _ _ hcl (fun H locs ls hP hD hS hl => ?_) hP hD hS (lv_sub hl [1, 0] rfl)
    obtain rfl := Option.some.inj hf
    exact hQ () 152 _ _ _ dX2_renew_152 hP hD hS
  · have hf := if_t hf c14
    obtain rfl := Option.some.inj hf
    exact hQ () 14 _ _ _ dX2_renew_14 hP hD hS
def f_X2_unreachedAt_J42 (F : Nat) (rec : (Int32 × Int32) → Option ((Int32) ⊕ (Int32))) (x3 : Int32) (x4 : Int32) : Option ((Int32) ⊕ (Int32)) := rec (x3, (x4 + (1 : Int32)))
def f_X2_unreachedAt_B5 (F : Nat) (a1 : Int32) (a2 : Int32) (l_reached : Nat → Int32) (rec : Int32 × Int32 → Option ((Int32) ⊕ (Int32))) (x : Int32 × Int32) : Option ((Int32) ⊕ (Int32)) := if a1 < x.2 then (some (.inr x.1)) else (if (20001 : Int32) ≤ x.2 then (some (.inr x.1)) else (ck (¬ (x.2 < 0 ∨ 20001 ≤ x.2.toNatClampNeg)) (if (l_reached x.2.toNatClampNeg) = 0 then (if x.1 = a2 then (some (.inl x.2)) else (f_X2_unreachedAt_J42 F rec (x.1 + (1 : Int32)) x.2)) else (f_X2_unreachedAt_J42 F rec x.1 x.2))))
def f_X2_unreachedAt (F : Nat) (a1 : Int32) (a2 : Int32) (l_reached : Nat → Int32) : Option (Int32) := (lp (f_X2_unreachedAt_B5 F a1 a2 l_reached) F ((0 : Int32), (0 : Int32))).bind (fun ex6 => Sum.elim (fun r => some r) (fun er7 => (f_X10_countOrNone F a2 er7).bind (fun r8 => some r8)) ex6)
abbrev rmX2_unreachedAt : Room := { frames := 1, cells := 0, slots := 0, locals := 21 }
set_option maxHeartbeats 1000000 in
set_option maxRecDepth 100000 in
theorem c_X2_unreachedAt {l : Launch} {D : va_G} {cy : Nat → ClassId} {qL : Nat → Nat} {qG : Nat → Nat} {l_version : Int32} {l_sums : Nat → Int32} {l_reached : Nat → Int32} {g_base : Int32} {g_worth : Nat → Int32} {g_row : Nat → Int32} {g_many : Nat → Int32} {g_version : Int32} {a1 : Int32} {a2 : Int32} {F : Nat} {res : Int32} (hf : f_X2_unreachedAt F a1 a2 l_reached = some res) : kM l yX2_unreachedAt wsX2_unreachedAt rmX2_unreachedAt D cy [.ref (qL 0), .int a1, .int a2] (gL cy qL (qG 0) l_version l_sums l_reached ++ (gG cy qG g_base g_worth g_row g_many g_version)) (kQi D cy (fun _ : Unit => gL cy qL (qG 0) l_version l_sums l_reached ++ (gG cy qG g_base g_worth g_row g_many g_version)) res) := by
  refine kent_i (cc := cX2_unreachedAt) (maxL := 5) (by decide) rfl (Nat.le_of_ble_eq_true rfl) ?_
  intro p e0 s m ar below meth c A Q ls ⟨hx, hb, hml, hr, hts, hown, hlocks, hnm⟩ hA hK hN hQ hP hD hS hl
  have hl : lv_has ls 5 [(0, .ref (qL 0)), (1, .int a1), (2, .int a2)] := hl
  have hown : s.vm.findClass RX2 = some m.cls := hown
  have huX2 : ∀ x ∈ u_ws RX2 TX2 4, x ∈ wsX2_unreachedAt := by decide +kernel
  have fk19 : (Cond.fieldLink RX2 19 "FigurePlay$Lifts" "reached" "[Z").before ar s = true := hts _ (by decide +kernel)
  unfold f_X2_unreachedAt at hf
  have hL5 : ∀ (k : Nat) (x : Int32 × Int32) (ex : (Int32) ⊕ (Int32)) (H : Heap) (locs : List Loc) (ls : Array Slot), lp (f_X2_unreachedAt_B5 F a1 a2 l_reached) k x = some ex → (∀ r, ex = .inl r → r = res) → (∀ er, ex = .inr er → ∀ (H : Heap) (locs : List Loc) (ls : Array Slot), va_P D vwCl (gL cy qL (qG 0) l_version l_sums l_reached ++ (gG cy qG g_base g_worth g_row g_many g_version)) H → va_D A (gL cy qL (qG 0) l_version l_sums l_reached ++ (gG cy qG g_base g_worth g_row g_many g_version)) → va_S A s.heap H locs → lv_has ls 5 [(2, .int a2), (3, .int er)] → W p l e0 rmX2_unreachedAt s m ar below meth c H locs 0 0 Q (F0 m 48 ls [])) → va_P D vwCl (gL cy qL (qG 0) l_version l_sums l_reached ++ (gG cy qG g_base g_worth g_row g_many g_version)) H → va_D A (gL cy qL (qG 0) l_version l_sums l_reached ++ (gG cy qG g_base g_worth g_row g_many g_version)) → va_S A s.heap H locs → lv_has ls 5 [(0, .ref (qL 0)), (1, .int a1), (2, .int a2), (3, .int x.1), (4, .int x.2)] → W p l e0 rmX2_unreachedAt s m ar below meth c H locs 0 0 Q (F0 m 5 ls []) := by
    intro k
    induction k with
    | zero => intro x ex H locs ls hf; exact no_some hf
    | succ k ih =>
      intro x ex H locs ls hf hret hex hP hD hS hl
      have hf : f_X2_unreachedAt_B5 F a1 a2 l_reached (lp (f_X2_unreachedAt_B5 F a1 a2 l_reached) k) x = some ex := hf
      unfold f_X2_unreachedAt_B5 at hf
      have hJ42 : ∀ (x3 : Int32) (x4 : Int32) (H : Heap) (locs : List Loc) (ls : Array Slot), f_X2_unreachedAt_J42 F (lp (f_X2_unreachedAt_B5 F a1 a2 l_reached) k) x3 x4 = some ex → va_P D vwCl (gL cy qL (qG 0) l_version l_sums l_reached ++ (gG cy qG g_base g_worth g_row g_many g_version)) H → va_D A (gL cy qL (qG 0) l_version l_sums l_reached ++ (gG cy qG g_base g_worth g_row g_many g_version)) → va_S A s.heap H locs → lv_has ls 5 [(0, .ref (qL 0)), (1, .int a1), (2, .int a2), (3, .int x3), (4, .int x4)] → W p l e0 rmX2_unreachedAt s m ar below meth c H locs 0 0 Q (F0 m 42 ls []) := by
        intro x3 x4 H locs ls hf hP hD hS hl
        unfold f_X2_unreachedAt_J42 at hf
        refine lv_iinc (v := (x4 + (1 : Int32))) (lv' := [(4, .int (x4 + (1 : Int32))), (0, .ref (qL 0)), (1, .int a1), (2, .int a2), (3, .int x3)]) hx hb dX2_unreachedAt_42 hl (k := 4) rfl rfl (by decide) rfl (fun ls hl => ?_)
        refine lv_goto (tgt := 5) hx hb dX2_unreachedAt_45 (by decide) ?_
        exact ih (x3, (x4 + (1 : Int32))) ex _ _ _ hf hret hex hP hD hS (lv_sub hl [1, 2, 3, 4, 0] rfl)
      refine lv_iload hx hb dX2_unreachedAt_5 (lv_at hl 4 rfl) ?_
      refine lv_iload_n hx hb dX2_unreachedAt_7 rfl (lv_at hl 1 rfl) ?_
      refine lv_icmp_gt (tgt := 48) hx hb dX2_unreachedAt_8 (by decide) (fun c1 => ?_) (fun c1 => ?_)
      · have hf := if_t hf c1
        obtain rfl := Option.some.inj hf
        exact hex _ rfl _ _ _ hP hD hS (lv_sub hl [2, 3] rfl)
      · have hf := if_f hf c1
        refine lv_iload hx hb dX2_unreachedAt_11 (lv_at hl 4 rfl) ?_
        refine lv_aload_n hx hb dX2_unreachedAt_13 rfl (lv_at hl 0 rfl) ?_
        refine va_get (v := .ref (qL 2)) (D := D) (ci := 2) (C := RX2) (T := TX2) (N := 4) hx hb hts huX2 hown hK hP 0 rfl rfl 3 (by decide) fk19 (fun _ h9 => h9) rfl dX2_unreachedAt_14 ?_
        refine va_alen (v := (20001 : Int32)) hx hb hK hP 2 2 rfl rfl rfl dX2_unreachedAt_17 ?_
        refine lv_icmp_ge (tgt := 48) hx hb dX2_unreachedAt_18 (by decide) (fun c2 => ?_) (fun c2 => ?_)
        · have hf := if_t hf c2
          obtain rfl := Option.some.inj hf
          exact hex _ rfl _ _ _ hP hD hS (lv_sub hl [2, 3] rfl)
        · have hf := if_f hf c2
          refine lv_aload_n hx hb dX2_unreachedAt_21 rfl (lv_at hl 0 rfl) ?_
          refine va_get (v := .ref (qL 2)) (D := D) (ci := 2) (C := RX2) (T := TX2) (N := 4) hx hb hts huX2 hown hK hP 0 rfl rfl 3 (by decide) fk19 (fun _ h9 => h9) rfl dX2_unreachedAt_22 ?_
          refine lv_iload hx hb dX2_unreachedAt_25 (lv_at hl 4 rfl) ?_
          obtain ⟨c3, hf⟩ := ck_some hf
          refine va_zald hx hb hK hP 2 2 rfl rfl c3 dX2_unreachedAt_27 ?_
          refine lv_if_ne (tgt := 42) hx hb dX2_unreachedAt_28 (by decide) (fun c4 => ?_) (fun c4 => ?_)
          · have hf := if_f hf c4
            exact hJ42 x.1 x.2 _ _ _ hf hP hD hS (lv_sub hl [0, 1, 2, 3, 4] rfl)
          · have hf := if_t hf c4
            refine lv_iload_n hx hb dX2_unreachedAt_31 rfl (lv_at hl 3 rfl) ?_
            refine lv_iload_n hx hb dX2_unreachedAt_32 rfl (lv_at hl 2 rfl) ?_
            refine lv_icmp_ne (tgt := 39) hx hb dX2_unreachedAt_33 (by decide) (fun c5 => ?_) (fun c5 => ?_)
            · have hf := if_f hf c5
              refine lv_iinc (v := (x.1 + (1 : Int32))) (lv' := [(3, .int (x.1 + (1 : Int32))), (0, .ref (qL 0)), (1, .int a1), (2, .int a2), (4, .int x.2)]) hx hb dX2_unreachedAt_39 hl (k := 3) rfl rfl (by decide) rfl (fun ls hl => ?_)
              exact hJ42 (x.1 + (1 : Int32)) x.2 _ _ _ hf hP hD hS (lv_sub hl [1, 2, 3, 0, 4] rfl)
            · have hf := if_t hf c5
              refine lv_iload hx hb dX2_unreachedAt_36 (lv_at hl 4 rfl) ?_
              obtain rfl := Option.some.inj hf
              obtain rfl := hret _ rfl
              exact hQ () 38 _ _ _ dX2_unreachedAt_38 hP hD hS
  refine lv_iconst (v := (0 : Int32)) hx hb dX2_unreachedAt_0 (by decide) ?_
  refine lv_istore_n (lv' := [(3, .int (0 : Int32)), (0, .ref (qL 0)), (1, .int a1), (2, .int a2)]) hx hb dX2_unreachedAt_1 rfl hl (by decide) rfl (fun ls hl => ?_)
  refine lv_iconst (v := (0 : Int32)) hx hb dX2_unreachedAt_2 (by decide) ?_
  refine lv_istore (lv' := [(4, .int (0 : Int32)), (3, .int (0 : Int32)), (0, .ref (qL 0)), (1, .int a1), (2, .int a2)]) hx hb dX2_unreachedAt_3 hl (by decide) rfl (fun ls hl => ?_)
  obtain ⟨ex6, hcl, hf⟩ := ob_some hf
  refine hL5 F ((0 : Int32), (0 : Int32)) ex6 _ _ _ hcl (fun r hr0 => ?_) (fun er7 hr0 H locs ls hP hD hS hl => ?_) hP hD hS (lv_sub hl [2, 3, 4, 1, 0] rfl)
  · subst hr0; exact Option.some.inj (sm_inl hf)
  · subst hr0
    have hf := sm_inr hf
    refine lv_iload_n hx hb dX2_unreachedAt_48 rfl (lv_at hl 0 rfl) ?_
    refine lv_iload_n hx hb dX2_unreachedAt_49 rfl (lv_at hl 1 rfl) ?_
    obtain ⟨r8, hc9, hf⟩ := ob_some hf
    refine kc_i (k_runSN ⟨hx, hb, hml, hown, hts⟩ (c_X10_countOrNone hc9) ⟨va_cnB 2 hts ggX2_unreachedAt_X10_countOrNone rfl rfl rfl hN.2.2.2.2.2.2.1 (hts (.initialized RX10) (by decide +kernel)) (by decide +kernel) ⟨Nat.le_of_ble_eq_true rfl, Nat.le_of_ble_eq_true rfl⟩, hts (.static yX10_countOrNone) (by decide +kernel), trivial⟩ hK hN hP hD kA_0 rfl hl.1 rfl (Nat.le_of_ble_eq_true rfl) dX2_unreachedAt_50 ⟨Nat.le_of_ble_eq_true rfl, Nat.le_of_ble_eq_true rfl⟩) hP hD hS hA kI_0 (fun _ H locs hP hD hS => ?_)
    obtain rfl := Option.some.inj hf
    exact hQ () 53 _ _ _ dX2_unreachedAt_53 hP hD hS
def f_X2_liftedTo_J46 (F : Nat) (rec : (Int32 × Int32) → Option ((Int32) ⊕ (Int32))) (x3 : Int32) (x4 : Int32) : Option ((Int32) ⊕ (Int32)) := rec (x3, (x4 + (1 : Int32)))
def f_X2_liftedTo_B5 (F : Nat) (a1 : Int32) (a2 : Int32) (l_sums : Nat → Int32) (rec : Int32 × Int32 → Option ((Int32) ⊕ (Int32))) (x : Int32 × Int32) : Option ((Int32) ⊕ (Int32)) := if a1 < x.2 then (some (.inr x.1)) else (if (20001 : Int32) ≤ x.2 then (some (.inr x.1)) else (ck (¬ (x.2 < 0 ∨ 20001 ≤ x.2.toNatClampNeg)) (if (x.2 + (l_sums x.2.toNatClampNeg)) = a1 then (if x.1 = a2 then (some (.inl x.2)) else (f_X2_liftedTo_J46 F rec (x.1 + (1 : Int32)) x.2)) else (f_X2_liftedTo_J46 F rec x.1 x.2))))
def f_X2_liftedTo (F : Nat) (a1 : Int32) (a2 : Int32) (l_sums : Nat → Int32) : Option (Int32) := (lp (f_X2_liftedTo_B5 F a1 a2 l_sums) F ((0 : Int32), (0 : Int32))).bind (fun ex6 => Sum.elim (fun r => some r) (fun er7 => (f_X10_countOrNone F a2 er7).bind (fun r8 => some r8)) ex6)
abbrev rmX2_liftedTo : Room := { frames := 1, cells := 0, slots := 0, locals := 21 }
set_option maxHeartbeats 1000000 in
set_option maxRecDepth 100000 in
theorem c_X2_liftedTo {l : Launch} {D : va_G} {cy : Nat → ClassId} {qL : Nat → Nat} {qG : Nat → Nat} {l_version : Int32} {l_sums : Nat → Int32} {l_reached : Nat → Int32} {g_base : Int32} {g_worth : Nat → Int32} {g_row : Nat → Int32} {g_many : Nat → Int32} {g_version : Int32} {a1 : Int32} {a2 : Int32} {F : Nat} {res : Int32} (hf : f_X2_liftedTo F a1 a2 l_sums = some res) : kM l yX2_liftedTo wsX2_liftedTo rmX2_liftedTo D cy [.ref (qL 0), .int a1, .int a2] (gL cy qL (qG 0) l_version l_sums l_reached ++ (gG cy qG g_base g_worth g_row g_many g_version)) (kQi D cy (fun _ : Unit => gL cy qL (qG 0) l_version l_sums l_reached ++ (gG cy qG g_base g_worth g_row g_many g_version)) res) := by
  refine kent_i (cc := cX2_liftedTo) (maxL := 5) (by decide) rfl (Nat.le_of_ble_eq_true rfl) ?_
  intro p e0 s m ar below meth c A Q ls ⟨hx, hb, hml, hr, hts, hown, hlocks, hnm⟩ hA hK hN hQ hP hD hS hl
  have hl : lv_has ls 5 [(0, .ref (qL 0)), (1, .int a1), (2, .int a2)] := hl
  have hown : s.vm.findClass RX2 = some m.cls := hown
  have huX2 : ∀ x ∈ u_ws RX2 TX2 4, x ∈ wsX2_liftedTo := by decide +kernel
  have fk15 : (Cond.fieldLink RX2 15 "FigurePlay$Lifts" "sums" "[I").before ar s = true := hts _ (by decide +kernel)
  unfold f_X2_liftedTo at hf
  have hL5 : ∀ (k : Nat) (x : Int32 × Int32) (ex : (Int32) ⊕ (Int32)) (H : Heap) (locs : List Loc) (ls : Array Slot), lp (f_X2_liftedTo_B5 F a1 a2 l_sums) k x = some ex → (∀ r, ex = .inl r → r = res) → (∀ er, ex = .inr er → ∀ (H : Heap) (locs : List Loc) (ls : Array Slot), va_P D vwCl (gL cy qL (qG 0) l_version l_sums l_reached ++ (gG cy qG g_base g_worth g_row g_many g_version)) H → va_D A (gL cy qL (qG 0) l_version l_sums l_reached ++ (gG cy qG g_base g_worth g_row g_many g_version)) → va_S A s.heap H locs → lv_has ls 5 [(2, .int a2), (3, .int er)] → W p l e0 rmX2_liftedTo s m ar below meth c H locs 0 0 Q (F0 m 52 ls [])) → va_P D vwCl (gL cy qL (qG 0) l_version l_sums l_reached ++ (gG cy qG g_base g_worth g_row g_many g_version)) H → va_D A (gL cy qL (qG 0) l_version l_sums l_reached ++ (gG cy qG g_base g_worth g_row g_many g_version)) → va_S A s.heap H locs → lv_has ls 5 [(0, .ref (qL 0)), (1, .int a1), (2, .int a2), (3, .int x.1), (4, .int x.2)] → W p l e0 rmX2_liftedTo s m ar below meth c H locs 0 0 Q (F0 m 5 ls []) := by
    intro k
    induction k with
    | zero => intro x ex H locs ls hf; exact no_some hf
    | succ k ih =>
      intro x ex H locs ls hf hret hex hP hD hS hl
      have hf : f_X2_liftedTo_B5 F a1 a2 l_sums (lp (f_X2_liftedTo_B5 F a1 a2 l_sums) k) x = some ex := hf
      unfold f_X2_liftedTo_B5 at hf
      have hJ46 : ∀ (x3 : Int32) (x4 : Int32) (H : Heap) (locs : List Loc) (ls : Array Slot), f_X2_liftedTo_J46 F (lp (f_X2_liftedTo_B5 F a1 a2 l_sums) k) x3 x4 = some ex → va_P D vwCl (gL cy qL (qG 0) l_version l_sums l_reached ++ (gG cy qG g_base g_worth g_row g_many g_version)) H → va_D A (gL cy qL (qG 0) l_version l_sums l_reached ++ (gG cy qG g_base g_worth g_row g_many g_version)) → va_S A s.heap H locs → lv_has ls 5 [(0, .ref (qL 0)), (1, .int a1), (2, .int a2), (3, .int x3), (4, .int x4)] → W p l e0 rmX2_liftedTo s m ar below meth c H locs 0 0 Q (F0 m 46 ls []) := by
        intro x3 x4 H locs ls hf hP hD hS hl
        unfold f_X2_liftedTo_J46 at hf
        refine lv_iinc (v := (x4 + (1 : Int32))) (lv' := [(4, .int (x4 + (1 : Int32))), (0, .ref (qL 0)), (1, .int a1), (2, .int a2), (3, .int x3)]) hx hb dX2_liftedTo_46 hl (k := 4) rfl rfl (by decide) rfl (fun ls hl => ?_)
        refine lv_goto (tgt := 5) hx hb dX2_liftedTo_49 (by decide) ?_
        exact ih (x3, (x4 + (1 : Int32))) ex _ _ _ hf hret hex hP hD hS (lv_sub hl [1, 2, 3, 4, 0] rfl)
      refine lv_iload hx hb dX2_liftedTo_5 (lv_at hl 4 rfl) ?_
      refine lv_iload_n hx hb dX2_liftedTo_7 rfl (lv_at hl 1 rfl) ?_
      refine lv_icmp_gt (tgt := 52) hx hb dX2_liftedTo_8 (by decide) (fun c1 => ?_) (fun c1 => ?_)
      · have hf := if_t hf c1
        obtain rfl := Option.some.inj hf
        exact hex _ rfl _ _ _ hP hD hS (lv_sub hl [2, 3] rfl)
      · have hf := if_f hf c1
        refine lv_iload hx hb dX2_liftedTo_11 (lv_at hl 4 rfl) ?_
        refine lv_aload_n hx hb dX2_liftedTo_13 rfl (lv_at hl 0 rfl) ?_
        refine va_get (v := .ref (qL 1)) (D := D) (ci := 2) (C := RX2) (T := TX2) (N := 4) hx hb hts huX2 hown hK hP 0 rfl rfl 2 (by decide) fk15 (fun _ h9 => h9) rfl dX2_liftedTo_14 ?_
        refine va_alen (v := (20001 : Int32)) hx hb hK hP 1 0 rfl rfl rfl dX2_liftedTo_17 ?_
        refine lv_icmp_ge (tgt := 52) hx hb dX2_liftedTo_18 (by decide) (fun c2 => ?_) (fun c2 => ?_)
        · have hf := if_t hf c2
          obtain rfl := Option.some.inj hf
          exact hex _ rfl _ _ _ hP hD hS (lv_sub hl [2, 3] rfl)
        · have hf := if_f hf c2
          refine lv_iload hx hb dX2_liftedTo_21 (lv_at hl 4 rfl) ?_
          refine lv_aload_n hx hb dX2_liftedTo_23 rfl (lv_at hl 0 rfl) ?_
          refine va_get (v := .ref (qL 1)) (D := D) (ci := 2) (C := RX2) (T := TX2) (N := 4) hx hb hts huX2 hown hK hP 0 rfl rfl 2 (by decide) fk15 (fun _ h9 => h9) rfl dX2_liftedTo_24 ?_
          refine lv_iload hx hb dX2_liftedTo_27 (lv_at hl 4 rfl) ?_
          obtain ⟨c3, hf⟩ := ck_some hf
          refine va_iald hx hb hK hP 1 0 rfl rfl c3 dX2_liftedTo_29 ?_
          refine lv_iadd hx hb dX2_liftedTo_30 ?_
          refine lv_iload_n hx hb dX2_liftedTo_31 rfl (lv_at hl 1 rfl) ?_
          refine lv_icmp_ne (tgt := 46) hx hb dX2_liftedTo_32 (by decide) (fun c4 => ?_) (fun c4 => ?_)
          · have hf := if_f hf c4
            exact hJ46 x.1 x.2 _ _ _ hf hP hD hS (lv_sub hl [0, 1, 2, 3, 4] rfl)
          · have hf := if_t hf c4
            refine lv_iload_n hx hb dX2_liftedTo_35 rfl (lv_at hl 3 rfl) ?_
            refine lv_iload_n hx hb dX2_liftedTo_36 rfl (lv_at hl 2 rfl) ?_
            refine lv_icmp_ne (tgt := 43) hx hb dX2_liftedTo_37 (by decide) (fun c5 => ?_) (fun c5 => ?_)
            · have hf := if_f hf c5
              refine lv_iinc (v := (x.1 + (1 : Int32))) (lv' := [(3, .int (x.1 + (1 : Int32))), (0, .ref (qL 0)), (1, .int a1), (2, .int a2), (4, .int x.2)]) hx hb dX2_liftedTo_43 hl (k := 3) rfl rfl (by decide) rfl (fun ls hl => ?_)
              exact hJ46 (x.1 + (1 : Int32)) x.2 _ _ _ hf hP hD hS (lv_sub hl [1, 2, 3, 0, 4] rfl)
            · have hf := if_t hf c5
              refine lv_iload hx hb dX2_liftedTo_40 (lv_at hl 4 rfl) ?_
              obtain rfl := Option.some.inj hf
              obtain rfl := hret _ rfl
              exact hQ () 42 _ _ _ dX2_liftedTo_42 hP hD hS
  refine lv_iconst (v := (0 : Int32)) hx hb dX2_liftedTo_0 (by decide) ?_
  refine lv_istore_n (lv' := [(3, .int (0 : Int32)), (0, .ref (qL 0)), (1, .int a1), (2, .int a2)]) hx hb dX2_liftedTo_1 rfl hl (by decide) rfl (fun ls hl => ?_)
  refine lv_iconst (v := (0 : Int32)) hx hb dX2_liftedTo_2 (by decide) ?_
  refine lv_istore (lv' := [(4, .int (0 : Int32)), (3, .int (0 : Int32)), (0, .ref (qL 0)), (1, .int a1), (2, .int a2)]) hx hb dX2_liftedTo_3 hl (by decide) rfl (fun ls hl => ?_)
  obtain ⟨ex6, hcl, hf⟩ := ob_some hf
  refine hL5 F ((0 : Int32), (0 : Int32)) ex6 _ _ _ hcl (fun r hr0 => ?_) (fun er7 hr0 H locs ls hP hD hS hl => ?_) hP hD hS (lv_sub hl [2, 3, 4, 1, 0] rfl)
  · subst hr0; exact Option.some.inj (sm_inl hf)
  · subst hr0
    have hf := sm_inr hf
    refine lv_iload_n hx hb dX2_liftedTo_52 rfl (lv_at hl 0 rfl) ?_
    refine lv_iload_n hx hb dX2_liftedTo_53 rfl (lv_at hl 1 rfl) ?_
    obtain ⟨r8, hc9, hf⟩ := ob_some hf
    refine kc_i (k_runSN ⟨hx, hb, hml, hown, hts⟩ (c_X10_countOrNone hc9) ⟨va_cnB 2 hts ggX2_liftedTo_X10_countOrNone rfl rfl rfl hN.2.2.2.2.2.2.1 (hts (.initialized RX10) (by decide +kernel)) (by decide +kernel) ⟨Nat.le_of_ble_eq_true rfl, Nat.le_of_ble_eq_true rfl⟩, hts (.static yX10_countOrNone) (by decide +kernel), trivial⟩ hK hN hP hD kA_0 rfl hl.1 rfl (Nat.le_of_ble_eq_true rfl) dX2_liftedTo_54 ⟨Nat.le_of_ble_eq_true rfl, Nat.le_of_ble_eq_true rfl⟩) hP hD hS hA kI_0 (fun _ H locs hP hD hS => ?_)
    obtain rfl := Option.some.inj hf
    exact hQ () 57 _ _ _ dX2_liftedTo_57 hP hD hS
