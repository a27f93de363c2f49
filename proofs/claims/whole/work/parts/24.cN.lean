/-! the class: narrows -/
def f_X4_powerOf_B4 (F : Nat) (a0 : Int32) (a1 : Int32) (rec : Int32 × Int32 → Option (Int32)) (x : Int32 × Int32) : Option (Int32) := if a1 ≤ x.2 then (some x.1) else (rec ((x.1 * a0), (x.2 + (1 : Int32))))
def f_X4_powerOf (F : Nat) (a0 : Int32) (a1 : Int32) : Option (Int32) := (lp (f_X4_powerOf_B4 F a0 a1) F ((1 : Int32), (0 : Int32))).bind (fun ex2 => some ex2)
abbrev rmX4_powerOf : Room := { frames := 0, cells := 0, slots := 0, locals := 0 }
set_option maxHeartbeats 1000000 in
set_option maxRecDepth 100000 in
theorem c_X4_powerOf {l : Launch} {D : va_G} {cy : Nat → ClassId} {a0 : Int32} {a1 : Int32} {F : Nat} {res : Int32} (hf : f_X4_powerOf F a0 a1 = some res) : kM l yX4_powerOf wsX4_powerOf rmX4_powerOf D cy [.int a0, .int a1] ([]) (kQi D cy (fun _ : Unit => []) res) := by
  refine kent_i (cc := cX4_powerOf) (maxL := 4) (by decide) rfl (Nat.le_of_ble_eq_true rfl) ?_
  intro p e0 s m ar below meth c A Q ls ⟨hx, hb, hml, hr, hts, hown, hlocks, hnm⟩ hA hK hN hQ hP hD hS hl
  have hl : lv_has ls 4 [(0, .int a0), (1, .int a1)] := hl
  have hown : s.vm.findClass RX4 = some m.cls := hown
  unfold f_X4_powerOf at hf
  have hL4 : ∀ (k : Nat) (x : Int32 × Int32) (ex : Int32) (H : Heap) (locs : List Loc) (ls : Array Slot), lp (f_X4_powerOf_B4 F a0 a1) k x = some ex → (∀ (H : Heap) (locs : List Loc) (ls : Array Slot), va_P D vwCl ([]) H → va_D A ([]) → va_S A s.heap H locs → lv_has ls 4 [(2, .int ex)] → W p l e0 rmX4_powerOf s m ar below meth c H locs 0 0 Q (F0 m 19 ls [])) → va_P D vwCl ([]) H → va_D A ([]) → va_S A s.heap H locs → lv_has ls 4 [(0, .int a0), (1, .int a1), (2, .int x.1), (3, .int x.2)] → W p l e0 rmX4_powerOf s m ar below meth c H locs 0 0 Q (F0 m 4 ls []) := by
    intro k
    induction k with
    | zero => intro x ex H locs ls hf; exact no_some hf
    | succ k ih =>
      intro x ex H locs ls hf hex hP hD hS hl
      have hf : f_X4_powerOf_B4 F a0 a1 (lp (f_X4_powerOf_B4 F a0 a1) k) x = some ex := hf
      unfold f_X4_powerOf_B4 at hf
      refine lv_iload_n hx hb dX4_powerOf_4 rfl (lv_at hl 3 rfl) ?_
      refine lv_iload_n hx hb dX4_powerOf_5 rfl (lv_at hl 1 rfl) ?_
      refine lv_icmp_ge (tgt := 19) hx hb dX4_powerOf_6 (by decide) (fun c1 => ?_) (fun c1 => ?_)
      · have hf := if_t hf c1
        obtain rfl := Option.some.inj hf
        exact hex _ _ _ hP hD hS (lv_sub hl [2] rfl)
      · have hf := if_f hf c1
        refine lv_iload_n hx hb dX4_powerOf_9 rfl (lv_at hl 2 rfl) ?_
        refine lv_iload_n hx hb dX4_powerOf_10 rfl (lv_at hl 0 rfl) ?_
        refine lv_imul hx hb dX4_powerOf_11 ?_
        refine lv_istore_n (lv' := [(2, .int (x.1 * a0)), (0, .int a0), (1, .int a1), (3, .int x.2)]) hx hb dX4_powerOf_12 rfl hl (by decide) rfl (fun ls hl => ?_)
        refine lv_iinc (v := (x.2 + (1 : Int32))) (lv' := [(3, .int (x.2 + (1 : Int32))), (2, .int (x.1 * a0)), (0, .int a0), (1, .int a1)]) hx hb dX4_powerOf_13 hl (k := 3) rfl rfl (by decide) rfl (fun ls hl => ?_)
        refine lv_goto (tgt := 4) hx hb dX4_powerOf_16 (by decide) ?_
        exact ih ((x.1 * a0), (x.2 + (1 : Int32))) ex _ _ _ hf hex hP hD hS (lv_sub hl [2, 3, 1, 0] rfl)
  refine lv_iconst (v := (1 : Int32)) hx hb dX4_powerOf_0 (by decide) ?_
  refine lv_istore_n (lv' := [(2, .int (1 : Int32)), (0, .int a0), (1, .int a1)]) hx hb dX4_powerOf_1 rfl hl (by decide) rfl (fun ls hl => ?_)
  refine lv_iconst (v := (0 : Int32)) hx hb dX4_powerOf_2 (by decide) ?_
  refine lv_istore_n (lv' := [(3, .int (0 : Int32)), (2, .int (1 : Int32)), (0, .int a0), (1, .int a1)]) hx hb dX4_powerOf_3 rfl hl (by decide) rfl (fun ls hl => ?_)
  obtain ⟨ex2, hcl, hf⟩ := ob_some hf
  refine hL4 F ((1 : Int32), (0 : Int32)) ex2 _ _ _ hcl (fun H locs ls hP hD hS hl => ?_) hP hD hS (lv_sub hl [2, 3, 1, 0] rfl)
  refine lv_iload_n hx hb dX4_powerOf_19 rfl (lv_at hl 0 rfl) ?_
  obtain rfl := Option.some.inj hf
  exact hQ () 20 _ _ _ dX4_powerOf_20 hP hD hS
def f_X4_insert_B34 (F : Nat) (a1 : Int32) (n_n_found : Nat) (n_size : Int32) (rec : Int32 × (Nat → Int32) → Option (Int32 × (Nat → Int32))) (x : Int32 × (Nat → Int32)) : Option (Int32 × (Nat → Int32)) := if x.1 ≤ 0 then (some (x.1, x.2)) else (ck (¬ ((x.1 - (1 : Int32)) < 0 ∨ n_n_found ≤ (x.1 - (1 : Int32)).toNatClampNeg)) (if (x.2 (x.1 - (1 : Int32)).toNatClampNeg) ≤ a1 then (some (x.1, x.2)) else (ck (¬ ((x.1 - (1 : Int32)) < 0 ∨ n_n_found ≤ (x.1 - (1 : Int32)).toNatClampNeg)) (ck (¬ (x.1 < 0 ∨ n_n_found ≤ x.1.toNatClampNeg)) (rec ((x.1 + (-1 : Int32)), (upd x.2 x.1.toNatClampNeg (x.2 (x.1 - (1 : Int32)).toNatClampNeg))))))))
def f_X4_insert_J29 (F : Nat) (a1 : Int32) (pm : Nat) (n_n_found : Nat) (n_found : Nat → Int32) (n_size : Int32) : Option (Nat × (Nat → Int32) × Int32) := (lp (f_X4_insert_B34 F a1 n_n_found n_size) F (n_size, n_found)).bind (fun ex6 => ck (¬ (ex6.1 < 0 ∨ n_n_found ≤ ex6.1.toNatClampNeg)) (ck ((n_n_found) = pm) (some (n_n_found, (upd ex6.2 ex6.1.toNatClampNeg a1), (n_size + (1 : Int32))))))
def f_X4_insert (F : Nat) (pm : Nat) (a1 : Int32) (n_n_found : Nat) (n_found : Nat → Int32) (n_size : Int32) : Option (Nat × (Nat → Int32) × Int32) := ck ((n_n_found) ≤ pm) (if n_size = (Int32.ofNat n_n_found) then (ck (¬ ((2 : Int32) * n_size) < 0 ∧ 2 * n_n_found ≤ ((2 : Int32) * n_size).toNatClampNeg ∧ 1 ≤ n_n_found ∧ (n_n_found) - n_n_found + ((2 : Int32) * n_size).toNatClampNeg ≤ pm ∧ ((2 : Int32) * n_size).toNatClampNeg ≤ 100000) (f_X4_insert_J29 F a1 pm ((2 : Int32) * n_size).toNatClampNeg (va_cpy n_found (fun _ => 0) 0 0 n_n_found) n_size)) else (f_X4_insert_J29 F a1 pm n_n_found n_found n_size))
abbrev rmX4_insert (k : Nat) : Room := { frames := 2, cells := k, slots := 2 * k, locals := 100 }
set_option maxHeartbeats 1000000 in
set_option maxRecDepth 100000 in
theorem c_X4_insert {l : Launch} {D : va_G} {cy : Nat → ClassId} {qN : Nat → Nat} {uN : Nat → Nat} {n_powers : Nat → Int32} {n_taken : Nat → Int32} {n_left : Nat → Int32} {n_n_found : Nat} {n_found : Nat → Int32} {n_size : Int32} {n_base : Int32} {n_width : Int32} {n_exponent : Int32} {n_least : Int32} {n_most : Int32} {a1 : Int32} {F : Nat} {pm pot0 : Nat} {res : Nat × (Nat → Int32) × Int32} (hf : f_X4_insert F pm a1 n_n_found n_found n_size = some res) (hp0 : pot0 = (n_n_found)) : kM l yX4_insert wsX4_insert (rmX4_insert (pm - pot0)) D cy [.ref (qN 0), .int a1] (gN cy qN uN n_powers n_taken n_left n_n_found n_found n_size n_base n_width n_exponent n_least n_most) (kQv D cy (fun uN : Nat → Nat => gN cy qN uN n_powers n_taken n_left res.1 res.2.1 res.2.2 n_base n_width n_exponent n_least n_most)) := by
  refine kent_v (cc := cX4_insert) (maxL := 3) (by decide) rfl (Nat.le_of_ble_eq_true rfl) ?_
  intro p e0 s m ar below meth c A Q ls ⟨hx, hb, hml, hr, hts, hown, hlocks, hnm⟩ hA hK hN hQ hP hD hS hl
  have hl : lv_has ls 3 [(0, .ref (qN 0)), (1, .int a1)] := hl
  have hown : s.vm.findClass RX4 = some m.cls := hown
  have huX4 : ∀ x ∈ u_ws RX4 TX4 10, x ∈ wsX4_insert := by decide +kernel
  have fk21 : (Cond.fieldLink RX4 21 "FigurePlay$Narrows" "found" "[I").before ar s = true := hts _ (by decide +kernel)
  have fk24 : (Cond.fieldLink RX4 24 "FigurePlay$Narrows" "size" "I").before ar s = true := hts _ (by decide +kernel)
  unfold f_X4_insert at hf
  obtain ⟨cp0, hf⟩ := ck_some hf
  have hpt : pot0 ≤ (n_n_found) ∧ (n_n_found) ≤ pm := by omega
  refine W.widen (k := (n_n_found) - pot0) (n := 2 * ((n_n_found) - pot0)) (Nat.zero_le _) (Nat.zero_le _) ?_
  have hL34 : ∀ (n_n_found : Nat) (n_size : Int32) (k : Nat) (x : Int32 × (Nat → Int32)) (ex : Int32 × (Nat → Int32)) (uN : Nat → Nat) (H : Heap) (locs : List Loc) (ls : Array Slot), lp (f_X4_insert_B34 F a1 n_n_found n_size) k x = some ex → (∀ (uN : Nat → Nat) (H : Heap) (locs : List Loc) (ls : Array Slot), (pot0 ≤ (n_n_found) ∧ (n_n_found) ≤ pm) → va_P D vwCl (gN cy qN uN n_powers n_taken n_left n_n_found ex.2 n_size n_base n_width n_exponent n_least n_most) H → va_D A (gN cy qN uN n_powers n_taken n_left n_n_found ex.2 n_size n_base n_width n_exponent n_least n_most) → va_S A s.heap H locs → lv_has ls 3 [(0, .ref (qN 0)), (1, .int a1), (2, .int ex.1)] → W p l e0 (rmX4_insert (pm - pot0)) s m ar below meth c H locs ((n_n_found) - pot0) (2 * ((n_n_found) - pot0)) Q (F0 m 70 ls [])) → (pot0 ≤ (n_n_found) ∧ (n_n_found) ≤ pm) → va_P D vwCl (gN cy qN uN n_powers n_taken n_left n_n_found x.2 n_size n_base n_width n_exponent n_least n_most) H → va_D A (gN cy qN uN n_powers n_taken n_left n_n_found x.2 n_size n_base n_width n_exponent n_least n_most) → va_S A s.heap H locs → lv_has ls 3 [(0, .ref (qN 0)), (1, .int a1), (2, .int x.1)] → W p l e0 (rmX4_insert (pm - pot0)) s m ar below meth c H locs ((n_n_found) - pot0) (2 * ((n_n_found) - pot0)) Q (F0 m 34 ls []) := by
    intro n_n_found n_size k
    induction k with
    | zero => intro x ex uN H locs ls hf; exact no_some hf
    | succ k ih =>
      intro x ex uN H locs ls hf hex hpt hP hD hS hl
      have hf : f_X4_insert_B34 F a1 n_n_found n_size (lp (f_X4_insert_B34 F a1 n_n_found n_size) k) x = some ex := hf
      unfold f_X4_insert_B34 at hf
      refine lv_iload_n hx hb dX4_insert_34 rfl (lv_at hl 2 rfl) ?_
      refine lv_if_le (tgt := 70) hx hb dX4_insert_35 (by decide) (fun c1 => ?_) (fun c1 => ?_)
      · have hf := if_t hf c1
        obtain rfl := Option.some.inj hf
        exact hex _ _ _ _ hpt hP hD hS (lv_sub hl [0, 1, 2] rfl)
      · have hf := if_f hf c1
        refine lv_aload_n hx hb dX4_insert_38 rfl (lv_at hl 0 rfl) ?_
        refine va_get (v := .ref (uN 0)) (D := D) (ci := 4) (C := RX4) (T := TX4) (N := 10) hx hb hts huX4 hown hK hP 0 rfl rfl 3 (by decide) fk21 (fun _ h9 => h9) rfl dX4_insert_39 ?_
        refine lv_iload_n hx hb dX4_insert_42 rfl (lv_at hl 2 rfl) ?_
        refine lv_iconst (v := (1 : Int32)) hx hb dX4_insert_43 (by decide) ?_
        refine lv_isub hx hb dX4_insert_44 ?_
        obtain ⟨c2, hf⟩ := ck_some hf
        refine va_iald hx hb hK hP 4 0 rfl rfl c2 dX4_insert_45 ?_
        refine lv_iload_n hx hb dX4_insert_46 rfl (lv_at hl 1 rfl) ?_
        refine lv_icmp_le (tgt := 70) hx hb dX4_insert_47 (by decide) (fun c3 => ?_) (fun c3 => ?_)
        · have hf := if_t hf c3
          obtain rfl := Option.some.inj hf
          exact hex _ _ _ _ hpt hP hD hS (lv_sub hl [0, 1, 2] rfl)
        · have hf := if_f hf c3
          refine lv_aload_n hx hb dX4_insert_50 rfl (lv_at hl 0 rfl) ?_
          refine va_get (v := .ref (uN 0)) (D := D) (ci := 4) (C := RX4) (T := TX4) (N := 10) hx hb hts huX4 hown hK hP 0 rfl rfl 3 (by decide) fk21 (fun _ h9 => h9) rfl dX4_insert_51 ?_
          refine lv_iload_n hx hb dX4_insert_54 rfl (lv_at hl 2 rfl) ?_
          refine lv_aload_n hx hb dX4_insert_55 rfl (lv_at hl 0 rfl) ?_
          refine va_get (v := .ref (uN 0)) (D := D) (ci := 4) (C := RX4) (T := TX4) (N := 10) hx hb hts huX4 hown hK hP 0 rfl rfl 3 (by decide) fk21 (fun _ h9 => h9) rfl dX4_insert_56 ?_
          refine lv_iload_n hx hb dX4_insert_59 rfl (lv_at hl 2 rfl) ?_
          refine lv_iconst (v := (1 : Int32)) hx hb dX4_insert_60 (by decide) ?_
          refine lv_isub hx hb dX4_insert_61 ?_
          obtain ⟨c4, hf⟩ := ck_some hf
          refine va_iald hx hb hK hP 4 0 rfl rfl c4 dX4_insert_62 ?_
          obtain ⟨c5, hf⟩ := ck_some hf
          refine va_iast hx hb hK hP hD hS 4 0 rfl rfl c5 dX4_insert_63 (fun H locs hP hD hS => ?_)
          have hP : va_P D vwCl (gN cy qN uN n_powers n_taken n_left n_n_found (upd x.2 x.1.toNatClampNeg (x.2 (x.1 - (1 : Int32)).toNatClampNeg)) n_size n_base n_width n_exponent n_least n_most) H := hP
          have hD : va_D A (gN cy qN uN n_powers n_taken n_left n_n_found (upd x.2 x.1.toNatClampNeg (x.2 (x.1 - (1 : Int32)).toNatClampNeg)) n_size n_base n_width n_exponent n_least n_most) := hD
          refine lv_iinc (v := (x.1 + (-1 : Int32))) (lv' := [(2, .int (x.1 + (-1 : Int32))), (0, .ref (qN 0)), (1, .int a1)]) hx hb dX4_insert_64 hl (k := 2) rfl rfl (by decide) rfl (fun ls hl => ?_)
          refine lv_goto (tgt := 34) hx hb dX4_insert_67 (by decide) ?_
          exact ih ((x.1 + (-1 : Int32)), (upd x.2 x.1.toNatClampNeg (x.2 (x.1 - (1 : Int32)).toNatClampNeg))) ex _ _ _ _ hf hex hpt hP hD hS (lv_sub hl [1, 2, 0] rfl)
  have hJ29 : ∀ (n_n_found : Nat) (n_found : Nat → Int32) (n_size : Int32) (uN : Nat → Nat) (H : Heap) (locs : List Loc) (ls : Array Slot), f_X4_insert_J29 F a1 pm n_n_found n_found n_size = some res → (pot0 ≤ (n_n_found) ∧ (n_n_found) ≤ pm) → va_P D vwCl (gN cy qN uN n_powers n_taken n_left n_n_found n_found n_size n_base n_width n_exponent n_least n_most) H → va_D A (gN cy qN uN n_powers n_taken n_left n_n_found n_found n_size n_base n_width n_exponent n_least n_most) → va_S A s.heap H locs → lv_has ls 3 [(0, .ref (qN 0)), (1, .int a1)] → W p l e0 (rmX4_insert (pm - pot0)) s m ar below meth c H locs ((n_n_found) - pot0) (2 * ((n_n_found) - pot0)) Q (F0 m 29 ls []) := by
    intro n_n_found n_found n_size uN H locs ls hf hpt hP hD hS hl
    unfold f_X4_insert_J29 at hf
    refine lv_aload_n hx hb dX4_insert_29 rfl (lv_at hl 0 rfl) ?_
    refine va_get (D := D) (ci := 4) (C := RX4) (T := TX4) (N := 10) hx hb hts huX4 hown hK hP 0 rfl rfl 4 (by decide) fk24 (fun _ h9 => h9) rfl dX4_insert_30 ?_
    refine lv_istore_n (lv' := [(2, .int n_size), (0, .ref (qN 0)), (1, .int a1)]) hx hb dX4_insert_33 rfl hl (by decide) rfl (fun ls hl => ?_)
    obtain ⟨ex6, hcl, hf⟩ := ob_some hf
    refine hL34 n_n_found n_size F (n_size, n_found) ex6 _ _ _ _ hcl (fun uN H locs ls hpt hP hD hS hl => ?_) hpt hP hD hS (lv_sub hl [1, 2, 0] rfl)
    refine lv_aload_n hx hb dX4_insert_70 rfl (lv_at hl 0 rfl) ?_
    refine va_get (v := .ref (uN 0)) (D := D) (ci := 4) (C := RX4) (T := TX4) (N := 10) hx hb hts huX4 hown hK hP 0 rfl rfl 3 (by decide) fk21 (fun _ h9 => h9) rfl dX4_insert_71 ?_
    refine lv_iload_n hx hb dX4_insert_74 rfl (lv_at hl 2 rfl) ?_
    refine lv_iload_n hx hb dX4_insert_75 rfl (lv_at hl 1 rfl) ?_
    obtain ⟨c7, hf⟩ := ck_some hf
    refine va_iast hx hb hK hP hD hS 4 0 rfl rfl c7 dX4_insert_76 (fun H locs hP hD hS => ?_)
    have hP : va_P D vwCl (gN cy qN uN n_powers n_taken n_left n_n_found (upd ex6.2 ex6.1.toNatClampNeg a1) n_size n_base n_width n_exponent n_least n_most) H := hP
    have hD : va_D A (gN cy qN uN n_powers n_taken n_left n_n_found (upd ex6.2 ex6.1.toNatClampNeg a1) n_size n_base n_width n_exponent n_least n_most) := hD
    refine lv_aload_n hx hb dX4_insert_77 rfl (lv_at hl 0 rfl) ?_
    refine lv_dup hx hb dX4_insert_78 rfl ?_
    refine va_get (D := D) (ci := 4) (C := RX4) (T := TX4) (N := 10) hx hb hts huX4 hown hK hP 0 rfl rfl 4 (by decide) fk24 (fun _ h9 => h9) rfl dX4_insert_79 ?_
    refine lv_iconst (v := (1 : Int32)) hx hb dX4_insert_82 (by decide) ?_
    refine lv_iadd hx hb dX4_insert_83 ?_
    refine va_put (D := D) (ci := 4) (v := .int (n_size + (1 : Int32))) (ty := .int) (C := RX4) (T := TX4) (N := 10) hx hb hts huX4 tyX4 tyX4_ok nmX4 hown hK hP hD hS 0 rfl rfl 4 (by decide) fk24 (fun _ h9 => h9) rfl (tyX4_ok 4 (by decide)) rfl rfl (Nat.le_of_ble_eq_true rfl) dX4_insert_84 (fun H locs hP hD hS => ?_)
    have hP : va_P D vwCl (gN cy qN uN n_powers n_taken n_left n_n_found (upd ex6.2 ex6.1.toNatClampNeg a1) (n_size + (1 : Int32)) n_base n_width n_exponent n_least n_most) H := hP
    have hD : va_D A (gN cy qN uN n_powers n_taken n_left n_n_found (upd ex6.2 ex6.1.toNatClampNeg a1) (n_size + (1 : Int32)) n_base n_width n_exponent n_least n_most) := hD
    obtain ⟨cp, hf⟩ := ck_some hf
    refine W.widen (k := pm - pot0) (n := 2 * (pm - pot0)) (by omega) (by omega) ?_
    obtain rfl := Option.some.inj hf
    exact hQ uN 87 _ _ _ dX4_insert_87 hP hD hS
  refine lv_aload_n hx hb dX4_insert_0 rfl (lv_at hl 0 rfl) ?_
  refine va_get (D := D) (ci := 4) (C := RX4) (T := TX4) (N := 10) hx hb hts huX4 hown hK hP 0 rfl rfl 4 (by decide) fk24 (fun _ h9 => h9) rfl dX4_insert_1 ?_
  refine lv_aload_n hx hb dX4_insert_4 rfl (lv_at hl 0 rfl) ?_
  refine va_get (v := .ref (uN 0)) (D := D) (ci := 4) (C := RX4) (T := TX4) (N := 10) hx hb hts huX4 hown hK hP 0 rfl rfl 3 (by decide) fk21 (fun _ h9 => h9) rfl dX4_insert_5 ?_
  refine va_alen (v := (Int32.ofNat n_n_found)) hx hb hK hP 4 0 rfl rfl rfl dX4_insert_8 ?_
  refine lv_icmp_ne (tgt := 29) hx hb dX4_insert_9 (by decide) (fun c8 => ?_) (fun c8 => ?_)
  · have hf := if_f hf c8
    exact hJ29 n_n_found n_found n_size _ _ _ _ hf hpt hP hD hS (lv_sub hl [0, 1] rfl)
  · have hf := if_t hf c8
    refine lv_aload_n hx hb dX4_insert_12 rfl (lv_at hl 0 rfl) ?_
    refine lv_aload_n hx hb dX4_insert_13 rfl (lv_at hl 0 rfl) ?_
    refine va_get (v := .ref (uN 0)) (D := D) (ci := 4) (C := RX4) (T := TX4) (N := 10) hx hb hts huX4 hown hK hP 0 rfl rfl 3 (by decide) fk21 (fun _ h9 => h9) rfl dX4_insert_14 ?_
    refine lv_iconst (v := (2 : Int32)) hx hb dX4_insert_17 (by decide) ?_
    refine lv_aload_n hx hb dX4_insert_18 rfl (lv_at hl 0 rfl) ?_
    refine va_get (D := D) (ci := 4) (C := RX4) (T := TX4) (N := 10) hx hb hts huX4 hown hK hP 0 rfl rfl 4 (by decide) fk24 (fun _ h9 => h9) rfl dX4_insert_19 ?_
    refine lv_imul hx hb dX4_insert_22 ?_
    obtain ⟨⟨cg9a, cg9b, cg9c, cg9d, cg9e⟩, hf⟩ := ck_some hf
    have hI11 : kIn (gN cy qN uN n_powers n_taken n_left n_n_found n_found n_size n_base n_width n_exponent n_least n_most) [((uN 0), .inl (cy 0, n_n_found, .inl n_found))] (kpick (gN cy qN uN n_powers n_taken n_left n_n_found n_found n_size n_base n_width n_exponent n_least n_most) [0, 1, 2, 3]) (fun qn10 : Nat => [((uN 0), .inl (cy 0, n_n_found, .inl n_found)), (qn10, .inl (cy 0, ((2 : Int32) * n_size).toNatClampNeg, .inl (va_cpy n_found (fun _ => 0) 0 0 n_n_found)))]) (fun qn10 : Nat => (gN cy qN uN n_powers n_taken n_left n_n_found n_found n_size n_base n_width n_exponent n_least n_most) ++ [(qn10, .inl (cy 0, ((2 : Int32) * n_size).toNatClampNeg, .inl (va_cpy n_found (fun _ => 0) 0 0 n_n_found)))]) [4] [0, 1, 2, 3] [0, 1, 2, 3, 4, 5] := ⟨rfl, rfl, rfl, rfl, by decide, rfl, fun _ => rfl⟩
    refine kc_r (k_runS ⟨hx, hb, hml, hown, hts⟩ (c_copyI (n0 := n_n_found) cg9a rfl (by omega) cg9e) (va_cwS 2 hts gX4_insert_J7_copyOf_59c91 rfl rfl rfl (by decide +kernel) ⟨Nat.le_of_ble_eq_true rfl, Nat.le_of_ble_eq_true rfl⟩) hK hN hP hD ⟨hI11.1, hI11.2.2.1⟩ rfl hl.1 rfl (Nat.le_of_ble_eq_true rfl) dX4_insert_23 ⟨by show (n_n_found) - pot0 + 1 ≤ pm - pot0; omega, by show 2 * ((n_n_found) - pot0) + ((2 : Int32) * n_size).toNatClampNeg ≤ 2 * (pm - pot0); omega⟩) hP hD hS hA hI11 (fun qn10 H locs hP hD hS => ?_)
    refine va_put (D := D) (ci := 4) (v := .ref qn10) (ty := .array .int) (C := RX4) (T := TX4) (N := 10) hx hb hts huX4 tyX4 tyX4_ok nmX4 hown hK hP hD hS 0 rfl rfl 3 (by decide) fk21 (fun _ h9 => h9) rfl (tyX4_ok 3 (by decide)) rfl rfl (Nat.le_of_ble_eq_true rfl) dX4_insert_26 (fun H locs hP hD hS => ?_)
    have hP : va_P D vwCl (gN cy qN (va_up uN 0 qn10) n_powers n_taken n_left ((2 : Int32) * n_size).toNatClampNeg (va_cpy n_found (fun _ => 0) 0 0 n_n_found) n_size n_base n_width n_exponent n_least n_most) H := kP_sub hP [0, 1, 2, 3, 5] rfl
    have hD : va_D A (gN cy qN (va_up uN 0 qn10) n_powers n_taken n_left ((2 : Int32) * n_size).toNatClampNeg (va_cpy n_found (fun _ => 0) 0 0 n_n_found) n_size n_base n_width n_exponent n_least n_most) := hD.sub [0, 1, 2, 3, 5] rfl rfl
    have hpt : pot0 ≤ (((2 : Int32) * n_size).toNatClampNeg) ∧ (((2 : Int32) * n_size).toNatClampNeg) ≤ pm := by omega
    refine W.widen (k := (((2 : Int32) * n_size).toNatClampNeg) - pot0) (n := 2 * ((((2 : Int32) * n_size).toNatClampNeg) - pot0)) (by show (n_n_found) - pot0 + 1 ≤ (((2 : Int32) * n_size).toNatClampNeg) - pot0; omega) (by show 2 * ((n_n_found) - pot0) + ((2 : Int32) * n_size).toNatClampNeg ≤ 2 * ((((2 : Int32) * n_size).toNatClampNeg) - pot0); omega) ?_
    exact hJ29 ((2 : Int32) * n_size).toNatClampNeg (va_cpy n_found (fun _ => 0) 0 0 n_n_found) n_size _ _ _ _ hf hpt hP hD hS (lv_sub hl [0, 1] rfl)
def f_X4_look_B33 (F : Nat) (n_base : Int32) (n_width : Int32) (pm : Nat) (n_n_found : Nat) (n_found : Nat → Int32) (n_size : Int32) (rec : Int32 × Int32 × (Nat → Int32) → Option (((Nat → Int32) × Nat × (Nat → Int32) × Int32) ⊕ ((Nat → Int32)))) (x : Int32 × Int32 × (Nat → Int32)) : Option (((Nat → Int32) × Nat × (Nat → Int32) × Int32) ⊕ ((Nat → Int32))) := if n_width ≤ x.2.1 then (some (.inr x.2.2)) else (ck (¬ n_base = 0) (ck (¬ ((x.1 - x.1 / n_base * n_base) < 0 ∨ 16 ≤ (x.1 - x.1 / n_base * n_base).toNatClampNeg)) (if (x.2.2 (x.1 - x.1 / n_base * n_base).toNatClampNeg) = 0 then (ck ((n_n_found) = pm) (some (.inl (x.2.2, n_n_found, n_found, n_size)))) else (ck (¬ ((x.1 - x.1 / n_base * n_base) < 0 ∨ 16 ≤ (x.1 - x.1 / n_base * n_base).toNatClampNeg)) (ck (¬ ((x.1 - x.1 / n_base * n_base) < 0 ∨ 16 ≤ (x.1 - x.1 / n_base * n_base).toNatClampNeg)) (ck (¬ n_base = 0) (rec ((x.1 / n_base), (x.2.1 + (1 : Int32)), (upd x.2.2 (x.1 - x.1 / n_base * n_base).toNatClampNeg ((x.2.2 (x.1 - x.1 / n_base * n_base).toNatClampNeg) - (1 : Int32)))))))))))
def f_X4_look_B2 (F : Nat) (n_taken : Nat → Int32) (n_n_found : Nat) (n_found : Nat → Int32) (n_size : Int32) (rec : Int32 × (Nat → Int32) → Option ((Nat → Int32))) (x : Int32 × (Nat → Int32)) : Option ((Nat → Int32)) := if (16 : Int32) ≤ x.1 then (some x.2) else (ck (¬ (x.1 < 0 ∨ 16 ≤ x.1.toNatClampNeg)) (ck (¬ (x.1 < 0 ∨ 16 ≤ x.1.toNatClampNeg)) (rec ((x.1 + (1 : Int32)), (upd x.2 x.1.toNatClampNeg (n_taken x.1.toNatClampNeg))))))
def f_X4_look (F : Nat) (pm : Nat) (a1 : Int32) (n_taken : Nat → Int32) (n_left : Nat → Int32) (n_n_found : Nat) (n_found : Nat → Int32) (n_size : Int32) (n_base : Int32) (n_width : Int32) : Option ((Nat → Int32) × Nat × (Nat → Int32) × Int32) := ck ((n_n_found) ≤ pm) ((lp (f_X4_look_B2 F n_taken n_n_found n_found n_size) F ((0 : Int32), n_left)).bind (fun ex11 => (lp (f_X4_look_B33 F n_base n_width pm n_n_found n_found n_size) F (a1, (0 : Int32), ex11)).bind (fun ex12 => Sum.elim (fun r => some r) (fun er13 => ck ((n_n_found) ≤ pm ∧ pm ≤ pm) ((f_X4_insert F pm a1 n_n_found n_found n_size).bind (fun r15 => ck ((r15.1) = pm) (ck ((r15.1) = pm) (some (er13, r15.1, r15.2.1, r15.2.2)))))) ex12)))
abbrev rmX4_look (k : Nat) : Room := { frames := 3, cells := k, slots := 2 * k, locals := 122 }
set_option maxHeartbeats 1000000 in
set_option maxRecDepth 100000 in
theorem c_X4_look {l : Launch} {D : va_G} {cy : Nat → ClassId} {qN : Nat → Nat} {uN : Nat → Nat} {n_powers : Nat → Int32} {n_taken : Nat → Int32} {n_left : Nat → Int32} {n_n_found : Nat} {n_found : Nat → Int32} {n_size : Int32} {n_base : Int32} {n_width : Int32} {n_exponent : Int32} {n_least : Int32} {n_most : Int32} {a1 : Int32} {F : Nat} {pm pot0 : Nat} {res : (Nat → Int32) × Nat × (Nat → Int32) × Int32} (hf : f_X4_look F pm a1 n_taken n_left n_n_found n_found n_size n_base n_width = some res) (hp0 : pot0 = (n_n_found)) : kM l yX4_look wsX4_look (rmX4_look (pm - pot0)) D cy [.ref (qN 0), .int a1] (gN cy qN uN n_powers n_taken n_left n_n_found n_found n_size n_base n_width n_exponent n_least n_most) (kQv D cy (fun uN : Nat → Nat => gN cy qN uN n_powers n_taken res.1 res.2.1 res.2.2.1 res.2.2.2 n_base n_width n_exponent n_least n_most)) := by
  refine kent_v (cc := cX4_look) (maxL := 5) (by decide) rfl (Nat.le_of_ble_eq_true rfl) ?_
  intro p e0 s m ar below meth c A Q ls ⟨hx, hb, hml, hr, hts, hown, hlocks, hnm⟩ hA hK hN hQ hP hD hS hl
  have hl : lv_has ls 5 [(0, .ref (qN 0)), (1, .int a1)] := hl
  have hown : s.vm.findClass RX4 = some m.cls := hown
  have huX4 : ∀ x ∈ u_ws RX4 TX4 10, x ∈ wsX4_look := by decide +kernel
  have fk31 : (Cond.fieldLink RX4 31 "FigurePlay$Narrows" "width" "I").before ar s = true := hts _ (by decide +kernel)
  have fk28 : (Cond.fieldLink RX4 28 "FigurePlay$Narrows" "base" "I").before ar s = true := hts _ (by decide +kernel)
  have fk18 : (Cond.fieldLink RX4 18 "FigurePlay$Narrows" "left" "[I").before ar s = true := hts _ (by decide +kernel)
  have fk15 : (Cond.fieldLink RX4 15 "FigurePlay$Narrows" "taken" "[I").before ar s = true := hts _ (by decide +kernel)
  unfold f_X4_look at hf
  obtain ⟨cp0, hf⟩ := ck_some hf
  have hpt : pot0 ≤ (n_n_found) ∧ (n_n_found) ≤ pm := by omega
  refine W.widen (k := (n_n_found) - pot0) (n := 2 * ((n_n_found) - pot0)) (Nat.zero_le _) (Nat.zero_le _) ?_
  have hL33 : ∀ (n_n_found : Nat) (n_found : Nat → Int32) (n_size : Int32) (k : Nat) (x : Int32 × Int32 × (Nat → Int32)) (ex : ((Nat → Int32) × Nat × (Nat → Int32) × Int32) ⊕ ((Nat → Int32))) (uN : Nat → Nat) (H : Heap) (locs : List Loc) (ls : Array Slot), lp (f_X4_look_B33 F n_base n_width pm n_n_found n_found n_size) k x = some ex → (∀ r, ex = .inl r → r = res) → (∀ er, ex = .inr er → ∀ (uN : Nat → Nat) (H : Heap) (locs : List Loc) (ls : Array Slot), (pot0 ≤ (n_n_found) ∧ (n_n_found) ≤ pm) → va_P D vwCl (gN cy qN uN n_powers n_taken er n_n_found n_found n_size n_base n_width n_exponent n_least n_most) H → va_D A (gN cy qN uN n_powers n_taken er n_n_found n_found n_size n_base n_width n_exponent n_least n_most) → va_S A s.heap H locs → lv_has ls 5 [(0, .ref (qN 0)), (1, .int a1)] → W p l e0 (rmX4_look (pm - pot0)) s m ar below meth c H locs ((n_n_found) - pot0) (2 * ((n_n_found) - pot0)) Q (F0 m 84 ls [])) → (pot0 ≤ (n_n_found) ∧ (n_n_found) ≤ pm) → va_P D vwCl (gN cy qN uN n_powers n_taken x.2.2 n_n_found n_found n_size n_base n_width n_exponent n_least n_most) H → va_D A (gN cy qN uN n_powers n_taken x.2.2 n_n_found n_found n_size n_base n_width n_exponent n_least n_most) → va_S A s.heap H locs → lv_has ls 5 [(0, .ref (qN 0)), (1, .int a1), (2, .int x.1), (3, .int x.2.1)] → W p l e0 (rmX4_look (pm - pot0)) s m ar below meth c H locs ((n_n_found) - pot0) (2 * ((n_n_found) - pot0)) Q (F0 m 33 ls []) := by
    intro n_n_found n_found n_size k
    induction k with
    | zero => intro x ex uN H locs ls hf; exact no_some hf
    | succ k ih =>
      intro x ex uN H locs ls hf hret hex hpt hP hD hS hl
      have hf : f_X4_look_B33 F n_base n_width pm n_n_found n_found n_size (lp (f_X4_look_B33 F n_base n_width pm n_n_found n_found n_size) k) x = some ex := hf
      unfold f_X4_look_B33 at hf
      refine lv_iload_n hx hb dX4_look_33 rfl (lv_at hl 3 rfl) ?_
      refine lv_aload_n hx hb dX4_look_34 rfl (lv_at hl 0 rfl) ?_
      refine va_get (D := D) (ci := 4) (C := RX4) (T := TX4) (N := 10) hx hb hts huX4 hown hK hP 0 rfl rfl 6 (by decide) fk31 (fun _ h9 => h9) rfl dX4_look_35 ?_
      refine lv_icmp_ge (tgt := 84) hx hb dX4_look_38 (by decide) (fun c1 => ?_) (fun c1 => ?_)
      · have hf := if_t hf c1
        obtain rfl := Option.some.inj hf
        exact hex _ rfl _ _ _ _ hpt hP hD hS (lv_sub hl [0, 1] rfl)
      · have hf := if_f hf c1
        refine lv_iload_n hx hb dX4_look_41 rfl (lv_at hl 2 rfl) ?_
        refine lv_aload_n hx hb dX4_look_42 rfl (lv_at hl 0 rfl) ?_
        refine va_get (D := D) (ci := 4) (C := RX4) (T := TX4) (N := 10) hx hb hts huX4 hown hK hP 0 rfl rfl 5 (by decide) fk28 (fun _ h9 => h9) rfl dX4_look_43 ?_
        obtain ⟨c2, hf⟩ := ck_some hf
        refine lv_irem hx hb dX4_look_46 c2 ?_
        refine lv_istore (lv' := [(4, .int (x.1 - x.1 / n_base * n_base)), (0, .ref (qN 0)), (1, .int a1), (2, .int x.1), (3, .int x.2.1)]) hx hb dX4_look_47 hl (by decide) rfl (fun ls hl => ?_)
        refine lv_aload_n hx hb dX4_look_49 rfl (lv_at hl 1 rfl) ?_
        refine va_get (v := .ref (qN 3)) (D := D) (ci := 4) (C := RX4) (T := TX4) (N := 10) hx hb hts huX4 hown hK hP 0 rfl rfl 2 (by decide) fk18 (fun _ h9 => h9) rfl dX4_look_50 ?_
        refine lv_iload hx hb dX4_look_53 (lv_at hl 0 rfl) ?_
        obtain ⟨c3, hf⟩ := ck_some hf
        refine va_iald hx hb hK hP 3 0 rfl rfl c3 dX4_look_55 ?_
        refine lv_if_ne (tgt := 60) hx hb dX4_look_56 (by decide) (fun c4 => ?_) (fun c4 => ?_)
        · have hf := if_f hf c4
          refine lv_aload_n hx hb dX4_look_60 rfl (lv_at hl 1 rfl) ?_
          refine va_get (v := .ref (qN 3)) (D := D) (ci := 4) (C := RX4) (T := TX4) (N := 10) hx hb hts huX4 hown hK hP 0 rfl rfl 2 (by decide) fk18 (fun _ h9 => h9) rfl dX4_look_61 ?_
          refine lv_iload hx hb dX4_look_64 (lv_at hl 0 rfl) ?_
          refine lv_dup2_11 hx hb dX4_look_66 rfl rfl ?_
          obtain ⟨c5, hf⟩ := ck_some hf
          refine va_iald hx hb hK hP 3 0 rfl rfl c5 dX4_look_67 ?_
          refine lv_iconst (v := (1 : Int32)) hx hb dX4_look_68 (by decide) ?_
          refine lv_isub hx hb dX4_look_69 ?_
          obtain ⟨c6, hf⟩ := ck_some hf
          refine va_iast hx hb hK hP hD hS 3 0 rfl rfl c6 dX4_look_70 (fun H locs hP hD hS => ?_)
          have hP : va_P D vwCl (gN cy qN uN n_powers n_taken (upd x.2.2 (x.1 - x.1 / n_base * n_base).toNatClampNeg ((x.2.2 (x.1 - x.1 / n_base * n_base).toNatClampNeg) - (1 : Int32))) n_n_found n_found n_size n_base n_width n_exponent n_least n_most) H := hP
          have hD : va_D A (gN cy qN uN n_powers n_taken (upd x.2.2 (x.1 - x.1 / n_base * n_base).toNatClampNeg ((x.2.2 (x.1 - x.1 / n_base * n_base).toNatClampNeg) - (1 : Int32))) n_n_found n_found n_size n_base n_width n_exponent n_least n_most) := hD
          refine lv_iload_n hx hb dX4_look_71 rfl (lv_at hl 3 rfl) ?_
          refine lv_aload_n hx hb dX4_look_72 rfl (lv_at hl 1 rfl) ?_
          refine va_get (D := D) (ci := 4) (C := RX4) (T := TX4) (N := 10) hx hb hts huX4 hown hK hP 0 rfl rfl 5 (by decide) fk28 (fun _ h9 => h9) rfl dX4_look_73 ?_
          obtain ⟨c7, hf⟩ := ck_some hf
          refine lv_idiv hx hb dX4_look_76 c7 ?_
          refine lv_istore_n (lv' := [(2, .int (x.1 / n_base)), (4, .int (x.1 - x.1 / n_base * n_base)), (0, .ref (qN 0)), (1, .int a1), (3, .int x.2.1)]) hx hb dX4_look_77 rfl hl (by decide) rfl (fun ls hl => ?_)
          refine lv_iinc (v := (x.2.1 + (1 : Int32))) (lv' := [(3, .int (x.2.1 + (1 : Int32))), (2, .int (x.1 / n_base)), (4, .int (x.1 - x.1 / n_base * n_base)), (0, .ref (qN 0)), (1, .int a1)]) hx hb dX4_look_78 hl (k := 4) rfl rfl (by decide) rfl (fun ls hl => ?_)
          refine lv_goto (tgt := 33) hx hb dX4_look_81 (by decide) ?_
          exact ih ((x.1 / n_base), (x.2.1 + (1 : Int32)), (upd x.2.2 (x.1 - x.1 / n_base * n_base).toNatClampNeg ((x.2.2 (x.1 - x.1 / n_base * n_base).toNatClampNeg) - (1 : Int32)))) ex _ _ _ _ hf hret hex hpt hP hD hS (lv_sub hl [3, 4, 1, 0] rfl)
        · have hf := if_t hf c4
          obtain ⟨cp, hf⟩ := ck_some hf
          refine W.widen (k := pm - pot0) (n := 2 * (pm - pot0)) (by omega) (by omega) ?_
          obtain rfl := Option.some.inj hf
          obtain rfl := hret _ rfl
          exact hQ uN 59 _ _ _ dX4_look_59 hP hD hS
  have hL2 : ∀ (n_n_found : Nat) (n_found : Nat → Int32) (n_size : Int32) (k : Nat) (x : Int32 × (Nat → Int32)) (ex : (Nat → Int32)) (uN : Nat → Nat) (H : Heap) (locs : List Loc) (ls : Array Slot), lp (f_X4_look_B2 F n_taken n_n_found n_found n_size) k x = some ex → (∀ (uN : Nat → Nat) (H : Heap) (locs : List Loc) (ls : Array Slot), (pot0 ≤ (n_n_found) ∧ (n_n_found) ≤ pm) → va_P D vwCl (gN cy qN uN n_powers n_taken ex n_n_found n_found n_size n_base n_width n_exponent n_least n_most) H → va_D A (gN cy qN uN n_powers n_taken ex n_n_found n_found n_size n_base n_width n_exponent n_least n_most) → va_S A s.heap H locs → lv_has ls 5 [(0, .ref (qN 0)), (1, .int a1)] → W p l e0 (rmX4_look (pm - pot0)) s m ar below meth c H locs ((n_n_found) - pot0) (2 * ((n_n_found) - pot0)) Q (F0 m 29 ls [])) → (pot0 ≤ (n_n_found) ∧ (n_n_found) ≤ pm) → va_P D vwCl (gN cy qN uN n_powers n_taken x.2 n_n_found n_found n_size n_base n_width n_exponent n_least n_most) H → va_D A (gN cy qN uN n_powers n_taken x.2 n_n_found n_found n_size n_base n_width n_exponent n_least n_most) → va_S A s.heap H locs → lv_has ls 5 [(0, .ref (qN 0)), (1, .int a1), (2, .int x.1)] → W p l e0 (rmX4_look (pm - pot0)) s m ar below meth c H locs ((n_n_found) - pot0) (2 * ((n_n_found) - pot0)) Q (F0 m 2 ls []) := by
    intro n_n_found n_found n_size k
    induction k with
    | zero => intro x ex uN H locs ls hf; exact no_some hf
    | succ k ih =>
      intro x ex uN H locs ls hf hex hpt hP hD hS hl
      have hf : f_X4_look_B2 F n_taken n_n_found n_found n_size (lp (f_X4_look_B2 F n_taken n_n_found n_found n_size) k) x = some ex := hf
      unfold f_X4_look_B2 at hf
      refine lv_iload_n hx hb dX4_look_2 rfl (lv_at hl 2 rfl) ?_
      refine lv_aload_n hx hb dX4_look_3 rfl (lv_at hl 0 rfl) ?_
      refine va_get (v := .ref (qN 3)) (D := D) (ci := 4) (C := RX4) (T := TX4) (N := 10) hx hb hts huX4 hown hK hP 0 rfl rfl 2 (by decide) fk18 (fun _ h9 => h9) rfl dX4_look_4 ?_
      refine va_alen (v := (16 : Int32)) hx hb hK hP 3 0 rfl rfl rfl dX4_look_7 ?_
      refine lv_icmp_ge (tgt := 29) hx hb dX4_look_8 (by decide) (fun c8 => ?_) (fun c8 => ?_)
      · have hf := if_t hf c8
        obtain rfl := Option.some.inj hf
        exact hex _ _ _ _ hpt hP hD hS (lv_sub hl [0, 1] rfl)
      · have hf := if_f hf c8
        refine lv_aload_n hx hb dX4_look_11 rfl (lv_at hl 0 rfl) ?_
        refine va_get (v := .ref (qN 3)) (D := D) (ci := 4) (C := RX4) (T := TX4) (N := 10) hx hb hts huX4 hown hK hP 0 rfl rfl 2 (by decide) fk18 (fun _ h9 => h9) rfl dX4_look_12 ?_
        refine lv_iload_n hx hb dX4_look_15 rfl (lv_at hl 2 rfl) ?_
        refine lv_aload_n hx hb dX4_look_16 rfl (lv_at hl 0 rfl) ?_
        refine va_get (v := .ref (qN 2)) (D := D) (ci := 4) (C := RX4) (T := TX4) (N := 10) hx hb hts huX4 hown hK hP 0 rfl rfl 1 (by decide) fk15 (fun _ h9 => h9) rfl dX4_look_17 ?_
        refine lv_iload_n hx hb dX4_look_20 rfl (lv_at hl 2 rfl) ?_
        obtain ⟨c9, hf⟩ := ck_some hf
        refine va_iald hx hb hK hP 2 0 rfl rfl c9 dX4_look_21 ?_
        obtain ⟨c10, hf⟩ := ck_some hf
        refine va_iast hx hb hK hP hD hS 3 0 rfl rfl c10 dX4_look_22 (fun H locs hP hD hS => ?_)
        have hP : va_P D vwCl (gN cy qN uN n_powers n_taken (upd x.2 x.1.toNatClampNeg (n_taken x.1.toNatClampNeg)) n_n_found n_found n_size n_base n_width n_exponent n_least n_most) H := hP
        have hD : va_D A (gN cy qN uN n_powers n_taken (upd x.2 x.1.toNatClampNeg (n_taken x.1.toNatClampNeg)) n_n_found n_found n_size n_base n_width n_exponent n_least n_most) := hD
        refine lv_iinc (v := (x.1 + (1 : Int32))) (lv' := [(2, .int (x.1 + (1 : Int32))), (0, .ref (qN 0)), (1, .int a1)]) hx hb dX4_look_23 hl (k := 2) rfl rfl (by decide) rfl (fun ls hl => ?_)
        refine lv_goto (tgt := 2) hx hb dX4_look_26 (by decide) ?_
        exact ih ((x.1 + (1 : Int32)), (upd x.2 x.1.toNatClampNeg (n_taken x.1.toNatClampNeg))) ex _ _ _ _ hf hex hpt hP hD hS (lv_sub hl [1, 2, 0] rfl)
  refine lv_iconst (v := (0 : Int32)) hx hb dX4_look_0 (by decide) ?_
  refine lv_istore_n (lv' := [(2, .int (0 : Int32)), (0, .ref (qN 0)), (1, .int a1)]) hx hb dX4_look_1 rfl hl (by decide) rfl (fun ls hl => ?_)
  obtain ⟨ex11, hcl, hf⟩ := ob_some hf
  refine hL2 n_n_found n_found n_size F ((0 : Int32), n_left) ex11 _ _ _ _ hcl (fun uN H locs ls hpt hP hD hS hl => ?_) hpt hP hD hS (lv_sub hl [1, 2, 0] rfl)
  refine lv_iload_n hx hb dX4_look_29 rfl (lv_at hl 1 rfl) ?_
  refine lv_istore_n (lv' := [(2, .int a1), (0, .ref (qN 0)), (1, .int a1)]) hx hb dX4_look_30 rfl hl (by decide) rfl (fun ls hl => ?_)
  refine lv_iconst (v := (0 : Int32)) hx hb dX4_look_31 (by decide) ?_
  refine lv_istore_n (lv' := [(3, .int (0 : Int32)), (2, .int a1), (0, .ref (qN 0)), (1, .int a1)]) hx hb dX4_look_32 rfl hl (by decide) rfl (fun ls hl => ?_)
  obtain ⟨ex12, hcl, hf⟩ := ob_some hf
  refine hL33 n_n_found n_found n_size F (a1, (0 : Int32), ex11) ex12 _ _ _ _ hcl (fun r hr0 => ?_) (fun er13 hr0 uN H locs ls hpt hP hD hS hl => ?_) hpt hP hD hS (lv_sub hl [2, 3, 1, 0] rfl)
  · subst hr0; exact Option.some.inj (sm_inl hf)
  · subst hr0
    have hf := sm_inr hf
    refine lv_aload_n hx hb dX4_look_84 rfl (lv_at hl 0 rfl) ?_
    refine lv_iload_n hx hb dX4_look_85 rfl (lv_at hl 1 rfl) ?_
    obtain ⟨cg14, hf⟩ := ck_some hf
    obtain ⟨r15, hc16, hf⟩ := ob_some hf
    refine kc_v (k_run ⟨hx, hb, hml, hown, hts⟩ (c_X4_insert hc16 rfl) (cwV 1 hts gX4_look_X4_insert rfl rfl rfl (by decide +kernel) ⟨Nat.le_of_ble_eq_true rfl, Nat.le_of_ble_eq_true rfl⟩) hK hN hP hD kA_s (ci := 4) (q0 := 0) rfl rfl rfl rfl hl.1 rfl (Nat.le_of_ble_eq_true rfl) dX4_look_86 ⟨by show (n_n_found) - pot0 + (pm - (n_n_found)) ≤ pm - pot0; omega, by show 2 * ((n_n_found) - pot0) + 2 * (pm - (n_n_found)) ≤ 2 * (pm - pot0); omega⟩) hP hD hS hA (kI_g 5 (fun _ => rfl)) (fun uN H locs hP hD hS => ?_)
    obtain ⟨cq17, hf⟩ := ck_some hf
    have hpt : pot0 ≤ (r15.1) ∧ (r15.1) ≤ pm := by omega
    refine W.widen (k := (r15.1) - pot0) (n := 2 * ((r15.1) - pot0)) (by show (n_n_found) - pot0 + (pm - (n_n_found)) ≤ (r15.1) - pot0; omega) (by show 2 * ((n_n_found) - pot0) + 2 * (pm - (n_n_found)) ≤ 2 * ((r15.1) - pot0); omega) ?_
    obtain ⟨cp, hf⟩ := ck_some hf
    refine W.widen (k := pm - pot0) (n := 2 * (pm - pot0)) (by omega) (by omega) ?_
    obtain rfl := Option.some.inj hf
    exact hQ uN 89 _ _ _ dX4_look_89 hP hD hS
def f_X4_take_J92 (F : Nat) (rec : (Int32 × (Nat → Int32) × (Nat → Int32) × Nat × (Nat → Int32) × Int32 × List Nat) → Option (((Nat → Int32) × (Nat → Int32) × Nat × (Nat → Int32) × Int32 × List Nat) ⊕ ((Nat → Int32) × (Nat → Int32) × Nat × (Nat → Int32) × Int32 × List Nat))) (x4 : Int32) (n_taken : Nat → Int32) (n_left : Nat → Int32) (n_n_found : Nat) (n_found : Nat → Int32) (n_size : Int32) (pl : List Nat) : Option (((Nat → Int32) × (Nat → Int32) × Nat × (Nat → Int32) × Int32 × List Nat) ⊕ ((Nat → Int32) × (Nat → Int32) × Nat × (Nat → Int32) × Int32 × List Nat)) := rec ((x4 + (-1 : Int32)), n_taken, n_left, n_n_found, n_found, n_size, pl)
def f_X4_take_B18 (F : Nat) (a1 : Int32) (a3 : Int32) (n_powers : Nat → Int32) (n_base : Int32) (n_width : Int32) (n_least : Int32) (n_most : Int32) (pm : Nat) (self : Nat → List Nat → Int32 → Int32 → Int32 → (Nat → Int32) → (Nat → Int32) → (Nat → Int32) → Nat → (Nat → Int32) → Int32 → Int32 → Int32 → Int32 → Int32 → Option ((Nat → Int32) × (Nat → Int32) × Nat × (Nat → Int32) × Int32 × List Nat)) (rec : Int32 × (Nat → Int32) × (Nat → Int32) × Nat × (Nat → Int32) × Int32 × List Nat → Option (((Nat → Int32) × (Nat → Int32) × Nat × (Nat → Int32) × Int32 × List Nat) ⊕ ((Nat → Int32) × (Nat → Int32) × Nat × (Nat → Int32) × Int32 × List Nat))) (x : Int32 × (Nat → Int32) × (Nat → Int32) × Nat × (Nat → Int32) × Int32 × List Nat) : Option (((Nat → Int32) × (Nat → Int32) × Nat × (Nat → Int32) × Int32 × List Nat) ⊕ ((Nat → Int32) × (Nat → Int32) × Nat × (Nat → Int32) × Int32 × List Nat)) := if x.1 < 0 then (some (.inr (x.2.1, x.2.2.1, x.2.2.2.1, x.2.2.2.2.1, x.2.2.2.2.2.1, x.2.2.2.2.2.2))) else (ck (¬ (x.1 < 0 ∨ 16 ≤ x.1.toNatClampNeg)) (if n_least ≤ (a3 + (a1 * (n_powers x.1.toNatClampNeg))) then (if n_most < (a3 + (n_powers x.1.toNatClampNeg)) then (f_X4_take_J92 F rec x.1 x.2.1 x.2.2.1 x.2.2.2.1 x.2.2.2.2.1 x.2.2.2.2.2.1 x.2.2.2.2.2.2) else (ck (¬ (x.1 < 0 ∨ 16 ≤ x.1.toNatClampNeg)) (ck (¬ (x.1 < 0 ∨ 16 ≤ x.1.toNatClampNeg)) ((x.2.2.2.2.2.2.head?).bind (fun pv7 => ck ((x.2.2.2.1) ≤ pv7 ∧ pv7 ≤ pm) ((self pv7 x.2.2.2.2.2.2.tail (a1 - (1 : Int32)) x.1 (a3 + (n_powers x.1.toNatClampNeg)) n_powers (upd x.2.1 x.1.toNatClampNeg ((x.2.1 x.1.toNatClampNeg) + (1 : Int32))) x.2.2.1 x.2.2.2.1 x.2.2.2.2.1 x.2.2.2.2.2.1 n_base n_width n_least n_most).bind (fun r9 => ck ((r9.2.2.1) = pv7) (ck (¬ (x.1 < 0 ∨ 16 ≤ x.1.toNatClampNeg)) (ck (¬ (x.1 < 0 ∨ 16 ≤ x.1.toNatClampNeg)) (f_X4_take_J92 F rec x.1 (upd r9.1 x.1.toNatClampNeg ((r9.1 x.1.toNatClampNeg) - (1 : Int32))) r9.2.1 r9.2.2.1 r9.2.2.2.1 r9.2.2.2.2.1 r9.2.2.2.2.2)))))))))) else (ck ((x.2.2.2.1) = pm) (some (.inl (x.2.1, x.2.2.1, x.2.2.2.1, x.2.2.2.2.1, x.2.2.2.2.2.1, x.2.2.2.2.2.2))))))
def f_X4_take_body (F : Nat) (self : Nat → List Nat → Int32 → Int32 → Int32 → (Nat → Int32) → (Nat → Int32) → (Nat → Int32) → Nat → (Nat → Int32) → Int32 → Int32 → Int32 → Int32 → Int32 → Option ((Nat → Int32) × (Nat → Int32) × Nat × (Nat → Int32) × Int32 × List Nat)) (pm : Nat) (pl : List Nat) (a1 : Int32) (a2 : Int32) (a3 : Int32) (n_powers : Nat → Int32) (n_taken : Nat → Int32) (n_left : Nat → Int32) (n_n_found : Nat) (n_found : Nat → Int32) (n_size : Int32) (n_base : Int32) (n_width : Int32) (n_least : Int32) (n_most : Int32) : Option ((Nat → Int32) × (Nat → Int32) × Nat × (Nat → Int32) × Int32 × List Nat) := ck ((n_n_found) ≤ pm) (if 0 < a1 then ((lp (f_X4_take_B18 F a1 a3 n_powers n_base n_width n_least n_most pm self) F ((if (15 : Int32) < a2 then (15 : Int32) else a2), n_taken, n_left, n_n_found, n_found, n_size, pl)).bind (fun ex15 => Sum.elim (fun r => some r) (fun er16 => ck ((er16.2.2.1) = pm) (some (er16.1, er16.2.1, er16.2.2.1, er16.2.2.2.1, er16.2.2.2.2.1, er16.2.2.2.2.2))) ex15)) else (ck ((n_n_found) ≤ pm ∧ pm ≤ pm) ((f_X4_look F pm a3 n_taken n_left n_n_found n_found n_size n_base n_width).bind (fun r18 => ck ((r18.2.1) = pm) (ck ((r18.2.1) = pm) (some (n_taken, r18.1, r18.2.1, r18.2.2.1, r18.2.2.2, pl)))))))
def f_X4_take (F : Nat) : Nat → Nat → List Nat → Int32 → Int32 → Int32 → (Nat → Int32) → (Nat → Int32) → (Nat → Int32) → Nat → (Nat → Int32) → Int32 → Int32 → Int32 → Int32 → Int32 → Option ((Nat → Int32) × (Nat → Int32) × Nat × (Nat → Int32) × Int32 × List Nat)
  | 0 => fun _ _ _ _ _ _ _ _ _ _ _ _ _ _ _ => none
  | dd + 1 => f_X4_take_body F (f_X4_take F dd)
abbrev rmX4_take (dd k : Nat) : Room := { frames := 4 + dd, cells := k, slots := 2 * k, locals := 146 + 25 * dd }
set_option maxHeartbeats 1000000 in
set_option maxRecDepth 100000 in
theorem c_X4_take {l : Launch} {D : va_G} {cy : Nat → ClassId} {F : Nat} : ∀ (dd : Nat) {qN : Nat → Nat} {uN : Nat → Nat} {n_powers : Nat → Int32} {n_taken : Nat → Int32} {n_left : Nat → Int32} {n_n_found : Nat} {n_found : Nat → Int32} {n_size : Int32} {n_base : Int32} {n_width : Int32} {n_exponent : Int32} {n_least : Int32} {n_most : Int32} {a1 : Int32} {a2 : Int32} {a3 : Int32} {pm pot0 : Nat} {pl : List Nat} {res : (Nat → Int32) × (Nat → Int32) × Nat × (Nat → Int32) × Int32 × List Nat}, f_X4_take F dd pm pl a1 a2 a3 n_powers n_taken n_left n_n_found n_found n_size n_base n_width n_least n_most = some res → pot0 = (n_n_found) → kM l yX4_take wsX4_take (rmX4_take dd (pm - pot0)) D cy [.ref (qN 0), .int a1, .int a2, .int a3] (gN cy qN uN n_powers n_taken n_left n_n_found n_found n_size n_base n_width n_exponent n_least n_most) (kQv D cy (fun uN : Nat → Nat => gN cy qN uN n_powers res.1 res.2.1 res.2.2.1 res.2.2.2.1 res.2.2.2.2.1 n_base n_width n_exponent n_least n_most)) := by
  intro dd
  induction dd with
  | zero => intro qN uN n_powers n_taken n_left n_n_found n_found n_size n_base n_width n_exponent n_least n_most a1 a2 a3 pm pot0 pl res hf hp0; exact no_some hf
  | succ dd IH =>
    intro qN uN n_powers n_taken n_left n_n_found n_found n_size n_base n_width n_exponent n_least n_most a1 a2 a3 pm pot0 pl res hf hp0
    refine kent_v (cc := cX4_take) (maxL := 6) (by decide) rfl (Nat.le_of_ble_eq_true rfl) ?_
    intro p e0 s m ar below meth c A Q ls ⟨hx, hb, hml, hr, hts, hown, hlocks, hnm⟩ hA hK hN hQ hP hD hS hl
    have hl : lv_has ls 6 [(0, .ref (qN 0)), (1, .int a1), (2, .int a2), (3, .int a3)] := hl
    have hown : s.vm.findClass RX4 = some m.cls := hown
    have huX4 : ∀ x ∈ u_ws RX4 TX4 10, x ∈ wsX4_take := by decide +kernel
    have fk9 : (Cond.fieldLink RX4 9 "FigurePlay$Narrows" "powers" "[I").before ar s = true := hts _ (by decide +kernel)
    have fk37 : (Cond.fieldLink RX4 37 "FigurePlay$Narrows" "least" "I").before ar s = true := hts _ (by decide +kernel)
    have fk40 : (Cond.fieldLink RX4 40 "FigurePlay$Narrows" "most" "I").before ar s = true := hts _ (by decide +kernel)
    have fk15 : (Cond.fieldLink RX4 15 "FigurePlay$Narrows" "taken" "[I").before ar s = true := hts _ (by decide +kernel)
    have hf : f_X4_take_body F (f_X4_take F dd) pm pl a1 a2 a3 n_powers n_taken n_left n_n_found n_found n_size n_base n_width n_least n_most = some res := hf
    unfold f_X4_take_body at hf
    obtain ⟨cp0, hf⟩ := ck_some hf
    have hpt : pot0 ≤ (n_n_found) ∧ (n_n_found) ≤ pm := by omega
    refine W.widen (k := (n_n_found) - pot0) (n := 2 * ((n_n_found) - pot0)) (Nat.zero_le _) (Nat.zero_le _) ?_
    have hL18 : ∀ (k : Nat) (x : Int32 × (Nat → Int32) × (Nat → Int32) × Nat × (Nat → Int32) × Int32 × List Nat) (ex : ((Nat → Int32) × (Nat → Int32) × Nat × (Nat → Int32) × Int32 × List Nat) ⊕ ((Nat → Int32) × (Nat → Int32) × Nat × (Nat → Int32) × Int32 × List Nat)) (uN : Nat → Nat) (H : Heap) (locs : List Loc) (ls : Array Slot), lp (f_X4_take_B18 F a1 a3 n_powers n_base n_width n_least n_most pm (f_X4_take F dd)) k x = some ex → (∀ r, ex = .inl r → r = res) → (∀ er, ex = .inr er → ∀ (uN : Nat → Nat) (H : Heap) (locs : List Loc) (ls : Array Slot), (pot0 ≤ (er.2.2.1) ∧ (er.2.2.1) ≤ pm) → va_P D vwCl (gN cy qN uN n_powers er.1 er.2.1 er.2.2.1 er.2.2.2.1 er.2.2.2.2.1 n_base n_width n_exponent n_least n_most) H → va_D A (gN cy qN uN n_powers er.1 er.2.1 er.2.2.1 er.2.2.2.1 er.2.2.2.2.1 n_base n_width n_exponent n_least n_most) → va_S A s.heap H locs → lv_has ls 6 [] → W p l e0 (rmX4_take (dd + 1) (pm - pot0)) s m ar below meth c H locs ((er.2.2.1) - pot0) (2 * ((er.2.2.1) - pot0)) Q (F0 m 98 ls [])) → (pot0 ≤ (x.2.2.2.1) ∧ (x.2.2.2.1) ≤ pm) → va_P D vwCl (gN cy qN uN n_powers x.2.1 x.2.2.1 x.2.2.2.1 x.2.2.2.2.1 x.2.2.2.2.2.1 n_base n_width n_exponent n_least n_most) H → va_D A (gN cy qN uN n_powers x.2.1 x.2.2.1 x.2.2.2.1 x.2.2.2.2.1 x.2.2.2.2.2.1 n_base n_width n_exponent n_least n_most) → va_S A s.heap H locs → lv_has ls 6 [(0, .ref (qN 0)), (1, .int a1), (3, .int a3), (4, .int x.1)] → W p l e0 (rmX4_take (dd + 1) (pm - pot0)) s m ar below meth c H locs ((x.2.2.2.1) - pot0) (2 * ((x.2.2.2.1) - pot0)) Q (F0 m 18 ls []) := by
      intro k
      induction k with
      | zero => intro x ex uN H locs ls hf; exact no_some hf
      | succ k ih =>
        intro x ex uN H locs ls hf hret hex hpt hP hD hS hl
        have hf : f_X4_take_B18 F a1 a3 n_powers n_base n_width n_least n_most pm (f_X4_take F dd) (lp (f_X4_take_B18 F a1 a3 n_powers n_base n_width n_least n_most pm (f_X4_take F dd)) k) x = some ex := hf
        unfold f_X4_take_B18 at hf
        have hJ92 : ∀ (x4 : Int32) (n_taken : Nat → Int32) (n_left : Nat → Int32) (n_n_found : Nat) (n_found : Nat → Int32) (n_size : Int32) (pl : List Nat) (uN : Nat → Nat) (H : Heap) (locs : List Loc) (ls : Array Slot), f_X4_take_J92 F (lp (f_X4_take_B18 F a1 a3 n_powers n_base n_width n_least n_most pm (f_X4_take F dd)) k) x4 n_taken n_left n_n_found n_found n_size pl = some ex → (pot0 ≤ (n_n_found) ∧ (n_n_found) ≤ pm) → va_P D vwCl (gN cy qN uN n_powers n_taken n_left n_n_found n_found n_size n_base n_width n_exponent n_least n_most) H → va_D A (gN cy qN uN n_powers n_taken n_left n_n_found n_found n_size n_base n_width n_exponent n_least n_most) → va_S A s.heap H locs → lv_has ls 6 [(0, .ref (qN 0)), (1, .int a1), (3, .int a3), (4, .int x4)] → W p l e0 (rmX4_take (dd + 1) (pm - pot0)) s m ar below meth c H locs ((n_n_found) - pot0) (2 * ((n_n_found) - pot0)) Q (F0 m 92 ls []) := by
          intro x4 n_taken n_left n_n_found n_found n_size pl uN H locs ls hf hpt hP hD hS hl
          unfold f_X4_take_J92 at hf
          refine lv_iinc (v := (x4 + (-1 : Int32))) (lv' := [(4, .int (x4 + (-1 : Int32))), (0, .ref (qN 0)), (1, .int a1), (3, .int a3)]) hx hb dX4_take_92 hl (k := 3) rfl rfl (by decide) rfl (fun ls hl => ?_)
          refine lv_goto (tgt := 18) hx hb dX4_take_95 (by decide) ?_
          exact ih ((x4 + (-1 : Int32)), n_taken, n_left, n_n_found, n_found, n_size, pl) ex _ _ _ _ hf hret hex hpt hP hD hS (lv_sub hl [1, 2, 3, 0] rfl)
        refine lv_iload hx hb dX4_take_18 (lv_at hl 3 rfl) ?_
        refine lv_if_lt (tgt := 98) hx hb dX4_take_20 (by decide) (fun c1 => ?_) (fun c1 => ?_)
        · have hf := if_t hf c1
          obtain rfl := Option.some.inj hf
          exact hex _ rfl _ _ _ _ hpt hP hD hS (lv_sub hl [] rfl)
        · have hf := if_f hf c1
          refine lv_aload_n hx hb dX4_take_23 rfl (lv_at hl 0 rfl) ?_
          refine va_get (v := .ref (qN 1)) (D := D) (ci := 4) (C := RX4) (T := TX4) (N := 10) hx hb hts huX4 hown hK hP 0 rfl rfl 0 (by decide) fk9 (fun _ h9 => h9) rfl dX4_take_24 ?_
          refine lv_iload hx hb dX4_take_27 (lv_at hl 3 rfl) ?_
          obtain ⟨c2, hf⟩ := ck_some hf
          refine va_iald hx hb hK hP 1 0 rfl rfl c2 dX4_take_29 ?_
          refine lv_istore (lv' := [(5, .int (n_powers x.1.toNatClampNeg)), (0, .ref (qN 0)), (1, .int a1), (3, .int a3), (4, .int x.1)]) hx hb dX4_take_30 hl (by decide) rfl (fun ls hl => ?_)
          refine lv_iload_n hx hb dX4_take_32 rfl (lv_at hl 3 rfl) ?_
          refine lv_iload_n hx hb dX4_take_33 rfl (lv_at hl 2 rfl) ?_
          refine lv_iload hx hb dX4_take_34 (lv_at hl 0 rfl) ?_
          refine lv_imul hx hb dX4_take_36 ?_
          refine lv_iadd hx hb dX4_take_37 ?_
          refine lv_aload_n hx hb dX4_take_38 rfl (lv_at hl 1 rfl) ?_
          refine va_get (D := D) (ci := 4) (C := RX4) (T := TX4) (N := 10) hx hb hts huX4 hown hK hP 0 rfl rfl 8 (by decide) fk37 (fun _ h9 => h9) rfl dX4_take_39 ?_
          refine lv_icmp_ge (tgt := 46) hx hb dX4_take_42 (by decide) (fun c3 => ?_) (fun c3 => ?_)
          · have hf := if_t hf c3
            refine lv_iload_n hx hb dX4_take_46 rfl (lv_at hl 3 rfl) ?_
            refine lv_iload hx hb dX4_take_47 (lv_at hl 0 rfl) ?_
            refine lv_iadd hx hb dX4_take_49 ?_
            refine lv_aload_n hx hb dX4_take_50 rfl (lv_at hl 1 rfl) ?_
            refine va_get (D := D) (ci := 4) (C := RX4) (T := TX4) (N := 10) hx hb hts huX4 hown hK hP 0 rfl rfl 9 (by decide) fk40 (fun _ h9 => h9) rfl dX4_take_51 ?_
            refine lv_icmp_gt (tgt := 92) hx hb dX4_take_54 (by decide) (fun c4 => ?_) (fun c4 => ?_)
            · have hf := if_t hf c4
              exact hJ92 x.1 x.2.1 x.2.2.1 x.2.2.2.1 x.2.2.2.2.1 x.2.2.2.2.2.1 x.2.2.2.2.2.2 _ _ _ _ hf hpt hP hD hS (lv_sub hl [1, 2, 3, 4] rfl)
            · have hf := if_f hf c4
              refine lv_aload_n hx hb dX4_take_57 rfl (lv_at hl 1 rfl) ?_
              refine va_get (v := .ref (qN 2)) (D := D) (ci := 4) (C := RX4) (T := TX4) (N := 10) hx hb hts huX4 hown hK hP 0 rfl rfl 1 (by decide) fk15 (fun _ h9 => h9) rfl dX4_take_58 ?_
              refine lv_iload hx hb dX4_take_61 (lv_at hl 4 rfl) ?_
              refine lv_dup2_11 hx hb dX4_take_63 rfl rfl ?_
              obtain ⟨c5, hf⟩ := ck_some hf
              refine va_iald hx hb hK hP 2 0 rfl rfl c5 dX4_take_64 ?_
              refine lv_iconst (v := (1 : Int32)) hx hb dX4_take_65 (by decide) ?_
              refine lv_iadd hx hb dX4_take_66 ?_
              obtain ⟨c6, hf⟩ := ck_some hf
              refine va_iast hx hb hK hP hD hS 2 0 rfl rfl c6 dX4_take_67 (fun H locs hP hD hS => ?_)
              have hP : va_P D vwCl (gN cy qN uN n_powers (upd x.2.1 x.1.toNatClampNeg ((x.2.1 x.1.toNatClampNeg) + (1 : Int32))) x.2.2.1 x.2.2.2.1 x.2.2.2.2.1 x.2.2.2.2.2.1 n_base n_width n_exponent n_least n_most) H := hP
              have hD : va_D A (gN cy qN uN n_powers (upd x.2.1 x.1.toNatClampNeg ((x.2.1 x.1.toNatClampNeg) + (1 : Int32))) x.2.2.1 x.2.2.2.1 x.2.2.2.2.1 x.2.2.2.2.2.1 n_base n_width n_exponent n_least n_most) := hD
              refine lv_aload_n hx hb dX4_take_68 rfl (lv_at hl 1 rfl) ?_
              refine lv_iload_n hx hb dX4_take_69 rfl (lv_at hl 2 rfl) ?_
              refine lv_iconst (v := (1 : Int32)) hx hb dX4_take_70 (by decide) ?_
              refine lv_isub hx hb dX4_take_71 ?_
              refine lv_iload hx hb dX4_take_72 (lv_at hl 4 rfl) ?_
              refine lv_iload_n hx hb dX4_take_74 rfl (lv_at hl 3 rfl) ?_
              refine lv_iload hx hb dX4_take_75 (lv_at hl 0 rfl) ?_
              refine lv_iadd hx hb dX4_take_77 ?_
              obtain ⟨pv7, hpv7, hf⟩ := ob_some hf
              obtain ⟨cg8, hf⟩ := ck_some hf
              obtain ⟨r9, hc10, hf⟩ := ob_some hf
              refine kc_v (k_runS ⟨hx, hb, hml, hown, hts⟩ (IH hc10 rfl) (va_cwS 4 hts gX4_take_X4_take rfl rfl rfl (by decide +kernel) ⟨by show (4 + dd) + 1 ≤ 4 + (dd + 1); omega, by show 8 + (6 + 11) + (146 + 25 * dd) ≤ 146 + 25 * (dd + 1); omega⟩) hK hN hP hD kA_s rfl hl.1 rfl (Nat.le_of_ble_eq_true rfl) dX4_take_78 ⟨by show (x.2.2.2.1) - pot0 + (pv7 - (x.2.2.2.1)) ≤ pm - pot0; omega, by show 2 * ((x.2.2.2.1) - pot0) + 2 * (pv7 - (x.2.2.2.1)) ≤ 2 * (pm - pot0); omega⟩) hP hD hS hA (kI_g 5 (fun _ => rfl)) (fun uN H locs hP hD hS => ?_)
              obtain ⟨cq11, hf⟩ := ck_some hf
              have hpt : pot0 ≤ (r9.2.2.1) ∧ (r9.2.2.1) ≤ pm := by omega
              refine W.widen (k := (r9.2.2.1) - pot0) (n := 2 * ((r9.2.2.1) - pot0)) (by show (x.2.2.2.1) - pot0 + (pv7 - (x.2.2.2.1)) ≤ (r9.2.2.1) - pot0; omega) (by show 2 * ((x.2.2.2.1) - pot0) + 2 * (pv7 - (x.2.2.2.1)) ≤ 2 * ((r9.2.2.1) - pot0); omega) ?_
              refine lv_aload_n hx hb dX4_take_81 rfl (lv_at hl 1 rfl) ?_
              refine va_get (v := .ref (qN 2)) (D := D) (ci := 4) (C := RX4) (T := TX4) (N := 10) hx hb hts huX4 hown hK hP 0 rfl rfl 1 (by decide) fk15 (fun _ h9 => h9) rfl dX4_take_82 ?_
              refine lv_iload hx hb dX4_take_85 (lv_at hl 4 rfl) ?_
              refine lv_dup2_11 hx hb dX4_take_87 rfl rfl ?_
              obtain ⟨c12, hf⟩ := ck_some hf
              refine va_iald hx hb hK hP 2 0 rfl rfl c12 dX4_take_88 ?_
              refine lv_iconst (v := (1 : Int32)) hx hb dX4_take_89 (by decide) ?_
              refine lv_isub hx hb dX4_take_90 ?_
              obtain ⟨c13, hf⟩ := ck_some hf
              refine va_iast hx hb hK hP hD hS 2 0 rfl rfl c13 dX4_take_91 (fun H locs hP hD hS => ?_)
              have hP : va_P D vwCl (gN cy qN uN n_powers (upd r9.1 x.1.toNatClampNeg ((r9.1 x.1.toNatClampNeg) - (1 : Int32))) r9.2.1 r9.2.2.1 r9.2.2.2.1 r9.2.2.2.2.1 n_base n_width n_exponent n_least n_most) H := hP
              have hD : va_D A (gN cy qN uN n_powers (upd r9.1 x.1.toNatClampNeg ((r9.1 x.1.toNatClampNeg) - (1 : Int32))) r9.2.1 r9.2.2.1 r9.2.2.2.1 r9.2.2.2.2.1 n_base n_width n_exponent n_least n_most) := hD
              exact hJ92 x.1 (upd r9.1 x.1.toNatClampNeg ((r9.1 x.1.toNatClampNeg) - (1 : Int32))) r9.2.1 r9.2.2.1 r9.2.2.2.1 r9.2.2.2.2.1 r9.2.2.2.2.2 _ _ _ _ hf hpt hP hD hS (lv_sub hl [1, 2, 3, 4] rfl)
          · have hf := if_f hf c3
            obtain ⟨cp, hf⟩ := ck_some hf
            refine W.widen (k := pm - pot0) (n := 2 * (pm - pot0)) (by omega) (by omega) ?_
            obtain rfl := Option.some.inj hf
            obtain rfl := hret _ rfl
            exact hQ uN 45 _ _ _ dX4_take_45 hP hD hS
    refine lv_iload_n hx hb dX4_take_0 rfl (lv_at hl 1 rfl) ?_
    refine lv_if_gt (tgt := 10) hx hb dX4_take_1 (by decide) (fun c14 => ?_) (fun c14 => ?_)
    · have hf := if_t hf c14
      refine lv_iload_n hx hb dX4_take_10 rfl (lv_at hl 2 rfl) ?_
      refine lv_bipush (v := (15 : Int32)) hx hb dX4_take_11 (by decide) ?_
      refine va_mmin hx hb (hml.trans hl.1.symm) hown (hts (.methodLink RX4 55 Lib.Math.min.name) (by decide +kernel)) (hts (.static Lib.Math.min.name) (by decide +kernel)) (hts (.initialized "java/lang/Math") (by decide +kernel)) (hts (.code Lib.Math.min.name Lib.Math.min.code 2 (some .int)) (by decide +kernel)) (by show 1 ≤ 4 + (dd + 1); omega) (by show ([] : List Value).length + 13 ≤ 146 + 25 * (dd + 1); simp only [List.length_nil]; omega) (by show (n_n_found) - pot0 ≤ pm - pot0; omega) (by show 2 * ((n_n_found) - pot0) ≤ 2 * (pm - pot0); omega) dX4_take_13 ?_
      refine lv_istore (lv' := [(4, .int (if (15 : Int32) < a2 then (15 : Int32) else a2)), (0, .ref (qN 0)), (1, .int a1), (2, .int a2), (3, .int a3)]) hx hb dX4_take_16 hl (by decide) rfl (fun ls hl => ?_)
      obtain ⟨ex15, hcl, hf⟩ := ob_some hf
      refine hL18 F ((if (15 : Int32) < a2 then (15 : Int32) else a2), n_taken, n_left, n_n_found, n_found, n_size, pl) ex15 _ _ _ _ hcl (fun r hr0 => ?_) (fun er16 hr0 uN H locs ls hpt hP hD hS hl => ?_) hpt hP hD hS (lv_sub hl [1, 2, 4, 0] rfl)
      · subst hr0; exact Option.some.inj (sm_inl hf)
      · subst hr0
        have hf := sm_inr hf
        obtain ⟨cp, hf⟩ := ck_some hf
        refine W.widen (k := pm - pot0) (n := 2 * (pm - pot0)) (by omega) (by omega) ?_
        obtain rfl := Option.some.inj hf
        exact hQ uN 98 _ _ _ dX4_take_98 hP hD hS
    · have hf := if_f hf c14
      refine lv_aload_n hx hb dX4_take_4 rfl (lv_at hl 0 rfl) ?_
      refine lv_iload_n hx hb dX4_take_5 rfl (lv_at hl 3 rfl) ?_
      obtain ⟨cg17, hf⟩ := ck_some hf
      obtain ⟨r18, hc19, hf⟩ := ob_some hf
      refine kc_v (k_run ⟨hx, hb, hml, hown, hts⟩ (c_X4_look hc19 rfl) (cwV 1 hts gX4_take_X4_look rfl rfl rfl (by decide +kernel) ⟨by show 3 + 1 ≤ 4 + (dd + 1); omega, by show 8 + (5 + 11) + 122 ≤ 146 + 25 * (dd + 1); omega⟩) hK hN hP hD kA_s (ci := 4) (q0 := 0) rfl rfl rfl rfl hl.1 rfl (Nat.le_of_ble_eq_true rfl) dX4_take_6 ⟨by show (n_n_found) - pot0 + (pm - (n_n_found)) ≤ pm - pot0; omega, by show 2 * ((n_n_found) - pot0) + 2 * (pm - (n_n_found)) ≤ 2 * (pm - pot0); omega⟩) hP hD hS hA (kI_g 5 (fun _ => rfl)) (fun uN H locs hP hD hS => ?_)
      obtain ⟨cq20, hf⟩ := ck_some hf
      have hpt : pot0 ≤ (r18.2.1) ∧ (r18.2.1) ≤ pm := by omega
      refine W.widen (k := (r18.2.1) - pot0) (n := 2 * ((r18.2.1) - pot0)) (by show (n_n_found) - pot0 + (pm - (n_n_found)) ≤ (r18.2.1) - pot0; omega) (by show 2 * ((n_n_found) - pot0) + 2 * (pm - (n_n_found)) ≤ 2 * ((r18.2.1) - pot0); omega) ?_
      obtain ⟨cp, hf⟩ := ck_some hf
      refine W.widen (k := pm - pot0) (n := 2 * (pm - pot0)) (by omega) (by omega) ?_
      obtain rfl := Option.some.inj hf
      exact hQ uN 9 _ _ _ dX4_take_9 hP hD hS
def f_X4_seek_J97 (F : Nat) (a1 : Int32) (a2 : Int32) (pm : Nat) (pl : List Nat) (s1 : Int32) (n_powers : Nat → Int32) (n_taken : Nat → Int32) (n_left : Nat → Int32) (n_n_found : Nat) (n_found : Nat → Int32) (n_size : Int32) (n_base : Int32) (n_width : Int32) (n_exponent : Int32) (n_least : Int32) (n_most : Int32) : Option ((Nat → Int32) × (Nat → Int32) × (Nat → Int32) × Nat × (Nat → Int32) × Int32 × Int32 × Int32 × Int32 × Int32 × Int32) := (f_X4_powerOf F a1 a2).bind (fun r1 => ck ((n_n_found) ≤ pm ∧ pm ≤ pm) ((f_X4_take F 7 pm pl a2 (a1 - (1 : Int32)) (0 : Int32) n_powers n_taken n_left n_n_found n_found (0 : Int32) n_base n_width s1 (r1 - (1 : Int32))).bind (fun r4 => ck ((r4.2.2.1) = pm) (ck ((r4.2.2.1) = pm) (some (n_powers, r4.1, r4.2.1, r4.2.2.1, r4.2.2.2.1, r4.2.2.2.2.1, n_base, n_width, n_exponent, s1, (r1 - (1 : Int32))))))))
def f_X4_seek_B43 (F : Nat) (a3 : Int32) (n_left : Nat → Int32) (n_n_found : Nat) (n_found : Nat → Int32) (n_size : Int32) (n_base : Int32) (n_width : Int32) (n_exponent : Int32) (n_least : Int32) (n_most : Int32) (rec : Int32 × (Nat → Int32) × (Nat → Int32) → Option ((Nat → Int32) × (Nat → Int32))) (x : Int32 × (Nat → Int32) × (Nat → Int32)) : Option ((Nat → Int32) × (Nat → Int32)) := if (16 : Int32) ≤ x.1 then (some (x.2.1, x.2.2)) else ((f_X4_powerOf F x.1 a3).bind (fun r8 => ck (¬ (x.1 < 0 ∨ 16 ≤ x.1.toNatClampNeg)) (ck (¬ (x.1 < 0 ∨ 16 ≤ x.1.toNatClampNeg)) (rec ((x.1 + (1 : Int32)), (upd x.2.1 x.1.toNatClampNeg r8), (upd x.2.2 x.1.toNatClampNeg (0 : Int32)))))))
def f_X4_seek_J25 (F : Nat) (a1 : Int32) (a2 : Int32) (a3 : Int32) (pm : Nat) (pl : List Nat) (n_powers : Nat → Int32) (n_taken : Nat → Int32) (n_left : Nat → Int32) (n_n_found : Nat) (n_found : Nat → Int32) (n_size : Int32) (n_base : Int32) (n_width : Int32) (n_exponent : Int32) (n_least : Int32) (n_most : Int32) : Option ((Nat → Int32) × (Nat → Int32) × (Nat → Int32) × Nat × (Nat → Int32) × Int32 × Int32 × Int32 × Int32 × Int32 × Int32) := (lp (f_X4_seek_B43 F a3 n_left n_n_found n_found n_size a1 a2 a3 n_least n_most) F ((0 : Int32), n_powers, n_taken)).bind (fun ex12 => if a2 = (1 : Int32) then (f_X4_seek_J97 F a1 a2 pm pl (0 : Int32) ex12.1 ex12.2 n_left n_n_found n_found n_size a1 a2 a3 n_least n_most) else ((f_X4_powerOf F a1 (a2 - (1 : Int32))).bind (fun r14 => f_X4_seek_J97 F a1 a2 pm pl r14 ex12.1 ex12.2 n_left n_n_found n_found n_size a1 a2 a3 n_least n_most)))
def f_X4_seek (F : Nat) (pm : Nat) (pl : List Nat) (a1 : Int32) (a2 : Int32) (a3 : Int32) (n_powers : Nat → Int32) (n_taken : Nat → Int32) (n_left : Nat → Int32) (n_n_found : Nat) (n_found : Nat → Int32) (n_size : Int32) (n_base : Int32) (n_width : Int32) (n_exponent : Int32) (n_least : Int32) (n_most : Int32) : Option ((Nat → Int32) × (Nat → Int32) × (Nat → Int32) × Nat × (Nat → Int32) × Int32 × Int32 × Int32 × Int32 × Int32 × Int32) := ck ((n_n_found) ≤ pm) (if n_base = a1 then (if n_width = a2 then (if n_exponent = a3 then (ck ((n_n_found) = pm) (some (n_powers, n_taken, n_left, n_n_found, n_found, n_size, n_base, n_width, n_exponent, n_least, n_most))) else (f_X4_seek_J25 F a1 a2 a3 pm pl n_powers n_taken n_left n_n_found n_found n_size n_base n_width n_exponent n_least n_most)) else (f_X4_seek_J25 F a1 a2 a3 pm pl n_powers n_taken n_left n_n_found n_found n_size n_base n_width n_exponent n_least n_most)) else (f_X4_seek_J25 F a1 a2 a3 pm pl n_powers n_taken n_left n_n_found n_found n_size n_base n_width n_exponent n_least n_most))
abbrev rmX4_seek (k : Nat) : Room := { frames := 12, cells := k, slots := 2 * k, locals := 346 }
set_option maxHeartbeats 1000000 in
set_option maxRecDepth 100000 in
theorem c_X4_seek {l : Launch} {D : va_G} {cy : Nat → ClassId} {qN : Nat → Nat} {uN : Nat → Nat} {n_powers : Nat → Int32} {n_taken : Nat → Int32} {n_left : Nat → Int32} {n_n_found : Nat} {n_found : Nat → Int32} {n_size : Int32} {n_base : Int32} {n_width : Int32} {n_exponent : Int32} {n_least : Int32} {n_most : Int32} {a1 : Int32} {a2 : Int32} {a3 : Int32} {F : Nat} {pm pot0 : Nat} {pl : List Nat} {res : (Nat → Int32) × (Nat → Int32) × (Nat → Int32) × Nat × (Nat → Int32) × Int32 × Int32 × Int32 × Int32 × Int32 × Int32} (hf : f_X4_seek F pm pl a1 a2 a3 n_powers n_taken n_left n_n_found n_found n_size n_base n_width n_exponent n_least n_most = some res) (hp0 : pot0 = (n_n_found)) : kM l yX4_seek wsX4_seek (rmX4_seek (pm - pot0)) D cy [.ref (qN 0), .int a1, .int a2, .int a3] (gN cy qN uN n_powers n_taken n_left n_n_found n_found n_size n_base n_width n_exponent n_least n_most) (kQv D cy (fun uN : Nat → Nat => gN cy qN uN res.1 res.2.1 res.2.2.1 res.2.2.2.1 res.2.2.2.2.1 res.2.2.2.2.2.1 res.2.2.2.2.2.2.1 res.2.2.2.2.2.2.2.1 res.2.2.2.2.2.2.2.2.1 res.2.2.2.2.2.2.2.2.2.1 res.2.2.2.2.2.2.2.2.2.2)) := by
  refine kent_v (cc := cX4_seek) (maxL := 5) (by decide) rfl (Nat.le_of_ble_eq_true rfl) ?_
  intro p e0 s m ar below meth c A Q ls ⟨hx, hb, hml, hr, hts, hown, hlocks, hnm⟩ hA hK hN hQ hP hD hS hl
  have hl : lv_has ls 5 [(0, .ref (qN 0)), (1, .int a1), (2, .int a2), (3, .int a3)] := hl
  have hown : s.vm.findClass RX4 = some m.cls := hown
  have huX4 : ∀ x ∈ u_ws RX4 TX4 10, x ∈ wsX4_seek := by decide +kernel
  have fk37 : (Cond.fieldLink RX4 37 "FigurePlay$Narrows" "least" "I").before ar s = true := hts _ (by decide +kernel)
  have fk40 : (Cond.fieldLink RX4 40 "FigurePlay$Narrows" "most" "I").before ar s = true := hts _ (by decide +kernel)
  have fk24 : (Cond.fieldLink RX4 24 "FigurePlay$Narrows" "size" "I").before ar s = true := hts _ (by decide +kernel)
  have fk9 : (Cond.fieldLink RX4 9 "FigurePlay$Narrows" "powers" "[I").before ar s = true := hts _ (by decide +kernel)
  have fk15 : (Cond.fieldLink RX4 15 "FigurePlay$Narrows" "taken" "[I").before ar s = true := hts _ (by decide +kernel)
  have fk28 : (Cond.fieldLink RX4 28 "FigurePlay$Narrows" "base" "I").before ar s = true := hts _ (by decide +kernel)
  have fk31 : (Cond.fieldLink RX4 31 "FigurePlay$Narrows" "width" "I").before ar s = true := hts _ (by decide +kernel)
  have fk34 : (Cond.fieldLink RX4 34 "FigurePlay$Narrows" "exponent" "I").before ar s = true := hts _ (by decide +kernel)
  unfold f_X4_seek at hf
  obtain ⟨cp0, hf⟩ := ck_some hf
  have hpt : pot0 ≤ (n_n_found) ∧ (n_n_found) ≤ pm := by omega
  refine W.widen (k := (n_n_found) - pot0) (n := 2 * ((n_n_found) - pot0)) (Nat.zero_le _) (Nat.zero_le _) ?_
  have hJ97 : ∀ (s1 : Int32) (n_powers : Nat → Int32) (n_taken : Nat → Int32) (n_left : Nat → Int32) (n_n_found : Nat) (n_found : Nat → Int32) (n_size : Int32) (n_base : Int32) (n_width : Int32) (n_exponent : Int32) (n_least : Int32) (n_most : Int32) (uN : Nat → Nat) (H : Heap) (locs : List Loc) (ls : Array Slot), f_X4_seek_J97 F a1 a2 pm pl s1 n_powers n_taken n_left n_n_found n_found n_size n_base n_width n_exponent n_least n_most = some res → (pot0 ≤ (n_n_found) ∧ (n_n_found) ≤ pm) → va_P D vwCl (gN cy qN uN n_powers n_taken n_left n_n_found n_found n_size n_base n_width n_exponent n_least n_most) H → va_D A (gN cy qN uN n_powers n_taken n_left n_n_found n_found n_size n_base n_width n_exponent n_least n_most) → va_S A s.heap H locs → lv_has ls 5 [(0, .ref (qN 0)), (1, .int a1), (2, .int a2)] → W p l e0 (rmX4_seek (pm - pot0)) s m ar below meth c H locs ((n_n_found) - pot0) (2 * ((n_n_found) - pot0)) Q (F0 m 97 ls [.int s1, .ref (qN 0)]) := by
    intro s1 n_powers n_taken n_left n_n_found n_found n_size n_base n_width n_exponent n_least n_most uN H locs ls hf hpt hP hD hS hl
    unfold f_X4_seek_J97 at hf
    refine va_put (D := D) (ci := 4) (v := .int s1) (ty := .int) (C := RX4) (T := TX4) (N := 10) hx hb hts huX4 tyX4 tyX4_ok nmX4 hown hK hP hD hS 0 rfl rfl 8 (by decide) fk37 (fun _ h9 => h9) rfl (tyX4_ok 8 (by decide)) rfl rfl (Nat.le_of_ble_eq_true rfl) dX4_seek_97 (fun H locs hP hD hS => ?_)
    have hP : va_P D vwCl (gN cy qN uN n_powers n_taken n_left n_n_found n_found n_size n_base n_width n_exponent s1 n_most) H := hP
    have hD : va_D A (gN cy qN uN n_powers n_taken n_left n_n_found n_found n_size n_base n_width n_exponent s1 n_most) := hD
    refine lv_aload_n hx hb dX4_seek_100 rfl (lv_at hl 0 rfl) ?_
    refine lv_iload_n hx hb dX4_seek_101 rfl (lv_at hl 1 rfl) ?_
    refine lv_iload_n hx hb dX4_seek_102 rfl (lv_at hl 2 rfl) ?_
    obtain ⟨r1, hc2, hf⟩ := ob_some hf
    refine kc_i (k_runS ⟨hx, hb, hml, hown, hts⟩ (c_X4_powerOf hc2) (va_cwS 2 hts gX4_seek_X4_powerOf rfl rfl rfl (by decide +kernel) ⟨Nat.le_of_ble_eq_true rfl, Nat.le_of_ble_eq_true rfl⟩) hK hN hP hD kA_0 rfl hl.1 rfl (Nat.le_of_ble_eq_true rfl) dX4_seek_103 ⟨by show (n_n_found) - pot0 + 0 ≤ pm - pot0; omega, by show 2 * ((n_n_found) - pot0) + 0 ≤ 2 * (pm - pot0); omega⟩) hP hD hS hA kI_0 (fun _ H locs hP hD hS => ?_)
    refine W.widen (k := (n_n_found) - pot0) (n := 2 * ((n_n_found) - pot0)) (Nat.le_refl _) (Nat.le_refl _) ?_
    refine lv_iconst (v := (1 : Int32)) hx hb dX4_seek_106 (by decide) ?_
    refine lv_isub hx hb dX4_seek_107 ?_
    refine va_put (D := D) (ci := 4) (v := .int (r1 - (1 : Int32))) (ty := .int) (C := RX4) (T := TX4) (N := 10) hx hb hts huX4 tyX4 tyX4_ok nmX4 hown hK hP hD hS 0 rfl rfl 9 (by decide) fk40 (fun _ h9 => h9) rfl (tyX4_ok 9 (by decide)) rfl rfl (Nat.le_of_ble_eq_true rfl) dX4_seek_108 (fun H locs hP hD hS => ?_)
    have hP : va_P D vwCl (gN cy qN uN n_powers n_taken n_left n_n_found n_found n_size n_base n_width n_exponent s1 (r1 - (1 : Int32))) H := hP
    have hD : va_D A (gN cy qN uN n_powers n_taken n_left n_n_found n_found n_size n_base n_width n_exponent s1 (r1 - (1 : Int32))) := hD
    refine lv_aload_n hx hb dX4_seek_111 rfl (lv_at hl 0 rfl) ?_
    refine lv_iconst (v := (0 : Int32)) hx hb dX4_seek_112 (by decide) ?_
    refine va_put (D := D) (ci := 4) (v := .int (0 : Int32)) (ty := .int) (C := RX4) (T := TX4) (N := 10) hx hb hts huX4 tyX4 tyX4_ok nmX4 hown hK hP hD hS 0 rfl rfl 4 (by decide) fk24 (fun _ h9 => h9) rfl (tyX4_ok 4 (by decide)) rfl rfl (Nat.le_of_ble_eq_true rfl) dX4_seek_113 (fun H locs hP hD hS => ?_)
    have hP : va_P D vwCl (gN cy qN uN n_powers n_taken n_left n_n_found n_found (0 : Int32) n_base n_width n_exponent s1 (r1 - (1 : Int32))) H := hP
    have hD : va_D A (gN cy qN uN n_powers n_taken n_left n_n_found n_found (0 : Int32) n_base n_width n_exponent s1 (r1 - (1 : Int32))) := hD
    refine lv_aload_n hx hb dX4_seek_116 rfl (lv_at hl 0 rfl) ?_
    refine lv_iload_n hx hb dX4_seek_117 rfl (lv_at hl 2 rfl) ?_
    refine lv_iload_n hx hb dX4_seek_118 rfl (lv_at hl 1 rfl) ?_
    refine lv_iconst (v := (1 : Int32)) hx hb dX4_seek_119 (by decide) ?_
    refine lv_isub hx hb dX4_seek_120 ?_
    refine lv_iconst (v := (0 : Int32)) hx hb dX4_seek_121 (by decide) ?_
    obtain ⟨cg3, hf⟩ := ck_some hf
    obtain ⟨r4, hc5, hf⟩ := ob_some hf
    refine kc_v (k_runS ⟨hx, hb, hml, hown, hts⟩ (c_X4_take 7 hc5 rfl) (va_cwS 4 hts gX4_seek_X4_take rfl rfl rfl (by decide +kernel) ⟨Nat.le_of_ble_eq_true rfl, Nat.le_of_ble_eq_true rfl⟩) hK hN hP hD kA_s rfl hl.1 rfl (Nat.le_of_ble_eq_true rfl) dX4_seek_122 ⟨by show (n_n_found) - pot0 + (pm - (n_n_found)) ≤ pm - pot0; omega, by show 2 * ((n_n_found) - pot0) + 2 * (pm - (n_n_found)) ≤ 2 * (pm - pot0); omega⟩) hP hD hS hA (kI_g 5 (fun _ => rfl)) (fun uN H locs hP hD hS => ?_)
    obtain ⟨cq6, hf⟩ := ck_some hf
    have hpt : pot0 ≤ (r4.2.2.1) ∧ (r4.2.2.1) ≤ pm := by omega
    refine W.widen (k := (r4.2.2.1) - pot0) (n := 2 * ((r4.2.2.1) - pot0)) (by show (n_n_found) - pot0 + (pm - (n_n_found)) ≤ (r4.2.2.1) - pot0; omega) (by show 2 * ((n_n_found) - pot0) + 2 * (pm - (n_n_found)) ≤ 2 * ((r4.2.2.1) - pot0); omega) ?_
    obtain ⟨cp, hf⟩ := ck_some hf
    refine W.widen (k := pm - pot0) (n := 2 * (pm - pot0)) (by omega) (by omega) ?_
    obtain rfl := Option.some.inj hf
    exact hQ uN 125 _ _ _ dX4_seek_125 hP hD hS
  have hL43 : ∀ (n_left : Nat → Int32) (n_n_found : Nat) (n_found : Nat → Int32) (n_size : Int32) (n_base : Int32) (n_width : Int32) (n_exponent : Int32) (n_least : Int32) (n_most : Int32) (k : Nat) (x : Int32 × (Nat → Int32) × (Nat → Int32)) (ex : (Nat → Int32) × (Nat → Int32)) (uN : Nat → Nat) (H : Heap) (locs : List Loc) (ls : Array Slot), lp (f_X4_seek_B43 F a3 n_left n_n_found n_found n_size n_base n_width n_exponent n_least n_most) k x = some ex → (∀ (uN : Nat → Nat) (H : Heap) (locs : List Loc) (ls : Array Slot), (pot0 ≤ (n_n_found) ∧ (n_n_found) ≤ pm) → va_P D vwCl (gN cy qN uN ex.1 ex.2 n_left n_n_found n_found n_size n_base n_width n_exponent n_least n_most) H → va_D A (gN cy qN uN ex.1 ex.2 n_left n_n_found n_found n_size n_base n_width n_exponent n_least n_most) → va_S A s.heap H locs → lv_has ls 5 [(0, .ref (qN 0)), (1, .int a1), (2, .int a2)] → W p l e0 (rmX4_seek (pm - pot0)) s m ar below meth c H locs ((n_n_found) - pot0) (2 * ((n_n_found) - pot0)) Q (F0 m 80 ls [])) → (pot0 ≤ (n_n_found) ∧ (n_n_found) ≤ pm) → va_P D vwCl (gN cy qN uN x.2.1 x.2.2 n_left n_n_found n_found n_size n_base n_width n_exponent n_least n_most) H → va_D A (gN cy qN uN x.2.1 x.2.2 n_left n_n_found n_found n_size n_base n_width n_exponent n_least n_most) → va_S A s.heap H locs → lv_has ls 5 [(0, .ref (qN 0)), (1, .int a1), (2, .int a2), (3, .int a3), (4, .int x.1)] → W p l e0 (rmX4_seek (pm - pot0)) s m ar below meth c H locs ((n_n_found) - pot0) (2 * ((n_n_found) - pot0)) Q (F0 m 43 ls []) := by
    intro n_left n_n_found n_found n_size n_base n_width n_exponent n_least n_most k
    induction k with
    | zero => intro x ex uN H locs ls hf; exact no_some hf
    | succ k ih =>
      intro x ex uN H locs ls hf hex hpt hP hD hS hl
      have hf : f_X4_seek_B43 F a3 n_left n_n_found n_found n_size n_base n_width n_exponent n_least n_most (lp (f_X4_seek_B43 F a3 n_left n_n_found n_found n_size n_base n_width n_exponent n_least n_most) k) x = some ex := hf
      unfold f_X4_seek_B43 at hf
      refine lv_iload hx hb dX4_seek_43 (lv_at hl 4 rfl) ?_
      refine lv_aload_n hx hb dX4_seek_45 rfl (lv_at hl 0 rfl) ?_
      refine va_get (v := .ref (qN 1)) (D := D) (ci := 4) (C := RX4) (T := TX4) (N := 10) hx hb hts huX4 hown hK hP 0 rfl rfl 0 (by decide) fk9 (fun _ h9 => h9) rfl dX4_seek_46 ?_
      refine va_alen (v := (16 : Int32)) hx hb hK hP 1 0 rfl rfl rfl dX4_seek_49 ?_
      refine lv_icmp_ge (tgt := 80) hx hb dX4_seek_50 (by decide) (fun c7 => ?_) (fun c7 => ?_)
      · have hf := if_t hf c7
        obtain rfl := Option.some.inj hf
        exact hex _ _ _ _ hpt hP hD hS (lv_sub hl [0, 1, 2] rfl)
      · have hf := if_f hf c7
        refine lv_aload_n hx hb dX4_seek_53 rfl (lv_at hl 0 rfl) ?_
        refine va_get (v := .ref (qN 1)) (D := D) (ci := 4) (C := RX4) (T := TX4) (N := 10) hx hb hts huX4 hown hK hP 0 rfl rfl 0 (by decide) fk9 (fun _ h9 => h9) rfl dX4_seek_54 ?_
        refine lv_iload hx hb dX4_seek_57 (lv_at hl 4 rfl) ?_
        refine lv_iload hx hb dX4_seek_59 (lv_at hl 4 rfl) ?_
        refine lv_iload_n hx hb dX4_seek_61 rfl (lv_at hl 3 rfl) ?_
        obtain ⟨r8, hc9, hf⟩ := ob_some hf
        refine kc_i (k_runS ⟨hx, hb, hml, hown, hts⟩ (c_X4_powerOf hc9) (va_cwS 2 hts gX4_seek_X4_powerOf rfl rfl rfl (by decide +kernel) ⟨Nat.le_of_ble_eq_true rfl, Nat.le_of_ble_eq_true rfl⟩) hK hN hP hD kA_0 rfl hl.1 rfl (Nat.le_of_ble_eq_true rfl) dX4_seek_62 ⟨by show (n_n_found) - pot0 + 0 ≤ pm - pot0; omega, by show 2 * ((n_n_found) - pot0) + 0 ≤ 2 * (pm - pot0); omega⟩) hP hD hS hA kI_0 (fun _ H locs hP hD hS => ?_)
        refine W.widen (k := (n_n_found) - pot0) (n := 2 * ((n_n_found) - pot0)) (Nat.le_refl _) (Nat.le_refl _) ?_
        obtain ⟨c10, hf⟩ := ck_some hf
        refine va_iast hx hb hK hP hD hS 1 0 rfl rfl c10 dX4_seek_65 (fun H locs hP hD hS => ?_)
        have hP : va_P D vwCl (gN cy qN uN (upd x.2.1 x.1.toNatClampNeg r8) x.2.2 n_left n_n_found n_found n_size n_base n_width n_exponent n_least n_most) H := hP
        have hD : va_D A (gN cy qN uN (upd x.2.1 x.1.toNatClampNeg r8) x.2.2 n_left n_n_found n_found n_size n_base n_width n_exponent n_least n_most) := hD
        refine lv_aload_n hx hb dX4_seek_66 rfl (lv_at hl 0 rfl) ?_
        refine va_get (v := .ref (qN 2)) (D := D) (ci := 4) (C := RX4) (T := TX4) (N := 10) hx hb hts huX4 hown hK hP 0 rfl rfl 1 (by decide) fk15 (fun _ h9 => h9) rfl dX4_seek_67 ?_
        refine lv_iload hx hb dX4_seek_70 (lv_at hl 4 rfl) ?_
        refine lv_iconst (v := (0 : Int32)) hx hb dX4_seek_72 (by decide) ?_
        obtain ⟨c11, hf⟩ := ck_some hf
        refine va_iast hx hb hK hP hD hS 2 0 rfl rfl c11 dX4_seek_73 (fun H locs hP hD hS => ?_)
        have hP : va_P D vwCl (gN cy qN uN (upd x.2.1 x.1.toNatClampNeg r8) (upd x.2.2 x.1.toNatClampNeg (0 : Int32)) n_left n_n_found n_found n_size n_base n_width n_exponent n_least n_most) H := hP
        have hD : va_D A (gN cy qN uN (upd x.2.1 x.1.toNatClampNeg r8) (upd x.2.2 x.1.toNatClampNeg (0 : Int32)) n_left n_n_found n_found n_size n_base n_width n_exponent n_least n_most) := hD
        refine lv_iinc (v := (x.1 + (1 : Int32))) (lv' := [(4, .int (x.1 + (1 : Int32))), (0, .ref (qN 0)), (1, .int a1), (2, .int a2), (3, .int a3)]) hx hb dX4_seek_74 hl (k := 4) rfl rfl (by decide) rfl (fun ls hl => ?_)
        refine lv_goto (tgt := 43) hx hb dX4_seek_77 (by decide) ?_
        exact ih ((x.1 + (1 : Int32)), (upd x.2.1 x.1.toNatClampNeg r8), (upd x.2.2 x.1.toNatClampNeg (0 : Int32))) ex _ _ _ _ hf hex hpt hP hD hS (lv_sub hl [1, 2, 3, 4, 0] rfl)
  have hJ25 : ∀ (n_powers : Nat → Int32) (n_taken : Nat → Int32) (n_left : Nat → Int32) (n_n_found : Nat) (n_found : Nat → Int32) (n_size : Int32) (n_base : Int32) (n_width : Int32) (n_exponent : Int32) (n_least : Int32) (n_most : Int32) (uN : Nat → Nat) (H : Heap) (locs : List Loc) (ls : Array Slot), f_X4_seek_J25 F a1 a2 a3 pm pl n_powers n_taken n_left n_n_found n_found n_size n_base n_width n_exponent n_least n_most = some res → (pot0 ≤ (n_n_found) ∧ (n_n_found) ≤ pm) → va_P D vwCl (gN cy qN uN n_powers n_taken n_left n_n_found n_found n_size n_base n_width n_exponent n_least n_most) H → va_D A (gN cy qN uN n_powers n_taken n_left n_n_found n_found n_size n_base n_width n_exponent n_least n_most) → va_S A s.heap H locs → lv_has ls 5 [(0, .ref (qN 0)), (1, .int a1), (2, .int a2), (3, .int a3)] → W p l e0 (rmX4_seek (pm - pot0)) s m ar below meth c H locs ((n_n_found) - pot0) (2 * ((n_n_found) - pot0)) Q (F0 m 25 ls []) := by
    intro n_powers n_taken n_left n_n_found n_found n_size n_base n_width n_exponent n_least n_most uN H locs ls hf hpt hP hD hS hl
    unfold f_X4_seek_J25 at hf
    refine lv_aload_n hx hb dX4_seek_25 rfl (lv_at hl 0 rfl) ?_
    refine lv_iload_n hx hb dX4_seek_26 rfl (lv_at hl 1 rfl) ?_
    refine va_put (D := D) (ci := 4) (v := .int a1) (ty := .int) (C := RX4) (T := TX4) (N := 10) hx hb hts huX4 tyX4 tyX4_ok nmX4 hown hK hP hD hS 0 rfl rfl 5 (by decide) fk28 (fun _ h9 => h9) rfl (tyX4_ok 5 (by decide)) rfl rfl (Nat.le_of_ble_eq_true rfl) dX4_seek_27 (fun H locs hP hD hS => ?_)
    have hP : va_P D vwCl (gN cy qN uN n_powers n_taken n_left n_n_found n_found n_size a1 n_width n_exponent n_least n_most) H := hP
    have hD : va_D A (gN cy qN uN n_powers n_taken n_left n_n_found n_found n_size a1 n_width n_exponent n_least n_most) := hD
    refine lv_aload_n hx hb dX4_seek_30 rfl (lv_at hl 0 rfl) ?_
    refine lv_iload_n hx hb dX4_seek_31 rfl (lv_at hl 2 rfl) ?_
    refine va_put (D := D) (ci := 4) (v := .int a2) (ty := .int) (C := RX4) (T := TX4) (N := 10) hx hb hts huX4 tyX4 tyX4_ok nmX4 hown hK hP hD hS 0 rfl rfl 6 (by decide) fk31 (fun _ h9 => h9) rfl (tyX4_ok 6 (by decide)) rfl rfl (Nat.le_of_ble_eq_true rfl) dX4_seek_32 (fun H locs hP hD hS => ?_)
    have hP : va_P D vwCl (gN cy qN uN n_powers n_taken n_left n_n_found n_found n_size a1 a2 n_exponent n_least n_most) H := hP
    have hD : va_D A (gN cy qN uN n_powers n_taken n_left n_n_found n_found n_size a1 a2 n_exponent n_least n_most) := hD
    refine lv_aload_n hx hb dX4_seek_35 rfl (lv_at hl 0 rfl) ?_
    refine lv_iload_n hx hb dX4_seek_36 rfl (lv_at hl 3 rfl) ?_
    refine va_put (D := D) (ci := 4) (v := .int a3) (ty := .int) (C := RX4) (T := TX4) (N := 10) hx hb hts huX4 tyX4 tyX4_ok nmX4 hown hK hP hD hS 0 rfl rfl 7 (by decide) fk34 (fun _ h9 => h9) rfl (tyX4_ok 7 (by decide)) rfl rfl (Nat.le_of_ble_eq_true rfl) dX4_seek_37 (fun H locs hP hD hS => ?_)
    have hP : va_P D vwCl (gN cy qN uN n_powers n_taken n_left n_n_found n_found n_size a1 a2 a3 n_least n_most) H := hP
    have hD : va_D A (gN cy qN uN n_powers n_taken n_left n_n_found n_found n_size a1 a2 a3 n_least n_most) := hD
    refine lv_iconst (v := (0 : Int32)) hx hb dX4_seek_40 (by decide) ?_
    refine lv_istore (lv' := [(4, .int (0 : Int32)), (0, .ref (qN 0)), (1, .int a1), (2, .int a2), (3, .int a3)]) hx hb dX4_seek_41 hl (by decide) rfl (fun ls hl => ?_)
    obtain ⟨ex12, hcl, hf⟩ := ob_some hf
    refine hL43 n_left n_n_found n_found n_size a1 a2 a3 n_least n_most F ((0 : Int32), n_powers, n_taken) ex12 _ _ _ _ hcl (fun uN H locs ls hpt hP hD hS hl => ?_) hpt hP hD hS (lv_sub hl [1, 2, 3, 4, 0] rfl)
    refine lv_aload_n hx hb dX4_seek_80 rfl (lv_at hl 0 rfl) ?_
    refine lv_iload_n hx hb dX4_seek_81 rfl (lv_at hl 2 rfl) ?_
    refine lv_iconst (v := (1 : Int32)) hx hb dX4_seek_82 (by decide) ?_
    refine lv_icmp_ne (tgt := 90) hx hb dX4_seek_83 (by decide) (fun c13 => ?_) (fun c13 => ?_)
    · have hf := if_f hf c13
      refine lv_iload_n hx hb dX4_seek_90 rfl (lv_at hl 1 rfl) ?_
      refine lv_iload_n hx hb dX4_seek_91 rfl (lv_at hl 2 rfl) ?_
      refine lv_iconst (v := (1 : Int32)) hx hb dX4_seek_92 (by decide) ?_
      refine lv_isub hx hb dX4_seek_93 ?_
      obtain ⟨r14, hc15, hf⟩ := ob_some hf
      refine kc_i (k_runS ⟨hx, hb, hml, hown, hts⟩ (c_X4_powerOf hc15) (va_cwS 2 hts gX4_seek_X4_powerOf rfl rfl rfl (by decide +kernel) ⟨Nat.le_of_ble_eq_true rfl, Nat.le_of_ble_eq_true rfl⟩) hK hN hP hD kA_0 rfl hl.1 rfl (Nat.le_of_ble_eq_true rfl) dX4_seek_94 ⟨by show (n_n_found) - pot0 + 0 ≤ pm - pot0; omega, by show 2 * ((n_n_found) - pot0) + 0 ≤ 2 * (pm - pot0); omega⟩) hP hD hS hA kI_0 (fun _ H locs hP hD hS => ?_)
      refine W.widen (k := (n_n_found) - pot0) (n := 2 * ((n_n_found) - pot0)) (Nat.le_refl _) (Nat.le_refl _) ?_
      exact hJ97 r14 ex12.1 ex12.2 n_left n_n_found n_found n_size a1 a2 a3 n_least n_most _ _ _ _ hf hpt hP hD hS (lv_sub hl [0, 1, 2] rfl)
    · have hf := if_t hf c13
      refine lv_iconst (v := (0 : Int32)) hx hb dX4_seek_86 (by decide) ?_
      refine lv_goto (tgt := 97) hx hb dX4_seek_87 (by decide) ?_
      exact hJ97 (0 : Int32) ex12.1 ex12.2 n_left n_n_found n_found n_size a1 a2 a3 n_least n_most _ _ _ _ hf hpt hP hD hS (lv_sub hl [0, 1, 2] rfl)
  refine lv_aload_n hx hb dX4_seek_0 rfl (lv_at hl 0 rfl) ?_
  refine va_get (D := D) (ci := 4) (C := RX4) (T := TX4) (N := 10) hx hb hts huX4 hown hK hP 0 rfl rfl 5 (by decide) fk28 (fun _ h9 => h9) rfl dX4_seek_1 ?_
  refine lv_iload_n hx hb dX4_seek_4 rfl (lv_at hl 1 rfl) ?_
  refine lv_icmp_ne (tgt := 25) hx hb dX4_seek_5 (by decide) (fun c16 => ?_) (fun c16 => ?_)
  · have hf := if_f hf c16
    exact hJ25 n_powers n_taken n_left n_n_found n_found n_size n_base n_width n_exponent n_least n_most _ _ _ _ hf hpt hP hD hS (lv_sub hl [0, 1, 2, 3] rfl)
  · have hf := if_t hf c16
    refine lv_aload_n hx hb dX4_seek_8 rfl (lv_at hl 0 rfl) ?_
    refine va_get (D := D) (ci := 4) (C := RX4) (T := TX4) (N := 10) hx hb hts huX4 hown hK hP 0 rfl rfl 6 (by decide) fk31 (fun _ h9 => h9) rfl dX4_seek_9 ?_
    refine lv_iload_n hx hb dX4_seek_12 rfl (lv_at hl 2 rfl) ?_
    refine lv_icmp_ne (tgt := 25) hx hb dX4_seek_13 (by decide) (fun c17 => ?_) (fun c17 => ?_)
    · have hf := if_f hf c17
      exact hJ25 n_powers n_taken n_left n_n_found n_found n_size n_base n_width n_exponent n_least n_most _ _ _ _ hf hpt hP hD hS (lv_sub hl [0, 1, 2, 3] rfl)
    · have hf := if_t hf c17
      refine lv_aload_n hx hb dX4_seek_16 rfl (lv_at hl 0 rfl) ?_
      refine va_get (D := D) (ci := 4) (C := RX4) (T := TX4) (N := 10) hx hb hts huX4 hown hK hP 0 rfl rfl 7 (by decide) fk34 (fun _ h9 => h9) rfl dX4_seek_17 ?_
      refine lv_iload_n hx hb dX4_seek_20 rfl (lv_at hl 3 rfl) ?_
      refine lv_icmp_ne (tgt := 25) hx hb dX4_seek_21 (by decide) (fun c18 => ?_) (fun c18 => ?_)
      · have hf := if_f hf c18
        exact hJ25 n_powers n_taken n_left n_n_found n_found n_size n_base n_width n_exponent n_least n_most _ _ _ _ hf hpt hP hD hS (lv_sub hl [0, 1, 2, 3] rfl)
      · have hf := if_t hf c18
        obtain ⟨cp, hf⟩ := ck_some hf
        refine W.widen (k := pm - pot0) (n := 2 * (pm - pot0)) (by omega) (by omega) ?_
        obtain rfl := Option.some.inj hf
        exact hQ uN 24 _ _ _ dX4_seek_24 hP hD hS
