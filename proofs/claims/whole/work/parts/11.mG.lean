/-! the reference: functions and contracts -/
def f_X11_narrow_J254 (F : Nat) (s0 : Int64) (m_many : Int32) (m_figures : Nat → Int32) (m_row : Nat → Int32) (m_narrows : Int32) (m_narrow : Nat → Int64) : Option (Int64 × Int32 × (Nat → Int32) × (Nat → Int32) × Int32 × (Nat → Int64)) := some (s0, m_many, m_figures, m_row, m_narrows, m_narrow)
def f_X11_narrow_B197 (F : Nat) (a1 : Int32) (x4 : Int32) (x8 : Int32) (m_many : Int32) (m_figures : Nat → Int32) (m_narrows : Int32) (m_narrow : Nat → Int64) (rec : Int32 × (Nat → Int32) → Option ((Nat → Int32))) (x : Int32 × (Nat → Int32)) : Option ((Nat → Int32)) := if a1 ≤ x.1 then (some x.2) else (ck (¬ (x.1 < 0 ∨ 6 ≤ x.1.toNatClampNeg)) (rec ((x.1 + (1 : Int32)), (upd x.2 x.1.toNatClampNeg x8))))
def f_X11_narrow_J195 (F : Nat) (a1 : Int32) (rec : (Int32 × Int32 × (Nat → Int32) × (Nat → Int32) × Int32 × (Nat → Int64)) → Option (Int32 × (Nat → Int32) × (Nat → Int32) × Int32 × (Nat → Int64))) (x4 : Int32) (x8 : Int32) (s0 : Int32) (m_many : Int32) (m_figures : Nat → Int32) (m_row : Nat → Int32) (m_narrows : Int32) (m_narrow : Nat → Int64) : Option (Int32 × (Nat → Int32) × (Nat → Int32) × Int32 × (Nat → Int64)) := (lp (f_X11_narrow_B197 F a1 x4 x8 m_many m_figures m_narrows m_narrow) F (s0, m_row)).bind (fun ex3 => rec (x4, m_many, m_figures, ex3, m_narrows, m_narrow))
def f_X11_narrow_J182 (F : Nat) (a1 : Int32) (rec : (Int32 × Int32 × (Nat → Int32) × (Nat → Int32) × Int32 × (Nat → Int64)) → Option (Int32 × (Nat → Int32) × (Nat → Int32) × Int32 × (Nat → Int64))) (x4 : Int32) (x7 : Int32) (s0 : Int32) (m_many : Int32) (m_figures : Nat → Int32) (m_row : Nat → Int32) (m_narrows : Int32) (m_narrow : Nat → Int64) : Option (Int32 × (Nat → Int32) × (Nat → Int32) × Int32 × (Nat → Int64)) := if x4 = 0 then (f_X11_narrow_J195 F a1 rec x4 s0 a1 m_many m_figures m_row m_narrows m_narrow) else (f_X11_narrow_J195 F a1 rec x4 s0 x7 m_many m_figures m_row m_narrows m_narrow)
def f_X11_narrow_J162 (F : Nat) (a1 : Int32) (rec : (Int32 × Int32 × (Nat → Int32) × (Nat → Int32) × Int32 × (Nat → Int64)) → Option (Int32 × (Nat → Int32) × (Nat → Int32) × Int32 × (Nat → Int64))) (x7 : Int32) (s0 : Int32) (m_many : Int32) (m_figures : Nat → Int32) (m_row : Nat → Int32) (m_narrows : Int32) (m_narrow : Nat → Int64) : Option (Int32 × (Nat → Int32) × (Nat → Int32) × Int32 × (Nat → Int64)) := if s0 = 0 then (f_X11_narrow_J182 F a1 rec s0 x7 (0 : Int32) m_many m_figures m_row m_narrows m_narrow) else (ck (¬ (x7 < 0 ∨ 6 ≤ x7.toNatClampNeg)) (f_X11_narrow_J182 F a1 rec s0 x7 ((m_row x7.toNatClampNeg) + (1 : Int32)) m_many m_figures m_row m_narrows m_narrow))
def f_X11_narrow_B125 (F : Nat) (m_base : Int32) (m_many : Int32) (m_figures : Nat → Int32) (m_row : Nat → Int32) (m_narrows : Int32) (m_narrow : Nat → Int64) (rec : Int32 → Option (Int32)) (x : Int32) : Option (Int32) := if x < 0 then (some x) else (ck (¬ (x < 0 ∨ 6 ≤ x.toNatClampNeg)) (if (m_row x.toNatClampNeg) = (m_base - (1 : Int32)) then (rec (x + (-1 : Int32))) else (some x)))
def f_X11_narrow_J120 (F : Nat) (a1 : Int32) (m_base : Int32) (rec : (Int32 × Int32 × (Nat → Int32) × (Nat → Int32) × Int32 × (Nat → Int64)) → Option (Int32 × (Nat → Int32) × (Nat → Int32) × Int32 × (Nat → Int64))) (m_many : Int32) (m_figures : Nat → Int32) (m_row : Nat → Int32) (m_narrows : Int32) (m_narrow : Nat → Int64) : Option (Int32 × (Nat → Int32) × (Nat → Int32) × Int32 × (Nat → Int64)) := (lp (f_X11_narrow_B125 F m_base m_many m_figures m_row m_narrows m_narrow) F (a1 - (1 : Int32))).bind (fun ex10 => if ex10 < 0 then (f_X11_narrow_J162 F a1 rec ex10 (0 : Int32) m_many m_figures m_row m_narrows m_narrow) else (f_X11_narrow_J162 F a1 rec ex10 (1 : Int32) m_many m_figures m_row m_narrows m_narrow))
def f_X11_narrow_B75 (F : Nat) (a1 : Int32) (a2 : Int32) (m_many : Int32) (m_figures : Nat → Int32) (m_row : Nat → Int32) (m_narrows : Int32) (m_narrow : Nat → Int64) (rec : Int64 × Int32 → Option (Int64)) (x : Int64 × Int32) : Option (Int64) := if a1 ≤ x.2 then (some x.1) else (ck (¬ (x.2 < 0 ∨ 6 ≤ x.2.toNatClampNeg)) ((f_X11_toThe F (m_row x.2.toNatClampNeg) a2).bind (fun r14 => rec ((x.1 + r14), (x.2 + (1 : Int32))))))
def f_X11_narrow_B64 (F : Nat) (a1 : Int32) (a2 : Int32) (m_base : Int32) (rec : Int32 × Int32 × (Nat → Int32) × (Nat → Int32) × Int32 × (Nat → Int64) → Option (Int32 × (Nat → Int32) × (Nat → Int32) × Int32 × (Nat → Int64))) (x : Int32 × Int32 × (Nat → Int32) × (Nat → Int32) × Int32 × (Nat → Int64)) : Option (Int32 × (Nat → Int32) × (Nat → Int32) × Int32 × (Nat → Int64)) := if x.1 = 0 then (some (x.2.1, x.2.2.1, x.2.2.2.1, x.2.2.2.2.1, x.2.2.2.2.2)) else ((lp (f_X11_narrow_B75 F a1 a2 x.2.1 x.2.2.1 x.2.2.2.1 x.2.2.2.2.1 x.2.2.2.2.2) F ((0 : Int64), (0 : Int32))).bind (fun ex17 => (f_X11_hasRow F ex17 a1 m_base x.2.1 x.2.2.1 x.2.2.2.1).bind (fun r18 => if r18.1 = 0 then (f_X11_narrow_J120 F a1 m_base rec r18.2.1 r18.2.2 x.2.2.2.1 x.2.2.2.2.1 x.2.2.2.2.2) else ((f_X11_addNarrow F ex17 x.2.2.2.2.1 x.2.2.2.2.2).bind (fun r21 => f_X11_narrow_J120 F a1 m_base rec r18.2.1 r18.2.2 x.2.2.2.1 r21.1 r21.2)))))
def f_X11_narrow_B41 (F : Nat) (a1 : Int32) (m_many : Int32) (m_figures : Nat → Int32) (m_narrows : Int32) (m_narrow : Nat → Int64) (rec : Int32 × (Nat → Int32) → Option ((Nat → Int32))) (x : Int32 × (Nat → Int32)) : Option ((Nat → Int32)) := if a1 ≤ x.1 then (some x.2) else (ck (¬ (x.1 < 0 ∨ 6 ≤ x.1.toNatClampNeg)) (rec ((x.1 + (1 : Int32)), (upd x.2 x.1.toNatClampNeg (0 : Int32)))))
def f_X11_narrow_J29 (F : Nat) (m_many : Int32) (m_figures : Nat → Int32) (m_row : Nat → Int32) (m_narrows : Int32) (m_narrow : Nat → Int64) : Option (Int64 × Int32 × (Nat → Int32) × (Nat → Int32) × Int32 × (Nat → Int64)) := some ((-1 : Int64), m_many, m_figures, m_row, m_narrows, m_narrow)
def f_X11_narrow (F : Nat) (a1 : Int32) (a2 : Int32) (a3 : Int32) (m_base : Int32) (m_many : Int32) (m_figures : Nat → Int32) (m_row : Nat → Int32) (m_narrows : Int32) (m_narrow : Nat → Int64) : Option (Int64 × Int32 × (Nat → Int32) × (Nat → Int32) × Int32 × (Nat → Int64)) := (f_X11_in F a1.toInt64 (1 : Int64) (6 : Int64)).bind (fun r25 => if r25 = 0 then (f_X11_narrow_J29 F m_many m_figures m_row m_narrows m_narrow) else ((f_X11_in F a2.toInt64 (1 : Int64) (6 : Int64)).bind (fun r28 => if r28 = 0 then (f_X11_narrow_J29 F m_many m_figures m_row m_narrows m_narrow) else (if (-1 : Int32) ≤ a3 then ((lp (f_X11_narrow_B41 F a1 m_many m_figures (0 : Int32) m_narrow) F ((0 : Int32), m_row)).bind (fun ex32 => (lp (f_X11_narrow_B64 F a1 a2 m_base) F ((1 : Int32), m_many, m_figures, ex32, (0 : Int32), m_narrow)).bind (fun ex33 => if a3 = (-1 : Int32) then (f_X11_narrow_J254 F ex33.2.2.2.1.toInt64 ex33.1 ex33.2.1 ex33.2.2.1 ex33.2.2.2.1 ex33.2.2.2.2) else (if ex33.2.2.2.1 ≤ a3 then (f_X11_narrow_J254 F (-4 : Int64) ex33.1 ex33.2.1 ex33.2.2.1 ex33.2.2.2.1 ex33.2.2.2.2) else (ck (¬ (a3 < 0 ∨ 200 ≤ a3.toNatClampNeg)) (f_X11_narrow_J254 F (ex33.2.2.2.2 a3.toNatClampNeg) ex33.1 ex33.2.1 ex33.2.2.1 ex33.2.2.2.1 ex33.2.2.2.2)))))) else (f_X11_narrow_J29 F m_many m_figures m_row m_narrows m_narrow)))))
abbrev rmX11_narrow : Room := { frames := 2, cells := 0, slots := 0, locals := 51 }
set_option maxHeartbeats 1000000 in
set_option maxRecDepth 100000 in
theorem c_X11_narrow {l : Launch} {D : va_G} {cy : Nat → ClassId} {qM : Nat → Nat} {m_base : Int32} {m_f : Nat → Int32} {m_many : Int32} {m_figures : Nat → Int32} {m_tail : Int32} {m_round : Int32} {m_rounds : Int32} {m_leasts : Nat → Int64} {m_likes : Int32} {m_like : Nat → Int32} {m_isTwo : Nat → Int32} {m_came : Nat → Int32} {m_by : Nat → Int32} {m_queue : Nat → Int32} {m_kind : Int32} {m_parts : Int32} {m_wanted : Int32} {m_allowed : Int32} {m_bitOf : Nat → Int32} {m_met : Int32} {m_row : Nat → Int32} {m_narrows : Int32} {m_narrow : Nat → Int64} {m_isMade : Nat → Int32} {a1 : Int32} {a2 : Int32} {a3 : Int32} {F : Nat} {res : Int64 × Int32 × (Nat → Int32) × (Nat → Int32) × Int32 × (Nat → Int64)} (hf : f_X11_narrow F a1 a2 a3 m_base m_many m_figures m_row m_narrows m_narrow = some res) : kM l yX11_narrow wsX11_narrow rmX11_narrow D cy [.ref (qM 0), .int a1, .int a2, .int a3] (gM cy qM m_base m_f m_many m_figures m_tail m_round m_rounds m_leasts m_likes m_like m_isTwo m_came m_by m_queue m_kind m_parts m_wanted m_allowed m_bitOf m_met m_row m_narrows m_narrow m_isMade) (kQl D cy (fun _ : Unit => gM cy qM m_base m_f res.2.1 res.2.2.1 m_tail m_round m_rounds m_leasts m_likes m_like m_isTwo m_came m_by m_queue m_kind m_parts m_wanted m_allowed m_bitOf m_met res.2.2.2.1 res.2.2.2.2.1 res.2.2.2.2.2 m_isMade) res.1) := by
  refine kent_l (cc := cX11_narrow) (maxL := 10) (by decide) rfl (Nat.le_of_ble_eq_true rfl) ?_
  intro p e0 s m ar below meth c A Q ls ⟨hx, hb, hml, hr, hts, hown, hlocks, hnm⟩ hA hK hN hQ hP hD hS hl
  have hl : lv_has ls 10 [(0, .ref (qM 0)), (1, .int a1), (2, .int a2), (3, .int a3)] := hl
  have hown : s.vm.findClass RX11 = some m.cls := hown
  have huX11 : ∀ x ∈ u_ws RX11 TX11 24, x ∈ wsX11_narrow := by decide +kernel
  have fk44 : (Cond.fieldLink RX11 44 "FigurePlayModel" "row" "[I").before ar s = true := hts _ (by decide +kernel)
  have fk7 : (Cond.fieldLink RX11 7 "FigurePlayModel" "base" "I").before ar s = true := hts _ (by decide +kernel)
  have fk95 : (Cond.constantLong RX11 95 (-1)).before ar s = true := hts _ (by decide +kernel)
  have fk201 : (Cond.constantLong RX11 201 (6)).before ar s = true := hts _ (by decide +kernel)
  have fk198 : (Cond.fieldLink RX11 198 "FigurePlayModel" "narrows" "I").before ar s = true := hts _ (by decide +kernel)
  have fk111 : (Cond.constantLong RX11 111 (-4)).before ar s = true := hts _ (by decide +kernel)
  have fk47 : (Cond.fieldLink RX11 47 "FigurePlayModel" "narrow" "[J").before ar s = true := hts _ (by decide +kernel)
  unfold f_X11_narrow at hf
  have hJ254 : ∀ (s0 : Int64) (m_many : Int32) (m_figures : Nat → Int32) (m_row : Nat → Int32) (m_narrows : Int32) (m_narrow : Nat → Int64) (H : Heap) (locs : List Loc) (ls : Array Slot), f_X11_narrow_J254 F s0 m_many m_figures m_row m_narrows m_narrow = some res → va_P D vwCl (gM cy qM m_base m_f m_many m_figures m_tail m_round m_rounds m_leasts m_likes m_like m_isTwo m_came m_by m_queue m_kind m_parts m_wanted m_allowed m_bitOf m_met m_row m_narrows m_narrow m_isMade) H → va_D A (gM cy qM m_base m_f m_many m_figures m_tail m_round m_rounds m_leasts m_likes m_like m_isTwo m_came m_by m_queue m_kind m_parts m_wanted m_allowed m_bitOf m_met m_row m_narrows m_narrow m_isMade) → va_S A s.heap H locs → lv_has ls 10 [] → W p l e0 rmX11_narrow s m ar below meth c H locs 0 0 Q (F0 m 254 ls [.long s0]) := by
    intro s0 m_many m_figures m_row m_narrows m_narrow H locs ls hf hP hD hS hl
    unfold f_X11_narrow_J254 at hf
    obtain rfl := Option.some.inj hf
    exact hQ () 254 _ _ _ dX11_narrow_254 hP hD hS
  have hL64 : ∀ (k : Nat) (x : Int32 × Int32 × (Nat → Int32) × (Nat → Int32) × Int32 × (Nat → Int64)) (ex : Int32 × (Nat → Int32) × (Nat → Int32) × Int32 × (Nat → Int64)) (H : Heap) (locs : List Loc) (ls : Array Slot), lp (f_X11_narrow_B64 F a1 a2 m_base) k x = some ex → (∀ (H : Heap) (locs : List Loc) (ls : Array Slot), va_P D vwCl (gM cy qM m_base m_f ex.1 ex.2.1 m_tail m_round m_rounds m_leasts m_likes m_like m_isTwo m_came m_by m_queue m_kind m_parts m_wanted m_allowed m_bitOf m_met ex.2.2.1 ex.2.2.2.1 ex.2.2.2.2 m_isMade) H → va_D A (gM cy qM m_base m_f ex.1 ex.2.1 m_tail m_round m_rounds m_leasts m_likes m_like m_isTwo m_came m_by m_queue m_kind m_parts m_wanted m_allowed m_bitOf m_met ex.2.2.1 ex.2.2.2.1 ex.2.2.2.2 m_isMade) → va_S A s.heap H locs → lv_has ls 10 [(0, .ref (qM 0)), (3, .int a3)] → W p l e0 rmX11_narrow s m ar below meth c H locs 0 0 Q (F0 m 221 ls [])) → va_P D vwCl (gM cy qM m_base m_f x.2.1 x.2.2.1 m_tail m_round m_rounds m_leasts m_likes m_like m_isTwo m_came m_by m_queue m_kind m_parts m_wanted m_allowed m_bitOf m_met x.2.2.2.1 x.2.2.2.2.1 x.2.2.2.2.2 m_isMade) H → va_D A (gM cy qM m_base m_f x.2.1 x.2.2.1 m_tail m_round m_rounds m_leasts m_likes m_like m_isTwo m_came m_by m_queue m_kind m_parts m_wanted m_allowed m_bitOf m_met x.2.2.2.1 x.2.2.2.2.1 x.2.2.2.2.2 m_isMade) → va_S A s.heap H locs → lv_has ls 10 [(0, .ref (qM 0)), (1, .int a1), (2, .int a2), (3, .int a3), (4, .int x.1)] → W p l e0 rmX11_narrow s m ar below meth c H locs 0 0 Q (F0 m 64 ls []) := by
    intro k
    induction k with
    | zero => intro x ex H locs ls hf; exact no_some hf
    | succ k ih =>
      intro x ex H locs ls hf hex hP hD hS hl
      have hf : f_X11_narrow_B64 F a1 a2 m_base (lp (f_X11_narrow_B64 F a1 a2 m_base) k) x = some ex := hf
      unfold f_X11_narrow_B64 at hf
      have hL197 : ∀ (x4 : Int32) (x8 : Int32) (m_many : Int32) (m_figures : Nat → Int32) (m_narrows : Int32) (m_narrow : Nat → Int64) (k : Nat) (x : Int32 × (Nat → Int32)) (ex : (Nat → Int32)) (H : Heap) (locs : List Loc) (ls : Array Slot), lp (f_X11_narrow_B197 F a1 x4 x8 m_many m_figures m_narrows m_narrow) k x = some ex → (∀ (H : Heap) (locs : List Loc) (ls : Array Slot), va_P D vwCl (gM cy qM m_base m_f m_many m_figures m_tail m_round m_rounds m_leasts m_likes m_like m_isTwo m_came m_by m_queue m_kind m_parts m_wanted m_allowed m_bitOf m_met ex m_narrows m_narrow m_isMade) H → va_D A (gM cy qM m_base m_f m_many m_figures m_tail m_round m_rounds m_leasts m_likes m_like m_isTwo m_came m_by m_queue m_kind m_parts m_wanted m_allowed m_bitOf m_met ex m_narrows m_narrow m_isMade) → va_S A s.heap H locs → lv_has ls 10 [(0, .ref (qM 0)), (1, .int a1), (2, .int a2), (3, .int a3), (4, .int x4)] → W p l e0 rmX11_narrow s m ar below meth c H locs 0 0 Q (F0 m 218 ls [])) → va_P D vwCl (gM cy qM m_base m_f m_many m_figures m_tail m_round m_rounds m_leasts m_likes m_like m_isTwo m_came m_by m_queue m_kind m_parts m_wanted m_allowed m_bitOf m_met x.2 m_narrows m_narrow m_isMade) H → va_D A (gM cy qM m_base m_f m_many m_figures m_tail m_round m_rounds m_leasts m_likes m_like m_isTwo m_came m_by m_queue m_kind m_parts m_wanted m_allowed m_bitOf m_met x.2 m_narrows m_narrow m_isMade) → va_S A s.heap H locs → lv_has ls 10 [(0, .ref (qM 0)), (1, .int a1), (2, .int a2), (3, .int a3), (4, .int x4), (8, .int x8), (9, .int x.1)] → W p l e0 rmX11_narrow s m ar below meth c H locs 0 0 Q (F0 m 197 ls []) := by
        intro x4 x8 m_many m_figures m_narrows m_narrow k
        induction k with
        | zero => intro x ex H locs ls hf; exact no_some hf
        | succ k ih =>
          intro x ex H locs ls hf hex hP hD hS hl
          have hf : f_X11_narrow_B197 F a1 x4 x8 m_many m_figures m_narrows m_narrow (lp (f_X11_narrow_B197 F a1 x4 x8 m_many m_figures m_narrows m_narrow) k) x = some ex := hf
          unfold f_X11_narrow_B197 at hf
          refine lv_iload hx hb dX11_narrow_197 (lv_at hl 6 rfl) ?_
          refine lv_iload_n hx hb dX11_narrow_199 rfl (lv_at hl 1 rfl) ?_
          refine lv_icmp_ge (tgt := 218) hx hb dX11_narrow_200 (by decide) (fun c1 => ?_) (fun c1 => ?_)
          · have hf := if_t hf c1
            obtain rfl := Option.some.inj hf
            exact hex _ _ _ hP hD hS (lv_sub hl [0, 1, 2, 3, 4] rfl)
          · have hf := if_f hf c1
            refine lv_aload_n hx hb dX11_narrow_203 rfl (lv_at hl 0 rfl) ?_
            refine va_get (v := .ref (qM 10)) (D := D) (ci := 11) (C := RX11) (T := TX11) (N := 24) hx hb hts huX11 hown hK hP 0 rfl rfl 20 (by decide) fk44 (fun _ h9 => h9) rfl dX11_narrow_204 ?_
            refine lv_iload hx hb dX11_narrow_207 (lv_at hl 6 rfl) ?_
            refine lv_iload hx hb dX11_narrow_209 (lv_at hl 5 rfl) ?_
            obtain ⟨c2, hf⟩ := ck_some hf
            refine va_iast hx hb hK hP hD hS 10 0 rfl rfl c2 dX11_narrow_211 (fun H locs hP hD hS => ?_)
            have hP : va_P D vwCl (gM cy qM m_base m_f m_many m_figures m_tail m_round m_rounds m_leasts m_likes m_like m_isTwo m_came m_by m_queue m_kind m_parts m_wanted m_allowed m_bitOf m_met (upd x.2 x.1.toNatClampNeg x8) m_narrows m_narrow m_isMade) H := hP
            have hD : va_D A (gM cy qM m_base m_f m_many m_figures m_tail m_round m_rounds m_leasts m_likes m_like m_isTwo m_came m_by m_queue m_kind m_parts m_wanted m_allowed m_bitOf m_met (upd x.2 x.1.toNatClampNeg x8) m_narrows m_narrow m_isMade) := hD
            refine lv_iinc (v := (x.1 + (1 : Int32))) (lv' := [(9, .int (x.1 + (1 : Int32))), (0, .ref (qM 0)), (1, .int a1), (2, .int a2), (3, .int a3), (4, .int x4), (8, .int x8)]) hx hb dX11_narrow_212 hl (k := 6) rfl rfl (by decide) rfl (fun ls hl => ?_)
            refine lv_goto (tgt := 197) hx hb dX11_narrow_215 (by decide) ?_
            exact ih ((x.1 + (1 : Int32)), (upd x.2 x.1.toNatClampNeg x8)) ex _ _ _ hf hex hP hD hS (lv_sub hl [1, 2, 3, 4, 5, 6, 0] rfl)
      have hJ195 : ∀ (x4 : Int32) (x8 : Int32) (s0 : Int32) (m_many : Int32) (m_figures : Nat → Int32) (m_row : Nat → Int32) (m_narrows : Int32) (m_narrow : Nat → Int64) (H : Heap) (locs : List Loc) (ls : Array Slot), f_X11_narrow_J195 F a1 (lp (f_X11_narrow_B64 F a1 a2 m_base) k) x4 x8 s0 m_many m_figures m_row m_narrows m_narrow = some ex → va_P D vwCl (gM cy qM m_base m_f m_many m_figures m_tail m_round m_rounds m_leasts m_likes m_like m_isTwo m_came m_by m_queue m_kind m_parts m_wanted m_allowed m_bitOf m_met m_row m_narrows m_narrow m_isMade) H → va_D A (gM cy qM m_base m_f m_many m_figures m_tail m_round m_rounds m_leasts m_likes m_like m_isTwo m_came m_by m_queue m_kind m_parts m_wanted m_allowed m_bitOf m_met m_row m_narrows m_narrow m_isMade) → va_S A s.heap H locs → lv_has ls 10 [(0, .ref (qM 0)), (1, .int a1), (2, .int a2), (3, .int a3), (4, .int x4), (8, .int x8)] → W p l e0 rmX11_narrow s m ar below meth c H locs 0 0 Q (F0 m 195 ls [.int s0]) := by
        intro x4 x8 s0 m_many m_figures m_row m_narrows m_narrow H locs ls hf hP hD hS hl
        unfold f_X11_narrow_J195 at hf
        refine lv_istore (lv' := [(9, .int s0), (0, .ref (qM 0)), (1, .int a1), (2, .int a2), (3, .int a3), (4, .int x4), (8, .int x8)]) hx hb dX11_narrow_195 hl (by decide) rfl (fun ls hl => ?_)
        obtain ⟨ex3, hcl, hf⟩ := ob_some hf
        refine hL197 x4 x8 m_many m_figures m_narrows m_narrow F (s0, m_row) ex3 _ _ _ hcl (fun H locs ls hP hD hS hl => ?_) hP hD hS (lv_sub hl [1, 2, 3, 4, 5, 6, 0] rfl)
        refine lv_goto (tgt := 64) hx hb dX11_narrow_218 (by decide) ?_
        exact ih (x4, m_many, m_figures, ex3, m_narrows, m_narrow) ex _ _ _ hf hex hP hD hS (lv_sub hl [0, 1, 2, 3, 4] rfl)
      have hJ182 : ∀ (x4 : Int32) (x7 : Int32) (s0 : Int32) (m_many : Int32) (m_figures : Nat → Int32) (m_row : Nat → Int32) (m_narrows : Int32) (m_narrow : Nat → Int64) (H : Heap) (locs : List Loc) (ls : Array Slot), f_X11_narrow_J182 F a1 (lp (f_X11_narrow_B64 F a1 a2 m_base) k) x4 x7 s0 m_many m_figures m_row m_narrows m_narrow = some ex → va_P D vwCl (gM cy qM m_base m_f m_many m_figures m_tail m_round m_rounds m_leasts m_likes m_like m_isTwo m_came m_by m_queue m_kind m_parts m_wanted m_allowed m_bitOf m_met m_row m_narrows m_narrow m_isMade) H → va_D A (gM cy qM m_base m_f m_many m_figures m_tail m_round m_rounds m_leasts m_likes m_like m_isTwo m_came m_by m_queue m_kind m_parts m_wanted m_allowed m_bitOf m_met m_row m_narrows m_narrow m_isMade) → va_S A s.heap H locs → lv_has ls 10 [(0, .ref (qM 0)), (1, .int a1), (2, .int a2), (3, .int a3), (4, .int x4), (7, .int x7)] → W p l e0 rmX11_narrow s m ar below meth c H locs 0 0 Q (F0 m 182 ls [.int s0]) := by
        intro x4 x7 s0 m_many m_figures m_row m_narrows m_narrow H locs ls hf hP hD hS hl
        unfold f_X11_narrow_J182 at hf
        refine lv_istore (lv' := [(8, .int s0), (0, .ref (qM 0)), (1, .int a1), (2, .int a2), (3, .int a3), (4, .int x4), (7, .int x7)]) hx hb dX11_narrow_182 hl (by decide) rfl (fun ls hl => ?_)
        refine lv_iload hx hb dX11_narrow_184 (lv_at hl 5 rfl) ?_
        refine lv_if_eq (tgt := 194) hx hb dX11_narrow_186 (by decide) (fun c4 => ?_) (fun c4 => ?_)
        · have hf := if_t hf c4
          refine lv_iload_n hx hb dX11_narrow_194 rfl (lv_at hl 2 rfl) ?_
          exact hJ195 x4 s0 a1 m_many m_figures m_row m_narrows m_narrow _ _ _ hf hP hD hS (lv_sub hl [1, 2, 3, 4, 5, 0] rfl)
        · have hf := if_f hf c4
          refine lv_iload hx hb dX11_narrow_189 (lv_at hl 6 rfl) ?_
          refine lv_goto (tgt := 195) hx hb dX11_narrow_191 (by decide) ?_
          exact hJ195 x4 s0 x7 m_many m_figures m_row m_narrows m_narrow _ _ _ hf hP hD hS (lv_sub hl [1, 2, 3, 4, 5, 0] rfl)
      have hJ162 : ∀ (x7 : Int32) (s0 : Int32) (m_many : Int32) (m_figures : Nat → Int32) (m_row : Nat → Int32) (m_narrows : Int32) (m_narrow : Nat → Int64) (H : Heap) (locs : List Loc) (ls : Array Slot), f_X11_narrow_J162 F a1 (lp (f_X11_narrow_B64 F a1 a2 m_base) k) x7 s0 m_many m_figures m_row m_narrows m_narrow = some ex → va_P D vwCl (gM cy qM m_base m_f m_many m_figures m_tail m_round m_rounds m_leasts m_likes m_like m_isTwo m_came m_by m_queue m_kind m_parts m_wanted m_allowed m_bitOf m_met m_row m_narrows m_narrow m_isMade) H → va_D A (gM cy qM m_base m_f m_many m_figures m_tail m_round m_rounds m_leasts m_likes m_like m_isTwo m_came m_by m_queue m_kind m_parts m_wanted m_allowed m_bitOf m_met m_row m_narrows m_narrow m_isMade) → va_S A s.heap H locs → lv_has ls 10 [(0, .ref (qM 0)), (1, .int a1), (2, .int a2), (3, .int a3), (7, .int x7)] → W p l e0 rmX11_narrow s m ar below meth c H locs 0 0 Q (F0 m 162 ls [.int s0]) := by
        intro x7 s0 m_many m_figures m_row m_narrows m_narrow H locs ls hf hP hD hS hl
        unfold f_X11_narrow_J162 at hf
        refine lv_istore (lv' := [(4, .int s0), (0, .ref (qM 0)), (1, .int a1), (2, .int a2), (3, .int a3), (7, .int x7)]) hx hb dX11_narrow_162 hl (by decide) rfl (fun ls hl => ?_)
        refine lv_iload hx hb dX11_narrow_164 (lv_at hl 0 rfl) ?_
        refine lv_if_eq (tgt := 181) hx hb dX11_narrow_166 (by decide) (fun c5 => ?_) (fun c5 => ?_)
        · have hf := if_t hf c5
          refine lv_iconst (v := (0 : Int32)) hx hb dX11_narrow_181 (by decide) ?_
          exact hJ182 s0 x7 (0 : Int32) m_many m_figures m_row m_narrows m_narrow _ _ _ hf hP hD hS (lv_sub hl [1, 2, 3, 4, 0, 5] rfl)
        · have hf := if_f hf c5
          refine lv_aload_n hx hb dX11_narrow_169 rfl (lv_at hl 1 rfl) ?_
          refine va_get (v := .ref (qM 10)) (D := D) (ci := 11) (C := RX11) (T := TX11) (N := 24) hx hb hts huX11 hown hK hP 0 rfl rfl 20 (by decide) fk44 (fun _ h9 => h9) rfl dX11_narrow_170 ?_
          refine lv_iload hx hb dX11_narrow_173 (lv_at hl 5 rfl) ?_
          obtain ⟨c6, hf⟩ := ck_some hf
          refine va_iald hx hb hK hP 10 0 rfl rfl c6 dX11_narrow_175 ?_
          refine lv_iconst (v := (1 : Int32)) hx hb dX11_narrow_176 (by decide) ?_
          refine lv_iadd hx hb dX11_narrow_177 ?_
          refine lv_goto (tgt := 182) hx hb dX11_narrow_178 (by decide) ?_
          exact hJ182 s0 x7 ((m_row x7.toNatClampNeg) + (1 : Int32)) m_many m_figures m_row m_narrows m_narrow _ _ _ hf hP hD hS (lv_sub hl [1, 2, 3, 4, 0, 5] rfl)
      have hL125 : ∀ (m_many : Int32) (m_figures : Nat → Int32) (m_row : Nat → Int32) (m_narrows : Int32) (m_narrow : Nat → Int64) (k : Nat) (x : Int32) (ex : Int32) (H : Heap) (locs : List Loc) (ls : Array Slot), lp (f_X11_narrow_B125 F m_base m_many m_figures m_row m_narrows m_narrow) k x = some ex → (∀ (H : Heap) (locs : List Loc) (ls : Array Slot), va_P D vwCl (gM cy qM m_base m_f m_many m_figures m_tail m_round m_rounds m_leasts m_likes m_like m_isTwo m_came m_by m_queue m_kind m_parts m_wanted m_allowed m_bitOf m_met m_row m_narrows m_narrow m_isMade) H → va_D A (gM cy qM m_base m_f m_many m_figures m_tail m_round m_rounds m_leasts m_likes m_like m_isTwo m_came m_by m_queue m_kind m_parts m_wanted m_allowed m_bitOf m_met m_row m_narrows m_narrow m_isMade) → va_S A s.heap H locs → lv_has ls 10 [(0, .ref (qM 0)), (1, .int a1), (2, .int a2), (3, .int a3), (7, .int ex)] → W p l e0 rmX11_narrow s m ar below meth c H locs 0 0 Q (F0 m 152 ls [])) → va_P D vwCl (gM cy qM m_base m_f m_many m_figures m_tail m_round m_rounds m_leasts m_likes m_like m_isTwo m_came m_by m_queue m_kind m_parts m_wanted m_allowed m_bitOf m_met m_row m_narrows m_narrow m_isMade) H → va_D A (gM cy qM m_base m_f m_many m_figures m_tail m_round m_rounds m_leasts m_likes m_like m_isTwo m_came m_by m_queue m_kind m_parts m_wanted m_allowed m_bitOf m_met m_row m_narrows m_narrow m_isMade) → va_S A s.heap H locs → lv_has ls 10 [(0, .ref (qM 0)), (1, .int a1), (2, .int a2), (3, .int a3), (7, .int x)] → W p l e0 rmX11_narrow s m ar below meth c H locs 0 0 Q (F0 m 125 ls []) := by
        intro m_many m_figures m_row m_narrows m_narrow k
        induction k with
        | zero => intro x ex H locs ls hf; exact no_some hf
        | succ k ih =>
          intro x ex H locs ls hf hex hP hD hS hl
          have hf : f_X11_narrow_B125 F m_base m_many m_figures m_row m_narrows m_narrow (lp (f_X11_narrow_B125 F m_base m_many m_figures m_row m_narrows m_narrow) k) x = some ex := hf
          unfold f_X11_narrow_B125 at hf
          refine lv_iload hx hb dX11_narrow_125 (lv_at hl 4 rfl) ?_
          refine lv_if_lt (tgt := 152) hx hb dX11_narrow_127 (by decide) (fun c7 => ?_) (fun c7 => ?_)
          · have hf := if_t hf c7
            obtain rfl := Option.some.inj hf
            exact hex _ _ _ hP hD hS (lv_sub hl [0, 1, 2, 3, 4] rfl)
          · have hf := if_f hf c7
            refine lv_aload_n hx hb dX11_narrow_130 rfl (lv_at hl 0 rfl) ?_
            refine va_get (v := .ref (qM 10)) (D := D) (ci := 11) (C := RX11) (T := TX11) (N := 24) hx hb hts huX11 hown hK hP 0 rfl rfl 20 (by decide) fk44 (fun _ h9 => h9) rfl dX11_narrow_131 ?_
            refine lv_iload hx hb dX11_narrow_134 (lv_at hl 4 rfl) ?_
            obtain ⟨c8, hf⟩ := ck_some hf
            refine va_iald hx hb hK hP 10 0 rfl rfl c8 dX11_narrow_136 ?_
            refine lv_aload_n hx hb dX11_narrow_137 rfl (lv_at hl 0 rfl) ?_
            refine va_get (D := D) (ci := 11) (C := RX11) (T := TX11) (N := 24) hx hb hts huX11 hown hK hP 0 rfl rfl 0 (by decide) fk7 (fun _ h9 => h9) rfl dX11_narrow_138 ?_
            refine lv_iconst (v := (1 : Int32)) hx hb dX11_narrow_141 (by decide) ?_
            refine lv_isub hx hb dX11_narrow_142 ?_
            refine lv_icmp_ne (tgt := 152) hx hb dX11_narrow_143 (by decide) (fun c9 => ?_) (fun c9 => ?_)
            · have hf := if_f hf c9
              obtain rfl := Option.some.inj hf
              exact hex _ _ _ hP hD hS (lv_sub hl [0, 1, 2, 3, 4] rfl)
            · have hf := if_t hf c9
              refine lv_iinc (v := (x + (-1 : Int32))) (lv' := [(7, .int (x + (-1 : Int32))), (0, .ref (qM 0)), (1, .int a1), (2, .int a2), (3, .int a3)]) hx hb dX11_narrow_146 hl (k := 4) rfl rfl (by decide) rfl (fun ls hl => ?_)
              refine lv_goto (tgt := 125) hx hb dX11_narrow_149 (by decide) ?_
              exact ih (x + (-1 : Int32)) ex _ _ _ hf hex hP hD hS (lv_sub hl [1, 2, 3, 4, 0] rfl)
      have hJ120 : ∀ (m_many : Int32) (m_figures : Nat → Int32) (m_row : Nat → Int32) (m_narrows : Int32) (m_narrow : Nat → Int64) (H : Heap) (locs : List Loc) (ls : Array Slot), f_X11_narrow_J120 F a1 m_base (lp (f_X11_narrow_B64 F a1 a2 m_base) k) m_many m_figures m_row m_narrows m_narrow = some ex → va_P D vwCl (gM cy qM m_base m_f m_many m_figures m_tail m_round m_rounds m_leasts m_likes m_like m_isTwo m_came m_by m_queue m_kind m_parts m_wanted m_allowed m_bitOf m_met m_row m_narrows m_narrow m_isMade) H → va_D A (gM cy qM m_base m_f m_many m_figures m_tail m_round m_rounds m_leasts m_likes m_like m_isTwo m_came m_by m_queue m_kind m_parts m_wanted m_allowed m_bitOf m_met m_row m_narrows m_narrow m_isMade) → va_S A s.heap H locs → lv_has ls 10 [(0, .ref (qM 0)), (1, .int a1), (2, .int a2), (3, .int a3)] → W p l e0 rmX11_narrow s m ar below meth c H locs 0 0 Q (F0 m 120 ls []) := by
        intro m_many m_figures m_row m_narrows m_narrow H locs ls hf hP hD hS hl
        unfold f_X11_narrow_J120 at hf
        refine lv_iload_n hx hb dX11_narrow_120 rfl (lv_at hl 1 rfl) ?_
        refine lv_iconst (v := (1 : Int32)) hx hb dX11_narrow_121 (by decide) ?_
        refine lv_isub hx hb dX11_narrow_122 ?_
        refine lv_istore (lv' := [(7, .int (a1 - (1 : Int32))), (0, .ref (qM 0)), (1, .int a1), (2, .int a2), (3, .int a3)]) hx hb dX11_narrow_123 hl (by decide) rfl (fun ls hl => ?_)
        obtain ⟨ex10, hcl, hf⟩ := ob_some hf
        refine hL125 m_many m_figures m_row m_narrows m_narrow F (a1 - (1 : Int32)) ex10 _ _ _ hcl (fun H locs ls hP hD hS hl => ?_) hP hD hS (lv_sub hl [1, 2, 3, 4, 0] rfl)
        refine lv_iload hx hb dX11_narrow_152 (lv_at hl 4 rfl) ?_
        refine lv_if_lt (tgt := 161) hx hb dX11_narrow_154 (by decide) (fun c11 => ?_) (fun c11 => ?_)
        · have hf := if_t hf c11
          refine lv_iconst (v := (0 : Int32)) hx hb dX11_narrow_161 (by decide) ?_
          exact hJ162 ex10 (0 : Int32) m_many m_figures m_row m_narrows m_narrow _ _ _ hf hP hD hS (lv_sub hl [0, 1, 2, 3, 4] rfl)
        · have hf := if_f hf c11
          refine lv_iconst (v := (1 : Int32)) hx hb dX11_narrow_157 (by decide) ?_
          refine lv_goto (tgt := 162) hx hb dX11_narrow_158 (by decide) ?_
          exact hJ162 ex10 (1 : Int32) m_many m_figures m_row m_narrows m_narrow _ _ _ hf hP hD hS (lv_sub hl [0, 1, 2, 3, 4] rfl)
      have hL75 : ∀ (m_many : Int32) (m_figures : Nat → Int32) (m_row : Nat → Int32) (m_narrows : Int32) (m_narrow : Nat → Int64) (k : Nat) (x : Int64 × Int32) (ex : Int64) (H : Heap) (locs : List Loc) (ls : Array Slot), lp (f_X11_narrow_B75 F a1 a2 m_many m_figures m_row m_narrows m_narrow) k x = some ex → (∀ (H : Heap) (locs : List Loc) (ls : Array Slot), va_P D vwCl (gM cy qM m_base m_f m_many m_figures m_tail m_round m_rounds m_leasts m_likes m_like m_isTwo m_came m_by m_queue m_kind m_parts m_wanted m_allowed m_bitOf m_met m_row m_narrows m_narrow m_isMade) H → va_D A (gM cy qM m_base m_f m_many m_figures m_tail m_round m_rounds m_leasts m_likes m_like m_isTwo m_came m_by m_queue m_kind m_parts m_wanted m_allowed m_bitOf m_met m_row m_narrows m_narrow m_isMade) → va_S A s.heap H locs → lv_has ls 10 [(0, .ref (qM 0)), (1, .int a1), (2, .int a2), (3, .int a3), (5, .long ex)] → W p l e0 rmX11_narrow s m ar below meth c H locs 0 0 Q (F0 m 104 ls [])) → va_P D vwCl (gM cy qM m_base m_f m_many m_figures m_tail m_round m_rounds m_leasts m_likes m_like m_isTwo m_came m_by m_queue m_kind m_parts m_wanted m_allowed m_bitOf m_met m_row m_narrows m_narrow m_isMade) H → va_D A (gM cy qM m_base m_f m_many m_figures m_tail m_round m_rounds m_leasts m_likes m_like m_isTwo m_came m_by m_queue m_kind m_parts m_wanted m_allowed m_bitOf m_met m_row m_narrows m_narrow m_isMade) → va_S A s.heap H locs → lv_has ls 10 [(0, .ref (qM 0)), (1, .int a1), (2, .int a2), (3, .int a3), (5, .long x.1), (7, .int x.2)] → W p l e0 rmX11_narrow s m ar below meth c H locs 0 0 Q (F0 m 75 ls []) := by
        intro m_many m_figures m_row m_narrows m_narrow k
        induction k with
        | zero => intro x ex H locs ls hf; exact no_some hf
        | succ k ih =>
          intro x ex H locs ls hf hex hP hD hS hl
          have hf : f_X11_narrow_B75 F a1 a2 m_many m_figures m_row m_narrows m_narrow (lp (f_X11_narrow_B75 F a1 a2 m_many m_figures m_row m_narrows m_narrow) k) x = some ex := hf
          unfold f_X11_narrow_B75 at hf
          refine lv_iload hx hb dX11_narrow_75 (lv_at hl 5 rfl) ?_
          refine lv_iload_n hx hb dX11_narrow_77 rfl (lv_at hl 1 rfl) ?_
          refine lv_icmp_ge (tgt := 104) hx hb dX11_narrow_78 (by decide) (fun c12 => ?_) (fun c12 => ?_)
          · have hf := if_t hf c12
            obtain rfl := Option.some.inj hf
            exact hex _ _ _ hP hD hS (lv_sub hl [0, 1, 2, 3, 4] rfl)
          · have hf := if_f hf c12
            refine lv_lload hx hb dX11_narrow_81 (lv_at hl 4 rfl) ?_
            refine lv_aload_n hx hb dX11_narrow_83 rfl (lv_at hl 0 rfl) ?_
            refine lv_aload_n hx hb dX11_narrow_84 rfl (lv_at hl 0 rfl) ?_
            refine va_get (v := .ref (qM 10)) (D := D) (ci := 11) (C := RX11) (T := TX11) (N := 24) hx hb hts huX11 hown hK hP 0 rfl rfl 20 (by decide) fk44 (fun _ h9 => h9) rfl dX11_narrow_85 ?_
            refine lv_iload hx hb dX11_narrow_88 (lv_at hl 5 rfl) ?_
            obtain ⟨c13, hf⟩ := ck_some hf
            refine va_iald hx hb hK hP 10 0 rfl rfl c13 dX11_narrow_90 ?_
            refine lv_iload_n hx hb dX11_narrow_91 rfl (lv_at hl 2 rfl) ?_
            obtain ⟨r14, hc15, hf⟩ := ob_some hf
            refine kc_l (k_run ⟨hx, hb, hml, hown, hts⟩ (c_X11_toThe hc15) (cwV 2 hts gX11_narrow_X11_toThe rfl rfl rfl (by decide +kernel) ⟨Nat.le_of_ble_eq_true rfl, Nat.le_of_ble_eq_true rfl⟩) hK hN hP hD kA_s (ci := 11) (q0 := 0) rfl rfl rfl rfl hl.1 rfl (Nat.le_of_ble_eq_true rfl) dX11_narrow_92 ⟨Nat.le_of_ble_eq_true rfl, Nat.le_of_ble_eq_true rfl⟩) hP hD hS hA kI_s (fun _ H locs hP hD hS => ?_)
            refine lv_ladd hx hb dX11_narrow_95 ?_
            refine lv_lstore (lv' := [(5, .long (x.1 + r14)), (0, .ref (qM 0)), (1, .int a1), (2, .int a2), (3, .int a3), (7, .int x.2)]) hx hb dX11_narrow_96 hl (by decide) rfl (fun ls hl => ?_)
            refine lv_iinc (v := (x.2 + (1 : Int32))) (lv' := [(7, .int (x.2 + (1 : Int32))), (5, .long (x.1 + r14)), (0, .ref (qM 0)), (1, .int a1), (2, .int a2), (3, .int a3)]) hx hb dX11_narrow_98 hl (k := 5) rfl rfl (by decide) rfl (fun ls hl => ?_)
            refine lv_goto (tgt := 75) hx hb dX11_narrow_101 (by decide) ?_
            exact ih ((x.1 + r14), (x.2 + (1 : Int32))) ex _ _ _ hf hex hP hD hS (lv_sub hl [2, 3, 4, 5, 1, 0] rfl)
      refine lv_iload hx hb dX11_narrow_64 (lv_at hl 4 rfl) ?_
      refine lv_if_eq (tgt := 221) hx hb dX11_narrow_66 (by decide) (fun c16 => ?_) (fun c16 => ?_)
      · have hf := if_t hf c16
        obtain rfl := Option.some.inj hf
        exact hex _ _ _ hP hD hS (lv_sub hl [0, 3] rfl)
      · have hf := if_f hf c16
        refine lv_lconst (v := (0 : Int64)) hx hb dX11_narrow_69 (by decide) ?_
        refine lv_lstore (lv' := [(5, .long (0 : Int64)), (0, .ref (qM 0)), (1, .int a1), (2, .int a2), (3, .int a3), (4, .int x.1)]) hx hb dX11_narrow_70 hl (by decide) rfl (fun ls hl => ?_)
        refine lv_iconst (v := (0 : Int32)) hx hb dX11_narrow_72 (by decide) ?_
        refine lv_istore (lv' := [(7, .int (0 : Int32)), (5, .long (0 : Int64)), (0, .ref (qM 0)), (1, .int a1), (2, .int a2), (3, .int a3), (4, .int x.1)]) hx hb dX11_narrow_73 hl (by decide) rfl (fun ls hl => ?_)
        obtain ⟨ex17, hcl, hf⟩ := ob_some hf
        refine hL75 x.2.1 x.2.2.1 x.2.2.2.1 x.2.2.2.2.1 x.2.2.2.2.2 F ((0 : Int64), (0 : Int32)) ex17 _ _ _ hcl (fun H locs ls hP hD hS hl => ?_) hP hD hS (lv_sub hl [2, 3, 4, 5, 1, 0] rfl)
        refine lv_aload_n hx hb dX11_narrow_104 rfl (lv_at hl 0 rfl) ?_
        refine lv_lload hx hb dX11_narrow_105 (lv_at hl 4 rfl) ?_
        refine lv_iload_n hx hb dX11_narrow_107 rfl (lv_at hl 1 rfl) ?_
        obtain ⟨r18, hc19, hf⟩ := ob_some hf
        refine kc_i (k_run ⟨hx, hb, hml, hown, hts⟩ (c_X11_hasRow hc19) (cwV 2 hts gX11_narrow_X11_hasRow rfl rfl rfl (by decide +kernel) ⟨Nat.le_of_ble_eq_true rfl, Nat.le_of_ble_eq_true rfl⟩) hK hN hP hD kA_s (ci := 11) (q0 := 0) rfl rfl rfl rfl hl.1 rfl (Nat.le_of_ble_eq_true rfl) dX11_narrow_108 ⟨Nat.le_of_ble_eq_true rfl, Nat.le_of_ble_eq_true rfl⟩) hP hD hS hA kI_s (fun _ H locs hP hD hS => ?_)
        refine lv_if_eq (tgt := 120) hx hb dX11_narrow_111 (by decide) (fun c20 => ?_) (fun c20 => ?_)
        · have hf := if_t hf c20
          exact hJ120 r18.2.1 r18.2.2 x.2.2.2.1 x.2.2.2.2.1 x.2.2.2.2.2 _ _ _ hf hP hD hS (lv_sub hl [0, 1, 2, 3] rfl)
        · have hf := if_f hf c20
          refine lv_aload_n hx hb dX11_narrow_114 rfl (lv_at hl 0 rfl) ?_
          refine lv_lload hx hb dX11_narrow_115 (lv_at hl 4 rfl) ?_
          obtain ⟨r21, hc22, hf⟩ := ob_some hf
          refine kc_v (k_run ⟨hx, hb, hml, hown, hts⟩ (c_X11_addNarrow hc22) (cwV 1 hts gX11_narrow_X11_addNarrow rfl rfl rfl (by decide +kernel) ⟨Nat.le_of_ble_eq_true rfl, Nat.le_of_ble_eq_true rfl⟩) hK hN hP hD kA_s (ci := 11) (q0 := 0) rfl rfl rfl rfl hl.1 rfl (Nat.le_of_ble_eq_true rfl) dX11_narrow_117 ⟨Nat.le_of_ble_eq_true rfl, Nat.le_of_ble_eq_true rfl⟩) hP hD hS hA kI_s (fun _ H locs hP hD hS => ?_)
          exact hJ120 r18.2.1 r18.2.2 x.2.2.2.1 r21.1 r21.2 _ _ _ hf hP hD hS (lv_sub hl [0, 1, 2, 3] rfl)
  have hL41 : ∀ (m_many : Int32) (m_figures : Nat → Int32) (m_narrows : Int32) (m_narrow : Nat → Int64) (k : Nat) (x : Int32 × (Nat → Int32)) (ex : (Nat → Int32)) (H : Heap) (locs : List Loc) (ls : Array Slot), lp (f_X11_narrow_B41 F a1 m_many m_figures m_narrows m_narrow) k x = some ex → (∀ (H : Heap) (locs : List Loc) (ls : Array Slot), va_P D vwCl (gM cy qM m_base m_f m_many m_figures m_tail m_round m_rounds m_leasts m_likes m_like m_isTwo m_came m_by m_queue m_kind m_parts m_wanted m_allowed m_bitOf m_met ex m_narrows m_narrow m_isMade) H → va_D A (gM cy qM m_base m_f m_many m_figures m_tail m_round m_rounds m_leasts m_likes m_like m_isTwo m_came m_by m_queue m_kind m_parts m_wanted m_allowed m_bitOf m_met ex m_narrows m_narrow m_isMade) → va_S A s.heap H locs → lv_has ls 10 [(0, .ref (qM 0)), (1, .int a1), (2, .int a2), (3, .int a3)] → W p l e0 rmX11_narrow s m ar below meth c H locs 0 0 Q (F0 m 61 ls [])) → va_P D vwCl (gM cy qM m_base m_f m_many m_figures m_tail m_round m_rounds m_leasts m_likes m_like m_isTwo m_came m_by m_queue m_kind m_parts m_wanted m_allowed m_bitOf m_met x.2 m_narrows m_narrow m_isMade) H → va_D A (gM cy qM m_base m_f m_many m_figures m_tail m_round m_rounds m_leasts m_likes m_like m_isTwo m_came m_by m_queue m_kind m_parts m_wanted m_allowed m_bitOf m_met x.2 m_narrows m_narrow m_isMade) → va_S A s.heap H locs → lv_has ls 10 [(0, .ref (qM 0)), (1, .int a1), (2, .int a2), (3, .int a3), (4, .int x.1)] → W p l e0 rmX11_narrow s m ar below meth c H locs 0 0 Q (F0 m 41 ls []) := by
    intro m_many m_figures m_narrows m_narrow k
    induction k with
    | zero => intro x ex H locs ls hf; exact no_some hf
    | succ k ih =>
      intro x ex H locs ls hf hex hP hD hS hl
      have hf : f_X11_narrow_B41 F a1 m_many m_figures m_narrows m_narrow (lp (f_X11_narrow_B41 F a1 m_many m_figures m_narrows m_narrow) k) x = some ex := hf
      unfold f_X11_narrow_B41 at hf
      refine lv_iload hx hb dX11_narrow_41 (lv_at hl 4 rfl) ?_
      refine lv_iload_n hx hb dX11_narrow_43 rfl (lv_at hl 1 rfl) ?_
      refine lv_icmp_ge (tgt := 61) hx hb dX11_narrow_44 (by decide) (fun c23 => ?_) (fun c23 => ?_)
      · have hf := if_t hf c23
        obtain rfl := Option.some.inj hf
        exact hex _ _ _ hP hD hS (lv_sub hl [0, 1, 2, 3] rfl)
      · have hf := if_f hf c23
        refine lv_aload_n hx hb dX11_narrow_47 rfl (lv_at hl 0 rfl) ?_
        refine va_get (v := .ref (qM 10)) (D := D) (ci := 11) (C := RX11) (T := TX11) (N := 24) hx hb hts huX11 hown hK hP 0 rfl rfl 20 (by decide) fk44 (fun _ h9 => h9) rfl dX11_narrow_48 ?_
        refine lv_iload hx hb dX11_narrow_51 (lv_at hl 4 rfl) ?_
        refine lv_iconst (v := (0 : Int32)) hx hb dX11_narrow_53 (by decide) ?_
        obtain ⟨c24, hf⟩ := ck_some hf
        refine va_iast hx hb hK hP hD hS 10 0 rfl rfl c24 dX11_narrow_54 (fun H locs hP hD hS => ?_)
        have hP : va_P D vwCl (gM cy qM m_base m_f m_many m_figures m_tail m_round m_rounds m_leasts m_likes m_like m_isTwo m_came m_by m_queue m_kind m_parts m_wanted m_allowed m_bitOf m_met (upd x.2 x.1.toNatClampNeg (0 : Int32)) m_narrows m_narrow m_isMade) H := hP
        have hD : va_D A (gM cy qM m_base m_f m_many m_figures m_tail m_round m_rounds m_leasts m_likes m_like m_isTwo m_came m_by m_queue m_kind m_parts m_wanted m_allowed m_bitOf m_met (upd x.2 x.1.toNatClampNeg (0 : Int32)) m_narrows m_narrow m_isMade) := hD
        refine lv_iinc (v := (x.1 + (1 : Int32))) (lv' := [(4, .int (x.1 + (1 : Int32))), (0, .ref (qM 0)), (1, .int a1), (2, .int a2), (3, .int a3)]) hx hb dX11_narrow_55 hl (k := 4) rfl rfl (by decide) rfl (fun ls hl => ?_)
        refine lv_goto (tgt := 41) hx hb dX11_narrow_58 (by decide) ?_
        exact ih ((x.1 + (1 : Int32)), (upd x.2 x.1.toNatClampNeg (0 : Int32))) ex _ _ _ hf hex hP hD hS (lv_sub hl [1, 2, 3, 4, 0] rfl)
  have hJ29 : ∀ (m_many : Int32) (m_figures : Nat → Int32) (m_row : Nat → Int32) (m_narrows : Int32) (m_narrow : Nat → Int64) (H : Heap) (locs : List Loc) (ls : Array Slot), f_X11_narrow_J29 F m_many m_figures m_row m_narrows m_narrow = some res → va_P D vwCl (gM cy qM m_base m_f m_many m_figures m_tail m_round m_rounds m_leasts m_likes m_like m_isTwo m_came m_by m_queue m_kind m_parts m_wanted m_allowed m_bitOf m_met m_row m_narrows m_narrow m_isMade) H → va_D A (gM cy qM m_base m_f m_many m_figures m_tail m_round m_rounds m_leasts m_likes m_like m_isTwo m_came m_by m_queue m_kind m_parts m_wanted m_allowed m_bitOf m_met m_row m_narrows m_narrow m_isMade) → va_S A s.heap H locs → lv_has ls 10 [] → W p l e0 rmX11_narrow s m ar below meth c H locs 0 0 Q (F0 m 29 ls []) := by
    intro m_many m_figures m_row m_narrows m_narrow H locs ls hf hP hD hS hl
    unfold f_X11_narrow_J29 at hf
    refine lv_ldc2 (v := (-1 : Int64)) hx hb hown fk95 dX11_narrow_29 ?_
    obtain rfl := Option.some.inj hf
    exact hQ () 32 _ _ _ dX11_narrow_32 hP hD hS
  refine lv_iload_n hx hb dX11_narrow_0 rfl (lv_at hl 1 rfl) ?_
  refine lv_i2l hx hb dX11_narrow_1 rfl ?_
  refine lv_lconst (v := (1 : Int64)) hx hb dX11_narrow_2 (by decide) ?_
  refine lv_ldc2 (v := (6 : Int64)) hx hb hown fk201 dX11_narrow_3 ?_
  obtain ⟨r25, hc26, hf⟩ := ob_some hf
  refine kc_i (k_runS ⟨hx, hb, hml, hown, hts⟩ (c_X11_in hc26) (va_cwS 3 hts gX11_narrow_X11_in rfl rfl rfl (by decide +kernel) ⟨Nat.le_of_ble_eq_true rfl, Nat.le_of_ble_eq_true rfl⟩) hK hN hP hD kA_0 rfl hl.1 rfl (Nat.le_of_ble_eq_true rfl) dX11_narrow_6 ⟨Nat.le_of_ble_eq_true rfl, Nat.le_of_ble_eq_true rfl⟩) hP hD hS hA kI_0 (fun _ H locs hP hD hS => ?_)
  refine lv_if_eq (tgt := 29) hx hb dX11_narrow_9 (by decide) (fun c27 => ?_) (fun c27 => ?_)
  · have hf := if_t hf c27
    exact hJ29 m_many m_figures m_row m_narrows m_narrow _ _ _ hf hP hD hS (lv_sub hl [] rfl)
  · have hf := if_f hf c27
    refine lv_iload_n hx hb dX11_narrow_12 rfl (lv_at hl 2 rfl) ?_
    refine lv_i2l hx hb dX11_narrow_13 rfl ?_
    refine lv_lconst (v := (1 : Int64)) hx hb dX11_narrow_14 (by decide) ?_
    refine lv_ldc2 (v := (6 : Int64)) hx hb hown fk201 dX11_narrow_15 ?_
    obtain ⟨r28, hc29, hf⟩ := ob_some hf
    refine kc_i (k_runS ⟨hx, hb, hml, hown, hts⟩ (c_X11_in hc29) (va_cwS 3 hts gX11_narrow_X11_in rfl rfl rfl (by decide +kernel) ⟨Nat.le_of_ble_eq_true rfl, Nat.le_of_ble_eq_true rfl⟩) hK hN hP hD kA_0 rfl hl.1 rfl (Nat.le_of_ble_eq_true rfl) dX11_narrow_18 ⟨Nat.le_of_ble_eq_true rfl, Nat.le_of_ble_eq_true rfl⟩) hP hD hS hA kI_0 (fun _ H locs hP hD hS => ?_)
    refine lv_if_eq (tgt := 29) hx hb dX11_narrow_21 (by decide) (fun c30 => ?_) (fun c30 => ?_)
    · have hf := if_t hf c30
      exact hJ29 m_many m_figures m_row m_narrows m_narrow _ _ _ hf hP hD hS (lv_sub hl [] rfl)
    · have hf := if_f hf c30
      refine lv_iload_n hx hb dX11_narrow_24 rfl (lv_at hl 3 rfl) ?_
      refine lv_iconst (v := (-1 : Int32)) hx hb dX11_narrow_25 (by decide) ?_
      refine lv_icmp_ge (tgt := 33) hx hb dX11_narrow_26 (by decide) (fun c31 => ?_) (fun c31 => ?_)
      · have hf := if_t hf c31
        refine lv_aload_n hx hb dX11_narrow_33 rfl (lv_at hl 0 rfl) ?_
        refine lv_iconst (v := (0 : Int32)) hx hb dX11_narrow_34 (by decide) ?_
        refine va_put (D := D) (ci := 11) (v := .int (0 : Int32)) (ty := .int) (C := RX11) (T := TX11) (N := 24) hx hb hts huX11 tyX11 tyX11_ok nmX11 hown hK hP hD hS 0 rfl rfl 21 (by decide) fk198 (fun _ h9 => h9) rfl (tyX11_ok 21 (by decide)) rfl rfl (Nat.le_of_ble_eq_true rfl) dX11_narrow_35 (fun H locs hP hD hS => ?_)
        have hP : va_P D vwCl (gM cy qM m_base m_f m_many m_figures m_tail m_round m_rounds m_leasts m_likes m_like m_isTwo m_came m_by m_queue m_kind m_parts m_wanted m_allowed m_bitOf m_met m_row (0 : Int32) m_narrow m_isMade) H := hP
        have hD : va_D A (gM cy qM m_base m_f m_many m_figures m_tail m_round m_rounds m_leasts m_likes m_like m_isTwo m_came m_by m_queue m_kind m_parts m_wanted m_allowed m_bitOf m_met m_row (0 : Int32) m_narrow m_isMade) := hD
        refine lv_iconst (v := (0 : Int32)) hx hb dX11_narrow_38 (by decide) ?_
        refine lv_istore (lv' := [(4, .int (0 : Int32)), (0, .ref (qM 0)), (1, .int a1), (2, .int a2), (3, .int a3)]) hx hb dX11_narrow_39 hl (by decide) rfl (fun ls hl => ?_)
        obtain ⟨ex32, hcl, hf⟩ := ob_some hf
        refine hL41 m_many m_figures (0 : Int32) m_narrow F ((0 : Int32), m_row) ex32 _ _ _ hcl (fun H locs ls hP hD hS hl => ?_) hP hD hS (lv_sub hl [1, 2, 3, 4, 0] rfl)
        refine lv_iconst (v := (1 : Int32)) hx hb dX11_narrow_61 (by decide) ?_
        refine lv_istore (lv' := [(4, .int (1 : Int32)), (0, .ref (qM 0)), (1, .int a1), (2, .int a2), (3, .int a3)]) hx hb dX11_narrow_62 hl (by decide) rfl (fun ls hl => ?_)
        obtain ⟨ex33, hcl, hf⟩ := ob_some hf
        refine hL64 F ((1 : Int32), m_many, m_figures, ex32, (0 : Int32), m_narrow) ex33 _ _ _ hcl (fun H locs ls hP hD hS hl => ?_) hP hD hS (lv_sub hl [1, 2, 3, 4, 0] rfl)
        refine lv_iload_n hx hb dX11_narrow_221 rfl (lv_at hl 1 rfl) ?_
        refine lv_iconst (v := (-1 : Int32)) hx hb dX11_narrow_222 (by decide) ?_
        refine lv_icmp_ne (tgt := 234) hx hb dX11_narrow_223 (by decide) (fun c34 => ?_) (fun c34 => ?_)
        · have hf := if_f hf c34
          refine lv_iload_n hx hb dX11_narrow_234 rfl (lv_at hl 1 rfl) ?_
          refine lv_aload_n hx hb dX11_narrow_235 rfl (lv_at hl 0 rfl) ?_
          refine va_get (D := D) (ci := 11) (C := RX11) (T := TX11) (N := 24) hx hb hts huX11 hown hK hP 0 rfl rfl 21 (by decide) fk198 (fun _ h9 => h9) rfl dX11_narrow_236 ?_
          refine lv_icmp_ge (tgt := 251) hx hb dX11_narrow_239 (by decide) (fun c35 => ?_) (fun c35 => ?_)
          · have hf := if_t hf c35
            refine lv_ldc2 (v := (-4 : Int64)) hx hb hown fk111 dX11_narrow_251 ?_
            exact hJ254 (-4 : Int64) ex33.1 ex33.2.1 ex33.2.2.1 ex33.2.2.2.1 ex33.2.2.2.2 _ _ _ hf hP hD hS (lv_sub hl [] rfl)
          · have hf := if_f hf c35
            refine lv_aload_n hx hb dX11_narrow_242 rfl (lv_at hl 0 rfl) ?_
            refine va_get (v := .ref (qM 11)) (D := D) (ci := 11) (C := RX11) (T := TX11) (N := 24) hx hb hts huX11 hown hK hP 0 rfl rfl 22 (by decide) fk47 (fun _ h9 => h9) rfl dX11_narrow_243 ?_
            refine lv_iload_n hx hb dX11_narrow_246 rfl (lv_at hl 1 rfl) ?_
            obtain ⟨c36, hf⟩ := ck_some hf
            refine va_lald hx hb hK hP 11 1 rfl rfl c36 dX11_narrow_247 ?_
            refine lv_goto (tgt := 254) hx hb dX11_narrow_248 (by decide) ?_
            exact hJ254 (ex33.2.2.2.2 a3.toNatClampNeg) ex33.1 ex33.2.1 ex33.2.2.1 ex33.2.2.2.1 ex33.2.2.2.2 _ _ _ hf hP hD hS (lv_sub hl [] rfl)
        · have hf := if_t hf c34
          refine lv_aload_n hx hb dX11_narrow_226 rfl (lv_at hl 0 rfl) ?_
          refine va_get (D := D) (ci := 11) (C := RX11) (T := TX11) (N := 24) hx hb hts huX11 hown hK hP 0 rfl rfl 21 (by decide) fk198 (fun _ h9 => h9) rfl dX11_narrow_227 ?_
          refine lv_i2l hx hb dX11_narrow_230 rfl ?_
          refine lv_goto (tgt := 254) hx hb dX11_narrow_231 (by decide) ?_
          exact hJ254 ex33.2.2.2.1.toInt64 ex33.1 ex33.2.1 ex33.2.2.1 ex33.2.2.2.1 ex33.2.2.2.2 _ _ _ hf hP hD hS (lv_sub hl [] rfl)
      · have hf := if_f hf c31
        exact hJ29 m_many m_figures m_row m_narrows m_narrow _ _ _ hf hP hD hS (lv_sub hl [] rfl)
def f_X11_bare_J144 (F : Nat) (s0 : Int32) (m_many : Int32) (m_figures : Nat → Int32) (m_isMade : Nat → Int32) : Option (Int32 × Int32 × (Nat → Int32) × (Nat → Int32)) := some (s0, m_many, m_figures, m_isMade)
def f_X11_bare_J125 (F : Nat) (rec : (Int32 × Int32) → Option ((Int32 × Int32 × (Nat → Int32) × (Nat → Int32)) ⊕ (Int32))) (x4 : Int32) (s0 : Int32) (s1 : Int32) : Option ((Int32 × Int32 × (Nat → Int32) × (Nat → Int32)) ⊕ (Int32)) := rec ((s0 + s1), (x4 + (1 : Int32)))
def f_X11_bare_J109 (F : Nat) (m_isMade : Nat → Int32) (rec : (Int32 × Int32) → Option ((Int32 × Int32 × (Nat → Int32) × (Nat → Int32)) ⊕ (Int32))) (x3 : Int32) (x4 : Int32) : Option ((Int32 × Int32 × (Nat → Int32) × (Nat → Int32)) ⊕ (Int32)) := ck (¬ (x4 < 0 ∨ 20001 ≤ x4.toNatClampNeg)) (if (m_isMade x4.toNatClampNeg) = 0 then (f_X11_bare_J125 F rec x4 x3 (1 : Int32)) else (f_X11_bare_J125 F rec x4 x3 (0 : Int32)))
def f_X11_bare_B85 (F : Nat) (a1 : Int32) (a2 : Int32) (m_many : Int32) (m_figures : Nat → Int32) (m_isMade : Nat → Int32) (rec : Int32 × Int32 → Option ((Int32 × Int32 × (Nat → Int32) × (Nat → Int32)) ⊕ (Int32))) (x : Int32 × Int32) : Option ((Int32 × Int32 × (Nat → Int32) × (Nat → Int32)) ⊕ (Int32)) := if a1 < x.2 then (some (.inr x.1)) else (ck (¬ (x.2 < 0 ∨ 20001 ≤ x.2.toNatClampNeg)) (if (m_isMade x.2.toNatClampNeg) = 0 then (if x.1 = a2 then (some (.inl (x.2, m_many, m_figures, m_isMade))) else (f_X11_bare_J109 F m_isMade rec x.1 x.2)) else (f_X11_bare_J109 F m_isMade rec x.1 x.2)))
def f_X11_bare_J74 (F : Nat) (rec : (Int32 × Int32 × (Nat → Int32) × (Nat → Int32)) → Option (Int32 × (Nat → Int32) × (Nat → Int32))) (x3 : Int32) (m_many : Int32) (m_figures : Nat → Int32) (m_isMade : Nat → Int32) : Option (Int32 × (Nat → Int32) × (Nat → Int32)) := rec ((x3 + (1 : Int32)), m_many, m_figures, m_isMade)
def f_X11_bare_B41 (F : Nat) (a1 : Int32) (m_base : Int32) (m_f : Nat → Int32) (rec : Int32 × Int32 × (Nat → Int32) × (Nat → Int32) → Option (Int32 × (Nat → Int32) × (Nat → Int32))) (x : Int32 × Int32 × (Nat → Int32) × (Nat → Int32)) : Option (Int32 × (Nat → Int32) × (Nat → Int32)) := if a1 < x.1 then (some (x.2.1, x.2.2.1, x.2.2.2)) else ((f_X11_sum F x.1.toInt64 m_base m_f x.2.1 x.2.2.1).bind (fun r8 => if a1.toInt64 < (x.1.toInt64 + r8.1) then (f_X11_bare_J74 F rec x.1 r8.2.1 r8.2.2 x.2.2.2) else (ck (¬ ((x.1.toInt64 + r8.1).toInt32 < 0 ∨ 20001 ≤ (x.1.toInt64 + r8.1).toInt32.toNatClampNeg)) (f_X11_bare_J74 F rec x.1 r8.2.1 r8.2.2 (upd x.2.2.2 (x.1.toInt64 + r8.1).toInt32.toNatClampNeg (vp_nar .boolean (1 : Int32)))))))
def f_X11_bare_B21 (F : Nat) (a1 : Int32) (m_many : Int32) (m_figures : Nat → Int32) (rec : Int32 × (Nat → Int32) → Option ((Nat → Int32))) (x : Int32 × (Nat → Int32)) : Option ((Nat → Int32)) := if a1 < x.1 then (some x.2) else (ck (¬ (x.1 < 0 ∨ 20001 ≤ x.1.toNatClampNeg)) (rec ((x.1 + (1 : Int32)), (upd x.2 x.1.toNatClampNeg (vp_nar .boolean (0 : Int32))))))
def f_X11_bare_J17 (F : Nat) (m_many : Int32) (m_figures : Nat → Int32) (m_isMade : Nat → Int32) : Option (Int32 × Int32 × (Nat → Int32) × (Nat → Int32)) := some ((-1 : Int32), m_many, m_figures, m_isMade)
def f_X11_bare (F : Nat) (a1 : Int32) (a2 : Int32) (m_base : Int32) (m_f : Nat → Int32) (m_many : Int32) (m_figures : Nat → Int32) (m_isMade : Nat → Int32) : Option (Int32 × Int32 × (Nat → Int32) × (Nat → Int32)) := (f_X11_in F a1.toInt64 (0 : Int64) (20000 : Int64)).bind (fun r14 => if r14 = 0 then (f_X11_bare_J17 F m_many m_figures m_isMade) else (if (-1 : Int32) ≤ a2 then ((lp (f_X11_bare_B21 F a1 m_many m_figures) F ((0 : Int32), m_isMade)).bind (fun ex18 => (lp (f_X11_bare_B41 F a1 m_base m_f) F ((0 : Int32), m_many, m_figures, ex18)).bind (fun ex19 => (lp (f_X11_bare_B85 F a1 a2 ex19.1 ex19.2.1 ex19.2.2) F ((0 : Int32), (0 : Int32))).bind (fun ex20 => Sum.elim (fun r => some r) (fun er21 => if a2 = (-1 : Int32) then (f_X11_bare_J144 F er21 ex19.1 ex19.2.1 ex19.2.2) else (f_X11_bare_J144 F (-4 : Int32) ex19.1 ex19.2.1 ex19.2.2)) ex20)))) else (f_X11_bare_J17 F m_many m_figures m_isMade)))
abbrev rmX11_bare : Room := { frames := 2, cells := 0, slots := 0, locals := 49 }
set_option maxHeartbeats 1000000 in
set_option maxRecDepth 100000 in
theorem c_X11_bare {l : Launch} {D : va_G} {cy : Nat → ClassId} {qM : Nat → Nat} {m_base : Int32} {m_f : Nat → Int32} {m_many : Int32} {m_figures : Nat → Int32} {m_tail : Int32} {m_round : Int32} {m_rounds : Int32} {m_leasts : Nat → Int64} {m_likes : Int32} {m_like : Nat → Int32} {m_isTwo : Nat → Int32} {m_came : Nat → Int32} {m_by : Nat → Int32} {m_queue : Nat → Int32} {m_kind : Int32} {m_parts : Int32} {m_wanted : Int32} {m_allowed : Int32} {m_bitOf : Nat → Int32} {m_met : Int32} {m_row : Nat → Int32} {m_narrows : Int32} {m_narrow : Nat → Int64} {m_isMade : Nat → Int32} {a1 : Int32} {a2 : Int32} {F : Nat} {res : Int32 × Int32 × (Nat → Int32) × (Nat → Int32)} (hf : f_X11_bare F a1 a2 m_base m_f m_many m_figures m_isMade = some res) : kM l yX11_bare wsX11_bare rmX11_bare D cy [.ref (qM 0), .int a1, .int a2] (gM cy qM m_base m_f m_many m_figures m_tail m_round m_rounds m_leasts m_likes m_like m_isTwo m_came m_by m_queue m_kind m_parts m_wanted m_allowed m_bitOf m_met m_row m_narrows m_narrow m_isMade) (kQi D cy (fun _ : Unit => gM cy qM m_base m_f res.2.1 res.2.2.1 m_tail m_round m_rounds m_leasts m_likes m_like m_isTwo m_came m_by m_queue m_kind m_parts m_wanted m_allowed m_bitOf m_met m_row m_narrows m_narrow res.2.2.2) res.1) := by
  refine kent_i (cc := cX11_bare) (maxL := 6) (by decide) rfl (Nat.le_of_ble_eq_true rfl) ?_
  intro p e0 s m ar below meth c A Q ls ⟨hx, hb, hml, hr, hts, hown, hlocks, hnm⟩ hA hK hN hQ hP hD hS hl
  have hl : lv_has ls 6 [(0, .ref (qM 0)), (1, .int a1), (2, .int a2)] := hl
  have hown : s.vm.findClass RX11 = some m.cls := hown
  have huX11 : ∀ x ∈ u_ws RX11 TX11 24, x ∈ wsX11_bare := by decide +kernel
  have fk50 : (Cond.fieldLink RX11 50 "FigurePlayModel" "isMade" "[Z").before ar s = true := hts _ (by decide +kernel)
  have fk116 : (Cond.constantLong RX11 116 (20000)).before ar s = true := hts _ (by decide +kernel)
  unfold f_X11_bare at hf
  have hJ144 : ∀ (s0 : Int32) (m_many : Int32) (m_figures : Nat → Int32) (m_isMade : Nat → Int32) (H : Heap) (locs : List Loc) (ls : Array Slot), f_X11_bare_J144 F s0 m_many m_figures m_isMade = some res → va_P D vwCl (gM cy qM m_base m_f m_many m_figures m_tail m_round m_rounds m_leasts m_likes m_like m_isTwo m_came m_by m_queue m_kind m_parts m_wanted m_allowed m_bitOf m_met m_row m_narrows m_narrow m_isMade) H → va_D A (gM cy qM m_base m_f m_many m_figures m_tail m_round m_rounds m_leasts m_likes m_like m_isTwo m_came m_by m_queue m_kind m_parts m_wanted m_allowed m_bitOf m_met m_row m_narrows m_narrow m_isMade) → va_S A s.heap H locs → lv_has ls 6 [] → W p l e0 rmX11_bare s m ar below meth c H locs 0 0 Q (F0 m 144 ls [.int s0]) := by
    intro s0 m_many m_figures m_isMade H locs ls hf hP hD hS hl
    unfold f_X11_bare_J144 at hf
    obtain rfl := Option.some.inj hf
    exact hQ () 144 _ _ _ dX11_bare_144 hP hD hS
  have hL85 : ∀ (m_many : Int32) (m_figures : Nat → Int32) (m_isMade : Nat → Int32) (k : Nat) (x : Int32 × Int32) (ex : (Int32 × Int32 × (Nat → Int32) × (Nat → Int32)) ⊕ (Int32)) (H : Heap) (locs : List Loc) (ls : Array Slot), lp (f_X11_bare_B85 F a1 a2 m_many m_figures m_isMade) k x = some ex → (∀ r, ex = .inl r → r = res) → (∀ er, ex = .inr er → ∀ (H : Heap) (locs : List Loc) (ls : Array Slot), va_P D vwCl (gM cy qM m_base m_f m_many m_figures m_tail m_round m_rounds m_leasts m_likes m_like m_isTwo m_came m_by m_queue m_kind m_parts m_wanted m_allowed m_bitOf m_met m_row m_narrows m_narrow m_isMade) H → va_D A (gM cy qM m_base m_f m_many m_figures m_tail m_round m_rounds m_leasts m_likes m_like m_isTwo m_came m_by m_queue m_kind m_parts m_wanted m_allowed m_bitOf m_met m_row m_narrows m_narrow m_isMade) → va_S A s.heap H locs → lv_has ls 6 [(2, .int a2), (3, .int er)] → W p l e0 rmX11_bare s m ar below meth c H locs 0 0 Q (F0 m 133 ls [])) → va_P D vwCl (gM cy qM m_base m_f m_many m_figures m_tail m_round m_rounds m_leasts m_likes m_like m_isTwo m_came m_by m_queue m_kind m_parts m_wanted m_allowed m_bitOf m_met m_row m_narrows m_narrow m_isMade) H → va_D A (gM cy qM m_base m_f m_many m_figures m_tail m_round m_rounds m_leasts m_likes m_like m_isTwo m_came m_by m_queue m_kind m_parts m_wanted m_allowed m_bitOf m_met m_row m_narrows m_narrow m_isMade) → va_S A s.heap H locs → lv_has ls 6 [(0, .ref (qM 0)), (1, .int a1), (2, .int a2), (3, .int x.1), (4, .int x.2)] → W p l e0 rmX11_bare s m ar below meth c H locs 0 0 Q (F0 m 85 ls []) := by
    intro m_many m_figures m_isMade k
    induction k with
    | zero => intro x ex H locs ls hf; exact no_some hf
    | succ k ih =>
      intro x ex H locs ls hf hret hex hP hD hS hl
      have hf : f_X11_bare_B85 F a1 a2 m_many m_figures m_isMade (lp (f_X11_bare_B85 F a1 a2 m_many m_figures m_isMade) k) x = some ex := hf
      unfold f_X11_bare_B85 at hf
      have hJ125 : ∀ (x4 : Int32) (s0 : Int32) (s1 : Int32) (H : Heap) (locs : List Loc) (ls : Array Slot), f_X11_bare_J125 F (lp (f_X11_bare_B85 F a1 a2 m_many m_figures m_isMade) k) x4 s0 s1 = some ex → va_P D vwCl (gM cy qM m_base m_f m_many m_figures m_tail m_round m_rounds m_leasts m_likes m_like m_isTwo m_came m_by m_queue m_kind m_parts m_wanted m_allowed m_bitOf m_met m_row m_narrows m_narrow m_isMade) H → va_D A (gM cy qM m_base m_f m_many m_figures m_tail m_round m_rounds m_leasts m_likes m_like m_isTwo m_came m_by m_queue m_kind m_parts m_wanted m_allowed m_bitOf m_met m_row m_narrows m_narrow m_isMade) → va_S A s.heap H locs → lv_has ls 6 [(0, .ref (qM 0)), (1, .int a1), (2, .int a2), (4, .int x4)] → W p l e0 rmX11_bare s m ar below meth c H locs 0 0 Q (F0 m 125 ls [.int s1, .int s0]) := by
        intro x4 s0 s1 H locs ls hf hP hD hS hl
        unfold f_X11_bare_J125 at hf
        refine lv_iadd hx hb dX11_bare_125 ?_
        refine lv_istore_n (lv' := [(3, .int (s0 + s1)), (0, .ref (qM 0)), (1, .int a1), (2, .int a2), (4, .int x4)]) hx hb dX11_bare_126 rfl hl (by decide) rfl (fun ls hl => ?_)
        refine lv_iinc (v := (x4 + (1 : Int32))) (lv' := [(4, .int (x4 + (1 : Int32))), (3, .int (s0 + s1)), (0, .ref (qM 0)), (1, .int a1), (2, .int a2)]) hx hb dX11_bare_127 hl (k := 4) rfl rfl (by decide) rfl (fun ls hl => ?_)
        refine lv_goto (tgt := 85) hx hb dX11_bare_130 (by decide) ?_
        exact ih ((s0 + s1), (x4 + (1 : Int32))) ex _ _ _ hf hret hex hP hD hS (lv_sub hl [2, 3, 4, 1, 0] rfl)
      have hJ109 : ∀ (x3 : Int32) (x4 : Int32) (H : Heap) (locs : List Loc) (ls : Array Slot), f_X11_bare_J109 F m_isMade (lp (f_X11_bare_B85 F a1 a2 m_many m_figures m_isMade) k) x3 x4 = some ex → va_P D vwCl (gM cy qM m_base m_f m_many m_figures m_tail m_round m_rounds m_leasts m_likes m_like m_isTwo m_came m_by m_queue m_kind m_parts m_wanted m_allowed m_bitOf m_met m_row m_narrows m_narrow m_isMade) H → va_D A (gM cy qM m_base m_f m_many m_figures m_tail m_round m_rounds m_leasts m_likes m_like m_isTwo m_came m_by m_queue m_kind m_parts m_wanted m_allowed m_bitOf m_met m_row m_narrows m_narrow m_isMade) → va_S A s.heap H locs → lv_has ls 6 [(0, .ref (qM 0)), (1, .int a1), (2, .int a2), (3, .int x3), (4, .int x4)] → W p l e0 rmX11_bare s m ar below meth c H locs 0 0 Q (F0 m 109 ls []) := by
        intro x3 x4 H locs ls hf hP hD hS hl
        unfold f_X11_bare_J109 at hf
        refine lv_iload_n hx hb dX11_bare_109 rfl (lv_at hl 3 rfl) ?_
        refine lv_aload_n hx hb dX11_bare_110 rfl (lv_at hl 0 rfl) ?_
        refine va_get (v := .ref (qM 12)) (D := D) (ci := 11) (C := RX11) (T := TX11) (N := 24) hx hb hts huX11 hown hK hP 0 rfl rfl 23 (by decide) fk50 (fun _ h9 => h9) rfl dX11_bare_111 ?_
        refine lv_iload hx hb dX11_bare_114 (lv_at hl 4 rfl) ?_
        obtain ⟨c1, hf⟩ := ck_some hf
        refine va_zald hx hb hK hP 12 2 rfl rfl c1 dX11_bare_116 ?_
        refine lv_if_eq (tgt := 124) hx hb dX11_bare_117 (by decide) (fun c2 => ?_) (fun c2 => ?_)
        · have hf := if_t hf c2
          refine lv_iconst (v := (1 : Int32)) hx hb dX11_bare_124 (by decide) ?_
          exact hJ125 x4 x3 (1 : Int32) _ _ _ hf hP hD hS (lv_sub hl [0, 1, 2, 4] rfl)
        · have hf := if_f hf c2
          refine lv_iconst (v := (0 : Int32)) hx hb dX11_bare_120 (by decide) ?_
          refine lv_goto (tgt := 125) hx hb dX11_bare_121 (by decide) ?_
          exact hJ125 x4 x3 (0 : Int32) _ _ _ hf hP hD hS (lv_sub hl [0, 1, 2, 4] rfl)
      refine lv_iload hx hb dX11_bare_85 (lv_at hl 4 rfl) ?_
      refine lv_iload_n hx hb dX11_bare_87 rfl (lv_at hl 1 rfl) ?_
      refine lv_icmp_gt (tgt := 133) hx hb dX11_bare_88 (by decide) (fun c3 => ?_) (fun c3 => ?_)
      · have hf := if_t hf c3
        obtain rfl := Option.some.inj hf
        exact hex _ rfl _ _ _ hP hD hS (lv_sub hl [2, 3] rfl)
      · have hf := if_f hf c3
        refine lv_aload_n hx hb dX11_bare_91 rfl (lv_at hl 0 rfl) ?_
        refine va_get (v := .ref (qM 12)) (D := D) (ci := 11) (C := RX11) (T := TX11) (N := 24) hx hb hts huX11 hown hK hP 0 rfl rfl 23 (by decide) fk50 (fun _ h9 => h9) rfl dX11_bare_92 ?_
        refine lv_iload hx hb dX11_bare_95 (lv_at hl 4 rfl) ?_
        obtain ⟨c4, hf⟩ := ck_some hf
        refine va_zald hx hb hK hP 12 2 rfl rfl c4 dX11_bare_97 ?_
        refine lv_if_ne (tgt := 109) hx hb dX11_bare_98 (by decide) (fun c5 => ?_) (fun c5 => ?_)
        · have hf := if_f hf c5
          exact hJ109 x.1 x.2 _ _ _ hf hP hD hS (lv_sub hl [0, 1, 2, 3, 4] rfl)
        · have hf := if_t hf c5
          refine lv_iload_n hx hb dX11_bare_101 rfl (lv_at hl 3 rfl) ?_
          refine lv_iload_n hx hb dX11_bare_102 rfl (lv_at hl 2 rfl) ?_
          refine lv_icmp_ne (tgt := 109) hx hb dX11_bare_103 (by decide) (fun c6 => ?_) (fun c6 => ?_)
          · have hf := if_f hf c6
            exact hJ109 x.1 x.2 _ _ _ hf hP hD hS (lv_sub hl [0, 1, 2, 3, 4] rfl)
          · have hf := if_t hf c6
            refine lv_iload hx hb dX11_bare_106 (lv_at hl 4 rfl) ?_
            obtain rfl := Option.some.inj hf
            obtain rfl := hret _ rfl
            exact hQ () 108 _ _ _ dX11_bare_108 hP hD hS
  have hL41 : ∀ (k : Nat) (x : Int32 × Int32 × (Nat → Int32) × (Nat → Int32)) (ex : Int32 × (Nat → Int32) × (Nat → Int32)) (H : Heap) (locs : List Loc) (ls : Array Slot), lp (f_X11_bare_B41 F a1 m_base m_f) k x = some ex → (∀ (H : Heap) (locs : List Loc) (ls : Array Slot), va_P D vwCl (gM cy qM m_base m_f ex.1 ex.2.1 m_tail m_round m_rounds m_leasts m_likes m_like m_isTwo m_came m_by m_queue m_kind m_parts m_wanted m_allowed m_bitOf m_met m_row m_narrows m_narrow ex.2.2) H → va_D A (gM cy qM m_base m_f ex.1 ex.2.1 m_tail m_round m_rounds m_leasts m_likes m_like m_isTwo m_came m_by m_queue m_kind m_parts m_wanted m_allowed m_bitOf m_met m_row m_narrows m_narrow ex.2.2) → va_S A s.heap H locs → lv_has ls 6 [(0, .ref (qM 0)), (1, .int a1), (2, .int a2)] → W p l e0 rmX11_bare s m ar below meth c H locs 0 0 Q (F0 m 80 ls [])) → va_P D vwCl (gM cy qM m_base m_f x.2.1 x.2.2.1 m_tail m_round m_rounds m_leasts m_likes m_like m_isTwo m_came m_by m_queue m_kind m_parts m_wanted m_allowed m_bitOf m_met m_row m_narrows m_narrow x.2.2.2) H → va_D A (gM cy qM m_base m_f x.2.1 x.2.2.1 m_tail m_round m_rounds m_leasts m_likes m_like m_isTwo m_came m_by m_queue m_kind m_parts m_wanted m_allowed m_bitOf m_met m_row m_narrows m_narrow x.2.2.2) → va_S A s.heap H locs → lv_has ls 6 [(0, .ref (qM 0)), (1, .int a1), (2, .int a2), (3, .int x.1)] → W p l e0 rmX11_bare s m ar below meth c H locs 0 0 Q (F0 m 41 ls []) := by
    intro k
    induction k with
    | zero => intro x ex H locs ls hf; exact no_some hf
    | succ k ih =>
      intro x ex H locs ls hf hex hP hD hS hl
      have hf : f_X11_bare_B41 F a1 m_base m_f (lp (f_X11_bare_B41 F a1 m_base m_f) k) x = some ex := hf
      unfold f_X11_bare_B41 at hf
      have hJ74 : ∀ (x3 : Int32) (m_many : Int32) (m_figures : Nat → Int32) (m_isMade : Nat → Int32) (H : Heap) (locs : List Loc) (ls : Array Slot), f_X11_bare_J74 F (lp (f_X11_bare_B41 F a1 m_base m_f) k) x3 m_many m_figures m_isMade = some ex → va_P D vwCl (gM cy qM m_base m_f m_many m_figures m_tail m_round m_rounds m_leasts m_likes m_like m_isTwo m_came m_by m_queue m_kind m_parts m_wanted m_allowed m_bitOf m_met m_row m_narrows m_narrow m_isMade) H → va_D A (gM cy qM m_base m_f m_many m_figures m_tail m_round m_rounds m_leasts m_likes m_like m_isTwo m_came m_by m_queue m_kind m_parts m_wanted m_allowed m_bitOf m_met m_row m_narrows m_narrow m_isMade) → va_S A s.heap H locs → lv_has ls 6 [(0, .ref (qM 0)), (1, .int a1), (2, .int a2), (3, .int x3)] → W p l e0 rmX11_bare s m ar below meth c H locs 0 0 Q (F0 m 74 ls []) := by
        intro x3 m_many m_figures m_isMade H locs ls hf hP hD hS hl
        unfold f_X11_bare_J74 at hf
        refine lv_iinc (v := (x3 + (1 : Int32))) (lv' := [(3, .int (x3 + (1 : Int32))), (0, .ref (qM 0)), (1, .int a1), (2, .int a2)]) hx hb dX11_bare_74 hl (k := 3) rfl rfl (by decide) rfl (fun ls hl => ?_)
        refine lv_goto (tgt := 41) hx hb dX11_bare_77 (by decide) ?_
        exact ih ((x3 + (1 : Int32)), m_many, m_figures, m_isMade) ex _ _ _ hf hex hP hD hS (lv_sub hl [1, 2, 3, 0] rfl)
      refine lv_iload_n hx hb dX11_bare_41 rfl (lv_at hl 3 rfl) ?_
      refine lv_iload_n hx hb dX11_bare_42 rfl (lv_at hl 1 rfl) ?_
      refine lv_icmp_gt (tgt := 80) hx hb dX11_bare_43 (by decide) (fun c7 => ?_) (fun c7 => ?_)
      · have hf := if_t hf c7
        obtain rfl := Option.some.inj hf
        exact hex _ _ _ hP hD hS (lv_sub hl [0, 1, 2] rfl)
      · have hf := if_f hf c7
        refine lv_iload_n hx hb dX11_bare_46 rfl (lv_at hl 3 rfl) ?_
        refine lv_i2l hx hb dX11_bare_47 rfl ?_
        refine lv_aload_n hx hb dX11_bare_48 rfl (lv_at hl 0 rfl) ?_
        refine lv_iload_n hx hb dX11_bare_49 rfl (lv_at hl 3 rfl) ?_
        refine lv_i2l hx hb dX11_bare_50 rfl ?_
        obtain ⟨r8, hc9, hf⟩ := ob_some hf
        refine kc_l (k_run ⟨hx, hb, hml, hown, hts⟩ (c_X11_sum hc9) (cwV 1 hts gX11_bare_X11_sum rfl rfl rfl (by decide +kernel) ⟨Nat.le_of_ble_eq_true rfl, Nat.le_of_ble_eq_true rfl⟩) hK hN hP hD kA_s (ci := 11) (q0 := 0) rfl rfl rfl rfl hl.1 rfl (Nat.le_of_ble_eq_true rfl) dX11_bare_51 ⟨Nat.le_of_ble_eq_true rfl, Nat.le_of_ble_eq_true rfl⟩) hP hD hS hA kI_s (fun _ H locs hP hD hS => ?_)
        refine lv_ladd hx hb dX11_bare_54 ?_
        refine lv_lstore (lv' := [(4, .long (x.1.toInt64 + r8.1)), (0, .ref (qM 0)), (1, .int a1), (2, .int a2), (3, .int x.1)]) hx hb dX11_bare_55 hl (by decide) rfl (fun ls hl => ?_)
        refine lv_lload hx hb dX11_bare_57 (lv_at hl 0 rfl) ?_
        refine lv_iload_n hx hb dX11_bare_59 rfl (lv_at hl 2 rfl) ?_
        refine lv_i2l hx hb dX11_bare_60 rfl ?_
        refine kl_gt (tgt := 74) hx hb dX11_bare_61 dX11_bare_62 (by decide) (fun c10 => ?_) (fun c10 => ?_)
        · have hf := if_t hf c10
          exact hJ74 x.1 r8.2.1 r8.2.2 x.2.2.2 _ _ _ hf hP hD hS (lv_sub hl [1, 2, 3, 4] rfl)
        · have hf := if_f hf c10
          refine lv_aload_n hx hb dX11_bare_65 rfl (lv_at hl 1 rfl) ?_
          refine va_get (v := .ref (qM 12)) (D := D) (ci := 11) (C := RX11) (T := TX11) (N := 24) hx hb hts huX11 hown hK hP 0 rfl rfl 23 (by decide) fk50 (fun _ h9 => h9) rfl dX11_bare_66 ?_
          refine lv_lload hx hb dX11_bare_69 (lv_at hl 0 rfl) ?_
          refine lv_l2i hx hb dX11_bare_71 rfl ?_
          refine lv_iconst (v := (1 : Int32)) hx hb dX11_bare_72 (by decide) ?_
          obtain ⟨c11, hf⟩ := ck_some hf
          refine va_zast hx hb hK hP hD hS 12 2 rfl rfl c11 dX11_bare_73 (fun H locs hP hD hS => ?_)
          have hP : va_P D vwCl (gM cy qM m_base m_f r8.2.1 r8.2.2 m_tail m_round m_rounds m_leasts m_likes m_like m_isTwo m_came m_by m_queue m_kind m_parts m_wanted m_allowed m_bitOf m_met m_row m_narrows m_narrow (upd x.2.2.2 (x.1.toInt64 + r8.1).toInt32.toNatClampNeg (vp_nar .boolean (1 : Int32)))) H := hP
          have hD : va_D A (gM cy qM m_base m_f r8.2.1 r8.2.2 m_tail m_round m_rounds m_leasts m_likes m_like m_isTwo m_came m_by m_queue m_kind m_parts m_wanted m_allowed m_bitOf m_met m_row m_narrows m_narrow (upd x.2.2.2 (x.1.toInt64 + r8.1).toInt32.toNatClampNeg (vp_nar .boolean (1 : Int32)))) := hD
          exact hJ74 x.1 r8.2.1 r8.2.2 (upd x.2.2.2 (x.1.toInt64 + r8.1).toInt32.toNatClampNeg (vp_nar .boolean (1 : Int32))) _ _ _ hf hP hD hS (lv_sub hl [1, 2, 3, 4] rfl)
  have hL21 : ∀ (m_many : Int32) (m_figures : Nat → Int32) (k : Nat) (x : Int32 × (Nat → Int32)) (ex : (Nat → Int32)) (H : Heap) (locs : List Loc) (ls : Array Slot), lp (f_X11_bare_B21 F a1 m_many m_figures) k x = some ex → (∀ (H : Heap) (locs : List Loc) (ls : Array Slot), va_P D vwCl (gM cy qM m_base m_f m_many m_figures m_tail m_round m_rounds m_leasts m_likes m_like m_isTwo m_came m_by m_queue m_kind m_parts m_wanted m_allowed m_bitOf m_met m_row m_narrows m_narrow ex) H → va_D A (gM cy qM m_base m_f m_many m_figures m_tail m_round m_rounds m_leasts m_likes m_like m_isTwo m_came m_by m_queue m_kind m_parts m_wanted m_allowed m_bitOf m_met m_row m_narrows m_narrow ex) → va_S A s.heap H locs → lv_has ls 6 [(0, .ref (qM 0)), (1, .int a1), (2, .int a2)] → W p l e0 rmX11_bare s m ar below meth c H locs 0 0 Q (F0 m 39 ls [])) → va_P D vwCl (gM cy qM m_base m_f m_many m_figures m_tail m_round m_rounds m_leasts m_likes m_like m_isTwo m_came m_by m_queue m_kind m_parts m_wanted m_allowed m_bitOf m_met m_row m_narrows m_narrow x.2) H → va_D A (gM cy qM m_base m_f m_many m_figures m_tail m_round m_rounds m_leasts m_likes m_like m_isTwo m_came m_by m_queue m_kind m_parts m_wanted m_allowed m_bitOf m_met m_row m_narrows m_narrow x.2) → va_S A s.heap H locs → lv_has ls 6 [(0, .ref (qM 0)), (1, .int a1), (2, .int a2), (3, .int x.1)] → W p l e0 rmX11_bare s m ar below meth c H locs 0 0 Q (F0 m 21 ls []) := by
    intro m_many m_figures k
    induction k with
    | zero => intro x ex H locs ls hf; exact no_some hf
    | succ k ih =>
      intro x ex H locs ls hf hex hP hD hS hl
      have hf : f_X11_bare_B21 F a1 m_many m_figures (lp (f_X11_bare_B21 F a1 m_many m_figures) k) x = some ex := hf
      unfold f_X11_bare_B21 at hf
      refine lv_iload_n hx hb dX11_bare_21 rfl (lv_at hl 3 rfl) ?_
      refine lv_iload_n hx hb dX11_bare_22 rfl (lv_at hl 1 rfl) ?_
      refine lv_icmp_gt (tgt := 39) hx hb dX11_bare_23 (by decide) (fun c12 => ?_) (fun c12 => ?_)
      · have hf := if_t hf c12
        obtain rfl := Option.some.inj hf
        exact hex _ _ _ hP hD hS (lv_sub hl [0, 1, 2] rfl)
      · have hf := if_f hf c12
        refine lv_aload_n hx hb dX11_bare_26 rfl (lv_at hl 0 rfl) ?_
        refine va_get (v := .ref (qM 12)) (D := D) (ci := 11) (C := RX11) (T := TX11) (N := 24) hx hb hts huX11 hown hK hP 0 rfl rfl 23 (by decide) fk50 (fun _ h9 => h9) rfl dX11_bare_27 ?_
        refine lv_iload_n hx hb dX11_bare_30 rfl (lv_at hl 3 rfl) ?_
        refine lv_iconst (v := (0 : Int32)) hx hb dX11_bare_31 (by decide) ?_
        obtain ⟨c13, hf⟩ := ck_some hf
        refine va_zast hx hb hK hP hD hS 12 2 rfl rfl c13 dX11_bare_32 (fun H locs hP hD hS => ?_)
        have hP : va_P D vwCl (gM cy qM m_base m_f m_many m_figures m_tail m_round m_rounds m_leasts m_likes m_like m_isTwo m_came m_by m_queue m_kind m_parts m_wanted m_allowed m_bitOf m_met m_row m_narrows m_narrow (upd x.2 x.1.toNatClampNeg (vp_nar .boolean (0 : Int32)))) H := hP
        have hD : va_D A (gM cy qM m_base m_f m_many m_figures m_tail m_round m_rounds m_leasts m_likes m_like m_isTwo m_came m_by m_queue m_kind m_parts m_wanted m_allowed m_bitOf m_met m_row m_narrows m_narrow (upd x.2 x.1.toNatClampNeg (vp_nar .boolean (0 : Int32)))) := hD
        refine lv_iinc (v := (x.1 + (1 : Int32))) (lv' := [(3, .int (x.1 + (1 : Int32))), (0, .ref (qM 0)), (1, .int a1), (2, .int a2)]) hx hb dX11_bare_33 hl (k := 3) rfl rfl (by decide) rfl (fun ls hl => ?_)
        refine lv_goto (tgt := 21) hx hb dX11_bare_36 (by decide) ?_
        exact ih ((x.1 + (1 : Int32)), (upd x.2 x.1.toNatClampNeg (vp_nar .boolean (0 : Int32)))) ex _ _ _ hf hex hP hD hS (lv_sub hl [1, 2, 3, 0] rfl)
  have hJ17 : ∀ (m_many : Int32) (m_figures : Nat → Int32) (m_isMade : Nat → Int32) (H : Heap) (locs : List Loc) (ls : Array Slot), f_X11_bare_J17 F m_many m_figures m_isMade = some res → va_P D vwCl (gM cy qM m_base m_f m_many m_figures m_tail m_round m_rounds m_leasts m_likes m_like m_isTwo m_came m_by m_queue m_kind m_parts m_wanted m_allowed m_bitOf m_met m_row m_narrows m_narrow m_isMade) H → va_D A (gM cy qM m_base m_f m_many m_figures m_tail m_round m_rounds m_leasts m_likes m_like m_isTwo m_came m_by m_queue m_kind m_parts m_wanted m_allowed m_bitOf m_met m_row m_narrows m_narrow m_isMade) → va_S A s.heap H locs → lv_has ls 6 [] → W p l e0 rmX11_bare s m ar below meth c H locs 0 0 Q (F0 m 17 ls []) := by
    intro m_many m_figures m_isMade H locs ls hf hP hD hS hl
    unfold f_X11_bare_J17 at hf
    refine lv_iconst (v := (-1 : Int32)) hx hb dX11_bare_17 (by decide) ?_
    obtain rfl := Option.some.inj hf
    exact hQ () 18 _ _ _ dX11_bare_18 hP hD hS
  refine lv_iload_n hx hb dX11_bare_0 rfl (lv_at hl 1 rfl) ?_
  refine lv_i2l hx hb dX11_bare_1 rfl ?_
  refine lv_lconst (v := (0 : Int64)) hx hb dX11_bare_2 (by decide) ?_
  refine lv_ldc2 (v := (20000 : Int64)) hx hb hown fk116 dX11_bare_3 ?_
  obtain ⟨r14, hc15, hf⟩ := ob_some hf
  refine kc_i (k_runS ⟨hx, hb, hml, hown, hts⟩ (c_X11_in hc15) (va_cwS 3 hts gX11_bare_X11_in rfl rfl rfl (by decide +kernel) ⟨Nat.le_of_ble_eq_true rfl, Nat.le_of_ble_eq_true rfl⟩) hK hN hP hD kA_0 rfl hl.1 rfl (Nat.le_of_ble_eq_true rfl) dX11_bare_6 ⟨Nat.le_of_ble_eq_true rfl, Nat.le_of_ble_eq_true rfl⟩) hP hD hS hA kI_0 (fun _ H locs hP hD hS => ?_)
  refine lv_if_eq (tgt := 17) hx hb dX11_bare_9 (by decide) (fun c16 => ?_) (fun c16 => ?_)
  · have hf := if_t hf c16
    exact hJ17 m_many m_figures m_isMade _ _ _ hf hP hD hS (lv_sub hl [] rfl)
  · have hf := if_f hf c16
    refine lv_iload_n hx hb dX11_bare_12 rfl (lv_at hl 2 rfl) ?_
    refine lv_iconst (v := (-1 : Int32)) hx hb dX11_bare_13 (by decide) ?_
    refine lv_icmp_ge (tgt := 19) hx hb dX11_bare_14 (by decide) (fun c17 => ?_) (fun c17 => ?_)
    · have hf := if_t hf c17
      refine lv_iconst (v := (0 : Int32)) hx hb dX11_bare_19 (by decide) ?_
      refine lv_istore_n (lv' := [(3, .int (0 : Int32)), (0, .ref (qM 0)), (1, .int a1), (2, .int a2)]) hx hb dX11_bare_20 rfl hl (by decide) rfl (fun ls hl => ?_)
      obtain ⟨ex18, hcl, hf⟩ := ob_some hf
      refine hL21 m_many m_figures F ((0 : Int32), m_isMade) ex18 _ _ _ hcl (fun H locs ls hP hD hS hl => ?_) hP hD hS (lv_sub hl [1, 2, 3, 0] rfl)
      refine lv_iconst (v := (0 : Int32)) hx hb dX11_bare_39 (by decide) ?_
      refine lv_istore_n (lv' := [(3, .int (0 : Int32)), (0, .ref (qM 0)), (1, .int a1), (2, .int a2)]) hx hb dX11_bare_40 rfl hl (by decide) rfl (fun ls hl => ?_)
      obtain ⟨ex19, hcl, hf⟩ := ob_some hf
      refine hL41 F ((0 : Int32), m_many, m_figures, ex18) ex19 _ _ _ hcl (fun H locs ls hP hD hS hl => ?_) hP hD hS (lv_sub hl [1, 2, 3, 0] rfl)
      refine lv_iconst (v := (0 : Int32)) hx hb dX11_bare_80 (by decide) ?_
      refine lv_istore_n (lv' := [(3, .int (0 : Int32)), (0, .ref (qM 0)), (1, .int a1), (2, .int a2)]) hx hb dX11_bare_81 rfl hl (by decide) rfl (fun ls hl => ?_)
      refine lv_iconst (v := (0 : Int32)) hx hb dX11_bare_82 (by decide) ?_
      refine lv_istore (lv' := [(4, .int (0 : Int32)), (3, .int (0 : Int32)), (0, .ref (qM 0)), (1, .int a1), (2, .int a2)]) hx hb dX11_bare_83 hl (by decide) rfl (fun ls hl => ?_)
      obtain ⟨ex20, hcl, hf⟩ := ob_some hf
      refine hL85 ex19.1 ex19.2.1 ex19.2.2 F ((0 : Int32), (0 : Int32)) ex20 _ _ _ hcl (fun r hr0 => ?_) (fun er21 hr0 H locs ls hP hD hS hl => ?_) hP hD hS (lv_sub hl [2, 3, 4, 1, 0] rfl)
      · subst hr0; exact Option.some.inj (sm_inl hf)
      · subst hr0
        have hf := sm_inr hf
        refine lv_iload_n hx hb dX11_bare_133 rfl (lv_at hl 0 rfl) ?_
        refine lv_iconst (v := (-1 : Int32)) hx hb dX11_bare_134 (by decide) ?_
        refine lv_icmp_ne (tgt := 142) hx hb dX11_bare_135 (by decide) (fun c22 => ?_) (fun c22 => ?_)
        · have hf := if_f hf c22
          refine lv_bipush (v := (-4 : Int32)) hx hb dX11_bare_142 (by decide) ?_
          exact hJ144 (-4 : Int32) ex19.1 ex19.2.1 ex19.2.2 _ _ _ hf hP hD hS (lv_sub hl [] rfl)
        · have hf := if_t hf c22
          refine lv_iload_n hx hb dX11_bare_138 rfl (lv_at hl 1 rfl) ?_
          refine lv_goto (tgt := 144) hx hb dX11_bare_139 (by decide) ?_
          exact hJ144 er21 ex19.1 ex19.2.1 ex19.2.2 _ _ _ hf hP hD hS (lv_sub hl [] rfl)
    · have hf := if_f hf c17
      exact hJ17 m_many m_figures m_isMade _ _ _ hf hP hD hS (lv_sub hl [] rfl)
def f_X11_raised_J97 (F : Nat) (s0 : Int32) (m_many : Int32) (m_figures : Nat → Int32) : Option (Int32 × Int32 × (Nat → Int32)) := some (s0, m_many, m_figures)
def f_X11_raised_J78 (F : Nat) (rec : (Int32 × Int32 × Int32 × (Nat → Int32)) → Option ((Int32 × Int32 × (Nat → Int32)) ⊕ (Int32 × Int32 × (Nat → Int32)))) (x4 : Int32) (s0 : Int32) (s1 : Int32) (m_many : Int32) (m_figures : Nat → Int32) : Option ((Int32 × Int32 × (Nat → Int32)) ⊕ (Int32 × Int32 × (Nat → Int32))) := rec ((s0 + s1), (x4 + (1 : Int32)), m_many, m_figures)
def f_X11_raised_J67 (F : Nat) (rec : (Int32 × Int32 × Int32 × (Nat → Int32)) → Option ((Int32 × Int32 × (Nat → Int32)) ⊕ (Int32 × Int32 × (Nat → Int32)))) (x3 : Int32) (x4 : Int32) (x5 : Int32) (m_many : Int32) (m_figures : Nat → Int32) : Option ((Int32 × Int32 × (Nat → Int32)) ⊕ (Int32 × Int32 × (Nat → Int32))) := if x5 = 0 then (f_X11_raised_J78 F rec x4 x3 (0 : Int32) m_many m_figures) else (f_X11_raised_J78 F rec x4 x3 (1 : Int32) m_many m_figures)
def f_X11_raised_J52 (F : Nat) (a2 : Int32) (rec : (Int32 × Int32 × Int32 × (Nat → Int32)) → Option ((Int32 × Int32 × (Nat → Int32)) ⊕ (Int32 × Int32 × (Nat → Int32)))) (x3 : Int32) (x4 : Int32) (s0 : Int32) (m_many : Int32) (m_figures : Nat → Int32) : Option ((Int32 × Int32 × (Nat → Int32)) ⊕ (Int32 × Int32 × (Nat → Int32))) := if s0 = 0 then (f_X11_raised_J67 F rec x3 x4 s0 m_many m_figures) else (if x3 = a2 then (some (.inl (x4, m_many, m_figures))) else (f_X11_raised_J67 F rec x3 x4 s0 m_many m_figures))
def f_X11_raised_B24 (F : Nat) (a1 : Int32) (a2 : Int32) (m_base : Int32) (m_f : Nat → Int32) (rec : Int32 × Int32 × Int32 × (Nat → Int32) → Option ((Int32 × Int32 × (Nat → Int32)) ⊕ (Int32 × Int32 × (Nat → Int32)))) (x : Int32 × Int32 × Int32 × (Nat → Int32)) : Option ((Int32 × Int32 × (Nat → Int32)) ⊕ (Int32 × Int32 × (Nat → Int32))) := if a1 < x.2.1 then (some (.inr (x.1, x.2.2.1, x.2.2.2))) else ((f_X11_sum F x.2.1.toInt64 m_base m_f x.2.2.1 x.2.2.2).bind (fun r5 => if (x.2.1.toInt64 + r5.1) = a1.toInt64 then (f_X11_raised_J52 F a2 rec x.1 x.2.1 (1 : Int32) r5.2.1 r5.2.2) else (f_X11_raised_J52 F a2 rec x.1 x.2.1 (0 : Int32) r5.2.1 r5.2.2)))
def f_X11_raised_J17 (F : Nat) (m_many : Int32) (m_figures : Nat → Int32) : Option (Int32 × Int32 × (Nat → Int32)) := some ((-1 : Int32), m_many, m_figures)
def f_X11_raised (F : Nat) (a1 : Int32) (a2 : Int32) (m_base : Int32) (m_f : Nat → Int32) (m_many : Int32) (m_figures : Nat → Int32) : Option (Int32 × Int32 × (Nat → Int32)) := (f_X11_in F a1.toInt64 (0 : Int64) (20000 : Int64)).bind (fun r8 => if r8 = 0 then (f_X11_raised_J17 F m_many m_figures) else (if (-1 : Int32) ≤ a2 then ((lp (f_X11_raised_B24 F a1 a2 m_base m_f) F ((0 : Int32), (0 : Int32), m_many, m_figures)).bind (fun ex12 => Sum.elim (fun r => some r) (fun er13 => if a2 = (-1 : Int32) then (f_X11_raised_J97 F er13.1 er13.2.1 er13.2.2) else (f_X11_raised_J97 F (-4 : Int32) er13.2.1 er13.2.2)) ex12)) else (f_X11_raised_J17 F m_many m_figures)))
abbrev rmX11_raised : Room := { frames := 2, cells := 0, slots := 0, locals := 49 }
set_option maxHeartbeats 1000000 in
set_option maxRecDepth 100000 in
theorem c_X11_raised {l : Launch} {D : va_G} {cy : Nat → ClassId} {qM : Nat → Nat} {m_base : Int32} {m_f : Nat → Int32} {m_many : Int32} {m_figures : Nat → Int32} {m_tail : Int32} {m_round : Int32} {m_rounds : Int32} {m_leasts : Nat → Int64} {m_likes : Int32} {m_like : Nat → Int32} {m_isTwo : Nat → Int32} {m_came : Nat → Int32} {m_by : Nat → Int32} {m_queue : Nat → Int32} {m_kind : Int32} {m_parts : Int32} {m_wanted : Int32} {m_allowed : Int32} {m_bitOf : Nat → Int32} {m_met : Int32} {m_row : Nat → Int32} {m_narrows : Int32} {m_narrow : Nat → Int64} {m_isMade : Nat → Int32} {a1 : Int32} {a2 : Int32} {F : Nat} {res : Int32 × Int32 × (Nat → Int32)} (hf : f_X11_raised F a1 a2 m_base m_f m_many m_figures = some res) : kM l yX11_raised wsX11_raised rmX11_raised D cy [.ref (qM 0), .int a1, .int a2] (gM cy qM m_base m_f m_many m_figures m_tail m_round m_rounds m_leasts m_likes m_like m_isTwo m_came m_by m_queue m_kind m_parts m_wanted m_allowed m_bitOf m_met m_row m_narrows m_narrow m_isMade) (kQi D cy (fun _ : Unit => gM cy qM m_base m_f res.2.1 res.2.2 m_tail m_round m_rounds m_leasts m_likes m_like m_isTwo m_came m_by m_queue m_kind m_parts m_wanted m_allowed m_bitOf m_met m_row m_narrows m_narrow m_isMade) res.1) := by
  refine kent_i (cc := cX11_raised) (maxL := 6) (by decide) rfl (Nat.le_of_ble_eq_true rfl) ?_
  intro p e0 s m ar below meth c A Q ls ⟨hx, hb, hml, hr, hts, hown, hlocks, hnm⟩ hA hK hN hQ hP hD hS hl
  have hl : lv_has ls 6 [(0, .ref (qM 0)), (1, .int a1), (2, .int a2)] := hl
  have hown : s.vm.findClass RX11 = some m.cls := hown
  have fk116 : (Cond.constantLong RX11 116 (20000)).before ar s = true := hts _ (by decide +kernel)
  unfold f_X11_raised at hf
  have hJ97 : ∀ (s0 : Int32) (m_many : Int32) (m_figures : Nat → Int32) (H : Heap) (locs : List Loc) (ls : Array Slot), f_X11_raised_J97 F s0 m_many m_figures = some res → va_P D vwCl (gM cy qM m_base m_f m_many m_figures m_tail m_round m_rounds m_leasts m_likes m_like m_isTwo m_came m_by m_queue m_kind m_parts m_wanted m_allowed m_bitOf m_met m_row m_narrows m_narrow m_isMade) H → va_D A (gM cy qM m_base m_f m_many m_figures m_tail m_round m_rounds m_leasts m_likes m_like m_isTwo m_came m_by m_queue m_kind m_parts m_wanted m_allowed m_bitOf m_met m_row m_narrows m_narrow m_isMade) → va_S A s.heap H locs → lv_has ls 6 [] → W p l e0 rmX11_raised s m ar below meth c H locs 0 0 Q (F0 m 97 ls [.int s0]) := by
    intro s0 m_many m_figures H locs ls hf hP hD hS hl
    unfold f_X11_raised_J97 at hf
    obtain rfl := Option.some.inj hf
    exact hQ () 97 _ _ _ dX11_raised_97 hP hD hS
  have hL24 : ∀ (k : Nat) (x : Int32 × Int32 × Int32 × (Nat → Int32)) (ex : (Int32 × Int32 × (Nat → Int32)) ⊕ (Int32 × Int32 × (Nat → Int32))) (H : Heap) (locs : List Loc) (ls : Array Slot), lp (f_X11_raised_B24 F a1 a2 m_base m_f) k x = some ex → (∀ r, ex = .inl r → r = res) → (∀ er, ex = .inr er → ∀ (H : Heap) (locs : List Loc) (ls : Array Slot), va_P D vwCl (gM cy qM m_base m_f er.2.1 er.2.2 m_tail m_round m_rounds m_leasts m_likes m_like m_isTwo m_came m_by m_queue m_kind m_parts m_wanted m_allowed m_bitOf m_met m_row m_narrows m_narrow m_isMade) H → va_D A (gM cy qM m_base m_f er.2.1 er.2.2 m_tail m_round m_rounds m_leasts m_likes m_like m_isTwo m_came m_by m_queue m_kind m_parts m_wanted m_allowed m_bitOf m_met m_row m_narrows m_narrow m_isMade) → va_S A s.heap H locs → lv_has ls 6 [(2, .int a2), (3, .int er.1)] → W p l e0 rmX11_raised s m ar below meth c H locs 0 0 Q (F0 m 86 ls [])) → va_P D vwCl (gM cy qM m_base m_f x.2.2.1 x.2.2.2 m_tail m_round m_rounds m_leasts m_likes m_like m_isTwo m_came m_by m_queue m_kind m_parts m_wanted m_allowed m_bitOf m_met m_row m_narrows m_narrow m_isMade) H → va_D A (gM cy qM m_base m_f x.2.2.1 x.2.2.2 m_tail m_round m_rounds m_leasts m_likes m_like m_isTwo m_came m_by m_queue m_kind m_parts m_wanted m_allowed m_bitOf m_met m_row m_narrows m_narrow m_isMade) → va_S A s.heap H locs → lv_has ls 6 [(0, .ref (qM 0)), (1, .int a1), (2, .int a2), (3, .int x.1), (4, .int x.2.1)] → W p l e0 rmX11_raised s m ar below meth c H locs 0 0 Q (F0 m 24 ls []) := by
    intro k
    induction k with
    | zero => intro x ex H locs ls hf; exact no_some hf
    | succ k ih =>
      intro x ex H locs ls hf hret hex hP hD hS hl
      have hf : f_X11_raised_B24 F a1 a2 m_base m_f (lp (f_X11_raised_B24 F a1 a2 m_base m_f) k) x = some ex := hf
      unfold f_X11_raised_B24 at hf
      have hJ78 : ∀ (x4 : Int32) (s0 : Int32) (s1 : Int32) (m_many : Int32) (m_figures : Nat → Int32) (H : Heap) (locs : List Loc) (ls : Array Slot), f_X11_raised_J78 F (lp (f_X11_raised_B24 F a1 a2 m_base m_f) k) x4 s0 s1 m_many m_figures = some ex → va_P D vwCl (gM cy qM m_base m_f m_many m_figures m_tail m_round m_rounds m_leasts m_likes m_like m_isTwo m_came m_by m_queue m_kind m_parts m_wanted m_allowed m_bitOf m_met m_row m_narrows m_narrow m_isMade) H → va_D A (gM cy qM m_base m_f m_many m_figures m_tail m_round m_rounds m_leasts m_likes m_like m_isTwo m_came m_by m_queue m_kind m_parts m_wanted m_allowed m_bitOf m_met m_row m_narrows m_narrow m_isMade) → va_S A s.heap H locs → lv_has ls 6 [(0, .ref (qM 0)), (1, .int a1), (2, .int a2), (4, .int x4)] → W p l e0 rmX11_raised s m ar below meth c H locs 0 0 Q (F0 m 78 ls [.int s1, .int s0]) := by
        intro x4 s0 s1 m_many m_figures H locs ls hf hP hD hS hl
        unfold f_X11_raised_J78 at hf
        refine lv_iadd hx hb dX11_raised_78 ?_
        refine lv_istore_n (lv' := [(3, .int (s0 + s1)), (0, .ref (qM 0)), (1, .int a1), (2, .int a2), (4, .int x4)]) hx hb dX11_raised_79 rfl hl (by decide) rfl (fun ls hl => ?_)
        refine lv_iinc (v := (x4 + (1 : Int32))) (lv' := [(4, .int (x4 + (1 : Int32))), (3, .int (s0 + s1)), (0, .ref (qM 0)), (1, .int a1), (2, .int a2)]) hx hb dX11_raised_80 hl (k := 4) rfl rfl (by decide) rfl (fun ls hl => ?_)
        refine lv_goto (tgt := 24) hx hb dX11_raised_83 (by decide) ?_
        exact ih ((s0 + s1), (x4 + (1 : Int32)), m_many, m_figures) ex _ _ _ hf hret hex hP hD hS (lv_sub hl [2, 3, 4, 1, 0] rfl)
      have hJ67 : ∀ (x3 : Int32) (x4 : Int32) (x5 : Int32) (m_many : Int32) (m_figures : Nat → Int32) (H : Heap) (locs : List Loc) (ls : Array Slot), f_X11_raised_J67 F (lp (f_X11_raised_B24 F a1 a2 m_base m_f) k) x3 x4 x5 m_many m_figures = some ex → va_P D vwCl (gM cy qM m_base m_f m_many m_figures m_tail m_round m_rounds m_leasts m_likes m_like m_isTwo m_came m_by m_queue m_kind m_parts m_wanted m_allowed m_bitOf m_met m_row m_narrows m_narrow m_isMade) H → va_D A (gM cy qM m_base m_f m_many m_figures m_tail m_round m_rounds m_leasts m_likes m_like m_isTwo m_came m_by m_queue m_kind m_parts m_wanted m_allowed m_bitOf m_met m_row m_narrows m_narrow m_isMade) → va_S A s.heap H locs → lv_has ls 6 [(0, .ref (qM 0)), (1, .int a1), (2, .int a2), (3, .int x3), (4, .int x4), (5, .int x5)] → W p l e0 rmX11_raised s m ar below meth c H locs 0 0 Q (F0 m 67 ls []) := by
        intro x3 x4 x5 m_many m_figures H locs ls hf hP hD hS hl
        unfold f_X11_raised_J67 at hf
        refine lv_iload_n hx hb dX11_raised_67 rfl (lv_at hl 3 rfl) ?_
        refine lv_iload hx hb dX11_raised_68 (lv_at hl 5 rfl) ?_
        refine lv_if_eq (tgt := 77) hx hb dX11_raised_70 (by decide) (fun c1 => ?_) (fun c1 => ?_)
        · have hf := if_t hf c1
          refine lv_iconst (v := (0 : Int32)) hx hb dX11_raised_77 (by decide) ?_
          exact hJ78 x4 x3 (0 : Int32) m_many m_figures _ _ _ hf hP hD hS (lv_sub hl [0, 1, 2, 4] rfl)
        · have hf := if_f hf c1
          refine lv_iconst (v := (1 : Int32)) hx hb dX11_raised_73 (by decide) ?_
          refine lv_goto (tgt := 78) hx hb dX11_raised_74 (by decide) ?_
          exact hJ78 x4 x3 (1 : Int32) m_many m_figures _ _ _ hf hP hD hS (lv_sub hl [0, 1, 2, 4] rfl)
      have hJ52 : ∀ (x3 : Int32) (x4 : Int32) (s0 : Int32) (m_many : Int32) (m_figures : Nat → Int32) (H : Heap) (locs : List Loc) (ls : Array Slot), f_X11_raised_J52 F a2 (lp (f_X11_raised_B24 F a1 a2 m_base m_f) k) x3 x4 s0 m_many m_figures = some ex → va_P D vwCl (gM cy qM m_base m_f m_many m_figures m_tail m_round m_rounds m_leasts m_likes m_like m_isTwo m_came m_by m_queue m_kind m_parts m_wanted m_allowed m_bitOf m_met m_row m_narrows m_narrow m_isMade) H → va_D A (gM cy qM m_base m_f m_many m_figures m_tail m_round m_rounds m_leasts m_likes m_like m_isTwo m_came m_by m_queue m_kind m_parts m_wanted m_allowed m_bitOf m_met m_row m_narrows m_narrow m_isMade) → va_S A s.heap H locs → lv_has ls 6 [(0, .ref (qM 0)), (1, .int a1), (2, .int a2), (3, .int x3), (4, .int x4)] → W p l e0 rmX11_raised s m ar below meth c H locs 0 0 Q (F0 m 52 ls [.int s0]) := by
        intro x3 x4 s0 m_many m_figures H locs ls hf hP hD hS hl
        unfold f_X11_raised_J52 at hf
        refine lv_istore (lv' := [(5, .int s0), (0, .ref (qM 0)), (1, .int a1), (2, .int a2), (3, .int x3), (4, .int x4)]) hx hb dX11_raised_52 hl (by decide) rfl (fun ls hl => ?_)
        refine lv_iload hx hb dX11_raised_54 (lv_at hl 0 rfl) ?_
        refine lv_if_eq (tgt := 67) hx hb dX11_raised_56 (by decide) (fun c2 => ?_) (fun c2 => ?_)
        · have hf := if_t hf c2
          exact hJ67 x3 x4 s0 m_many m_figures _ _ _ hf hP hD hS (lv_sub hl [1, 2, 3, 4, 5, 0] rfl)
        · have hf := if_f hf c2
          refine lv_iload_n hx hb dX11_raised_59 rfl (lv_at hl 4 rfl) ?_
          refine lv_iload_n hx hb dX11_raised_60 rfl (lv_at hl 3 rfl) ?_
          refine lv_icmp_ne (tgt := 67) hx hb dX11_raised_61 (by decide) (fun c3 => ?_) (fun c3 => ?_)
          · have hf := if_f hf c3
            exact hJ67 x3 x4 s0 m_many m_figures _ _ _ hf hP hD hS (lv_sub hl [1, 2, 3, 4, 5, 0] rfl)
          · have hf := if_t hf c3
            refine lv_iload hx hb dX11_raised_64 (lv_at hl 5 rfl) ?_
            obtain rfl := Option.some.inj hf
            obtain rfl := hret _ rfl
            exact hQ () 66 _ _ _ dX11_raised_66 hP hD hS
      refine lv_iload hx hb dX11_raised_24 (lv_at hl 4 rfl) ?_
      refine lv_iload_n hx hb dX11_raised_26 rfl (lv_at hl 1 rfl) ?_
      refine lv_icmp_gt (tgt := 86) hx hb dX11_raised_27 (by decide) (fun c4 => ?_) (fun c4 => ?_)
      · have hf := if_t hf c4
        obtain rfl := Option.some.inj hf
        exact hex _ rfl _ _ _ hP hD hS (lv_sub hl [2, 3] rfl)
      · have hf := if_f hf c4
        refine lv_iload hx hb dX11_raised_30 (lv_at hl 4 rfl) ?_
        refine lv_i2l hx hb dX11_raised_32 rfl ?_
        refine lv_aload_n hx hb dX11_raised_33 rfl (lv_at hl 0 rfl) ?_
        refine lv_iload hx hb dX11_raised_34 (lv_at hl 4 rfl) ?_
        refine lv_i2l hx hb dX11_raised_36 rfl ?_
        obtain ⟨r5, hc6, hf⟩ := ob_some hf
        refine kc_l (k_run ⟨hx, hb, hml, hown, hts⟩ (c_X11_sum hc6) (cwV 1 hts gX11_raised_X11_sum rfl rfl rfl (by decide +kernel) ⟨Nat.le_of_ble_eq_true rfl, Nat.le_of_ble_eq_true rfl⟩) hK hN hP hD kA_s (ci := 11) (q0 := 0) rfl rfl rfl rfl hl.1 rfl (Nat.le_of_ble_eq_true rfl) dX11_raised_37 ⟨Nat.le_of_ble_eq_true rfl, Nat.le_of_ble_eq_true rfl⟩) hP hD hS hA kI_s (fun _ H locs hP hD hS => ?_)
        refine lv_ladd hx hb dX11_raised_40 ?_
        refine lv_iload_n hx hb dX11_raised_41 rfl (lv_at hl 1 rfl) ?_
        refine lv_i2l hx hb dX11_raised_42 rfl ?_
        refine kl_ne (tgt := 51) hx hb dX11_raised_43 dX11_raised_44 (by decide) (fun c7 => ?_) (fun c7 => ?_)
        · have hf := if_f hf c7
          refine lv_iconst (v := (0 : Int32)) hx hb dX11_raised_51 (by decide) ?_
          exact hJ52 x.1 x.2.1 (0 : Int32) r5.2.1 r5.2.2 _ _ _ hf hP hD hS (lv_sub hl [0, 1, 2, 3, 4] rfl)
        · have hf := if_t hf c7
          refine lv_iconst (v := (1 : Int32)) hx hb dX11_raised_47 (by decide) ?_
          refine lv_goto (tgt := 52) hx hb dX11_raised_48 (by decide) ?_
          exact hJ52 x.1 x.2.1 (1 : Int32) r5.2.1 r5.2.2 _ _ _ hf hP hD hS (lv_sub hl [0, 1, 2, 3, 4] rfl)
  have hJ17 : ∀ (m_many : Int32) (m_figures : Nat → Int32) (H : Heap) (locs : List Loc) (ls : Array Slot), f_X11_raised_J17 F m_many m_figures = some res → va_P D vwCl (gM cy qM m_base m_f m_many m_figures m_tail m_round m_rounds m_leasts m_likes m_like m_isTwo m_came m_by m_queue m_kind m_parts m_wanted m_allowed m_bitOf m_met m_row m_narrows m_narrow m_isMade) H → va_D A (gM cy qM m_base m_f m_many m_figures m_tail m_round m_rounds m_leasts m_likes m_like m_isTwo m_came m_by m_queue m_kind m_parts m_wanted m_allowed m_bitOf m_met m_row m_narrows m_narrow m_isMade) → va_S A s.heap H locs → lv_has ls 6 [] → W p l e0 rmX11_raised s m ar below meth c H locs 0 0 Q (F0 m 17 ls []) := by
    intro m_many m_figures H locs ls hf hP hD hS hl
    unfold f_X11_raised_J17 at hf
    refine lv_iconst (v := (-1 : Int32)) hx hb dX11_raised_17 (by decide) ?_
    obtain rfl := Option.some.inj hf
    exact hQ () 18 _ _ _ dX11_raised_18 hP hD hS
  refine lv_iload_n hx hb dX11_raised_0 rfl (lv_at hl 1 rfl) ?_
  refine lv_i2l hx hb dX11_raised_1 rfl ?_
  refine lv_lconst (v := (0 : Int64)) hx hb dX11_raised_2 (by decide) ?_
  refine lv_ldc2 (v := (20000 : Int64)) hx hb hown fk116 dX11_raised_3 ?_
  obtain ⟨r8, hc9, hf⟩ := ob_some hf
  refine kc_i (k_runS ⟨hx, hb, hml, hown, hts⟩ (c_X11_in hc9) (va_cwS 3 hts gX11_raised_X11_in rfl rfl rfl (by decide +kernel) ⟨Nat.le_of_ble_eq_true rfl, Nat.le_of_ble_eq_true rfl⟩) hK hN hP hD kA_0 rfl hl.1 rfl (Nat.le_of_ble_eq_true rfl) dX11_raised_6 ⟨Nat.le_of_ble_eq_true rfl, Nat.le_of_ble_eq_true rfl⟩) hP hD hS hA kI_0 (fun _ H locs hP hD hS => ?_)
  refine lv_if_eq (tgt := 17) hx hb dX11_raised_9 (by decide) (fun c10 => ?_) (fun c10 => ?_)
  · have hf := if_t hf c10
    exact hJ17 m_many m_figures _ _ _ hf hP hD hS (lv_sub hl [] rfl)
  · have hf := if_f hf c10
    refine lv_iload_n hx hb dX11_raised_12 rfl (lv_at hl 2 rfl) ?_
    refine lv_iconst (v := (-1 : Int32)) hx hb dX11_raised_13 (by decide) ?_
    refine lv_icmp_ge (tgt := 19) hx hb dX11_raised_14 (by decide) (fun c11 => ?_) (fun c11 => ?_)
    · have hf := if_t hf c11
      refine lv_iconst (v := (0 : Int32)) hx hb dX11_raised_19 (by decide) ?_
      refine lv_istore_n (lv' := [(3, .int (0 : Int32)), (0, .ref (qM 0)), (1, .int a1), (2, .int a2)]) hx hb dX11_raised_20 rfl hl (by decide) rfl (fun ls hl => ?_)
      refine lv_iconst (v := (0 : Int32)) hx hb dX11_raised_21 (by decide) ?_
      refine lv_istore (lv' := [(4, .int (0 : Int32)), (3, .int (0 : Int32)), (0, .ref (qM 0)), (1, .int a1), (2, .int a2)]) hx hb dX11_raised_22 hl (by decide) rfl (fun ls hl => ?_)
      obtain ⟨ex12, hcl, hf⟩ := ob_some hf
      refine hL24 F ((0 : Int32), (0 : Int32), m_many, m_figures) ex12 _ _ _ hcl (fun r hr0 => ?_) (fun er13 hr0 H locs ls hP hD hS hl => ?_) hP hD hS (lv_sub hl [2, 3, 4, 1, 0] rfl)
      · subst hr0; exact Option.some.inj (sm_inl hf)
      · subst hr0
        have hf := sm_inr hf
        refine lv_iload_n hx hb dX11_raised_86 rfl (lv_at hl 0 rfl) ?_
        refine lv_iconst (v := (-1 : Int32)) hx hb dX11_raised_87 (by decide) ?_
        refine lv_icmp_ne (tgt := 95) hx hb dX11_raised_88 (by decide) (fun c14 => ?_) (fun c14 => ?_)
        · have hf := if_f hf c14
          refine lv_bipush (v := (-4 : Int32)) hx hb dX11_raised_95 (by decide) ?_
          exact hJ97 (-4 : Int32) er13.2.1 er13.2.2 _ _ _ hf hP hD hS (lv_sub hl [] rfl)
        · have hf := if_t hf c14
          refine lv_iload_n hx hb dX11_raised_91 rfl (lv_at hl 1 rfl) ?_
          refine lv_goto (tgt := 97) hx hb dX11_raised_92 (by decide) ?_
          exact hJ97 er13.1 er13.2.1 er13.2.2 _ _ _ hf hP hD hS (lv_sub hl [] rfl)
    · have hf := if_f hf c11
      exact hJ17 m_many m_figures _ _ _ hf hP hD hS (lv_sub hl [] rfl)
def f_X11_count_J46 (F : Nat) (s0 : Int32) : Option (Int32) := some s0
def f_X11_count_B4 (F : Nat) (m_f : Nat → Int32) (rec : Int32 × Int32 → Option (Int32)) (x : Int32 × Int32) : Option (Int32) := if (16 : Int32) ≤ x.2 then (some x.1) else (ck (¬ (x.2 < 0 ∨ 16 ≤ x.2.toNatClampNeg)) (rec ((x.1 + (m_f x.2.toNatClampNeg)), (x.2 + (1 : Int32)))))
def f_X11_count (F : Nat) (a1 : Int32) (m_base : Int32) (m_f : Nat → Int32) : Option (Int32) := (lp (f_X11_count_B4 F m_f) F ((0 : Int32), (0 : Int32))).bind (fun ex3 => if a1 = 0 then (f_X11_count_J46 F m_base) else (if a1 = (1 : Int32) then (f_X11_count_J46 F ex3) else (f_X11_count_J46 F (-1 : Int32))))
abbrev rmX11_count : Room := { frames := 0, cells := 0, slots := 0, locals := 0 }
set_option maxHeartbeats 1000000 in
set_option maxRecDepth 100000 in
theorem c_X11_count {l : Launch} {D : va_G} {cy : Nat → ClassId} {qM : Nat → Nat} {m_base : Int32} {m_f : Nat → Int32} {m_many : Int32} {m_figures : Nat → Int32} {m_tail : Int32} {m_round : Int32} {m_rounds : Int32} {m_leasts : Nat → Int64} {m_likes : Int32} {m_like : Nat → Int32} {m_isTwo : Nat → Int32} {m_came : Nat → Int32} {m_by : Nat → Int32} {m_queue : Nat → Int32} {m_kind : Int32} {m_parts : Int32} {m_wanted : Int32} {m_allowed : Int32} {m_bitOf : Nat → Int32} {m_met : Int32} {m_row : Nat → Int32} {m_narrows : Int32} {m_narrow : Nat → Int64} {m_isMade : Nat → Int32} {a1 : Int32} {F : Nat} {res : Int32} (hf : f_X11_count F a1 m_base m_f = some res) : kM l yX11_count wsX11_count rmX11_count D cy [.ref (qM 0), .int a1] (gM cy qM m_base m_f m_many m_figures m_tail m_round m_rounds m_leasts m_likes m_like m_isTwo m_came m_by m_queue m_kind m_parts m_wanted m_allowed m_bitOf m_met m_row m_narrows m_narrow m_isMade) (kQi D cy (fun _ : Unit => gM cy qM m_base m_f m_many m_figures m_tail m_round m_rounds m_leasts m_likes m_like m_isTwo m_came m_by m_queue m_kind m_parts m_wanted m_allowed m_bitOf m_met m_row m_narrows m_narrow m_isMade) res) := by
  refine kent_i (cc := cX11_count) (maxL := 4) (by decide) rfl (Nat.le_of_ble_eq_true rfl) ?_
  intro p e0 s m ar below meth c A Q ls ⟨hx, hb, hml, hr, hts, hown, hlocks, hnm⟩ hA hK hN hQ hP hD hS hl
  have hl : lv_has ls 4 [(0, .ref (qM 0)), (1, .int a1)] := hl
  have hown : s.vm.findClass RX11 = some m.cls := hown
  have huX11 : ∀ x ∈ u_ws RX11 TX11 24, x ∈ wsX11_count := by decide +kernel
  have fk13 : (Cond.fieldLink RX11 13 "FigurePlayModel" "f" "[I").before ar s = true := hts _ (by decide +kernel)
  have fk7 : (Cond.fieldLink RX11 7 "FigurePlayModel" "base" "I").before ar s = true := hts _ (by decide +kernel)
  unfold f_X11_count at hf
  have hJ46 : ∀ (s0 : Int32) (H : Heap) (locs : List Loc) (ls : Array Slot), f_X11_count_J46 F s0 = some res → va_P D vwCl (gM cy qM m_base m_f m_many m_figures m_tail m_round m_rounds m_leasts m_likes m_like m_isTwo m_came m_by m_queue m_kind m_parts m_wanted m_allowed m_bitOf m_met m_row m_narrows m_narrow m_isMade) H → va_D A (gM cy qM m_base m_f m_many m_figures m_tail m_round m_rounds m_leasts m_likes m_like m_isTwo m_came m_by m_queue m_kind m_parts m_wanted m_allowed m_bitOf m_met m_row m_narrows m_narrow m_isMade) → va_S A s.heap H locs → lv_has ls 4 [] → W p l e0 rmX11_count s m ar below meth c H locs 0 0 Q (F0 m 46 ls [.int s0]) := by
    intro s0 H locs ls hf hP hD hS hl
    unfold f_X11_count_J46 at hf
    obtain rfl := Option.some.inj hf
    exact hQ () 46 _ _ _ dX11_count_46 hP hD hS
  have hL4 : ∀ (k : Nat) (x : Int32 × Int32) (ex : Int32) (H : Heap) (locs : List Loc) (ls : Array Slot), lp (f_X11_count_B4 F m_f) k x = some ex → (∀ (H : Heap) (locs : List Loc) (ls : Array Slot), va_P D vwCl (gM cy qM m_base m_f m_many m_figures m_tail m_round m_rounds m_leasts m_likes m_like m_isTwo m_came m_by m_queue m_kind m_parts m_wanted m_allowed m_bitOf m_met m_row m_narrows m_narrow m_isMade) H → va_D A (gM cy qM m_base m_f m_many m_figures m_tail m_round m_rounds m_leasts m_likes m_like m_isTwo m_came m_by m_queue m_kind m_parts m_wanted m_allowed m_bitOf m_met m_row m_narrows m_narrow m_isMade) → va_S A s.heap H locs → lv_has ls 4 [(0, .ref (qM 0)), (1, .int a1), (2, .int ex)] → W p l e0 rmX11_count s m ar below meth c H locs 0 0 Q (F0 m 25 ls [])) → va_P D vwCl (gM cy qM m_base m_f m_many m_figures m_tail m_round m_rounds m_leasts m_likes m_like m_isTwo m_came m_by m_queue m_kind m_parts m_wanted m_allowed m_bitOf m_met m_row m_narrows m_narrow m_isMade) H → va_D A (gM cy qM m_base m_f m_many m_figures m_tail m_round m_rounds m_leasts m_likes m_like m_isTwo m_came m_by m_queue m_kind m_parts m_wanted m_allowed m_bitOf m_met m_row m_narrows m_narrow m_isMade) → va_S A s.heap H locs → lv_has ls 4 [(0, .ref (qM 0)), (1, .int a1), (2, .int x.1), (3, .int x.2)] → W p l e0 rmX11_count s m ar below meth c H locs 0 0 Q (F0 m 4 ls []) := by
    intro k
    induction k with
    | zero => intro x ex H locs ls hf; exact no_some hf
    | succ k ih =>
      intro x ex H locs ls hf hex hP hD hS hl
      have hf : f_X11_count_B4 F m_f (lp (f_X11_count_B4 F m_f) k) x = some ex := hf
      unfold f_X11_count_B4 at hf
      refine lv_iload_n hx hb dX11_count_4 rfl (lv_at hl 3 rfl) ?_
      refine lv_bipush (v := (16 : Int32)) hx hb dX11_count_5 (by decide) ?_
      refine lv_icmp_ge (tgt := 25) hx hb dX11_count_7 (by decide) (fun c1 => ?_) (fun c1 => ?_)
      · have hf := if_t hf c1
        obtain rfl := Option.some.inj hf
        exact hex _ _ _ hP hD hS (lv_sub hl [0, 1, 2] rfl)
      · have hf := if_f hf c1
        refine lv_iload_n hx hb dX11_count_10 rfl (lv_at hl 2 rfl) ?_
        refine lv_aload_n hx hb dX11_count_11 rfl (lv_at hl 0 rfl) ?_
        refine va_get (v := .ref (qM 1)) (D := D) (ci := 11) (C := RX11) (T := TX11) (N := 24) hx hb hts huX11 hown hK hP 0 rfl rfl 1 (by decide) fk13 (fun _ h9 => h9) rfl dX11_count_12 ?_
        refine lv_iload_n hx hb dX11_count_15 rfl (lv_at hl 3 rfl) ?_
        obtain ⟨c2, hf⟩ := ck_some hf
        refine va_iald hx hb hK hP 1 0 rfl rfl c2 dX11_count_16 ?_
        refine lv_iadd hx hb dX11_count_17 ?_
        refine lv_istore_n (lv' := [(2, .int (x.1 + (m_f x.2.toNatClampNeg))), (0, .ref (qM 0)), (1, .int a1), (3, .int x.2)]) hx hb dX11_count_18 rfl hl (by decide) rfl (fun ls hl => ?_)
        refine lv_iinc (v := (x.2 + (1 : Int32))) (lv' := [(3, .int (x.2 + (1 : Int32))), (2, .int (x.1 + (m_f x.2.toNatClampNeg))), (0, .ref (qM 0)), (1, .int a1)]) hx hb dX11_count_19 hl (k := 3) rfl rfl (by decide) rfl (fun ls hl => ?_)
        refine lv_goto (tgt := 4) hx hb dX11_count_22 (by decide) ?_
        exact ih ((x.1 + (m_f x.2.toNatClampNeg)), (x.2 + (1 : Int32))) ex _ _ _ hf hex hP hD hS (lv_sub hl [2, 3, 1, 0] rfl)
  refine lv_iconst (v := (0 : Int32)) hx hb dX11_count_0 (by decide) ?_
  refine lv_istore_n (lv' := [(2, .int (0 : Int32)), (0, .ref (qM 0)), (1, .int a1)]) hx hb dX11_count_1 rfl hl (by decide) rfl (fun ls hl => ?_)
  refine lv_iconst (v := (0 : Int32)) hx hb dX11_count_2 (by decide) ?_
  refine lv_istore_n (lv' := [(3, .int (0 : Int32)), (2, .int (0 : Int32)), (0, .ref (qM 0)), (1, .int a1)]) hx hb dX11_count_3 rfl hl (by decide) rfl (fun ls hl => ?_)
  obtain ⟨ex3, hcl, hf⟩ := ob_some hf
  refine hL4 F ((0 : Int32), (0 : Int32)) ex3 _ _ _ hcl (fun H locs ls hP hD hS hl => ?_) hP hD hS (lv_sub hl [2, 3, 1, 0] rfl)
  refine lv_iload_n hx hb dX11_count_25 rfl (lv_at hl 1 rfl) ?_
  refine lv_if_ne (tgt := 36) hx hb dX11_count_26 (by decide) (fun c4 => ?_) (fun c4 => ?_)
  · have hf := if_f hf c4
    refine lv_iload_n hx hb dX11_count_36 rfl (lv_at hl 1 rfl) ?_
    refine lv_iconst (v := (1 : Int32)) hx hb dX11_count_37 (by decide) ?_
    refine lv_icmp_ne (tgt := 45) hx hb dX11_count_38 (by decide) (fun c5 => ?_) (fun c5 => ?_)
    · have hf := if_f hf c5
      refine lv_iconst (v := (-1 : Int32)) hx hb dX11_count_45 (by decide) ?_
      exact hJ46 (-1 : Int32) _ _ _ hf hP hD hS (lv_sub hl [] rfl)
    · have hf := if_t hf c5
      refine lv_iload_n hx hb dX11_count_41 rfl (lv_at hl 2 rfl) ?_
      refine lv_goto (tgt := 46) hx hb dX11_count_42 (by decide) ?_
      exact hJ46 ex3 _ _ _ hf hP hD hS (lv_sub hl [] rfl)
  · have hf := if_t hf c4
    refine lv_aload_n hx hb dX11_count_29 rfl (lv_at hl 0 rfl) ?_
    refine va_get (D := D) (ci := 11) (C := RX11) (T := TX11) (N := 24) hx hb hts huX11 hown hK hP 0 rfl rfl 0 (by decide) fk7 (fun _ h9 => h9) rfl dX11_count_30 ?_
    refine lv_goto (tgt := 46) hx hb dX11_count_33 (by decide) ?_
    exact hJ46 m_base _ _ _ hf hP hD hS (lv_sub hl [] rfl)
