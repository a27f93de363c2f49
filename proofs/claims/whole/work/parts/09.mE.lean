/-! the reference: functions and contracts -/
def f_X11_made_J234 (F : Nat) (rec : (Int32) → Option ((Int32 × Int32 × (Nat → Int32) × Int32 × (Nat → Int32) × (Nat → Int32)) ⊕ (Unit))) (x2 : Int32) : Option ((Int32 × Int32 × (Nat → Int32) × Int32 × (Nat → Int32) × (Nat → Int32)) ⊕ (Unit)) := rec (x2 + (1 : Int32))
def f_X11_made_B207 (F : Nat) (a1 : Int32) (m_many : Int32) (m_figures : Nat → Int32) (m_likes : Int32) (m_like : Nat → Int32) (m_isTwo : Nat → Int32) (rec : Int32 → Option ((Int32 × Int32 × (Nat → Int32) × Int32 × (Nat → Int32) × (Nat → Int32)) ⊕ (Unit))) (x : Int32) : Option ((Int32 × Int32 × (Nat → Int32) × Int32 × (Nat → Int32) × (Nat → Int32)) ⊕ (Unit)) := if a1 ≤ x then (some (.inr ())) else (ck (¬ (x < 0 ∨ 10001 ≤ x.toNatClampNeg)) (if (m_isTwo x.toNatClampNeg) = 0 then (f_X11_made_J234 F rec x) else (ck (¬ ((a1 - x) < 0 ∨ 10001 ≤ (a1 - x).toNatClampNeg)) (if (m_isTwo (a1 - x).toNatClampNeg) = 0 then (f_X11_made_J234 F rec x) else (some (.inl ((4 : Int32), m_many, m_figures, m_likes, m_like, m_isTwo)))))))
def f_X11_made_J199 (F : Nat) (rec : (Int32) → Option ((Int32 × Int32 × (Nat → Int32) × Int32 × (Nat → Int32) × (Nat → Int32)) ⊕ (Unit))) (x2 : Int32) : Option ((Int32 × Int32 × (Nat → Int32) × Int32 × (Nat → Int32) × (Nat → Int32)) ⊕ (Unit)) := rec (x2 + (1 : Int32))
def f_X11_made_B163 (F : Nat) (a1 : Int32) (m_many : Int32) (m_figures : Nat → Int32) (m_likes : Int32) (m_like : Nat → Int32) (m_isTwo : Nat → Int32) (rec : Int32 → Option ((Int32 × Int32 × (Nat → Int32) × Int32 × (Nat → Int32) × (Nat → Int32)) ⊕ (Unit))) (x : Int32) : Option ((Int32 × Int32 × (Nat → Int32) × Int32 × (Nat → Int32) × (Nat → Int32)) ⊕ (Unit)) := if m_likes ≤ x then (some (.inr ())) else (ck (¬ (x < 0 ∨ 10001 ≤ x.toNatClampNeg)) (if a1 ≤ (m_like x.toNatClampNeg) then (f_X11_made_J199 F rec x) else (ck (¬ (x < 0 ∨ 10001 ≤ x.toNatClampNeg)) (ck (¬ ((a1 - (m_like x.toNatClampNeg)) < 0 ∨ 10001 ≤ (a1 - (m_like x.toNatClampNeg)).toNatClampNeg)) (if (m_isTwo (a1 - (m_like x.toNatClampNeg)).toNatClampNeg) = 0 then (f_X11_made_J199 F rec x) else (some (.inl ((3 : Int32), m_many, m_figures, m_likes, m_like, m_isTwo))))))))
def f_X11_made_B97 (F : Nat) (a1 : Int32) (x2 : Int32) (m_many : Int32) (m_figures : Nat → Int32) (m_likes : Int32) (m_like : Nat → Int32) (rec : Int32 × (Nat → Int32) → Option ((Nat → Int32))) (x : Int32 × (Nat → Int32)) : Option ((Nat → Int32)) := if x2 < x.1 then (some x.2) else (ck (¬ (x2 < 0 ∨ 10001 ≤ x2.toNatClampNeg)) (ck (¬ (x.1 < 0 ∨ 10001 ≤ x.1.toNatClampNeg)) (if a1 < ((m_like x2.toNatClampNeg) + (m_like x.1.toNatClampNeg)) then (some x.2) else (ck (¬ (x2 < 0 ∨ 10001 ≤ x2.toNatClampNeg)) (ck (¬ (x.1 < 0 ∨ 10001 ≤ x.1.toNatClampNeg)) (ck (¬ (((m_like x2.toNatClampNeg) + (m_like x.1.toNatClampNeg)) < 0 ∨ 10001 ≤ ((m_like x2.toNatClampNeg) + (m_like x.1.toNatClampNeg)).toNatClampNeg)) (rec ((x.1 + (1 : Int32)), (upd x.2 ((m_like x2.toNatClampNeg) + (m_like x.1.toNatClampNeg)).toNatClampNeg (vp_nar .boolean (1 : Int32)))))))))))
def f_X11_made_B87 (F : Nat) (a1 : Int32) (m_many : Int32) (m_figures : Nat → Int32) (m_likes : Int32) (m_like : Nat → Int32) (rec : Int32 × (Nat → Int32) → Option ((Nat → Int32))) (x : Int32 × (Nat → Int32)) : Option ((Nat → Int32)) := if m_likes ≤ x.1 then (some x.2) else ((lp (f_X11_made_B97 F a1 x.1 m_many m_figures m_likes m_like) F ((0 : Int32), x.2)).bind (fun ex20 => rec ((x.1 + (1 : Int32)), ex20)))
def f_X11_made_J79 (F : Nat) (rec : (Int32 × Int32 × (Nat → Int32) × Int32 × (Nat → Int32) × (Nat → Int32)) → Option (Int32 × (Nat → Int32) × Int32 × (Nat → Int32) × (Nat → Int32))) (x2 : Int32) (m_many : Int32) (m_figures : Nat → Int32) (m_likes : Int32) (m_like : Nat → Int32) (m_isTwo : Nat → Int32) : Option (Int32 × (Nat → Int32) × Int32 × (Nat → Int32) × (Nat → Int32)) := rec ((x2 + (1 : Int32)), m_many, m_figures, m_likes, m_like, m_isTwo)
def f_X11_made_B35 (F : Nat) (a1 : Int32) (m_base : Int32) (rec : Int32 × Int32 × (Nat → Int32) × Int32 × (Nat → Int32) × (Nat → Int32) → Option (Int32 × (Nat → Int32) × Int32 × (Nat → Int32) × (Nat → Int32))) (x : Int32 × Int32 × (Nat → Int32) × Int32 × (Nat → Int32) × (Nat → Int32)) : Option (Int32 × (Nat → Int32) × Int32 × (Nat → Int32) × (Nat → Int32)) := if a1 < x.1 then (some (x.2.1, x.2.2.1, x.2.2.2.1, x.2.2.2.2.1, x.2.2.2.2.2)) else (ck (¬ (x.1 < 0 ∨ 10001 ≤ x.1.toNatClampNeg)) ((f_X11_turned F x.1.toInt64 m_base x.2.1 x.2.2.1).bind (fun r23 => if r23.1 = x.1.toInt64 then (ck (¬ (x.2.2.2.1 < 0 ∨ 10001 ≤ x.2.2.2.1.toNatClampNeg)) (f_X11_made_J79 F rec x.1 r23.2.1 r23.2.2 (x.2.2.2.1 + (1 : Int32)) (upd x.2.2.2.2.1 x.2.2.2.1.toNatClampNeg x.1) (upd x.2.2.2.2.2 x.1.toNatClampNeg (vp_nar .boolean (0 : Int32))))) else (f_X11_made_J79 F rec x.1 r23.2.1 r23.2.2 x.2.2.2.1 x.2.2.2.2.1 (upd x.2.2.2.2.2 x.1.toNatClampNeg (vp_nar .boolean (0 : Int32)))))))
def f_X11_made (F : Nat) (a1 : Int32) (m_base : Int32) (m_many : Int32) (m_figures : Nat → Int32) (m_likes : Int32) (m_like : Nat → Int32) (m_isTwo : Nat → Int32) : Option (Int32 × Int32 × (Nat → Int32) × Int32 × (Nat → Int32) × (Nat → Int32)) := (f_X11_in F a1.toInt64 (1 : Int64) (10000 : Int64)).bind (fun r27 => if r27 = 0 then (some ((-1 : Int32), m_many, m_figures, m_likes, m_like, m_isTwo)) else ((f_X11_turned F a1.toInt64 m_base m_many m_figures).bind (fun r30 => if r30.1 = a1.toInt64 then (some ((1 : Int32), r30.2.1, r30.2.2, m_likes, m_like, m_isTwo)) else ((lp (f_X11_made_B35 F a1 m_base) F ((1 : Int32), r30.2.1, r30.2.2, (0 : Int32), m_like, m_isTwo)).bind (fun ex33 => (lp (f_X11_made_B87 F a1 ex33.1 ex33.2.1 ex33.2.2.1 ex33.2.2.2.1) F ((0 : Int32), ex33.2.2.2.2)).bind (fun ex34 => ck (¬ (a1 < 0 ∨ 10001 ≤ a1.toNatClampNeg)) (if (ex34 a1.toNatClampNeg) = 0 then ((lp (f_X11_made_B163 F a1 ex33.1 ex33.2.1 ex33.2.2.1 ex33.2.2.2.1 ex34) F (0 : Int32)).bind (fun ex37 => Sum.elim (fun r => some r) (fun er38 => (lp (f_X11_made_B207 F a1 ex33.1 ex33.2.1 ex33.2.2.1 ex33.2.2.2.1 ex34) F (1 : Int32)).bind (fun ex39 => Sum.elim (fun r => some r) (fun er40 => some ((-4 : Int32), ex33.1, ex33.2.1, ex33.2.2.1, ex33.2.2.2.1, ex34)) ex39)) ex37)) else (some ((2 : Int32), ex33.1, ex33.2.1, ex33.2.2.1, ex33.2.2.2.1, ex34)))))))))
abbrev rmX11_made : Room := { frames := 2, cells := 0, slots := 0, locals := 49 }
set_option maxHeartbeats 1000000 in
set_option maxRecDepth 100000 in
theorem c_X11_made {l : Launch} {D : va_G} {cy : Nat → ClassId} {qM : Nat → Nat} {m_base : Int32} {m_f : Nat → Int32} {m_many : Int32} {m_figures : Nat → Int32} {m_tail : Int32} {m_round : Int32} {m_rounds : Int32} {m_leasts : Nat → Int64} {m_likes : Int32} {m_like : Nat → Int32} {m_isTwo : Nat → Int32} {m_came : Nat → Int32} {m_by : Nat → Int32} {m_queue : Nat → Int32} {m_kind : Int32} {m_parts : Int32} {m_wanted : Int32} {m_allowed : Int32} {m_bitOf : Nat → Int32} {m_met : Int32} {m_row : Nat → Int32} {m_narrows : Int32} {m_narrow : Nat → Int64} {m_isMade : Nat → Int32} {a1 : Int32} {F : Nat} {res : Int32 × Int32 × (Nat → Int32) × Int32 × (Nat → Int32) × (Nat → Int32)} (hf : f_X11_made F a1 m_base m_many m_figures m_likes m_like m_isTwo = some res) : kM l yX11_made wsX11_made rmX11_made D cy [.ref (qM 0), .int a1] (gM cy qM m_base m_f m_many m_figures m_tail m_round m_rounds m_leasts m_likes m_like m_isTwo m_came m_by m_queue m_kind m_parts m_wanted m_allowed m_bitOf m_met m_row m_narrows m_narrow m_isMade) (kQi D cy (fun _ : Unit => gM cy qM m_base m_f res.2.1 res.2.2.1 m_tail m_round m_rounds m_leasts res.2.2.2.1 res.2.2.2.2.1 res.2.2.2.2.2 m_came m_by m_queue m_kind m_parts m_wanted m_allowed m_bitOf m_met m_row m_narrows m_narrow m_isMade) res.1) := by
  refine kent_i (cc := cX11_made) (maxL := 4) (by decide) rfl (Nat.le_of_ble_eq_true rfl) ?_
  intro p e0 s m ar below meth c A Q ls ⟨hx, hb, hml, hr, hts, hown, hlocks, hnm⟩ hA hK hN hQ hP hD hS hl
  have hl : lv_has ls 4 [(0, .ref (qM 0)), (1, .int a1)] := hl
  have hown : s.vm.findClass RX11 = some m.cls := hown
  have huX11 : ∀ x ∈ u_ws RX11 TX11 24, x ∈ wsX11_made := by decide +kernel
  have fk27 : (Cond.fieldLink RX11 27 "FigurePlayModel" "isTwo" "[Z").before ar s = true := hts _ (by decide +kernel)
  have fk151 : (Cond.fieldLink RX11 151 "FigurePlayModel" "likes" "I").before ar s = true := hts _ (by decide +kernel)
  have fk24 : (Cond.fieldLink RX11 24 "FigurePlayModel" "like" "[I").before ar s = true := hts _ (by decide +kernel)
  have fk149 : (Cond.constantLong RX11 149 (10000)).before ar s = true := hts _ (by decide +kernel)
  unfold f_X11_made at hf
  have hL207 : ∀ (m_many : Int32) (m_figures : Nat → Int32) (m_likes : Int32) (m_like : Nat → Int32) (m_isTwo : Nat → Int32) (k : Nat) (x : Int32) (ex : (Int32 × Int32 × (Nat → Int32) × Int32 × (Nat → Int32) × (Nat → Int32)) ⊕ (Unit)) (H : Heap) (locs : List Loc) (ls : Array Slot), lp (f_X11_made_B207 F a1 m_many m_figures m_likes m_like m_isTwo) k x = some ex → (∀ r, ex = .inl r → r = res) → (∀ er, ex = .inr er → ∀ (H : Heap) (locs : List Loc) (ls : Array Slot), va_P D vwCl (gM cy qM m_base m_f m_many m_figures m_tail m_round m_rounds m_leasts m_likes m_like m_isTwo m_came m_by m_queue m_kind m_parts m_wanted m_allowed m_bitOf m_met m_row m_narrows m_narrow m_isMade) H → va_D A (gM cy qM m_base m_f m_many m_figures m_tail m_round m_rounds m_leasts m_likes m_like m_isTwo m_came m_by m_queue m_kind m_parts m_wanted m_allowed m_bitOf m_met m_row m_narrows m_narrow m_isMade) → va_S A s.heap H locs → lv_has ls 4 [] → W p l e0 rmX11_made s m ar below meth c H locs 0 0 Q (F0 m 240 ls [])) → va_P D vwCl (gM cy qM m_base m_f m_many m_figures m_tail m_round m_rounds m_leasts m_likes m_like m_isTwo m_came m_by m_queue m_kind m_parts m_wanted m_allowed m_bitOf m_met m_row m_narrows m_narrow m_isMade) H → va_D A (gM cy qM m_base m_f m_many m_figures m_tail m_round m_rounds m_leasts m_likes m_like m_isTwo m_came m_by m_queue m_kind m_parts m_wanted m_allowed m_bitOf m_met m_row m_narrows m_narrow m_isMade) → va_S A s.heap H locs → lv_has ls 4 [(0, .ref (qM 0)), (1, .int a1), (2, .int x)] → W p l e0 rmX11_made s m ar below meth c H locs 0 0 Q (F0 m 207 ls []) := by
    intro m_many m_figures m_likes m_like m_isTwo k
    induction k with
    | zero => intro x ex H locs ls hf; exact no_some hf
    | succ k ih =>
      intro x ex H locs ls hf hret hex hP hD hS hl
      have hf : f_X11_made_B207 F a1 m_many m_figures m_likes m_like m_isTwo (lp (f_X11_made_B207 F a1 m_many m_figures m_likes m_like m_isTwo) k) x = some ex := hf
      unfold f_X11_made_B207 at hf
      have hJ234 : ∀ (x2 : Int32) (H : Heap) (locs : List Loc) (ls : Array Slot), f_X11_made_J234 F (lp (f_X11_made_B207 F a1 m_many m_figures m_likes m_like m_isTwo) k) x2 = some ex → va_P D vwCl (gM cy qM m_base m_f m_many m_figures m_tail m_round m_rounds m_leasts m_likes m_like m_isTwo m_came m_by m_queue m_kind m_parts m_wanted m_allowed m_bitOf m_met m_row m_narrows m_narrow m_isMade) H → va_D A (gM cy qM m_base m_f m_many m_figures m_tail m_round m_rounds m_leasts m_likes m_like m_isTwo m_came m_by m_queue m_kind m_parts m_wanted m_allowed m_bitOf m_met m_row m_narrows m_narrow m_isMade) → va_S A s.heap H locs → lv_has ls 4 [(0, .ref (qM 0)), (1, .int a1), (2, .int x2)] → W p l e0 rmX11_made s m ar below meth c H locs 0 0 Q (F0 m 234 ls []) := by
        intro x2 H locs ls hf hP hD hS hl
        unfold f_X11_made_J234 at hf
        refine lv_iinc (v := (x2 + (1 : Int32))) (lv' := [(2, .int (x2 + (1 : Int32))), (0, .ref (qM 0)), (1, .int a1)]) hx hb dX11_made_234 hl (k := 2) rfl rfl (by decide) rfl (fun ls hl => ?_)
        refine lv_goto (tgt := 207) hx hb dX11_made_237 (by decide) ?_
        exact ih (x2 + (1 : Int32)) ex _ _ _ hf hret hex hP hD hS (lv_sub hl [1, 2, 0] rfl)
      refine lv_iload_n hx hb dX11_made_207 rfl (lv_at hl 2 rfl) ?_
      refine lv_iload_n hx hb dX11_made_208 rfl (lv_at hl 1 rfl) ?_
      refine lv_icmp_ge (tgt := 240) hx hb dX11_made_209 (by decide) (fun c1 => ?_) (fun c1 => ?_)
      · have hf := if_t hf c1
        obtain rfl := Option.some.inj hf
        exact hex _ rfl _ _ _ hP hD hS (lv_sub hl [] rfl)
      · have hf := if_f hf c1
        refine lv_aload_n hx hb dX11_made_212 rfl (lv_at hl 0 rfl) ?_
        refine va_get (v := .ref (qM 5)) (D := D) (ci := 11) (C := RX11) (T := TX11) (N := 24) hx hb hts huX11 hown hK hP 0 rfl rfl 10 (by decide) fk27 (fun _ h9 => h9) rfl dX11_made_213 ?_
        refine lv_iload_n hx hb dX11_made_216 rfl (lv_at hl 2 rfl) ?_
        obtain ⟨c2, hf⟩ := ck_some hf
        refine va_zald hx hb hK hP 5 2 rfl rfl c2 dX11_made_217 ?_
        refine lv_if_eq (tgt := 234) hx hb dX11_made_218 (by decide) (fun c3 => ?_) (fun c3 => ?_)
        · have hf := if_t hf c3
          exact hJ234 x _ _ _ hf hP hD hS (lv_sub hl [0, 1, 2] rfl)
        · have hf := if_f hf c3
          refine lv_aload_n hx hb dX11_made_221 rfl (lv_at hl 0 rfl) ?_
          refine va_get (v := .ref (qM 5)) (D := D) (ci := 11) (C := RX11) (T := TX11) (N := 24) hx hb hts huX11 hown hK hP 0 rfl rfl 10 (by decide) fk27 (fun _ h9 => h9) rfl dX11_made_222 ?_
          refine lv_iload_n hx hb dX11_made_225 rfl (lv_at hl 1 rfl) ?_
          refine lv_iload_n hx hb dX11_made_226 rfl (lv_at hl 2 rfl) ?_
          refine lv_isub hx hb dX11_made_227 ?_
          obtain ⟨c4, hf⟩ := ck_some hf
          refine va_zald hx hb hK hP 5 2 rfl rfl c4 dX11_made_228 ?_
          refine lv_if_eq (tgt := 234) hx hb dX11_made_229 (by decide) (fun c5 => ?_) (fun c5 => ?_)
          · have hf := if_t hf c5
            exact hJ234 x _ _ _ hf hP hD hS (lv_sub hl [0, 1, 2] rfl)
          · have hf := if_f hf c5
            refine lv_iconst (v := (4 : Int32)) hx hb dX11_made_232 (by decide) ?_
            obtain rfl := Option.some.inj hf
            obtain rfl := hret _ rfl
            exact hQ () 233 _ _ _ dX11_made_233 hP hD hS
  have hL163 : ∀ (m_many : Int32) (m_figures : Nat → Int32) (m_likes : Int32) (m_like : Nat → Int32) (m_isTwo : Nat → Int32) (k : Nat) (x : Int32) (ex : (Int32 × Int32 × (Nat → Int32) × Int32 × (Nat → Int32) × (Nat → Int32)) ⊕ (Unit)) (H : Heap) (locs : List Loc) (ls : Array Slot), lp (f_X11_made_B163 F a1 m_many m_figures m_likes m_like m_isTwo) k x = some ex → (∀ r, ex = .inl r → r = res) → (∀ er, ex = .inr er → ∀ (H : Heap) (locs : List Loc) (ls : Array Slot), va_P D vwCl (gM cy qM m_base m_f m_many m_figures m_tail m_round m_rounds m_leasts m_likes m_like m_isTwo m_came m_by m_queue m_kind m_parts m_wanted m_allowed m_bitOf m_met m_row m_narrows m_narrow m_isMade) H → va_D A (gM cy qM m_base m_f m_many m_figures m_tail m_round m_rounds m_leasts m_likes m_like m_isTwo m_came m_by m_queue m_kind m_parts m_wanted m_allowed m_bitOf m_met m_row m_narrows m_narrow m_isMade) → va_S A s.heap H locs → lv_has ls 4 [(0, .ref (qM 0)), (1, .int a1)] → W p l e0 rmX11_made s m ar below meth c H locs 0 0 Q (F0 m 205 ls [])) → va_P D vwCl (gM cy qM m_base m_f m_many m_figures m_tail m_round m_rounds m_leasts m_likes m_like m_isTwo m_came m_by m_queue m_kind m_parts m_wanted m_allowed m_bitOf m_met m_row m_narrows m_narrow m_isMade) H → va_D A (gM cy qM m_base m_f m_many m_figures m_tail m_round m_rounds m_leasts m_likes m_like m_isTwo m_came m_by m_queue m_kind m_parts m_wanted m_allowed m_bitOf m_met m_row m_narrows m_narrow m_isMade) → va_S A s.heap H locs → lv_has ls 4 [(0, .ref (qM 0)), (1, .int a1), (2, .int x)] → W p l e0 rmX11_made s m ar below meth c H locs 0 0 Q (F0 m 163 ls []) := by
    intro m_many m_figures m_likes m_like m_isTwo k
    induction k with
    | zero => intro x ex H locs ls hf; exact no_some hf
    | succ k ih =>
      intro x ex H locs ls hf hret hex hP hD hS hl
      have hf : f_X11_made_B163 F a1 m_many m_figures m_likes m_like m_isTwo (lp (f_X11_made_B163 F a1 m_many m_figures m_likes m_like m_isTwo) k) x = some ex := hf
      unfold f_X11_made_B163 at hf
      have hJ199 : ∀ (x2 : Int32) (H : Heap) (locs : List Loc) (ls : Array Slot), f_X11_made_J199 F (lp (f_X11_made_B163 F a1 m_many m_figures m_likes m_like m_isTwo) k) x2 = some ex → va_P D vwCl (gM cy qM m_base m_f m_many m_figures m_tail m_round m_rounds m_leasts m_likes m_like m_isTwo m_came m_by m_queue m_kind m_parts m_wanted m_allowed m_bitOf m_met m_row m_narrows m_narrow m_isMade) H → va_D A (gM cy qM m_base m_f m_many m_figures m_tail m_round m_rounds m_leasts m_likes m_like m_isTwo m_came m_by m_queue m_kind m_parts m_wanted m_allowed m_bitOf m_met m_row m_narrows m_narrow m_isMade) → va_S A s.heap H locs → lv_has ls 4 [(0, .ref (qM 0)), (1, .int a1), (2, .int x2)] → W p l e0 rmX11_made s m ar below meth c H locs 0 0 Q (F0 m 199 ls []) := by
        intro x2 H locs ls hf hP hD hS hl
        unfold f_X11_made_J199 at hf
        refine lv_iinc (v := (x2 + (1 : Int32))) (lv' := [(2, .int (x2 + (1 : Int32))), (0, .ref (qM 0)), (1, .int a1)]) hx hb dX11_made_199 hl (k := 2) rfl rfl (by decide) rfl (fun ls hl => ?_)
        refine lv_goto (tgt := 163) hx hb dX11_made_202 (by decide) ?_
        exact ih (x2 + (1 : Int32)) ex _ _ _ hf hret hex hP hD hS (lv_sub hl [1, 2, 0] rfl)
      refine lv_iload_n hx hb dX11_made_163 rfl (lv_at hl 2 rfl) ?_
      refine lv_aload_n hx hb dX11_made_164 rfl (lv_at hl 0 rfl) ?_
      refine va_get (D := D) (ci := 11) (C := RX11) (T := TX11) (N := 24) hx hb hts huX11 hown hK hP 0 rfl rfl 8 (by decide) fk151 (fun _ h9 => h9) rfl dX11_made_165 ?_
      refine lv_icmp_ge (tgt := 205) hx hb dX11_made_168 (by decide) (fun c6 => ?_) (fun c6 => ?_)
      · have hf := if_t hf c6
        obtain rfl := Option.some.inj hf
        exact hex _ rfl _ _ _ hP hD hS (lv_sub hl [0, 1] rfl)
      · have hf := if_f hf c6
        refine lv_iload_n hx hb dX11_made_171 rfl (lv_at hl 1 rfl) ?_
        refine lv_aload_n hx hb dX11_made_172 rfl (lv_at hl 0 rfl) ?_
        refine va_get (v := .ref (qM 4)) (D := D) (ci := 11) (C := RX11) (T := TX11) (N := 24) hx hb hts huX11 hown hK hP 0 rfl rfl 9 (by decide) fk24 (fun _ h9 => h9) rfl dX11_made_173 ?_
        refine lv_iload_n hx hb dX11_made_176 rfl (lv_at hl 2 rfl) ?_
        obtain ⟨c7, hf⟩ := ck_some hf
        refine va_iald hx hb hK hP 4 0 rfl rfl c7 dX11_made_177 ?_
        refine lv_icmp_le (tgt := 199) hx hb dX11_made_178 (by decide) (fun c8 => ?_) (fun c8 => ?_)
        · have hf := if_t hf c8
          exact hJ199 x _ _ _ hf hP hD hS (lv_sub hl [0, 1, 2] rfl)
        · have hf := if_f hf c8
          refine lv_aload_n hx hb dX11_made_181 rfl (lv_at hl 0 rfl) ?_
          refine va_get (v := .ref (qM 5)) (D := D) (ci := 11) (C := RX11) (T := TX11) (N := 24) hx hb hts huX11 hown hK hP 0 rfl rfl 10 (by decide) fk27 (fun _ h9 => h9) rfl dX11_made_182 ?_
          refine lv_iload_n hx hb dX11_made_185 rfl (lv_at hl 1 rfl) ?_
          refine lv_aload_n hx hb dX11_made_186 rfl (lv_at hl 0 rfl) ?_
          refine va_get (v := .ref (qM 4)) (D := D) (ci := 11) (C := RX11) (T := TX11) (N := 24) hx hb hts huX11 hown hK hP 0 rfl rfl 9 (by decide) fk24 (fun _ h9 => h9) rfl dX11_made_187 ?_
          refine lv_iload_n hx hb dX11_made_190 rfl (lv_at hl 2 rfl) ?_
          obtain ⟨c9, hf⟩ := ck_some hf
          refine va_iald hx hb hK hP 4 0 rfl rfl c9 dX11_made_191 ?_
          refine lv_isub hx hb dX11_made_192 ?_
          obtain ⟨c10, hf⟩ := ck_some hf
          refine va_zald hx hb hK hP 5 2 rfl rfl c10 dX11_made_193 ?_
          refine lv_if_eq (tgt := 199) hx hb dX11_made_194 (by decide) (fun c11 => ?_) (fun c11 => ?_)
          · have hf := if_t hf c11
            exact hJ199 x _ _ _ hf hP hD hS (lv_sub hl [0, 1, 2] rfl)
          · have hf := if_f hf c11
            refine lv_iconst (v := (3 : Int32)) hx hb dX11_made_197 (by decide) ?_
            obtain rfl := Option.some.inj hf
            obtain rfl := hret _ rfl
            exact hQ () 198 _ _ _ dX11_made_198 hP hD hS
  have hL87 : ∀ (m_many : Int32) (m_figures : Nat → Int32) (m_likes : Int32) (m_like : Nat → Int32) (k : Nat) (x : Int32 × (Nat → Int32)) (ex : (Nat → Int32)) (H : Heap) (locs : List Loc) (ls : Array Slot), lp (f_X11_made_B87 F a1 m_many m_figures m_likes m_like) k x = some ex → (∀ (H : Heap) (locs : List Loc) (ls : Array Slot), va_P D vwCl (gM cy qM m_base m_f m_many m_figures m_tail m_round m_rounds m_leasts m_likes m_like ex m_came m_by m_queue m_kind m_parts m_wanted m_allowed m_bitOf m_met m_row m_narrows m_narrow m_isMade) H → va_D A (gM cy qM m_base m_f m_many m_figures m_tail m_round m_rounds m_leasts m_likes m_like ex m_came m_by m_queue m_kind m_parts m_wanted m_allowed m_bitOf m_met m_row m_narrows m_narrow m_isMade) → va_S A s.heap H locs → lv_has ls 4 [(0, .ref (qM 0)), (1, .int a1)] → W p l e0 rmX11_made s m ar below meth c H locs 0 0 Q (F0 m 150 ls [])) → va_P D vwCl (gM cy qM m_base m_f m_many m_figures m_tail m_round m_rounds m_leasts m_likes m_like x.2 m_came m_by m_queue m_kind m_parts m_wanted m_allowed m_bitOf m_met m_row m_narrows m_narrow m_isMade) H → va_D A (gM cy qM m_base m_f m_many m_figures m_tail m_round m_rounds m_leasts m_likes m_like x.2 m_came m_by m_queue m_kind m_parts m_wanted m_allowed m_bitOf m_met m_row m_narrows m_narrow m_isMade) → va_S A s.heap H locs → lv_has ls 4 [(0, .ref (qM 0)), (1, .int a1), (2, .int x.1)] → W p l e0 rmX11_made s m ar below meth c H locs 0 0 Q (F0 m 87 ls []) := by
    intro m_many m_figures m_likes m_like k
    induction k with
    | zero => intro x ex H locs ls hf; exact no_some hf
    | succ k ih =>
      intro x ex H locs ls hf hex hP hD hS hl
      have hf : f_X11_made_B87 F a1 m_many m_figures m_likes m_like (lp (f_X11_made_B87 F a1 m_many m_figures m_likes m_like) k) x = some ex := hf
      unfold f_X11_made_B87 at hf
      have hL97 : ∀ (x2 : Int32) (m_many : Int32) (m_figures : Nat → Int32) (m_likes : Int32) (m_like : Nat → Int32) (k : Nat) (x : Int32 × (Nat → Int32)) (ex : (Nat → Int32)) (H : Heap) (locs : List Loc) (ls : Array Slot), lp (f_X11_made_B97 F a1 x2 m_many m_figures m_likes m_like) k x = some ex → (∀ (H : Heap) (locs : List Loc) (ls : Array Slot), va_P D vwCl (gM cy qM m_base m_f m_many m_figures m_tail m_round m_rounds m_leasts m_likes m_like ex m_came m_by m_queue m_kind m_parts m_wanted m_allowed m_bitOf m_met m_row m_narrows m_narrow m_isMade) H → va_D A (gM cy qM m_base m_f m_many m_figures m_tail m_round m_rounds m_leasts m_likes m_like ex m_came m_by m_queue m_kind m_parts m_wanted m_allowed m_bitOf m_met m_row m_narrows m_narrow m_isMade) → va_S A s.heap H locs → lv_has ls 4 [(0, .ref (qM 0)), (1, .int a1), (2, .int x2)] → W p l e0 rmX11_made s m ar below meth c H locs 0 0 Q (F0 m 144 ls [])) → va_P D vwCl (gM cy qM m_base m_f m_many m_figures m_tail m_round m_rounds m_leasts m_likes m_like x.2 m_came m_by m_queue m_kind m_parts m_wanted m_allowed m_bitOf m_met m_row m_narrows m_narrow m_isMade) H → va_D A (gM cy qM m_base m_f m_many m_figures m_tail m_round m_rounds m_leasts m_likes m_like x.2 m_came m_by m_queue m_kind m_parts m_wanted m_allowed m_bitOf m_met m_row m_narrows m_narrow m_isMade) → va_S A s.heap H locs → lv_has ls 4 [(0, .ref (qM 0)), (1, .int a1), (2, .int x2), (3, .int x.1)] → W p l e0 rmX11_made s m ar below meth c H locs 0 0 Q (F0 m 97 ls []) := by
        intro x2 m_many m_figures m_likes m_like k
        induction k with
        | zero => intro x ex H locs ls hf; exact no_some hf
        | succ k ih =>
          intro x ex H locs ls hf hex hP hD hS hl
          have hf : f_X11_made_B97 F a1 x2 m_many m_figures m_likes m_like (lp (f_X11_made_B97 F a1 x2 m_many m_figures m_likes m_like) k) x = some ex := hf
          unfold f_X11_made_B97 at hf
          refine lv_iload_n hx hb dX11_made_97 rfl (lv_at hl 3 rfl) ?_
          refine lv_iload_n hx hb dX11_made_98 rfl (lv_at hl 2 rfl) ?_
          refine lv_icmp_gt (tgt := 144) hx hb dX11_made_99 (by decide) (fun c12 => ?_) (fun c12 => ?_)
          · have hf := if_t hf c12
            obtain rfl := Option.some.inj hf
            exact hex _ _ _ hP hD hS (lv_sub hl [0, 1, 2] rfl)
          · have hf := if_f hf c12
            refine lv_aload_n hx hb dX11_made_102 rfl (lv_at hl 0 rfl) ?_
            refine va_get (v := .ref (qM 4)) (D := D) (ci := 11) (C := RX11) (T := TX11) (N := 24) hx hb hts huX11 hown hK hP 0 rfl rfl 9 (by decide) fk24 (fun _ h9 => h9) rfl dX11_made_103 ?_
            refine lv_iload_n hx hb dX11_made_106 rfl (lv_at hl 2 rfl) ?_
            obtain ⟨c13, hf⟩ := ck_some hf
            refine va_iald hx hb hK hP 4 0 rfl rfl c13 dX11_made_107 ?_
            refine lv_aload_n hx hb dX11_made_108 rfl (lv_at hl 0 rfl) ?_
            refine va_get (v := .ref (qM 4)) (D := D) (ci := 11) (C := RX11) (T := TX11) (N := 24) hx hb hts huX11 hown hK hP 0 rfl rfl 9 (by decide) fk24 (fun _ h9 => h9) rfl dX11_made_109 ?_
            refine lv_iload_n hx hb dX11_made_112 rfl (lv_at hl 3 rfl) ?_
            obtain ⟨c14, hf⟩ := ck_some hf
            refine va_iald hx hb hK hP 4 0 rfl rfl c14 dX11_made_113 ?_
            refine lv_iadd hx hb dX11_made_114 ?_
            refine lv_iload_n hx hb dX11_made_115 rfl (lv_at hl 1 rfl) ?_
            refine lv_icmp_gt (tgt := 144) hx hb dX11_made_116 (by decide) (fun c15 => ?_) (fun c15 => ?_)
            · have hf := if_t hf c15
              obtain rfl := Option.some.inj hf
              exact hex _ _ _ hP hD hS (lv_sub hl [0, 1, 2] rfl)
            · have hf := if_f hf c15
              refine lv_aload_n hx hb dX11_made_119 rfl (lv_at hl 0 rfl) ?_
              refine va_get (v := .ref (qM 5)) (D := D) (ci := 11) (C := RX11) (T := TX11) (N := 24) hx hb hts huX11 hown hK hP 0 rfl rfl 10 (by decide) fk27 (fun _ h9 => h9) rfl dX11_made_120 ?_
              refine lv_aload_n hx hb dX11_made_123 rfl (lv_at hl 0 rfl) ?_
              refine va_get (v := .ref (qM 4)) (D := D) (ci := 11) (C := RX11) (T := TX11) (N := 24) hx hb hts huX11 hown hK hP 0 rfl rfl 9 (by decide) fk24 (fun _ h9 => h9) rfl dX11_made_124 ?_
              refine lv_iload_n hx hb dX11_made_127 rfl (lv_at hl 2 rfl) ?_
              obtain ⟨c16, hf⟩ := ck_some hf
              refine va_iald hx hb hK hP 4 0 rfl rfl c16 dX11_made_128 ?_
              refine lv_aload_n hx hb dX11_made_129 rfl (lv_at hl 0 rfl) ?_
              refine va_get (v := .ref (qM 4)) (D := D) (ci := 11) (C := RX11) (T := TX11) (N := 24) hx hb hts huX11 hown hK hP 0 rfl rfl 9 (by decide) fk24 (fun _ h9 => h9) rfl dX11_made_130 ?_
              refine lv_iload_n hx hb dX11_made_133 rfl (lv_at hl 3 rfl) ?_
              obtain ⟨c17, hf⟩ := ck_some hf
              refine va_iald hx hb hK hP 4 0 rfl rfl c17 dX11_made_134 ?_
              refine lv_iadd hx hb dX11_made_135 ?_
              refine lv_iconst (v := (1 : Int32)) hx hb dX11_made_136 (by decide) ?_
              obtain ⟨c18, hf⟩ := ck_some hf
              refine va_zast hx hb hK hP hD hS 5 2 rfl rfl c18 dX11_made_137 (fun H locs hP hD hS => ?_)
              have hP : va_P D vwCl (gM cy qM m_base m_f m_many m_figures m_tail m_round m_rounds m_leasts m_likes m_like (upd x.2 ((m_like x2.toNatClampNeg) + (m_like x.1.toNatClampNeg)).toNatClampNeg (vp_nar .boolean (1 : Int32))) m_came m_by m_queue m_kind m_parts m_wanted m_allowed m_bitOf m_met m_row m_narrows m_narrow m_isMade) H := hP
              have hD : va_D A (gM cy qM m_base m_f m_many m_figures m_tail m_round m_rounds m_leasts m_likes m_like (upd x.2 ((m_like x2.toNatClampNeg) + (m_like x.1.toNatClampNeg)).toNatClampNeg (vp_nar .boolean (1 : Int32))) m_came m_by m_queue m_kind m_parts m_wanted m_allowed m_bitOf m_met m_row m_narrows m_narrow m_isMade) := hD
              refine lv_iinc (v := (x.1 + (1 : Int32))) (lv' := [(3, .int (x.1 + (1 : Int32))), (0, .ref (qM 0)), (1, .int a1), (2, .int x2)]) hx hb dX11_made_138 hl (k := 3) rfl rfl (by decide) rfl (fun ls hl => ?_)
              refine lv_goto (tgt := 97) hx hb dX11_made_141 (by decide) ?_
              exact ih ((x.1 + (1 : Int32)), (upd x.2 ((m_like x2.toNatClampNeg) + (m_like x.1.toNatClampNeg)).toNatClampNeg (vp_nar .boolean (1 : Int32)))) ex _ _ _ hf hex hP hD hS (lv_sub hl [1, 2, 3, 0] rfl)
      refine lv_iload_n hx hb dX11_made_87 rfl (lv_at hl 2 rfl) ?_
      refine lv_aload_n hx hb dX11_made_88 rfl (lv_at hl 0 rfl) ?_
      refine va_get (D := D) (ci := 11) (C := RX11) (T := TX11) (N := 24) hx hb hts huX11 hown hK hP 0 rfl rfl 8 (by decide) fk151 (fun _ h9 => h9) rfl dX11_made_89 ?_
      refine lv_icmp_ge (tgt := 150) hx hb dX11_made_92 (by decide) (fun c19 => ?_) (fun c19 => ?_)
      · have hf := if_t hf c19
        obtain rfl := Option.some.inj hf
        exact hex _ _ _ hP hD hS (lv_sub hl [0, 1] rfl)
      · have hf := if_f hf c19
        refine lv_iconst (v := (0 : Int32)) hx hb dX11_made_95 (by decide) ?_
        refine lv_istore_n (lv' := [(3, .int (0 : Int32)), (0, .ref (qM 0)), (1, .int a1), (2, .int x.1)]) hx hb dX11_made_96 rfl hl (by decide) rfl (fun ls hl => ?_)
        obtain ⟨ex20, hcl, hf⟩ := ob_some hf
        refine hL97 x.1 m_many m_figures m_likes m_like F ((0 : Int32), x.2) ex20 _ _ _ hcl (fun H locs ls hP hD hS hl => ?_) hP hD hS (lv_sub hl [1, 2, 3, 0] rfl)
        refine lv_iinc (v := (x.1 + (1 : Int32))) (lv' := [(2, .int (x.1 + (1 : Int32))), (0, .ref (qM 0)), (1, .int a1)]) hx hb dX11_made_144 hl (k := 2) rfl rfl (by decide) rfl (fun ls hl => ?_)
        refine lv_goto (tgt := 87) hx hb dX11_made_147 (by decide) ?_
        exact ih ((x.1 + (1 : Int32)), ex20) ex _ _ _ hf hex hP hD hS (lv_sub hl [1, 2, 0] rfl)
  have hL35 : ∀ (k : Nat) (x : Int32 × Int32 × (Nat → Int32) × Int32 × (Nat → Int32) × (Nat → Int32)) (ex : Int32 × (Nat → Int32) × Int32 × (Nat → Int32) × (Nat → Int32)) (H : Heap) (locs : List Loc) (ls : Array Slot), lp (f_X11_made_B35 F a1 m_base) k x = some ex → (∀ (H : Heap) (locs : List Loc) (ls : Array Slot), va_P D vwCl (gM cy qM m_base m_f ex.1 ex.2.1 m_tail m_round m_rounds m_leasts ex.2.2.1 ex.2.2.2.1 ex.2.2.2.2 m_came m_by m_queue m_kind m_parts m_wanted m_allowed m_bitOf m_met m_row m_narrows m_narrow m_isMade) H → va_D A (gM cy qM m_base m_f ex.1 ex.2.1 m_tail m_round m_rounds m_leasts ex.2.2.1 ex.2.2.2.1 ex.2.2.2.2 m_came m_by m_queue m_kind m_parts m_wanted m_allowed m_bitOf m_met m_row m_narrows m_narrow m_isMade) → va_S A s.heap H locs → lv_has ls 4 [(0, .ref (qM 0)), (1, .int a1)] → W p l e0 rmX11_made s m ar below meth c H locs 0 0 Q (F0 m 85 ls [])) → va_P D vwCl (gM cy qM m_base m_f x.2.1 x.2.2.1 m_tail m_round m_rounds m_leasts x.2.2.2.1 x.2.2.2.2.1 x.2.2.2.2.2 m_came m_by m_queue m_kind m_parts m_wanted m_allowed m_bitOf m_met m_row m_narrows m_narrow m_isMade) H → va_D A (gM cy qM m_base m_f x.2.1 x.2.2.1 m_tail m_round m_rounds m_leasts x.2.2.2.1 x.2.2.2.2.1 x.2.2.2.2.2 m_came m_by m_queue m_kind m_parts m_wanted m_allowed m_bitOf m_met m_row m_narrows m_narrow m_isMade) → va_S A s.heap H locs → lv_has ls 4 [(0, .ref (qM 0)), (1, .int a1), (2, .int x.1)] → W p l e0 rmX11_made s m ar below meth c H locs 0 0 Q (F0 m 35 ls []) := by
    intro k
    induction k with
    | zero => intro x ex H locs ls hf; exact no_some hf
    | succ k ih =>
      intro x ex H locs ls hf hex hP hD hS hl
      have hf : f_X11_made_B35 F a1 m_base (lp (f_X11_made_B35 F a1 m_base) k) x = some ex := hf
      unfold f_X11_made_B35 at hf
      have hJ79 : ∀ (x2 : Int32) (m_many : Int32) (m_figures : Nat → Int32) (m_likes : Int32) (m_like : Nat → Int32) (m_isTwo : Nat → Int32) (H : Heap) (locs : List Loc) (ls : Array Slot), f_X11_made_J79 F (lp (f_X11_made_B35 F a1 m_base) k) x2 m_many m_figures m_likes m_like m_isTwo = some ex → va_P D vwCl (gM cy qM m_base m_f m_many m_figures m_tail m_round m_rounds m_leasts m_likes m_like m_isTwo m_came m_by m_queue m_kind m_parts m_wanted m_allowed m_bitOf m_met m_row m_narrows m_narrow m_isMade) H → va_D A (gM cy qM m_base m_f m_many m_figures m_tail m_round m_rounds m_leasts m_likes m_like m_isTwo m_came m_by m_queue m_kind m_parts m_wanted m_allowed m_bitOf m_met m_row m_narrows m_narrow m_isMade) → va_S A s.heap H locs → lv_has ls 4 [(0, .ref (qM 0)), (1, .int a1), (2, .int x2)] → W p l e0 rmX11_made s m ar below meth c H locs 0 0 Q (F0 m 79 ls []) := by
        intro x2 m_many m_figures m_likes m_like m_isTwo H locs ls hf hP hD hS hl
        unfold f_X11_made_J79 at hf
        refine lv_iinc (v := (x2 + (1 : Int32))) (lv' := [(2, .int (x2 + (1 : Int32))), (0, .ref (qM 0)), (1, .int a1)]) hx hb dX11_made_79 hl (k := 2) rfl rfl (by decide) rfl (fun ls hl => ?_)
        refine lv_goto (tgt := 35) hx hb dX11_made_82 (by decide) ?_
        exact ih ((x2 + (1 : Int32)), m_many, m_figures, m_likes, m_like, m_isTwo) ex _ _ _ hf hex hP hD hS (lv_sub hl [1, 2, 0] rfl)
      refine lv_iload_n hx hb dX11_made_35 rfl (lv_at hl 2 rfl) ?_
      refine lv_iload_n hx hb dX11_made_36 rfl (lv_at hl 1 rfl) ?_
      refine lv_icmp_gt (tgt := 85) hx hb dX11_made_37 (by decide) (fun c21 => ?_) (fun c21 => ?_)
      · have hf := if_t hf c21
        obtain rfl := Option.some.inj hf
        exact hex _ _ _ hP hD hS (lv_sub hl [0, 1] rfl)
      · have hf := if_f hf c21
        refine lv_aload_n hx hb dX11_made_40 rfl (lv_at hl 0 rfl) ?_
        refine va_get (v := .ref (qM 5)) (D := D) (ci := 11) (C := RX11) (T := TX11) (N := 24) hx hb hts huX11 hown hK hP 0 rfl rfl 10 (by decide) fk27 (fun _ h9 => h9) rfl dX11_made_41 ?_
        refine lv_iload_n hx hb dX11_made_44 rfl (lv_at hl 2 rfl) ?_
        refine lv_iconst (v := (0 : Int32)) hx hb dX11_made_45 (by decide) ?_
        obtain ⟨c22, hf⟩ := ck_some hf
        refine va_zast hx hb hK hP hD hS 5 2 rfl rfl c22 dX11_made_46 (fun H locs hP hD hS => ?_)
        have hP : va_P D vwCl (gM cy qM m_base m_f x.2.1 x.2.2.1 m_tail m_round m_rounds m_leasts x.2.2.2.1 x.2.2.2.2.1 (upd x.2.2.2.2.2 x.1.toNatClampNeg (vp_nar .boolean (0 : Int32))) m_came m_by m_queue m_kind m_parts m_wanted m_allowed m_bitOf m_met m_row m_narrows m_narrow m_isMade) H := hP
        have hD : va_D A (gM cy qM m_base m_f x.2.1 x.2.2.1 m_tail m_round m_rounds m_leasts x.2.2.2.1 x.2.2.2.2.1 (upd x.2.2.2.2.2 x.1.toNatClampNeg (vp_nar .boolean (0 : Int32))) m_came m_by m_queue m_kind m_parts m_wanted m_allowed m_bitOf m_met m_row m_narrows m_narrow m_isMade) := hD
        refine lv_aload_n hx hb dX11_made_47 rfl (lv_at hl 0 rfl) ?_
        refine lv_iload_n hx hb dX11_made_48 rfl (lv_at hl 2 rfl) ?_
        refine lv_i2l hx hb dX11_made_49 rfl ?_
        obtain ⟨r23, hc24, hf⟩ := ob_some hf
        refine kc_l (k_run ⟨hx, hb, hml, hown, hts⟩ (c_X11_turned hc24) (cwV 1 hts gX11_made_X11_turned rfl rfl rfl (by decide +kernel) ⟨Nat.le_of_ble_eq_true rfl, Nat.le_of_ble_eq_true rfl⟩) hK hN hP hD kA_s (ci := 11) (q0 := 0) rfl rfl rfl rfl hl.1 rfl (Nat.le_of_ble_eq_true rfl) dX11_made_50 ⟨Nat.le_of_ble_eq_true rfl, Nat.le_of_ble_eq_true rfl⟩) hP hD hS hA kI_s (fun _ H locs hP hD hS => ?_)
        refine lv_iload_n hx hb dX11_made_53 rfl (lv_at hl 2 rfl) ?_
        refine lv_i2l hx hb dX11_made_54 rfl ?_
        refine kl_ne (tgt := 79) hx hb dX11_made_55 dX11_made_56 (by decide) (fun c25 => ?_) (fun c25 => ?_)
        · have hf := if_f hf c25
          exact hJ79 x.1 r23.2.1 r23.2.2 x.2.2.2.1 x.2.2.2.2.1 (upd x.2.2.2.2.2 x.1.toNatClampNeg (vp_nar .boolean (0 : Int32))) _ _ _ hf hP hD hS (lv_sub hl [0, 1, 2] rfl)
        · have hf := if_t hf c25
          refine lv_aload_n hx hb dX11_made_59 rfl (lv_at hl 0 rfl) ?_
          refine va_get (v := .ref (qM 4)) (D := D) (ci := 11) (C := RX11) (T := TX11) (N := 24) hx hb hts huX11 hown hK hP 0 rfl rfl 9 (by decide) fk24 (fun _ h9 => h9) rfl dX11_made_60 ?_
          refine lv_aload_n hx hb dX11_made_63 rfl (lv_at hl 0 rfl) ?_
          refine va_get (D := D) (ci := 11) (C := RX11) (T := TX11) (N := 24) hx hb hts huX11 hown hK hP 0 rfl rfl 8 (by decide) fk151 (fun _ h9 => h9) rfl dX11_made_64 ?_
          refine lv_iload_n hx hb dX11_made_67 rfl (lv_at hl 2 rfl) ?_
          obtain ⟨c26, hf⟩ := ck_some hf
          refine va_iast hx hb hK hP hD hS 4 0 rfl rfl c26 dX11_made_68 (fun H locs hP hD hS => ?_)
          have hP : va_P D vwCl (gM cy qM m_base m_f r23.2.1 r23.2.2 m_tail m_round m_rounds m_leasts x.2.2.2.1 (upd x.2.2.2.2.1 x.2.2.2.1.toNatClampNeg x.1) (upd x.2.2.2.2.2 x.1.toNatClampNeg (vp_nar .boolean (0 : Int32))) m_came m_by m_queue m_kind m_parts m_wanted m_allowed m_bitOf m_met m_row m_narrows m_narrow m_isMade) H := hP
          have hD : va_D A (gM cy qM m_base m_f r23.2.1 r23.2.2 m_tail m_round m_rounds m_leasts x.2.2.2.1 (upd x.2.2.2.2.1 x.2.2.2.1.toNatClampNeg x.1) (upd x.2.2.2.2.2 x.1.toNatClampNeg (vp_nar .boolean (0 : Int32))) m_came m_by m_queue m_kind m_parts m_wanted m_allowed m_bitOf m_met m_row m_narrows m_narrow m_isMade) := hD
          refine lv_aload_n hx hb dX11_made_69 rfl (lv_at hl 0 rfl) ?_
          refine lv_dup hx hb dX11_made_70 rfl ?_
          refine va_get (D := D) (ci := 11) (C := RX11) (T := TX11) (N := 24) hx hb hts huX11 hown hK hP 0 rfl rfl 8 (by decide) fk151 (fun _ h9 => h9) rfl dX11_made_71 ?_
          refine lv_iconst (v := (1 : Int32)) hx hb dX11_made_74 (by decide) ?_
          refine lv_iadd hx hb dX11_made_75 ?_
          refine va_put (D := D) (ci := 11) (v := .int (x.2.2.2.1 + (1 : Int32))) (ty := .int) (C := RX11) (T := TX11) (N := 24) hx hb hts huX11 tyX11 tyX11_ok nmX11 hown hK hP hD hS 0 rfl rfl 8 (by decide) fk151 (fun _ h9 => h9) rfl (tyX11_ok 8 (by decide)) rfl rfl (Nat.le_of_ble_eq_true rfl) dX11_made_76 (fun H locs hP hD hS => ?_)
          have hP : va_P D vwCl (gM cy qM m_base m_f r23.2.1 r23.2.2 m_tail m_round m_rounds m_leasts (x.2.2.2.1 + (1 : Int32)) (upd x.2.2.2.2.1 x.2.2.2.1.toNatClampNeg x.1) (upd x.2.2.2.2.2 x.1.toNatClampNeg (vp_nar .boolean (0 : Int32))) m_came m_by m_queue m_kind m_parts m_wanted m_allowed m_bitOf m_met m_row m_narrows m_narrow m_isMade) H := hP
          have hD : va_D A (gM cy qM m_base m_f r23.2.1 r23.2.2 m_tail m_round m_rounds m_leasts (x.2.2.2.1 + (1 : Int32)) (upd x.2.2.2.2.1 x.2.2.2.1.toNatClampNeg x.1) (upd x.2.2.2.2.2 x.1.toNatClampNeg (vp_nar .boolean (0 : Int32))) m_came m_by m_queue m_kind m_parts m_wanted m_allowed m_bitOf m_met m_row m_narrows m_narrow m_isMade) := hD
          exact hJ79 x.1 r23.2.1 r23.2.2 (x.2.2.2.1 + (1 : Int32)) (upd x.2.2.2.2.1 x.2.2.2.1.toNatClampNeg x.1) (upd x.2.2.2.2.2 x.1.toNatClampNeg (vp_nar .boolean (0 : Int32))) _ _ _ hf hP hD hS (lv_sub hl [0, 1, 2] rfl)
  refine lv_iload_n hx hb dX11_made_0 rfl (lv_at hl 1 rfl) ?_
  refine lv_i2l hx hb dX11_made_1 rfl ?_
  refine lv_lconst (v := (1 : Int64)) hx hb dX11_made_2 (by decide) ?_
  refine lv_ldc2 (v := (10000 : Int64)) hx hb hown fk149 dX11_made_3 ?_
  obtain ⟨r27, hc28, hf⟩ := ob_some hf
  refine kc_i (k_runS ⟨hx, hb, hml, hown, hts⟩ (c_X11_in hc28) (va_cwS 3 hts gX11_made_X11_in rfl rfl rfl (by decide +kernel) ⟨Nat.le_of_ble_eq_true rfl, Nat.le_of_ble_eq_true rfl⟩) hK hN hP hD kA_0 rfl hl.1 rfl (Nat.le_of_ble_eq_true rfl) dX11_made_6 ⟨Nat.le_of_ble_eq_true rfl, Nat.le_of_ble_eq_true rfl⟩) hP hD hS hA kI_0 (fun _ H locs hP hD hS => ?_)
  refine lv_if_ne (tgt := 14) hx hb dX11_made_9 (by decide) (fun c29 => ?_) (fun c29 => ?_)
  · have hf := if_f hf c29
    refine lv_aload_n hx hb dX11_made_14 rfl (lv_at hl 0 rfl) ?_
    refine lv_iload_n hx hb dX11_made_15 rfl (lv_at hl 1 rfl) ?_
    refine lv_i2l hx hb dX11_made_16 rfl ?_
    obtain ⟨r30, hc31, hf⟩ := ob_some hf
    refine kc_l (k_run ⟨hx, hb, hml, hown, hts⟩ (c_X11_turned hc31) (cwV 1 hts gX11_made_X11_turned rfl rfl rfl (by decide +kernel) ⟨Nat.le_of_ble_eq_true rfl, Nat.le_of_ble_eq_true rfl⟩) hK hN hP hD kA_s (ci := 11) (q0 := 0) rfl rfl rfl rfl hl.1 rfl (Nat.le_of_ble_eq_true rfl) dX11_made_17 ⟨Nat.le_of_ble_eq_true rfl, Nat.le_of_ble_eq_true rfl⟩) hP hD hS hA kI_s (fun _ H locs hP hD hS => ?_)
    refine lv_iload_n hx hb dX11_made_20 rfl (lv_at hl 1 rfl) ?_
    refine lv_i2l hx hb dX11_made_21 rfl ?_
    refine kl_ne (tgt := 28) hx hb dX11_made_22 dX11_made_23 (by decide) (fun c32 => ?_) (fun c32 => ?_)
    · have hf := if_f hf c32
      refine lv_aload_n hx hb dX11_made_28 rfl (lv_at hl 0 rfl) ?_
      refine lv_iconst (v := (0 : Int32)) hx hb dX11_made_29 (by decide) ?_
      refine va_put (D := D) (ci := 11) (v := .int (0 : Int32)) (ty := .int) (C := RX11) (T := TX11) (N := 24) hx hb hts huX11 tyX11 tyX11_ok nmX11 hown hK hP hD hS 0 rfl rfl 8 (by decide) fk151 (fun _ h9 => h9) rfl (tyX11_ok 8 (by decide)) rfl rfl (Nat.le_of_ble_eq_true rfl) dX11_made_30 (fun H locs hP hD hS => ?_)
      have hP : va_P D vwCl (gM cy qM m_base m_f r30.2.1 r30.2.2 m_tail m_round m_rounds m_leasts (0 : Int32) m_like m_isTwo m_came m_by m_queue m_kind m_parts m_wanted m_allowed m_bitOf m_met m_row m_narrows m_narrow m_isMade) H := hP
      have hD : va_D A (gM cy qM m_base m_f r30.2.1 r30.2.2 m_tail m_round m_rounds m_leasts (0 : Int32) m_like m_isTwo m_came m_by m_queue m_kind m_parts m_wanted m_allowed m_bitOf m_met m_row m_narrows m_narrow m_isMade) := hD
      refine lv_iconst (v := (1 : Int32)) hx hb dX11_made_33 (by decide) ?_
      refine lv_istore_n (lv' := [(2, .int (1 : Int32)), (0, .ref (qM 0)), (1, .int a1)]) hx hb dX11_made_34 rfl hl (by decide) rfl (fun ls hl => ?_)
      obtain ⟨ex33, hcl, hf⟩ := ob_some hf
      refine hL35 F ((1 : Int32), r30.2.1, r30.2.2, (0 : Int32), m_like, m_isTwo) ex33 _ _ _ hcl (fun H locs ls hP hD hS hl => ?_) hP hD hS (lv_sub hl [1, 2, 0] rfl)
      refine lv_iconst (v := (0 : Int32)) hx hb dX11_made_85 (by decide) ?_
      refine lv_istore_n (lv' := [(2, .int (0 : Int32)), (0, .ref (qM 0)), (1, .int a1)]) hx hb dX11_made_86 rfl hl (by decide) rfl (fun ls hl => ?_)
      obtain ⟨ex34, hcl, hf⟩ := ob_some hf
      refine hL87 ex33.1 ex33.2.1 ex33.2.2.1 ex33.2.2.2.1 F ((0 : Int32), ex33.2.2.2.2) ex34 _ _ _ hcl (fun H locs ls hP hD hS hl => ?_) hP hD hS (lv_sub hl [1, 2, 0] rfl)
      refine lv_aload_n hx hb dX11_made_150 rfl (lv_at hl 0 rfl) ?_
      refine va_get (v := .ref (qM 5)) (D := D) (ci := 11) (C := RX11) (T := TX11) (N := 24) hx hb hts huX11 hown hK hP 0 rfl rfl 10 (by decide) fk27 (fun _ h9 => h9) rfl dX11_made_151 ?_
      refine lv_iload_n hx hb dX11_made_154 rfl (lv_at hl 1 rfl) ?_
      obtain ⟨c35, hf⟩ := ck_some hf
      refine va_zald hx hb hK hP 5 2 rfl rfl c35 dX11_made_155 ?_
      refine lv_if_eq (tgt := 161) hx hb dX11_made_156 (by decide) (fun c36 => ?_) (fun c36 => ?_)
      · have hf := if_t hf c36
        refine lv_iconst (v := (0 : Int32)) hx hb dX11_made_161 (by decide) ?_
        refine lv_istore_n (lv' := [(2, .int (0 : Int32)), (0, .ref (qM 0)), (1, .int a1)]) hx hb dX11_made_162 rfl hl (by decide) rfl (fun ls hl => ?_)
        obtain ⟨ex37, hcl, hf⟩ := ob_some hf
        refine hL163 ex33.1 ex33.2.1 ex33.2.2.1 ex33.2.2.2.1 ex34 F (0 : Int32) ex37 _ _ _ hcl (fun r hr0 => ?_) (fun er38 hr0 H locs ls hP hD hS hl => ?_) hP hD hS (lv_sub hl [1, 2, 0] rfl)
        · subst hr0; exact Option.some.inj (sm_inl hf)
        · subst hr0
          have hf := sm_inr hf
          refine lv_iconst (v := (1 : Int32)) hx hb dX11_made_205 (by decide) ?_
          refine lv_istore_n (lv' := [(2, .int (1 : Int32)), (0, .ref (qM 0)), (1, .int a1)]) hx hb dX11_made_206 rfl hl (by decide) rfl (fun ls hl => ?_)
          obtain ⟨ex39, hcl, hf⟩ := ob_some hf
          refine hL207 ex33.1 ex33.2.1 ex33.2.2.1 ex33.2.2.2.1 ex34 F (1 : Int32) ex39 _ _ _ hcl (fun r hr0 => ?_) (fun er40 hr0 H locs ls hP hD hS hl => ?_) hP hD hS (lv_sub hl [1, 2, 0] rfl)
          · subst hr0; exact Option.some.inj (sm_inl hf)
          · subst hr0
            have hf := sm_inr hf
            refine lv_bipush (v := (-4 : Int32)) hx hb dX11_made_240 (by decide) ?_
            obtain rfl := Option.some.inj hf
            exact hQ () 242 _ _ _ dX11_made_242 hP hD hS
      · have hf := if_f hf c36
        refine lv_iconst (v := (2 : Int32)) hx hb dX11_made_159 (by decide) ?_
        obtain rfl := Option.some.inj hf
        exact hQ () 160 _ _ _ dX11_made_160 hP hD hS
    · have hf := if_t hf c32
      refine lv_iconst (v := (1 : Int32)) hx hb dX11_made_26 (by decide) ?_
      obtain rfl := Option.some.inj hf
      exact hQ () 27 _ _ _ dX11_made_27 hP hD hS
  · have hf := if_t hf c29
    refine lv_iconst (v := (-1 : Int32)) hx hb dX11_made_12 (by decide) ?_
    obtain rfl := Option.some.inj hf
    exact hQ () 13 _ _ _ dX11_made_13 hP hD hS
def f_X11_moved_J210 (F : Nat) (s0 : Int64) : Option (Int64) := some s0
def f_X11_moved_J186 (F : Nat) (rec : (Int32 × Int32) → Option ((Int64) ⊕ (Int32))) (x10 : Int32) (s0 : Int32) (s1 : Int32) : Option ((Int64) ⊕ (Int32)) := rec ((s0 + s1), (x10 + (1 : Int32)))
def f_X11_moved_J174 (F : Nat) (rec : (Int32 × Int32) → Option ((Int64) ⊕ (Int32))) (x9 : Int32) (x10 : Int32) (x13 : Int32) : Option ((Int64) ⊕ (Int32)) := if x13 = 0 then (f_X11_moved_J186 F rec x10 x9 (0 : Int32)) else (f_X11_moved_J186 F rec x10 x9 (1 : Int32))
def f_X11_moved_J144 (F : Nat) (a4 : Int32) (m_base : Int32) (x7 : Int64) (rec : (Int32 × Int32) → Option ((Int64) ⊕ (Int32))) (x9 : Int32) (x10 : Int32) (x11 : Int64) (s0 : Int32) : Option ((Int64) ⊕ (Int32)) := if s0 = 0 then (f_X11_moved_J174 F rec x9 x10 s0) else (if x9 = a4 then (ck (¬ x7 = 0) (some (.inl (((x11 / x7) * m_base.toInt64) + x10.toInt64)))) else (f_X11_moved_J174 F rec x9 x10 s0))
def f_X11_moved_J143 (F : Nat) (a4 : Int32) (m_base : Int32) (x7 : Int64) (rec : (Int32 × Int32) → Option ((Int64) ⊕ (Int32))) (x9 : Int32) (x10 : Int32) (x11 : Int64) : Option ((Int64) ⊕ (Int32)) := f_X11_moved_J144 F a4 m_base x7 rec x9 x10 x11 (0 : Int32)
def f_X11_moved_B76 (F : Nat) (a2 : Int32) (a3 : Int32) (a4 : Int32) (m_base : Int32) (x5 : Int64) (x7 : Int64) (rec : Int32 × Int32 → Option ((Int64) ⊕ (Int32))) (x : Int32 × Int32) : Option ((Int64) ⊕ (Int32)) := if m_base ≤ x.2 then (some (.inr x.1)) else (if x7 = (0 : Int64) then (f_X11_moved_J143 F a4 m_base x7 rec x.1 x.2 (x.2.toInt64 * ((a3.toInt64 * x5) - a2.toInt64))) else (ck (¬ x7 = 0) (if ((x.2.toInt64 * ((a3.toInt64 * x5) - a2.toInt64)) - (x.2.toInt64 * ((a3.toInt64 * x5) - a2.toInt64)) / x7 * x7) = (0 : Int64) then (ck (¬ x7 = 0) (ck (¬ m_base.toInt64 = 0) ((f_X11_in F ((x.2.toInt64 * ((a3.toInt64 * x5) - a2.toInt64)) / x7) (x5 / m_base.toInt64) (x5 - (1 : Int64))).bind (fun r11 => if r11 = 0 then (f_X11_moved_J143 F a4 m_base x7 rec x.1 x.2 (x.2.toInt64 * ((a3.toInt64 * x5) - a2.toInt64))) else (f_X11_moved_J144 F a4 m_base x7 rec x.1 x.2 (x.2.toInt64 * ((a3.toInt64 * x5) - a2.toInt64)) (1 : Int32)))))) else (f_X11_moved_J143 F a4 m_base x7 rec x.1 x.2 (x.2.toInt64 * ((a3.toInt64 * x5) - a2.toInt64))))))
def f_X11_moved_J44 (F : Nat) : Option (Int64) := some (-1 : Int64)
def f_X11_moved (F : Nat) (a1 : Int32) (a2 : Int32) (a3 : Int32) (a4 : Int32) (m_base : Int32) : Option (Int64) := (f_X11_in F a1.toInt64 (2 : Int64) (12 : Int64)).bind (fun r14 => if r14 = 0 then (f_X11_moved_J44 F) else ((f_X11_in F a2.toInt64 (1 : Int64) (15 : Int64)).bind (fun r17 => if r17 = 0 then (f_X11_moved_J44 F) else ((f_X11_in F a3.toInt64 (1 : Int64) (15 : Int64)).bind (fun r20 => if r20 = 0 then (f_X11_moved_J44 F) else (if (-1 : Int32) ≤ a4 then ((f_X11_power F (a1 - (1 : Int32)) m_base).bind (fun r24 => (lp (f_X11_moved_B76 F a2 a3 a4 m_base r24 ((a2.toInt64 * m_base.toInt64) - a3.toInt64)) F ((0 : Int32), (1 : Int32))).bind (fun ex26 => Sum.elim (fun r => some r) (fun er27 => if a4 = (-1 : Int32) then (f_X11_moved_J210 F er27.toInt64) else (f_X11_moved_J210 F (-4 : Int64))) ex26))) else (f_X11_moved_J44 F)))))))
abbrev rmX11_moved : Room := { frames := 1, cells := 0, slots := 0, locals := 25 }
set_option maxHeartbeats 1000000 in
set_option maxRecDepth 100000 in
theorem c_X11_moved {l : Launch} {D : va_G} {cy : Nat → ClassId} {qM : Nat → Nat} {m_base : Int32} {m_f : Nat → Int32} {m_many : Int32} {m_figures : Nat → Int32} {m_tail : Int32} {m_round : Int32} {m_rounds : Int32} {m_leasts : Nat → Int64} {m_likes : Int32} {m_like : Nat → Int32} {m_isTwo : Nat → Int32} {m_came : Nat → Int32} {m_by : Nat → Int32} {m_queue : Nat → Int32} {m_kind : Int32} {m_parts : Int32} {m_wanted : Int32} {m_allowed : Int32} {m_bitOf : Nat → Int32} {m_met : Int32} {m_row : Nat → Int32} {m_narrows : Int32} {m_narrow : Nat → Int64} {m_isMade : Nat → Int32} {a1 : Int32} {a2 : Int32} {a3 : Int32} {a4 : Int32} {F : Nat} {res : Int64} (hf : f_X11_moved F a1 a2 a3 a4 m_base = some res) : kM l yX11_moved wsX11_moved rmX11_moved D cy [.ref (qM 0), .int a1, .int a2, .int a3, .int a4] (gM cy qM m_base m_f m_many m_figures m_tail m_round m_rounds m_leasts m_likes m_like m_isTwo m_came m_by m_queue m_kind m_parts m_wanted m_allowed m_bitOf m_met m_row m_narrows m_narrow m_isMade) (kQl D cy (fun _ : Unit => gM cy qM m_base m_f m_many m_figures m_tail m_round m_rounds m_leasts m_likes m_like m_isTwo m_came m_by m_queue m_kind m_parts m_wanted m_allowed m_bitOf m_met m_row m_narrows m_narrow m_isMade) res) := by
  refine kent_l (cc := cX11_moved) (maxL := 14) (by decide) rfl (Nat.le_of_ble_eq_true rfl) ?_
  intro p e0 s m ar below meth c A Q ls ⟨hx, hb, hml, hr, hts, hown, hlocks, hnm⟩ hA hK hN hQ hP hD hS hl
  have hl : lv_has ls 14 [(0, .ref (qM 0)), (1, .int a1), (2, .int a2), (3, .int a3), (4, .int a4)] := hl
  have hown : s.vm.findClass RX11 = some m.cls := hown
  have huX11 : ∀ x ∈ u_ws RX11 TX11 24, x ∈ wsX11_moved := by decide +kernel
  have fk7 : (Cond.fieldLink RX11 7 "FigurePlayModel" "base" "I").before ar s = true := hts _ (by decide +kernel)
  have fk95 : (Cond.constantLong RX11 95 (-1)).before ar s = true := hts _ (by decide +kernel)
  have fk53 : (Cond.constantLong RX11 53 (2)).before ar s = true := hts _ (by decide +kernel)
  have fk154 : (Cond.constantLong RX11 154 (12)).before ar s = true := hts _ (by decide +kernel)
  have fk61 : (Cond.constantLong RX11 61 (15)).before ar s = true := hts _ (by decide +kernel)
  have fk111 : (Cond.constantLong RX11 111 (-4)).before ar s = true := hts _ (by decide +kernel)
  unfold f_X11_moved at hf
  have hJ210 : ∀ (s0 : Int64) (H : Heap) (locs : List Loc) (ls : Array Slot), f_X11_moved_J210 F s0 = some res → va_P D vwCl (gM cy qM m_base m_f m_many m_figures m_tail m_round m_rounds m_leasts m_likes m_like m_isTwo m_came m_by m_queue m_kind m_parts m_wanted m_allowed m_bitOf m_met m_row m_narrows m_narrow m_isMade) H → va_D A (gM cy qM m_base m_f m_many m_figures m_tail m_round m_rounds m_leasts m_likes m_like m_isTwo m_came m_by m_queue m_kind m_parts m_wanted m_allowed m_bitOf m_met m_row m_narrows m_narrow m_isMade) → va_S A s.heap H locs → lv_has ls 14 [] → W p l e0 rmX11_moved s m ar below meth c H locs 0 0 Q (F0 m 210 ls [.long s0]) := by
    intro s0 H locs ls hf hP hD hS hl
    unfold f_X11_moved_J210 at hf
    obtain rfl := Option.some.inj hf
    exact hQ () 210 _ _ _ dX11_moved_210 hP hD hS
  have hL76 : ∀ (x5 : Int64) (x7 : Int64) (k : Nat) (x : Int32 × Int32) (ex : (Int64) ⊕ (Int32)) (H : Heap) (locs : List Loc) (ls : Array Slot), lp (f_X11_moved_B76 F a2 a3 a4 m_base x5 x7) k x = some ex → (∀ r, ex = .inl r → r = res) → (∀ er, ex = .inr er → ∀ (H : Heap) (locs : List Loc) (ls : Array Slot), va_P D vwCl (gM cy qM m_base m_f m_many m_figures m_tail m_round m_rounds m_leasts m_likes m_like m_isTwo m_came m_by m_queue m_kind m_parts m_wanted m_allowed m_bitOf m_met m_row m_narrows m_narrow m_isMade) H → va_D A (gM cy qM m_base m_f m_many m_figures m_tail m_round m_rounds m_leasts m_likes m_like m_isTwo m_came m_by m_queue m_kind m_parts m_wanted m_allowed m_bitOf m_met m_row m_narrows m_narrow m_isMade) → va_S A s.heap H locs → lv_has ls 14 [(4, .int a4), (9, .int er)] → W p l e0 rmX11_moved s m ar below meth c H locs 0 0 Q (F0 m 195 ls [])) → va_P D vwCl (gM cy qM m_base m_f m_many m_figures m_tail m_round m_rounds m_leasts m_likes m_like m_isTwo m_came m_by m_queue m_kind m_parts m_wanted m_allowed m_bitOf m_met m_row m_narrows m_narrow m_isMade) H → va_D A (gM cy qM m_base m_f m_many m_figures m_tail m_round m_rounds m_leasts m_likes m_like m_isTwo m_came m_by m_queue m_kind m_parts m_wanted m_allowed m_bitOf m_met m_row m_narrows m_narrow m_isMade) → va_S A s.heap H locs → lv_has ls 14 [(0, .ref (qM 0)), (2, .int a2), (3, .int a3), (4, .int a4), (5, .long x5), (7, .long x7), (9, .int x.1), (10, .int x.2)] → W p l e0 rmX11_moved s m ar below meth c H locs 0 0 Q (F0 m 76 ls []) := by
    intro x5 x7 k
    induction k with
    | zero => intro x ex H locs ls hf; exact no_some hf
    | succ k ih =>
      intro x ex H locs ls hf hret hex hP hD hS hl
      have hf : f_X11_moved_B76 F a2 a3 a4 m_base x5 x7 (lp (f_X11_moved_B76 F a2 a3 a4 m_base x5 x7) k) x = some ex := hf
      unfold f_X11_moved_B76 at hf
      have hJ186 : ∀ (x10 : Int32) (s0 : Int32) (s1 : Int32) (H : Heap) (locs : List Loc) (ls : Array Slot), f_X11_moved_J186 F (lp (f_X11_moved_B76 F a2 a3 a4 m_base x5 x7) k) x10 s0 s1 = some ex → va_P D vwCl (gM cy qM m_base m_f m_many m_figures m_tail m_round m_rounds m_leasts m_likes m_like m_isTwo m_came m_by m_queue m_kind m_parts m_wanted m_allowed m_bitOf m_met m_row m_narrows m_narrow m_isMade) H → va_D A (gM cy qM m_base m_f m_many m_figures m_tail m_round m_rounds m_leasts m_likes m_like m_isTwo m_came m_by m_queue m_kind m_parts m_wanted m_allowed m_bitOf m_met m_row m_narrows m_narrow m_isMade) → va_S A s.heap H locs → lv_has ls 14 [(0, .ref (qM 0)), (2, .int a2), (3, .int a3), (4, .int a4), (5, .long x5), (7, .long x7), (10, .int x10)] → W p l e0 rmX11_moved s m ar below meth c H locs 0 0 Q (F0 m 186 ls [.int s1, .int s0]) := by
        intro x10 s0 s1 H locs ls hf hP hD hS hl
        unfold f_X11_moved_J186 at hf
        refine lv_iadd hx hb dX11_moved_186 ?_
        refine lv_istore (lv' := [(9, .int (s0 + s1)), (0, .ref (qM 0)), (2, .int a2), (3, .int a3), (4, .int a4), (5, .long x5), (7, .long x7), (10, .int x10)]) hx hb dX11_moved_187 hl (by decide) rfl (fun ls hl => ?_)
        refine lv_iinc (v := (x10 + (1 : Int32))) (lv' := [(10, .int (x10 + (1 : Int32))), (9, .int (s0 + s1)), (0, .ref (qM 0)), (2, .int a2), (3, .int a3), (4, .int a4), (5, .long x5), (7, .long x7)]) hx hb dX11_moved_189 hl (k := 7) rfl rfl (by decide) rfl (fun ls hl => ?_)
        refine lv_goto (tgt := 76) hx hb dX11_moved_192 (by decide) ?_
        exact ih ((s0 + s1), (x10 + (1 : Int32))) ex _ _ _ hf hret hex hP hD hS (lv_sub hl [2, 3, 4, 5, 6, 7, 1, 0] rfl)
      have hJ174 : ∀ (x9 : Int32) (x10 : Int32) (x13 : Int32) (H : Heap) (locs : List Loc) (ls : Array Slot), f_X11_moved_J174 F (lp (f_X11_moved_B76 F a2 a3 a4 m_base x5 x7) k) x9 x10 x13 = some ex → va_P D vwCl (gM cy qM m_base m_f m_many m_figures m_tail m_round m_rounds m_leasts m_likes m_like m_isTwo m_came m_by m_queue m_kind m_parts m_wanted m_allowed m_bitOf m_met m_row m_narrows m_narrow m_isMade) H → va_D A (gM cy qM m_base m_f m_many m_figures m_tail m_round m_rounds m_leasts m_likes m_like m_isTwo m_came m_by m_queue m_kind m_parts m_wanted m_allowed m_bitOf m_met m_row m_narrows m_narrow m_isMade) → va_S A s.heap H locs → lv_has ls 14 [(0, .ref (qM 0)), (2, .int a2), (3, .int a3), (4, .int a4), (5, .long x5), (7, .long x7), (9, .int x9), (10, .int x10), (13, .int x13)] → W p l e0 rmX11_moved s m ar below meth c H locs 0 0 Q (F0 m 174 ls []) := by
        intro x9 x10 x13 H locs ls hf hP hD hS hl
        unfold f_X11_moved_J174 at hf
        refine lv_iload hx hb dX11_moved_174 (lv_at hl 6 rfl) ?_
        refine lv_iload hx hb dX11_moved_176 (lv_at hl 8 rfl) ?_
        refine lv_if_eq (tgt := 185) hx hb dX11_moved_178 (by decide) (fun c1 => ?_) (fun c1 => ?_)
        · have hf := if_t hf c1
          refine lv_iconst (v := (0 : Int32)) hx hb dX11_moved_185 (by decide) ?_
          exact hJ186 x10 x9 (0 : Int32) _ _ _ hf hP hD hS (lv_sub hl [0, 1, 2, 3, 4, 5, 7] rfl)
        · have hf := if_f hf c1
          refine lv_iconst (v := (1 : Int32)) hx hb dX11_moved_181 (by decide) ?_
          refine lv_goto (tgt := 186) hx hb dX11_moved_182 (by decide) ?_
          exact hJ186 x10 x9 (1 : Int32) _ _ _ hf hP hD hS (lv_sub hl [0, 1, 2, 3, 4, 5, 7] rfl)
      have hJ144 : ∀ (x9 : Int32) (x10 : Int32) (x11 : Int64) (s0 : Int32) (H : Heap) (locs : List Loc) (ls : Array Slot), f_X11_moved_J144 F a4 m_base x7 (lp (f_X11_moved_B76 F a2 a3 a4 m_base x5 x7) k) x9 x10 x11 s0 = some ex → va_P D vwCl (gM cy qM m_base m_f m_many m_figures m_tail m_round m_rounds m_leasts m_likes m_like m_isTwo m_came m_by m_queue m_kind m_parts m_wanted m_allowed m_bitOf m_met m_row m_narrows m_narrow m_isMade) H → va_D A (gM cy qM m_base m_f m_many m_figures m_tail m_round m_rounds m_leasts m_likes m_like m_isTwo m_came m_by m_queue m_kind m_parts m_wanted m_allowed m_bitOf m_met m_row m_narrows m_narrow m_isMade) → va_S A s.heap H locs → lv_has ls 14 [(0, .ref (qM 0)), (2, .int a2), (3, .int a3), (4, .int a4), (5, .long x5), (7, .long x7), (9, .int x9), (10, .int x10), (11, .long x11)] → W p l e0 rmX11_moved s m ar below meth c H locs 0 0 Q (F0 m 144 ls [.int s0]) := by
        intro x9 x10 x11 s0 H locs ls hf hP hD hS hl
        unfold f_X11_moved_J144 at hf
        refine lv_istore (lv' := [(13, .int s0), (0, .ref (qM 0)), (2, .int a2), (3, .int a3), (4, .int a4), (5, .long x5), (7, .long x7), (9, .int x9), (10, .int x10), (11, .long x11)]) hx hb dX11_moved_144 hl (by decide) rfl (fun ls hl => ?_)
        refine lv_iload hx hb dX11_moved_146 (lv_at hl 0 rfl) ?_
        refine lv_if_eq (tgt := 174) hx hb dX11_moved_148 (by decide) (fun c2 => ?_) (fun c2 => ?_)
        · have hf := if_t hf c2
          exact hJ174 x9 x10 s0 _ _ _ hf hP hD hS (lv_sub hl [1, 2, 3, 4, 5, 6, 7, 8, 0] rfl)
        · have hf := if_f hf c2
          refine lv_iload hx hb dX11_moved_151 (lv_at hl 7 rfl) ?_
          refine lv_iload hx hb dX11_moved_153 (lv_at hl 4 rfl) ?_
          refine lv_icmp_ne (tgt := 174) hx hb dX11_moved_155 (by decide) (fun c3 => ?_) (fun c3 => ?_)
          · have hf := if_f hf c3
            exact hJ174 x9 x10 s0 _ _ _ hf hP hD hS (lv_sub hl [1, 2, 3, 4, 5, 6, 7, 8, 0] rfl)
          · have hf := if_t hf c3
            refine lv_lload hx hb dX11_moved_158 (lv_at hl 9 rfl) ?_
            refine lv_lload hx hb dX11_moved_160 (lv_at hl 6 rfl) ?_
            obtain ⟨c4, hf⟩ := ck_some hf
            refine lv_ldiv hx hb dX11_moved_162 c4 ?_
            refine lv_aload_n hx hb dX11_moved_163 rfl (lv_at hl 1 rfl) ?_
            refine va_get (D := D) (ci := 11) (C := RX11) (T := TX11) (N := 24) hx hb hts huX11 hown hK hP 0 rfl rfl 0 (by decide) fk7 (fun _ h9 => h9) rfl dX11_moved_164 ?_
            refine lv_i2l hx hb dX11_moved_167 rfl ?_
            refine lv_lmul hx hb dX11_moved_168 ?_
            refine lv_iload hx hb dX11_moved_169 (lv_at hl 8 rfl) ?_
            refine lv_i2l hx hb dX11_moved_171 rfl ?_
            refine lv_ladd hx hb dX11_moved_172 ?_
            obtain rfl := Option.some.inj hf
            obtain rfl := hret _ rfl
            exact hQ () 173 _ _ _ dX11_moved_173 hP hD hS
      have hJ143 : ∀ (x9 : Int32) (x10 : Int32) (x11 : Int64) (H : Heap) (locs : List Loc) (ls : Array Slot), f_X11_moved_J143 F a4 m_base x7 (lp (f_X11_moved_B76 F a2 a3 a4 m_base x5 x7) k) x9 x10 x11 = some ex → va_P D vwCl (gM cy qM m_base m_f m_many m_figures m_tail m_round m_rounds m_leasts m_likes m_like m_isTwo m_came m_by m_queue m_kind m_parts m_wanted m_allowed m_bitOf m_met m_row m_narrows m_narrow m_isMade) H → va_D A (gM cy qM m_base m_f m_many m_figures m_tail m_round m_rounds m_leasts m_likes m_like m_isTwo m_came m_by m_queue m_kind m_parts m_wanted m_allowed m_bitOf m_met m_row m_narrows m_narrow m_isMade) → va_S A s.heap H locs → lv_has ls 14 [(0, .ref (qM 0)), (2, .int a2), (3, .int a3), (4, .int a4), (5, .long x5), (7, .long x7), (9, .int x9), (10, .int x10), (11, .long x11)] → W p l e0 rmX11_moved s m ar below meth c H locs 0 0 Q (F0 m 143 ls []) := by
        intro x9 x10 x11 H locs ls hf hP hD hS hl
        unfold f_X11_moved_J143 at hf
        refine lv_iconst (v := (0 : Int32)) hx hb dX11_moved_143 (by decide) ?_
        exact hJ144 x9 x10 x11 (0 : Int32) _ _ _ hf hP hD hS (lv_sub hl [0, 1, 2, 3, 4, 5, 6, 7, 8] rfl)
      refine lv_iload hx hb dX11_moved_76 (lv_at hl 7 rfl) ?_
      refine lv_aload_n hx hb dX11_moved_78 rfl (lv_at hl 0 rfl) ?_
      refine va_get (D := D) (ci := 11) (C := RX11) (T := TX11) (N := 24) hx hb hts huX11 hown hK hP 0 rfl rfl 0 (by decide) fk7 (fun _ h9 => h9) rfl dX11_moved_79 ?_
      refine lv_icmp_ge (tgt := 195) hx hb dX11_moved_82 (by decide) (fun c5 => ?_) (fun c5 => ?_)
      · have hf := if_t hf c5
        obtain rfl := Option.some.inj hf
        exact hex _ rfl _ _ _ hP hD hS (lv_sub hl [3, 6] rfl)
      · have hf := if_f hf c5
        refine lv_iload hx hb dX11_moved_85 (lv_at hl 7 rfl) ?_
        refine lv_i2l hx hb dX11_moved_87 rfl ?_
        refine lv_iload_n hx hb dX11_moved_88 rfl (lv_at hl 2 rfl) ?_
        refine lv_i2l hx hb dX11_moved_89 rfl ?_
        refine lv_lload hx hb dX11_moved_90 (lv_at hl 4 rfl) ?_
        refine lv_lmul hx hb dX11_moved_92 ?_
        refine lv_iload_n hx hb dX11_moved_93 rfl (lv_at hl 1 rfl) ?_
        refine lv_i2l hx hb dX11_moved_94 rfl ?_
        refine lv_lsub hx hb dX11_moved_95 ?_
        refine lv_lmul hx hb dX11_moved_96 ?_
        refine lv_lstore (lv' := [(11, .long (x.2.toInt64 * ((a3.toInt64 * x5) - a2.toInt64))), (0, .ref (qM 0)), (2, .int a2), (3, .int a3), (4, .int a4), (5, .long x5), (7, .long x7), (9, .int x.1), (10, .int x.2)]) hx hb dX11_moved_97 hl (by decide) rfl (fun ls hl => ?_)
        refine lv_lload hx hb dX11_moved_99 (lv_at hl 6 rfl) ?_
        refine lv_lconst (v := (0 : Int64)) hx hb dX11_moved_101 (by decide) ?_
        refine kl_eq (tgt := 143) hx hb dX11_moved_102 dX11_moved_103 (by decide) (fun c6 => ?_) (fun c6 => ?_)
        · have hf := if_t hf c6
          exact hJ143 x.1 x.2 (x.2.toInt64 * ((a3.toInt64 * x5) - a2.toInt64)) _ _ _ hf hP hD hS (lv_sub hl [1, 2, 3, 4, 5, 6, 7, 8, 0] rfl)
        · have hf := if_f hf c6
          refine lv_lload hx hb dX11_moved_106 (lv_at hl 0 rfl) ?_
          refine lv_lload hx hb dX11_moved_108 (lv_at hl 6 rfl) ?_
          obtain ⟨c7, hf⟩ := ck_some hf
          refine lv_lrem hx hb dX11_moved_110 c7 ?_
          refine lv_lconst (v := (0 : Int64)) hx hb dX11_moved_111 (by decide) ?_
          refine kl_ne (tgt := 143) hx hb dX11_moved_112 dX11_moved_113 (by decide) (fun c8 => ?_) (fun c8 => ?_)
          · have hf := if_f hf c8
            exact hJ143 x.1 x.2 (x.2.toInt64 * ((a3.toInt64 * x5) - a2.toInt64)) _ _ _ hf hP hD hS (lv_sub hl [1, 2, 3, 4, 5, 6, 7, 8, 0] rfl)
          · have hf := if_t hf c8
            refine lv_lload hx hb dX11_moved_116 (lv_at hl 0 rfl) ?_
            refine lv_lload hx hb dX11_moved_118 (lv_at hl 6 rfl) ?_
            obtain ⟨c9, hf⟩ := ck_some hf
            refine lv_ldiv hx hb dX11_moved_120 c9 ?_
            refine lv_lload hx hb dX11_moved_121 (lv_at hl 5 rfl) ?_
            refine lv_aload_n hx hb dX11_moved_123 rfl (lv_at hl 1 rfl) ?_
            refine va_get (D := D) (ci := 11) (C := RX11) (T := TX11) (N := 24) hx hb hts huX11 hown hK hP 0 rfl rfl 0 (by decide) fk7 (fun _ h9 => h9) rfl dX11_moved_124 ?_
            refine lv_i2l hx hb dX11_moved_127 rfl ?_
            obtain ⟨c10, hf⟩ := ck_some hf
            refine lv_ldiv hx hb dX11_moved_128 c10 ?_
            refine lv_lload hx hb dX11_moved_129 (lv_at hl 5 rfl) ?_
            refine lv_lconst (v := (1 : Int64)) hx hb dX11_moved_131 (by decide) ?_
            refine lv_lsub hx hb dX11_moved_132 ?_
            obtain ⟨r11, hc12, hf⟩ := ob_some hf
            refine kc_i (k_runS ⟨hx, hb, hml, hown, hts⟩ (c_X11_in hc12) (va_cwS 3 hts gX11_moved_X11_in rfl rfl rfl (by decide +kernel) ⟨Nat.le_of_ble_eq_true rfl, Nat.le_of_ble_eq_true rfl⟩) hK hN hP hD kA_0 rfl hl.1 rfl (Nat.le_of_ble_eq_true rfl) dX11_moved_133 ⟨Nat.le_of_ble_eq_true rfl, Nat.le_of_ble_eq_true rfl⟩) hP hD hS hA kI_0 (fun _ H locs hP hD hS => ?_)
            refine lv_if_eq (tgt := 143) hx hb dX11_moved_136 (by decide) (fun c13 => ?_) (fun c13 => ?_)
            · have hf := if_t hf c13
              exact hJ143 x.1 x.2 (x.2.toInt64 * ((a3.toInt64 * x5) - a2.toInt64)) _ _ _ hf hP hD hS (lv_sub hl [1, 2, 3, 4, 5, 6, 7, 8, 0] rfl)
            · have hf := if_f hf c13
              refine lv_iconst (v := (1 : Int32)) hx hb dX11_moved_139 (by decide) ?_
              refine lv_goto (tgt := 144) hx hb dX11_moved_140 (by decide) ?_
              exact hJ144 x.1 x.2 (x.2.toInt64 * ((a3.toInt64 * x5) - a2.toInt64)) (1 : Int32) _ _ _ hf hP hD hS (lv_sub hl [1, 2, 3, 4, 5, 6, 7, 8, 0] rfl)
  have hJ44 : ∀ (H : Heap) (locs : List Loc) (ls : Array Slot), f_X11_moved_J44 F = some res → va_P D vwCl (gM cy qM m_base m_f m_many m_figures m_tail m_round m_rounds m_leasts m_likes m_like m_isTwo m_came m_by m_queue m_kind m_parts m_wanted m_allowed m_bitOf m_met m_row m_narrows m_narrow m_isMade) H → va_D A (gM cy qM m_base m_f m_many m_figures m_tail m_round m_rounds m_leasts m_likes m_like m_isTwo m_came m_by m_queue m_kind m_parts m_wanted m_allowed m_bitOf m_met m_row m_narrows m_narrow m_isMade) → va_S A s.heap H locs → lv_has ls 14 [] → W p l e0 rmX11_moved s m ar below meth c H locs 0 0 Q (F0 m 44 ls []) := by
    intro H locs ls hf hP hD hS hl
    unfold f_X11_moved_J44 at hf
    refine lv_ldc2 (v := (-1 : Int64)) hx hb hown fk95 dX11_moved_44 ?_
    obtain rfl := Option.some.inj hf
    exact hQ () 47 _ _ _ dX11_moved_47 hP hD hS
  refine lv_iload_n hx hb dX11_moved_0 rfl (lv_at hl 1 rfl) ?_
  refine lv_i2l hx hb dX11_moved_1 rfl ?_
  refine lv_ldc2 (v := (2 : Int64)) hx hb hown fk53 dX11_moved_2 ?_
  refine lv_ldc2 (v := (12 : Int64)) hx hb hown fk154 dX11_moved_5 ?_
  obtain ⟨r14, hc15, hf⟩ := ob_some hf
  refine kc_i (k_runS ⟨hx, hb, hml, hown, hts⟩ (c_X11_in hc15) (va_cwS 3 hts gX11_moved_X11_in rfl rfl rfl (by decide +kernel) ⟨Nat.le_of_ble_eq_true rfl, Nat.le_of_ble_eq_true rfl⟩) hK hN hP hD kA_0 rfl hl.1 rfl (Nat.le_of_ble_eq_true rfl) dX11_moved_8 ⟨Nat.le_of_ble_eq_true rfl, Nat.le_of_ble_eq_true rfl⟩) hP hD hS hA kI_0 (fun _ H locs hP hD hS => ?_)
  refine lv_if_eq (tgt := 44) hx hb dX11_moved_11 (by decide) (fun c16 => ?_) (fun c16 => ?_)
  · have hf := if_t hf c16
    exact hJ44 _ _ _ hf hP hD hS (lv_sub hl [] rfl)
  · have hf := if_f hf c16
    refine lv_iload_n hx hb dX11_moved_14 rfl (lv_at hl 2 rfl) ?_
    refine lv_i2l hx hb dX11_moved_15 rfl ?_
    refine lv_lconst (v := (1 : Int64)) hx hb dX11_moved_16 (by decide) ?_
    refine lv_ldc2 (v := (15 : Int64)) hx hb hown fk61 dX11_moved_17 ?_
    obtain ⟨r17, hc18, hf⟩ := ob_some hf
    refine kc_i (k_runS ⟨hx, hb, hml, hown, hts⟩ (c_X11_in hc18) (va_cwS 3 hts gX11_moved_X11_in rfl rfl rfl (by decide +kernel) ⟨Nat.le_of_ble_eq_true rfl, Nat.le_of_ble_eq_true rfl⟩) hK hN hP hD kA_0 rfl hl.1 rfl (Nat.le_of_ble_eq_true rfl) dX11_moved_20 ⟨Nat.le_of_ble_eq_true rfl, Nat.le_of_ble_eq_true rfl⟩) hP hD hS hA kI_0 (fun _ H locs hP hD hS => ?_)
    refine lv_if_eq (tgt := 44) hx hb dX11_moved_23 (by decide) (fun c19 => ?_) (fun c19 => ?_)
    · have hf := if_t hf c19
      exact hJ44 _ _ _ hf hP hD hS (lv_sub hl [] rfl)
    · have hf := if_f hf c19
      refine lv_iload_n hx hb dX11_moved_26 rfl (lv_at hl 3 rfl) ?_
      refine lv_i2l hx hb dX11_moved_27 rfl ?_
      refine lv_lconst (v := (1 : Int64)) hx hb dX11_moved_28 (by decide) ?_
      refine lv_ldc2 (v := (15 : Int64)) hx hb hown fk61 dX11_moved_29 ?_
      obtain ⟨r20, hc21, hf⟩ := ob_some hf
      refine kc_i (k_runS ⟨hx, hb, hml, hown, hts⟩ (c_X11_in hc21) (va_cwS 3 hts gX11_moved_X11_in rfl rfl rfl (by decide +kernel) ⟨Nat.le_of_ble_eq_true rfl, Nat.le_of_ble_eq_true rfl⟩) hK hN hP hD kA_0 rfl hl.1 rfl (Nat.le_of_ble_eq_true rfl) dX11_moved_32 ⟨Nat.le_of_ble_eq_true rfl, Nat.le_of_ble_eq_true rfl⟩) hP hD hS hA kI_0 (fun _ H locs hP hD hS => ?_)
      refine lv_if_eq (tgt := 44) hx hb dX11_moved_35 (by decide) (fun c22 => ?_) (fun c22 => ?_)
      · have hf := if_t hf c22
        exact hJ44 _ _ _ hf hP hD hS (lv_sub hl [] rfl)
      · have hf := if_f hf c22
        refine lv_iload hx hb dX11_moved_38 (lv_at hl 4 rfl) ?_
        refine lv_iconst (v := (-1 : Int32)) hx hb dX11_moved_40 (by decide) ?_
        refine lv_icmp_ge (tgt := 48) hx hb dX11_moved_41 (by decide) (fun c23 => ?_) (fun c23 => ?_)
        · have hf := if_t hf c23
          refine lv_aload_n hx hb dX11_moved_48 rfl (lv_at hl 0 rfl) ?_
          refine lv_iload_n hx hb dX11_moved_49 rfl (lv_at hl 1 rfl) ?_
          refine lv_iconst (v := (1 : Int32)) hx hb dX11_moved_50 (by decide) ?_
          refine lv_isub hx hb dX11_moved_51 ?_
          obtain ⟨r24, hc25, hf⟩ := ob_some hf
          refine kc_l (k_run ⟨hx, hb, hml, hown, hts⟩ (c_X11_power hc25) (cwV 1 hts gX11_moved_X11_power rfl rfl rfl (by decide +kernel) ⟨Nat.le_of_ble_eq_true rfl, Nat.le_of_ble_eq_true rfl⟩) hK hN hP hD kA_s (ci := 11) (q0 := 0) rfl rfl rfl rfl hl.1 rfl (Nat.le_of_ble_eq_true rfl) dX11_moved_52 ⟨Nat.le_of_ble_eq_true rfl, Nat.le_of_ble_eq_true rfl⟩) hP hD hS hA kI_s (fun _ H locs hP hD hS => ?_)
          refine lv_lstore (lv' := [(5, .long r24), (0, .ref (qM 0)), (1, .int a1), (2, .int a2), (3, .int a3), (4, .int a4)]) hx hb dX11_moved_55 hl (by decide) rfl (fun ls hl => ?_)
          refine lv_iload_n hx hb dX11_moved_57 rfl (lv_at hl 3 rfl) ?_
          refine lv_i2l hx hb dX11_moved_58 rfl ?_
          refine lv_aload_n hx hb dX11_moved_59 rfl (lv_at hl 1 rfl) ?_
          refine va_get (D := D) (ci := 11) (C := RX11) (T := TX11) (N := 24) hx hb hts huX11 hown hK hP 0 rfl rfl 0 (by decide) fk7 (fun _ h9 => h9) rfl dX11_moved_60 ?_
          refine lv_i2l hx hb dX11_moved_63 rfl ?_
          refine lv_lmul hx hb dX11_moved_64 ?_
          refine lv_iload_n hx hb dX11_moved_65 rfl (lv_at hl 4 rfl) ?_
          refine lv_i2l hx hb dX11_moved_66 rfl ?_
          refine lv_lsub hx hb dX11_moved_67 ?_
          refine lv_lstore (lv' := [(7, .long ((a2.toInt64 * m_base.toInt64) - a3.toInt64)), (5, .long r24), (0, .ref (qM 0)), (1, .int a1), (2, .int a2), (3, .int a3), (4, .int a4)]) hx hb dX11_moved_68 hl (by decide) rfl (fun ls hl => ?_)
          refine lv_iconst (v := (0 : Int32)) hx hb dX11_moved_70 (by decide) ?_
          refine lv_istore (lv' := [(9, .int (0 : Int32)), (7, .long ((a2.toInt64 * m_base.toInt64) - a3.toInt64)), (5, .long r24), (0, .ref (qM 0)), (1, .int a1), (2, .int a2), (3, .int a3), (4, .int a4)]) hx hb dX11_moved_71 hl (by decide) rfl (fun ls hl => ?_)
          refine lv_iconst (v := (1 : Int32)) hx hb dX11_moved_73 (by decide) ?_
          refine lv_istore (lv' := [(10, .int (1 : Int32)), (9, .int (0 : Int32)), (7, .long ((a2.toInt64 * m_base.toInt64) - a3.toInt64)), (5, .long r24), (0, .ref (qM 0)), (1, .int a1), (2, .int a2), (3, .int a3), (4, .int a4)]) hx hb dX11_moved_74 hl (by decide) rfl (fun ls hl => ?_)
          obtain ⟨ex26, hcl, hf⟩ := ob_some hf
          refine hL76 r24 ((a2.toInt64 * m_base.toInt64) - a3.toInt64) F ((0 : Int32), (1 : Int32)) ex26 _ _ _ hcl (fun r hr0 => ?_) (fun er27 hr0 H locs ls hP hD hS hl => ?_) hP hD hS (lv_sub hl [4, 6, 7, 8, 3, 2, 1, 0] rfl)
          · subst hr0; exact Option.some.inj (sm_inl hf)
          · subst hr0
            have hf := sm_inr hf
            refine lv_iload hx hb dX11_moved_195 (lv_at hl 0 rfl) ?_
            refine lv_iconst (v := (-1 : Int32)) hx hb dX11_moved_197 (by decide) ?_
            refine lv_icmp_ne (tgt := 207) hx hb dX11_moved_198 (by decide) (fun c28 => ?_) (fun c28 => ?_)
            · have hf := if_f hf c28
              refine lv_ldc2 (v := (-4 : Int64)) hx hb hown fk111 dX11_moved_207 ?_
              exact hJ210 (-4 : Int64) _ _ _ hf hP hD hS (lv_sub hl [] rfl)
            · have hf := if_t hf c28
              refine lv_iload hx hb dX11_moved_201 (lv_at hl 1 rfl) ?_
              refine lv_i2l hx hb dX11_moved_203 rfl ?_
              refine lv_goto (tgt := 210) hx hb dX11_moved_204 (by decide) ?_
              exact hJ210 er27.toInt64 _ _ _ hf hP hD hS (lv_sub hl [] rfl)
        · have hf := if_f hf c23
          exact hJ44 _ _ _ hf hP hD hS (lv_sub hl [] rfl)
def f_X11_beside_J64 (F : Nat) (s0 : Int32) : Option (Int32) := some s0
def f_X11_beside_J49 (F : Nat) (m_parts : Int32) (s0 : Int32) : Option (Int32) := if m_parts ≤ s0 then (f_X11_beside_J64 F (-4 : Int32)) else (f_X11_beside_J64 F s0)
def f_X11_beside (F : Nat) (a1 : Int32) (a2 : Int32) (m_kind : Int32) (m_parts : Int32) (m_allowed : Int32) (m_bitOf : Nat → Int32) : Option (Int32) := if ((m_allowed >>> (a2 &&& 31)) &&& (1 : Int32)) = 0 then (some (-4 : Int32)) else (if m_kind = 0 then (f_X11_beside_J49 F m_parts (0 : Int32)) else (if m_kind = (1 : Int32) then (ck (¬ (a2 < 0 ∨ 16 ≤ a2.toNatClampNeg)) (f_X11_beside_J49 F m_parts (a1 ||| ((1 : Int32) <<< ((m_bitOf a2.toNatClampNeg) &&& 31))))) else (f_X11_beside_J49 F m_parts (a1 + a2))))
abbrev rmX11_beside : Room := { frames := 0, cells := 0, slots := 0, locals := 0 }
set_option maxHeartbeats 1000000 in
set_option maxRecDepth 100000 in
theorem c_X11_beside {l : Launch} {D : va_G} {cy : Nat → ClassId} {qM : Nat → Nat} {m_base : Int32} {m_f : Nat → Int32} {m_many : Int32} {m_figures : Nat → Int32} {m_tail : Int32} {m_round : Int32} {m_rounds : Int32} {m_leasts : Nat → Int64} {m_likes : Int32} {m_like : Nat → Int32} {m_isTwo : Nat → Int32} {m_came : Nat → Int32} {m_by : Nat → Int32} {m_queue : Nat → Int32} {m_kind : Int32} {m_parts : Int32} {m_wanted : Int32} {m_allowed : Int32} {m_bitOf : Nat → Int32} {m_met : Int32} {m_row : Nat → Int32} {m_narrows : Int32} {m_narrow : Nat → Int64} {m_isMade : Nat → Int32} {a1 : Int32} {a2 : Int32} {F : Nat} {res : Int32} (hf : f_X11_beside F a1 a2 m_kind m_parts m_allowed m_bitOf = some res) : kM l yX11_beside wsX11_beside rmX11_beside D cy [.ref (qM 0), .int a1, .int a2] (gM cy qM m_base m_f m_many m_figures m_tail m_round m_rounds m_leasts m_likes m_like m_isTwo m_came m_by m_queue m_kind m_parts m_wanted m_allowed m_bitOf m_met m_row m_narrows m_narrow m_isMade) (kQi D cy (fun _ : Unit => gM cy qM m_base m_f m_many m_figures m_tail m_round m_rounds m_leasts m_likes m_like m_isTwo m_came m_by m_queue m_kind m_parts m_wanted m_allowed m_bitOf m_met m_row m_narrows m_narrow m_isMade) res) := by
  refine kent_i (cc := cX11_beside) (maxL := 4) (by decide) rfl (Nat.le_of_ble_eq_true rfl) ?_
  intro p e0 s m ar below meth c A Q ls ⟨hx, hb, hml, hr, hts, hown, hlocks, hnm⟩ hA hK hN hQ hP hD hS hl
  have hl : lv_has ls 4 [(0, .ref (qM 0)), (1, .int a1), (2, .int a2)] := hl
  have hown : s.vm.findClass RX11 = some m.cls := hown
  have huX11 : ∀ x ∈ u_ws RX11 TX11 24, x ∈ wsX11_beside := by decide +kernel
  have fk162 : (Cond.fieldLink RX11 162 "FigurePlayModel" "parts" "I").before ar s = true := hts _ (by decide +kernel)
  have fk156 : (Cond.fieldLink RX11 156 "FigurePlayModel" "allowed" "I").before ar s = true := hts _ (by decide +kernel)
  have fk159 : (Cond.fieldLink RX11 159 "FigurePlayModel" "kind" "I").before ar s = true := hts _ (by decide +kernel)
  have fk41 : (Cond.fieldLink RX11 41 "FigurePlayModel" "bitOf" "[I").before ar s = true := hts _ (by decide +kernel)
  unfold f_X11_beside at hf
  have hJ64 : ∀ (s0 : Int32) (H : Heap) (locs : List Loc) (ls : Array Slot), f_X11_beside_J64 F s0 = some res → va_P D vwCl (gM cy qM m_base m_f m_many m_figures m_tail m_round m_rounds m_leasts m_likes m_like m_isTwo m_came m_by m_queue m_kind m_parts m_wanted m_allowed m_bitOf m_met m_row m_narrows m_narrow m_isMade) H → va_D A (gM cy qM m_base m_f m_many m_figures m_tail m_round m_rounds m_leasts m_likes m_like m_isTwo m_came m_by m_queue m_kind m_parts m_wanted m_allowed m_bitOf m_met m_row m_narrows m_narrow m_isMade) → va_S A s.heap H locs → lv_has ls 4 [] → W p l e0 rmX11_beside s m ar below meth c H locs 0 0 Q (F0 m 64 ls [.int s0]) := by
    intro s0 H locs ls hf hP hD hS hl
    unfold f_X11_beside_J64 at hf
    obtain rfl := Option.some.inj hf
    exact hQ () 64 _ _ _ dX11_beside_64 hP hD hS
  have hJ49 : ∀ (s0 : Int32) (H : Heap) (locs : List Loc) (ls : Array Slot), f_X11_beside_J49 F m_parts s0 = some res → va_P D vwCl (gM cy qM m_base m_f m_many m_figures m_tail m_round m_rounds m_leasts m_likes m_like m_isTwo m_came m_by m_queue m_kind m_parts m_wanted m_allowed m_bitOf m_met m_row m_narrows m_narrow m_isMade) H → va_D A (gM cy qM m_base m_f m_many m_figures m_tail m_round m_rounds m_leasts m_likes m_like m_isTwo m_came m_by m_queue m_kind m_parts m_wanted m_allowed m_bitOf m_met m_row m_narrows m_narrow m_isMade) → va_S A s.heap H locs → lv_has ls 4 [(0, .ref (qM 0))] → W p l e0 rmX11_beside s m ar below meth c H locs 0 0 Q (F0 m 49 ls [.int s0]) := by
    intro s0 H locs ls hf hP hD hS hl
    unfold f_X11_beside_J49 at hf
    refine lv_istore_n (lv' := [(3, .int s0), (0, .ref (qM 0))]) hx hb dX11_beside_49 rfl hl (by decide) rfl (fun ls hl => ?_)
    refine lv_iload_n hx hb dX11_beside_50 rfl (lv_at hl 0 rfl) ?_
    refine lv_aload_n hx hb dX11_beside_51 rfl (lv_at hl 1 rfl) ?_
    refine va_get (D := D) (ci := 11) (C := RX11) (T := TX11) (N := 24) hx hb hts huX11 hown hK hP 0 rfl rfl 15 (by decide) fk162 (fun _ h9 => h9) rfl dX11_beside_52 ?_
    refine lv_icmp_ge (tgt := 62) hx hb dX11_beside_55 (by decide) (fun c1 => ?_) (fun c1 => ?_)
    · have hf := if_t hf c1
      refine lv_bipush (v := (-4 : Int32)) hx hb dX11_beside_62 (by decide) ?_
      exact hJ64 (-4 : Int32) _ _ _ hf hP hD hS (lv_sub hl [] rfl)
    · have hf := if_f hf c1
      refine lv_iload_n hx hb dX11_beside_58 rfl (lv_at hl 0 rfl) ?_
      refine lv_goto (tgt := 64) hx hb dX11_beside_59 (by decide) ?_
      exact hJ64 s0 _ _ _ hf hP hD hS (lv_sub hl [] rfl)
  refine lv_aload_n hx hb dX11_beside_0 rfl (lv_at hl 0 rfl) ?_
  refine va_get (D := D) (ci := 11) (C := RX11) (T := TX11) (N := 24) hx hb hts huX11 hown hK hP 0 rfl rfl 17 (by decide) fk156 (fun _ h9 => h9) rfl dX11_beside_1 ?_
  refine lv_iload_n hx hb dX11_beside_4 rfl (lv_at hl 2 rfl) ?_
  refine lv_ishr hx hb dX11_beside_5 ?_
  refine lv_iconst (v := (1 : Int32)) hx hb dX11_beside_6 (by decide) ?_
  refine lv_iand hx hb dX11_beside_7 ?_
  refine lv_if_ne (tgt := 14) hx hb dX11_beside_8 (by decide) (fun c2 => ?_) (fun c2 => ?_)
  · have hf := if_f hf c2
    refine lv_aload_n hx hb dX11_beside_14 rfl (lv_at hl 0 rfl) ?_
    refine va_get (D := D) (ci := 11) (C := RX11) (T := TX11) (N := 24) hx hb hts huX11 hown hK hP 0 rfl rfl 14 (by decide) fk159 (fun _ h9 => h9) rfl dX11_beside_15 ?_
    refine lv_if_ne (tgt := 25) hx hb dX11_beside_18 (by decide) (fun c3 => ?_) (fun c3 => ?_)
    · have hf := if_f hf c3
      refine lv_aload_n hx hb dX11_beside_25 rfl (lv_at hl 0 rfl) ?_
      refine va_get (D := D) (ci := 11) (C := RX11) (T := TX11) (N := 24) hx hb hts huX11 hown hK hP 0 rfl rfl 14 (by decide) fk159 (fun _ h9 => h9) rfl dX11_beside_26 ?_
      refine lv_iconst (v := (1 : Int32)) hx hb dX11_beside_29 (by decide) ?_
      refine lv_icmp_ne (tgt := 46) hx hb dX11_beside_30 (by decide) (fun c4 => ?_) (fun c4 => ?_)
      · have hf := if_f hf c4
        refine lv_iload_n hx hb dX11_beside_46 rfl (lv_at hl 1 rfl) ?_
        refine lv_iload_n hx hb dX11_beside_47 rfl (lv_at hl 2 rfl) ?_
        refine lv_iadd hx hb dX11_beside_48 ?_
        exact hJ49 (a1 + a2) _ _ _ hf hP hD hS (lv_sub hl [0] rfl)
      · have hf := if_t hf c4
        refine lv_iload_n hx hb dX11_beside_33 rfl (lv_at hl 1 rfl) ?_
        refine lv_iconst (v := (1 : Int32)) hx hb dX11_beside_34 (by decide) ?_
        refine lv_aload_n hx hb dX11_beside_35 rfl (lv_at hl 0 rfl) ?_
        refine va_get (v := .ref (qM 9)) (D := D) (ci := 11) (C := RX11) (T := TX11) (N := 24) hx hb hts huX11 hown hK hP 0 rfl rfl 18 (by decide) fk41 (fun _ h9 => h9) rfl dX11_beside_36 ?_
        refine lv_iload_n hx hb dX11_beside_39 rfl (lv_at hl 2 rfl) ?_
        obtain ⟨c5, hf⟩ := ck_some hf
        refine va_iald hx hb hK hP 9 0 rfl rfl c5 dX11_beside_40 ?_
        refine lv_ishl hx hb dX11_beside_41 ?_
        refine lv_ior hx hb dX11_beside_42 ?_
        refine lv_goto (tgt := 49) hx hb dX11_beside_43 (by decide) ?_
        exact hJ49 (a1 ||| ((1 : Int32) <<< ((m_bitOf a2.toNatClampNeg) &&& 31))) _ _ _ hf hP hD hS (lv_sub hl [0] rfl)
    · have hf := if_t hf c3
      refine lv_iconst (v := (0 : Int32)) hx hb dX11_beside_21 (by decide) ?_
      refine lv_goto (tgt := 49) hx hb dX11_beside_22 (by decide) ?_
      exact hJ49 (0 : Int32) _ _ _ hf hP hD hS (lv_sub hl [0] rfl)
  · have hf := if_t hf c2
    refine lv_bipush (v := (-4 : Int32)) hx hb dX11_beside_11 (by decide) ?_
    obtain rfl := Option.some.inj hf
    exact hQ () 13 _ _ _ dX11_beside_13 hP hD hS
def f_X11_meet_J45 (F : Nat) (m_came : Nat → Int32) (m_by : Nat → Int32) (m_queue : Nat → Int32) (m_met : Int32) : Option ((Nat → Int32) × (Nat → Int32) × (Nat → Int32) × Int32) := some (m_came, m_by, m_queue, m_met)
def f_X11_meet (F : Nat) (a1 : Int32) (a2 : Int32) (a3 : Int32) (m_came : Nat → Int32) (m_by : Nat → Int32) (m_queue : Nat → Int32) (m_met : Int32) : Option ((Nat → Int32) × (Nat → Int32) × (Nat → Int32) × Int32) := ck (¬ (a1 < 0 ∨ 51200 ≤ a1.toNatClampNeg)) (if (m_came a1.toNatClampNeg) = (-4 : Int32) then (ck (¬ (a1 < 0 ∨ 51200 ≤ a1.toNatClampNeg)) (ck (¬ (a1 < 0 ∨ 51200 ≤ a1.toNatClampNeg)) (ck (¬ (m_met < 0 ∨ 51200 ≤ m_met.toNatClampNeg)) (f_X11_meet_J45 F (upd m_came a1.toNatClampNeg a2) (upd m_by a1.toNatClampNeg a3) (upd m_queue m_met.toNatClampNeg a1) (m_met + (1 : Int32)))))) else (f_X11_meet_J45 F m_came m_by m_queue m_met))
abbrev rmX11_meet : Room := { frames := 0, cells := 0, slots := 0, locals := 0 }
set_option maxHeartbeats 1000000 in
set_option maxRecDepth 100000 in
theorem c_X11_meet {l : Launch} {D : va_G} {cy : Nat → ClassId} {qM : Nat → Nat} {m_base : Int32} {m_f : Nat → Int32} {m_many : Int32} {m_figures : Nat → Int32} {m_tail : Int32} {m_round : Int32} {m_rounds : Int32} {m_leasts : Nat → Int64} {m_likes : Int32} {m_like : Nat → Int32} {m_isTwo : Nat → Int32} {m_came : Nat → Int32} {m_by : Nat → Int32} {m_queue : Nat → Int32} {m_kind : Int32} {m_parts : Int32} {m_wanted : Int32} {m_allowed : Int32} {m_bitOf : Nat → Int32} {m_met : Int32} {m_row : Nat → Int32} {m_narrows : Int32} {m_narrow : Nat → Int64} {m_isMade : Nat → Int32} {a1 : Int32} {a2 : Int32} {a3 : Int32} {F : Nat} {res : (Nat → Int32) × (Nat → Int32) × (Nat → Int32) × Int32} (hf : f_X11_meet F a1 a2 a3 m_came m_by m_queue m_met = some res) : kM l yX11_meet wsX11_meet rmX11_meet D cy [.ref (qM 0), .int a1, .int a2, .int a3] (gM cy qM m_base m_f m_many m_figures m_tail m_round m_rounds m_leasts m_likes m_like m_isTwo m_came m_by m_queue m_kind m_parts m_wanted m_allowed m_bitOf m_met m_row m_narrows m_narrow m_isMade) (kQv D cy (fun _ : Unit => gM cy qM m_base m_f m_many m_figures m_tail m_round m_rounds m_leasts m_likes m_like m_isTwo res.1 res.2.1 res.2.2.1 m_kind m_parts m_wanted m_allowed m_bitOf res.2.2.2 m_row m_narrows m_narrow m_isMade)) := by
  refine kent_v (cc := cX11_meet) (maxL := 4) (by decide) rfl (Nat.le_of_ble_eq_true rfl) ?_
  intro p e0 s m ar below meth c A Q ls ⟨hx, hb, hml, hr, hts, hown, hlocks, hnm⟩ hA hK hN hQ hP hD hS hl
  have hl : lv_has ls 4 [(0, .ref (qM 0)), (1, .int a1), (2, .int a2), (3, .int a3)] := hl
  have hown : s.vm.findClass RX11 = some m.cls := hown
  have huX11 : ∀ x ∈ u_ws RX11 TX11 24, x ∈ wsX11_meet := by decide +kernel
  have fk32 : (Cond.fieldLink RX11 32 "FigurePlayModel" "came" "[I").before ar s = true := hts _ (by decide +kernel)
  have fk35 : (Cond.fieldLink RX11 35 "FigurePlayModel" "by" "[I").before ar s = true := hts _ (by decide +kernel)
  have fk38 : (Cond.fieldLink RX11 38 "FigurePlayModel" "queue" "[I").before ar s = true := hts _ (by decide +kernel)
  have fk165 : (Cond.fieldLink RX11 165 "FigurePlayModel" "met" "I").before ar s = true := hts _ (by decide +kernel)
  unfold f_X11_meet at hf
  have hJ45 : ∀ (m_came : Nat → Int32) (m_by : Nat → Int32) (m_queue : Nat → Int32) (m_met : Int32) (H : Heap) (locs : List Loc) (ls : Array Slot), f_X11_meet_J45 F m_came m_by m_queue m_met = some res → va_P D vwCl (gM cy qM m_base m_f m_many m_figures m_tail m_round m_rounds m_leasts m_likes m_like m_isTwo m_came m_by m_queue m_kind m_parts m_wanted m_allowed m_bitOf m_met m_row m_narrows m_narrow m_isMade) H → va_D A (gM cy qM m_base m_f m_many m_figures m_tail m_round m_rounds m_leasts m_likes m_like m_isTwo m_came m_by m_queue m_kind m_parts m_wanted m_allowed m_bitOf m_met m_row m_narrows m_narrow m_isMade) → va_S A s.heap H locs → lv_has ls 4 [] → W p l e0 rmX11_meet s m ar below meth c H locs 0 0 Q (F0 m 45 ls []) := by
    intro m_came m_by m_queue m_met H locs ls hf hP hD hS hl
    unfold f_X11_meet_J45 at hf
    obtain rfl := Option.some.inj hf
    exact hQ () 45 _ _ _ dX11_meet_45 hP hD hS
  refine lv_aload_n hx hb dX11_meet_0 rfl (lv_at hl 0 rfl) ?_
  refine va_get (v := .ref (qM 6)) (D := D) (ci := 11) (C := RX11) (T := TX11) (N := 24) hx hb hts huX11 hown hK hP 0 rfl rfl 11 (by decide) fk32 (fun _ h9 => h9) rfl dX11_meet_1 ?_
  refine lv_iload_n hx hb dX11_meet_4 rfl (lv_at hl 1 rfl) ?_
  obtain ⟨c1, hf⟩ := ck_some hf
  refine va_iald hx hb hK hP 6 0 rfl rfl c1 dX11_meet_5 ?_
  refine lv_bipush (v := (-4 : Int32)) hx hb dX11_meet_6 (by decide) ?_
  refine lv_icmp_ne (tgt := 45) hx hb dX11_meet_8 (by decide) (fun c2 => ?_) (fun c2 => ?_)
  · have hf := if_f hf c2
    exact hJ45 m_came m_by m_queue m_met _ _ _ hf hP hD hS (lv_sub hl [] rfl)
  · have hf := if_t hf c2
    refine lv_aload_n hx hb dX11_meet_11 rfl (lv_at hl 0 rfl) ?_
    refine va_get (v := .ref (qM 6)) (D := D) (ci := 11) (C := RX11) (T := TX11) (N := 24) hx hb hts huX11 hown hK hP 0 rfl rfl 11 (by decide) fk32 (fun _ h9 => h9) rfl dX11_meet_12 ?_
    refine lv_iload_n hx hb dX11_meet_15 rfl (lv_at hl 1 rfl) ?_
    refine lv_iload_n hx hb dX11_meet_16 rfl (lv_at hl 2 rfl) ?_
    obtain ⟨c3, hf⟩ := ck_some hf
    refine va_iast hx hb hK hP hD hS 6 0 rfl rfl c3 dX11_meet_17 (fun H locs hP hD hS => ?_)
    have hP : va_P D vwCl (gM cy qM m_base m_f m_many m_figures m_tail m_round m_rounds m_leasts m_likes m_like m_isTwo (upd m_came a1.toNatClampNeg a2) m_by m_queue m_kind m_parts m_wanted m_allowed m_bitOf m_met m_row m_narrows m_narrow m_isMade) H := hP
    have hD : va_D A (gM cy qM m_base m_f m_many m_figures m_tail m_round m_rounds m_leasts m_likes m_like m_isTwo (upd m_came a1.toNatClampNeg a2) m_by m_queue m_kind m_parts m_wanted m_allowed m_bitOf m_met m_row m_narrows m_narrow m_isMade) := hD
    refine lv_aload_n hx hb dX11_meet_18 rfl (lv_at hl 0 rfl) ?_
    refine va_get (v := .ref (qM 7)) (D := D) (ci := 11) (C := RX11) (T := TX11) (N := 24) hx hb hts huX11 hown hK hP 0 rfl rfl 12 (by decide) fk35 (fun _ h9 => h9) rfl dX11_meet_19 ?_
    refine lv_iload_n hx hb dX11_meet_22 rfl (lv_at hl 1 rfl) ?_
    refine lv_iload_n hx hb dX11_meet_23 rfl (lv_at hl 3 rfl) ?_
    obtain ⟨c4, hf⟩ := ck_some hf
    refine va_iast hx hb hK hP hD hS 7 0 rfl rfl c4 dX11_meet_24 (fun H locs hP hD hS => ?_)
    have hP : va_P D vwCl (gM cy qM m_base m_f m_many m_figures m_tail m_round m_rounds m_leasts m_likes m_like m_isTwo (upd m_came a1.toNatClampNeg a2) (upd m_by a1.toNatClampNeg a3) m_queue m_kind m_parts m_wanted m_allowed m_bitOf m_met m_row m_narrows m_narrow m_isMade) H := hP
    have hD : va_D A (gM cy qM m_base m_f m_many m_figures m_tail m_round m_rounds m_leasts m_likes m_like m_isTwo (upd m_came a1.toNatClampNeg a2) (upd m_by a1.toNatClampNeg a3) m_queue m_kind m_parts m_wanted m_allowed m_bitOf m_met m_row m_narrows m_narrow m_isMade) := hD
    refine lv_aload_n hx hb dX11_meet_25 rfl (lv_at hl 0 rfl) ?_
    refine va_get (v := .ref (qM 8)) (D := D) (ci := 11) (C := RX11) (T := TX11) (N := 24) hx hb hts huX11 hown hK hP 0 rfl rfl 13 (by decide) fk38 (fun _ h9 => h9) rfl dX11_meet_26 ?_
    refine lv_aload_n hx hb dX11_meet_29 rfl (lv_at hl 0 rfl) ?_
    refine va_get (D := D) (ci := 11) (C := RX11) (T := TX11) (N := 24) hx hb hts huX11 hown hK hP 0 rfl rfl 19 (by decide) fk165 (fun _ h9 => h9) rfl dX11_meet_30 ?_
    refine lv_iload_n hx hb dX11_meet_33 rfl (lv_at hl 1 rfl) ?_
    obtain ⟨c5, hf⟩ := ck_some hf
    refine va_iast hx hb hK hP hD hS 8 0 rfl rfl c5 dX11_meet_34 (fun H locs hP hD hS => ?_)
    have hP : va_P D vwCl (gM cy qM m_base m_f m_many m_figures m_tail m_round m_rounds m_leasts m_likes m_like m_isTwo (upd m_came a1.toNatClampNeg a2) (upd m_by a1.toNatClampNeg a3) (upd m_queue m_met.toNatClampNeg a1) m_kind m_parts m_wanted m_allowed m_bitOf m_met m_row m_narrows m_narrow m_isMade) H := hP
    have hD : va_D A (gM cy qM m_base m_f m_many m_figures m_tail m_round m_rounds m_leasts m_likes m_like m_isTwo (upd m_came a1.toNatClampNeg a2) (upd m_by a1.toNatClampNeg a3) (upd m_queue m_met.toNatClampNeg a1) m_kind m_parts m_wanted m_allowed m_bitOf m_met m_row m_narrows m_narrow m_isMade) := hD
    refine lv_aload_n hx hb dX11_meet_35 rfl (lv_at hl 0 rfl) ?_
    refine lv_dup hx hb dX11_meet_36 rfl ?_
    refine va_get (D := D) (ci := 11) (C := RX11) (T := TX11) (N := 24) hx hb hts huX11 hown hK hP 0 rfl rfl 19 (by decide) fk165 (fun _ h9 => h9) rfl dX11_meet_37 ?_
    refine lv_iconst (v := (1 : Int32)) hx hb dX11_meet_40 (by decide) ?_
    refine lv_iadd hx hb dX11_meet_41 ?_
    refine va_put (D := D) (ci := 11) (v := .int (m_met + (1 : Int32))) (ty := .int) (C := RX11) (T := TX11) (N := 24) hx hb hts huX11 tyX11 tyX11_ok nmX11 hown hK hP hD hS 0 rfl rfl 19 (by decide) fk165 (fun _ h9 => h9) rfl (tyX11_ok 19 (by decide)) rfl rfl (Nat.le_of_ble_eq_true rfl) dX11_meet_42 (fun H locs hP hD hS => ?_)
    have hP : va_P D vwCl (gM cy qM m_base m_f m_many m_figures m_tail m_round m_rounds m_leasts m_likes m_like m_isTwo (upd m_came a1.toNatClampNeg a2) (upd m_by a1.toNatClampNeg a3) (upd m_queue m_met.toNatClampNeg a1) m_kind m_parts m_wanted m_allowed m_bitOf (m_met + (1 : Int32)) m_row m_narrows m_narrow m_isMade) H := hP
    have hD : va_D A (gM cy qM m_base m_f m_many m_figures m_tail m_round m_rounds m_leasts m_likes m_like m_isTwo (upd m_came a1.toNatClampNeg a2) (upd m_by a1.toNatClampNeg a3) (upd m_queue m_met.toNatClampNeg a1) m_kind m_parts m_wanted m_allowed m_bitOf (m_met + (1 : Int32)) m_row m_narrows m_narrow m_isMade) := hD
    exact hJ45 (upd m_came a1.toNatClampNeg a2) (upd m_by a1.toNatClampNeg a3) (upd m_queue m_met.toNatClampNeg a1) (m_met + (1 : Int32)) _ _ _ hf hP hD hS (lv_sub hl [] rfl)
def f_X11_search_J210 (F : Nat) (s0 : Int32) (m_came : Nat → Int32) (m_by : Nat → Int32) (m_queue : Nat → Int32) (m_met : Int32) : Option (Int32 × (Nat → Int32) × (Nat → Int32) × (Nat → Int32) × Int32) := some (s0, m_came, m_by, m_queue, m_met)
def f_X11_search_J175 (F : Nat) (rec : (Int32 × (Nat → Int32) × (Nat → Int32) × (Nat → Int32) × Int32) → Option ((Nat → Int32) × (Nat → Int32) × (Nat → Int32) × Int32)) (x3 : Int32) (m_came : Nat → Int32) (m_by : Nat → Int32) (m_queue : Nat → Int32) (m_met : Int32) : Option ((Nat → Int32) × (Nat → Int32) × (Nat → Int32) × Int32) := rec ((x3 + (1 : Int32)), m_came, m_by, m_queue, m_met)
def f_X11_search_B103 (F : Nat) (a1 : Int32) (m_base : Int32) (m_kind : Int32) (m_parts : Int32) (m_allowed : Int32) (m_bitOf : Nat → Int32) (x2 : Int32) (rec : Int32 × (Nat → Int32) × (Nat → Int32) × (Nat → Int32) × Int32 → Option ((Nat → Int32) × (Nat → Int32) × (Nat → Int32) × Int32)) (x : Int32 × (Nat → Int32) × (Nat → Int32) × (Nat → Int32) × Int32) : Option ((Nat → Int32) × (Nat → Int32) × (Nat → Int32) × Int32) := if m_base ≤ x.1 then (some (x.2.1, x.2.2.1, x.2.2.2.1, x.2.2.2.2)) else (ck (¬ (x2 < 0 ∨ 51200 ≤ x2.toNatClampNeg)) (ck (¬ m_parts = 0) ((f_X11_beside F ((x.2.2.2.1 x2.toNatClampNeg) - (x.2.2.2.1 x2.toNatClampNeg) / m_parts * m_parts) x.1 m_kind m_parts m_allowed m_bitOf).bind (fun r4 => if r4 = (-4 : Int32) then (f_X11_search_J175 F rec x.1 x.2.1 x.2.2.1 x.2.2.2.1 x.2.2.2.2) else (ck (¬ (x2 < 0 ∨ 51200 ≤ x2.toNatClampNeg)) (ck (¬ m_parts = 0) (ck (¬ a1 = 0) (ck (¬ (x2 < 0 ∨ 51200 ≤ x2.toNatClampNeg)) ((f_X11_meet F (((((((x.2.2.2.1 x2.toNatClampNeg) / m_parts) * m_base) + x.1) - ((((x.2.2.2.1 x2.toNatClampNeg) / m_parts) * m_base) + x.1) / a1 * a1) * m_parts) + r4) (x.2.2.2.1 x2.toNatClampNeg) x.1 x.2.1 x.2.2.1 x.2.2.2.1 x.2.2.2.2).bind (fun r11 => f_X11_search_J175 F rec x.1 r11.1 r11.2.1 r11.2.2.1 r11.2.2.2))))))))))
def f_X11_search_B79 (F : Nat) (a1 : Int32) (m_base : Int32) (m_kind : Int32) (m_parts : Int32) (m_wanted : Int32) (m_allowed : Int32) (m_bitOf : Nat → Int32) (rec : Int32 × (Nat → Int32) × (Nat → Int32) × (Nat → Int32) × Int32 → Option ((Nat → Int32) × (Nat → Int32) × (Nat → Int32) × Int32)) (x : Int32 × (Nat → Int32) × (Nat → Int32) × (Nat → Int32) × Int32) : Option ((Nat → Int32) × (Nat → Int32) × (Nat → Int32) × Int32) := if x.2.2.2.2 ≤ x.1 then (some (x.2.1, x.2.2.1, x.2.2.2.1, x.2.2.2.2)) else (ck (¬ (m_wanted < 0 ∨ 51200 ≤ m_wanted.toNatClampNeg)) (if (x.2.1 m_wanted.toNatClampNeg) = (-4 : Int32) then ((lp (f_X11_search_B103 F a1 m_base m_kind m_parts m_allowed m_bitOf x.1) F ((0 : Int32), x.2.1, x.2.2.1, x.2.2.2.1, x.2.2.2.2)).bind (fun ex16 => rec ((x.1 + (1 : Int32)), ex16.1, ex16.2.1, ex16.2.2.1, ex16.2.2.2))) else (some (x.2.1, x.2.2.1, x.2.2.2.1, x.2.2.2.2))))
def f_X11_search_J71 (F : Nat) (rec : (Int32 × (Nat → Int32) × (Nat → Int32) × (Nat → Int32) × Int32) → Option ((Nat → Int32) × (Nat → Int32) × (Nat → Int32) × Int32)) (x2 : Int32) (m_came : Nat → Int32) (m_by : Nat → Int32) (m_queue : Nat → Int32) (m_met : Int32) : Option ((Nat → Int32) × (Nat → Int32) × (Nat → Int32) × Int32) := rec ((x2 + (1 : Int32)), m_came, m_by, m_queue, m_met)
def f_X11_search_B33 (F : Nat) (a1 : Int32) (m_base : Int32) (m_kind : Int32) (m_parts : Int32) (m_allowed : Int32) (m_bitOf : Nat → Int32) (rec : Int32 × (Nat → Int32) × (Nat → Int32) × (Nat → Int32) × Int32 → Option ((Nat → Int32) × (Nat → Int32) × (Nat → Int32) × Int32)) (x : Int32 × (Nat → Int32) × (Nat → Int32) × (Nat → Int32) × Int32) : Option ((Nat → Int32) × (Nat → Int32) × (Nat → Int32) × Int32) := if m_base ≤ x.1 then (some (x.2.1, x.2.2.1, x.2.2.2.1, x.2.2.2.2)) else ((f_X11_beside F (0 : Int32) x.1 m_kind m_parts m_allowed m_bitOf).bind (fun r18 => if r18 = (-4 : Int32) then (f_X11_search_J71 F rec x.1 x.2.1 x.2.2.1 x.2.2.2.1 x.2.2.2.2) else (ck (¬ a1 = 0) ((f_X11_meet F (((x.1 - x.1 / a1 * a1) * m_parts) + r18) (-2 : Int32) x.1 x.2.1 x.2.2.1 x.2.2.2.1 x.2.2.2.2).bind (fun r22 => f_X11_search_J71 F rec x.1 r22.1 r22.2.1 r22.2.2.1 r22.2.2.2)))))
def f_X11_search_B2 (F : Nat) (a1 : Int32) (m_parts : Int32) (m_by : Nat → Int32) (m_queue : Nat → Int32) (m_met : Int32) (rec : Int32 × (Nat → Int32) → Option ((Nat → Int32))) (x : Int32 × (Nat → Int32)) : Option ((Nat → Int32)) := if (a1 * m_parts) ≤ x.1 then (some x.2) else (ck (¬ (x.1 < 0 ∨ 51200 ≤ x.1.toNatClampNeg)) (rec ((x.1 + (1 : Int32)), (upd x.2 x.1.toNatClampNeg (-4 : Int32)))))
def f_X11_search (F : Nat) (a1 : Int32) (m_base : Int32) (m_came : Nat → Int32) (m_by : Nat → Int32) (m_queue : Nat → Int32) (m_kind : Int32) (m_parts : Int32) (m_wanted : Int32) (m_allowed : Int32) (m_bitOf : Nat → Int32) (m_met : Int32) : Option (Int32 × (Nat → Int32) × (Nat → Int32) × (Nat → Int32) × Int32) := (lp (f_X11_search_B2 F a1 m_parts m_by m_queue m_met) F ((0 : Int32), m_came)).bind (fun ex26 => (lp (f_X11_search_B33 F a1 m_base m_kind m_parts m_allowed m_bitOf) F ((1 : Int32), ex26, m_by, m_queue, (0 : Int32))).bind (fun ex27 => (lp (f_X11_search_B79 F a1 m_base m_kind m_parts m_wanted m_allowed m_bitOf) F ((0 : Int32), ex27.1, ex27.2.1, ex27.2.2.1, ex27.2.2.2)).bind (fun ex28 => ck (¬ (m_wanted < 0 ∨ 51200 ≤ m_wanted.toNatClampNeg)) (if (ex28.1 m_wanted.toNatClampNeg) = (-4 : Int32) then (f_X11_search_J210 F (-4 : Int32) ex28.1 ex28.2.1 ex28.2.2.1 ex28.2.2.2) else (f_X11_search_J210 F m_wanted ex28.1 ex28.2.1 ex28.2.2.1 ex28.2.2.2)))))
abbrev rmX11_search : Room := { frames := 1, cells := 0, slots := 0, locals := 23 }
set_option maxHeartbeats 1000000 in
set_option maxRecDepth 100000 in
theorem c_X11_search {l : Launch} {D : va_G} {cy : Nat → ClassId} {qM : Nat → Nat} {m_base : Int32} {m_f : Nat → Int32} {m_many : Int32} {m_figures : Nat → Int32} {m_tail : Int32} {m_round : Int32} {m_rounds : Int32} {m_leasts : Nat → Int64} {m_likes : Int32} {m_like : Nat → Int32} {m_isTwo : Nat → Int32} {m_came : Nat → Int32} {m_by : Nat → Int32} {m_queue : Nat → Int32} {m_kind : Int32} {m_parts : Int32} {m_wanted : Int32} {m_allowed : Int32} {m_bitOf : Nat → Int32} {m_met : Int32} {m_row : Nat → Int32} {m_narrows : Int32} {m_narrow : Nat → Int64} {m_isMade : Nat → Int32} {a1 : Int32} {F : Nat} {res : Int32 × (Nat → Int32) × (Nat → Int32) × (Nat → Int32) × Int32} (hf : f_X11_search F a1 m_base m_came m_by m_queue m_kind m_parts m_wanted m_allowed m_bitOf m_met = some res) : kM l yX11_search wsX11_search rmX11_search D cy [.ref (qM 0), .int a1] (gM cy qM m_base m_f m_many m_figures m_tail m_round m_rounds m_leasts m_likes m_like m_isTwo m_came m_by m_queue m_kind m_parts m_wanted m_allowed m_bitOf m_met m_row m_narrows m_narrow m_isMade) (kQi D cy (fun _ : Unit => gM cy qM m_base m_f m_many m_figures m_tail m_round m_rounds m_leasts m_likes m_like m_isTwo res.2.1 res.2.2.1 res.2.2.2.1 m_kind m_parts m_wanted m_allowed m_bitOf res.2.2.2.2 m_row m_narrows m_narrow m_isMade) res.1) := by
  refine kent_i (cc := cX11_search) (maxL := 5) (by decide) rfl (Nat.le_of_ble_eq_true rfl) ?_
  intro p e0 s m ar below meth c A Q ls ⟨hx, hb, hml, hr, hts, hown, hlocks, hnm⟩ hA hK hN hQ hP hD hS hl
  have hl : lv_has ls 5 [(0, .ref (qM 0)), (1, .int a1)] := hl
  have hown : s.vm.findClass RX11 = some m.cls := hown
  have huX11 : ∀ x ∈ u_ws RX11 TX11 24, x ∈ wsX11_search := by decide +kernel
  have fk7 : (Cond.fieldLink RX11 7 "FigurePlayModel" "base" "I").before ar s = true := hts _ (by decide +kernel)
  have fk38 : (Cond.fieldLink RX11 38 "FigurePlayModel" "queue" "[I").before ar s = true := hts _ (by decide +kernel)
  have fk162 : (Cond.fieldLink RX11 162 "FigurePlayModel" "parts" "I").before ar s = true := hts _ (by decide +kernel)
  have fk165 : (Cond.fieldLink RX11 165 "FigurePlayModel" "met" "I").before ar s = true := hts _ (by decide +kernel)
  have fk32 : (Cond.fieldLink RX11 32 "FigurePlayModel" "came" "[I").before ar s = true := hts _ (by decide +kernel)
  have fk176 : (Cond.fieldLink RX11 176 "FigurePlayModel" "wanted" "I").before ar s = true := hts _ (by decide +kernel)
  unfold f_X11_search at hf
  have hJ210 : ∀ (s0 : Int32) (m_came : Nat → Int32) (m_by : Nat → Int32) (m_queue : Nat → Int32) (m_met : Int32) (H : Heap) (locs : List Loc) (ls : Array Slot), f_X11_search_J210 F s0 m_came m_by m_queue m_met = some res → va_P D vwCl (gM cy qM m_base m_f m_many m_figures m_tail m_round m_rounds m_leasts m_likes m_like m_isTwo m_came m_by m_queue m_kind m_parts m_wanted m_allowed m_bitOf m_met m_row m_narrows m_narrow m_isMade) H → va_D A (gM cy qM m_base m_f m_many m_figures m_tail m_round m_rounds m_leasts m_likes m_like m_isTwo m_came m_by m_queue m_kind m_parts m_wanted m_allowed m_bitOf m_met m_row m_narrows m_narrow m_isMade) → va_S A s.heap H locs → lv_has ls 5 [] → W p l e0 rmX11_search s m ar below meth c H locs 0 0 Q (F0 m 210 ls [.int s0]) := by
    intro s0 m_came m_by m_queue m_met H locs ls hf hP hD hS hl
    unfold f_X11_search_J210 at hf
    obtain rfl := Option.some.inj hf
    exact hQ () 210 _ _ _ dX11_search_210 hP hD hS
  have hL79 : ∀ (k : Nat) (x : Int32 × (Nat → Int32) × (Nat → Int32) × (Nat → Int32) × Int32) (ex : (Nat → Int32) × (Nat → Int32) × (Nat → Int32) × Int32) (H : Heap) (locs : List Loc) (ls : Array Slot), lp (f_X11_search_B79 F a1 m_base m_kind m_parts m_wanted m_allowed m_bitOf) k x = some ex → (∀ (H : Heap) (locs : List Loc) (ls : Array Slot), va_P D vwCl (gM cy qM m_base m_f m_many m_figures m_tail m_round m_rounds m_leasts m_likes m_like m_isTwo ex.1 ex.2.1 ex.2.2.1 m_kind m_parts m_wanted m_allowed m_bitOf ex.2.2.2 m_row m_narrows m_narrow m_isMade) H → va_D A (gM cy qM m_base m_f m_many m_figures m_tail m_round m_rounds m_leasts m_likes m_like m_isTwo ex.1 ex.2.1 ex.2.2.1 m_kind m_parts m_wanted m_allowed m_bitOf ex.2.2.2 m_row m_narrows m_narrow m_isMade) → va_S A s.heap H locs → lv_has ls 5 [(0, .ref (qM 0))] → W p l e0 rmX11_search s m ar below meth c H locs 0 0 Q (F0 m 187 ls [])) → va_P D vwCl (gM cy qM m_base m_f m_many m_figures m_tail m_round m_rounds m_leasts m_likes m_like m_isTwo x.2.1 x.2.2.1 x.2.2.2.1 m_kind m_parts m_wanted m_allowed m_bitOf x.2.2.2.2 m_row m_narrows m_narrow m_isMade) H → va_D A (gM cy qM m_base m_f m_many m_figures m_tail m_round m_rounds m_leasts m_likes m_like m_isTwo x.2.1 x.2.2.1 x.2.2.2.1 m_kind m_parts m_wanted m_allowed m_bitOf x.2.2.2.2 m_row m_narrows m_narrow m_isMade) → va_S A s.heap H locs → lv_has ls 5 [(0, .ref (qM 0)), (1, .int a1), (2, .int x.1)] → W p l e0 rmX11_search s m ar below meth c H locs 0 0 Q (F0 m 79 ls []) := by
    intro k
    induction k with
    | zero => intro x ex H locs ls hf; exact no_some hf
    | succ k ih =>
      intro x ex H locs ls hf hex hP hD hS hl
      have hf : f_X11_search_B79 F a1 m_base m_kind m_parts m_wanted m_allowed m_bitOf (lp (f_X11_search_B79 F a1 m_base m_kind m_parts m_wanted m_allowed m_bitOf) k) x = some ex := hf
      unfold f_X11_search_B79 at hf
      have hL103 : ∀ (x2 : Int32) (k : Nat) (x : Int32 × (Nat → Int32) × (Nat → Int32) × (Nat → Int32) × Int32) (ex : (Nat → Int32) × (Nat → Int32) × (Nat → Int32) × Int32) (H : Heap) (locs : List Loc) (ls : Array Slot), lp (f_X11_search_B103 F a1 m_base m_kind m_parts m_allowed m_bitOf x2) k x = some ex → (∀ (H : Heap) (locs : List Loc) (ls : Array Slot), va_P D vwCl (gM cy qM m_base m_f m_many m_figures m_tail m_round m_rounds m_leasts m_likes m_like m_isTwo ex.1 ex.2.1 ex.2.2.1 m_kind m_parts m_wanted m_allowed m_bitOf ex.2.2.2 m_row m_narrows m_narrow m_isMade) H → va_D A (gM cy qM m_base m_f m_many m_figures m_tail m_round m_rounds m_leasts m_likes m_like m_isTwo ex.1 ex.2.1 ex.2.2.1 m_kind m_parts m_wanted m_allowed m_bitOf ex.2.2.2 m_row m_narrows m_narrow m_isMade) → va_S A s.heap H locs → lv_has ls 5 [(0, .ref (qM 0)), (1, .int a1), (2, .int x2)] → W p l e0 rmX11_search s m ar below meth c H locs 0 0 Q (F0 m 181 ls [])) → va_P D vwCl (gM cy qM m_base m_f m_many m_figures m_tail m_round m_rounds m_leasts m_likes m_like m_isTwo x.2.1 x.2.2.1 x.2.2.2.1 m_kind m_parts m_wanted m_allowed m_bitOf x.2.2.2.2 m_row m_narrows m_narrow m_isMade) H → va_D A (gM cy qM m_base m_f m_many m_figures m_tail m_round m_rounds m_leasts m_likes m_like m_isTwo x.2.1 x.2.2.1 x.2.2.2.1 m_kind m_parts m_wanted m_allowed m_bitOf x.2.2.2.2 m_row m_narrows m_narrow m_isMade) → va_S A s.heap H locs → lv_has ls 5 [(0, .ref (qM 0)), (1, .int a1), (2, .int x2), (3, .int x.1)] → W p l e0 rmX11_search s m ar below meth c H locs 0 0 Q (F0 m 103 ls []) := by
        intro x2 k
        induction k with
        | zero => intro x ex H locs ls hf; exact no_some hf
        | succ k ih =>
          intro x ex H locs ls hf hex hP hD hS hl
          have hf : f_X11_search_B103 F a1 m_base m_kind m_parts m_allowed m_bitOf x2 (lp (f_X11_search_B103 F a1 m_base m_kind m_parts m_allowed m_bitOf x2) k) x = some ex := hf
          unfold f_X11_search_B103 at hf
          have hJ175 : ∀ (x3 : Int32) (m_came : Nat → Int32) (m_by : Nat → Int32) (m_queue : Nat → Int32) (m_met : Int32) (H : Heap) (locs : List Loc) (ls : Array Slot), f_X11_search_J175 F (lp (f_X11_search_B103 F a1 m_base m_kind m_parts m_allowed m_bitOf x2) k) x3 m_came m_by m_queue m_met = some ex → va_P D vwCl (gM cy qM m_base m_f m_many m_figures m_tail m_round m_rounds m_leasts m_likes m_like m_isTwo m_came m_by m_queue m_kind m_parts m_wanted m_allowed m_bitOf m_met m_row m_narrows m_narrow m_isMade) H → va_D A (gM cy qM m_base m_f m_many m_figures m_tail m_round m_rounds m_leasts m_likes m_like m_isTwo m_came m_by m_queue m_kind m_parts m_wanted m_allowed m_bitOf m_met m_row m_narrows m_narrow m_isMade) → va_S A s.heap H locs → lv_has ls 5 [(0, .ref (qM 0)), (1, .int a1), (2, .int x2), (3, .int x3)] → W p l e0 rmX11_search s m ar below meth c H locs 0 0 Q (F0 m 175 ls []) := by
            intro x3 m_came m_by m_queue m_met H locs ls hf hP hD hS hl
            unfold f_X11_search_J175 at hf
            refine lv_iinc (v := (x3 + (1 : Int32))) (lv' := [(3, .int (x3 + (1 : Int32))), (0, .ref (qM 0)), (1, .int a1), (2, .int x2)]) hx hb dX11_search_175 hl (k := 3) rfl rfl (by decide) rfl (fun ls hl => ?_)
            refine lv_goto (tgt := 103) hx hb dX11_search_178 (by decide) ?_
            exact ih ((x3 + (1 : Int32)), m_came, m_by, m_queue, m_met) ex _ _ _ hf hex hP hD hS (lv_sub hl [1, 2, 3, 0] rfl)
          refine lv_iload_n hx hb dX11_search_103 rfl (lv_at hl 3 rfl) ?_
          refine lv_aload_n hx hb dX11_search_104 rfl (lv_at hl 0 rfl) ?_
          refine va_get (D := D) (ci := 11) (C := RX11) (T := TX11) (N := 24) hx hb hts huX11 hown hK hP 0 rfl rfl 0 (by decide) fk7 (fun _ h9 => h9) rfl dX11_search_105 ?_
          refine lv_icmp_ge (tgt := 181) hx hb dX11_search_108 (by decide) (fun c1 => ?_) (fun c1 => ?_)
          · have hf := if_t hf c1
            obtain rfl := Option.some.inj hf
            exact hex _ _ _ hP hD hS (lv_sub hl [0, 1, 2] rfl)
          · have hf := if_f hf c1
            refine lv_aload_n hx hb dX11_search_111 rfl (lv_at hl 0 rfl) ?_
            refine lv_aload_n hx hb dX11_search_112 rfl (lv_at hl 0 rfl) ?_
            refine va_get (v := .ref (qM 8)) (D := D) (ci := 11) (C := RX11) (T := TX11) (N := 24) hx hb hts huX11 hown hK hP 0 rfl rfl 13 (by decide) fk38 (fun _ h9 => h9) rfl dX11_search_113 ?_
            refine lv_iload_n hx hb dX11_search_116 rfl (lv_at hl 2 rfl) ?_
            obtain ⟨c2, hf⟩ := ck_some hf
            refine va_iald hx hb hK hP 8 0 rfl rfl c2 dX11_search_117 ?_
            refine lv_aload_n hx hb dX11_search_118 rfl (lv_at hl 0 rfl) ?_
            refine va_get (D := D) (ci := 11) (C := RX11) (T := TX11) (N := 24) hx hb hts huX11 hown hK hP 0 rfl rfl 15 (by decide) fk162 (fun _ h9 => h9) rfl dX11_search_119 ?_
            obtain ⟨c3, hf⟩ := ck_some hf
            refine lv_irem hx hb dX11_search_122 c3 ?_
            refine lv_iload_n hx hb dX11_search_123 rfl (lv_at hl 3 rfl) ?_
            obtain ⟨r4, hc5, hf⟩ := ob_some hf
            refine kc_i (k_run ⟨hx, hb, hml, hown, hts⟩ (c_X11_beside hc5) (cwV 2 hts gX11_search_X11_beside rfl rfl rfl (by decide +kernel) ⟨Nat.le_of_ble_eq_true rfl, Nat.le_of_ble_eq_true rfl⟩) hK hN hP hD kA_s (ci := 11) (q0 := 0) rfl rfl rfl rfl hl.1 rfl (Nat.le_of_ble_eq_true rfl) dX11_search_124 ⟨Nat.le_of_ble_eq_true rfl, Nat.le_of_ble_eq_true rfl⟩) hP hD hS hA kI_s (fun _ H locs hP hD hS => ?_)
            refine lv_istore (lv' := [(4, .int r4), (0, .ref (qM 0)), (1, .int a1), (2, .int x2), (3, .int x.1)]) hx hb dX11_search_127 hl (by decide) rfl (fun ls hl => ?_)
            refine lv_iload hx hb dX11_search_129 (lv_at hl 0 rfl) ?_
            refine lv_bipush (v := (-4 : Int32)) hx hb dX11_search_131 (by decide) ?_
            refine lv_icmp_eq (tgt := 175) hx hb dX11_search_133 (by decide) (fun c6 => ?_) (fun c6 => ?_)
            · have hf := if_t hf c6
              exact hJ175 x.1 x.2.1 x.2.2.1 x.2.2.2.1 x.2.2.2.2 _ _ _ hf hP hD hS (lv_sub hl [1, 2, 3, 4] rfl)
            · have hf := if_f hf c6
              refine lv_aload_n hx hb dX11_search_136 rfl (lv_at hl 1 rfl) ?_
              refine lv_aload_n hx hb dX11_search_137 rfl (lv_at hl 1 rfl) ?_
              refine va_get (v := .ref (qM 8)) (D := D) (ci := 11) (C := RX11) (T := TX11) (N := 24) hx hb hts huX11 hown hK hP 0 rfl rfl 13 (by decide) fk38 (fun _ h9 => h9) rfl dX11_search_138 ?_
              refine lv_iload_n hx hb dX11_search_141 rfl (lv_at hl 3 rfl) ?_
              obtain ⟨c7, hf⟩ := ck_some hf
              refine va_iald hx hb hK hP 8 0 rfl rfl c7 dX11_search_142 ?_
              refine lv_aload_n hx hb dX11_search_143 rfl (lv_at hl 1 rfl) ?_
              refine va_get (D := D) (ci := 11) (C := RX11) (T := TX11) (N := 24) hx hb hts huX11 hown hK hP 0 rfl rfl 15 (by decide) fk162 (fun _ h9 => h9) rfl dX11_search_144 ?_
              obtain ⟨c8, hf⟩ := ck_some hf
              refine lv_idiv hx hb dX11_search_147 c8 ?_
              refine lv_aload_n hx hb dX11_search_148 rfl (lv_at hl 1 rfl) ?_
              refine va_get (D := D) (ci := 11) (C := RX11) (T := TX11) (N := 24) hx hb hts huX11 hown hK hP 0 rfl rfl 0 (by decide) fk7 (fun _ h9 => h9) rfl dX11_search_149 ?_
              refine lv_imul hx hb dX11_search_152 ?_
              refine lv_iload_n hx hb dX11_search_153 rfl (lv_at hl 4 rfl) ?_
              refine lv_iadd hx hb dX11_search_154 ?_
              refine lv_iload_n hx hb dX11_search_155 rfl (lv_at hl 2 rfl) ?_
              obtain ⟨c9, hf⟩ := ck_some hf
              refine lv_irem hx hb dX11_search_156 c9 ?_
              refine lv_aload_n hx hb dX11_search_157 rfl (lv_at hl 1 rfl) ?_
              refine va_get (D := D) (ci := 11) (C := RX11) (T := TX11) (N := 24) hx hb hts huX11 hown hK hP 0 rfl rfl 15 (by decide) fk162 (fun _ h9 => h9) rfl dX11_search_158 ?_
              refine lv_imul hx hb dX11_search_161 ?_
              refine lv_iload hx hb dX11_search_162 (lv_at hl 0 rfl) ?_
              refine lv_iadd hx hb dX11_search_164 ?_
              refine lv_aload_n hx hb dX11_search_165 rfl (lv_at hl 1 rfl) ?_
              refine va_get (v := .ref (qM 8)) (D := D) (ci := 11) (C := RX11) (T := TX11) (N := 24) hx hb hts huX11 hown hK hP 0 rfl rfl 13 (by decide) fk38 (fun _ h9 => h9) rfl dX11_search_166 ?_
              refine lv_iload_n hx hb dX11_search_169 rfl (lv_at hl 3 rfl) ?_
              obtain ⟨c10, hf⟩ := ck_some hf
              refine va_iald hx hb hK hP 8 0 rfl rfl c10 dX11_search_170 ?_
              refine lv_iload_n hx hb dX11_search_171 rfl (lv_at hl 4 rfl) ?_
              obtain ⟨r11, hc12, hf⟩ := ob_some hf
              refine kc_v (k_run ⟨hx, hb, hml, hown, hts⟩ (c_X11_meet hc12) (cwV 3 hts gX11_search_X11_meet rfl rfl rfl (by decide +kernel) ⟨Nat.le_of_ble_eq_true rfl, Nat.le_of_ble_eq_true rfl⟩) hK hN hP hD kA_s (ci := 11) (q0 := 0) rfl rfl rfl rfl hl.1 rfl (Nat.le_of_ble_eq_true rfl) dX11_search_172 ⟨Nat.le_of_ble_eq_true rfl, Nat.le_of_ble_eq_true rfl⟩) hP hD hS hA kI_s (fun _ H locs hP hD hS => ?_)
              exact hJ175 x.1 r11.1 r11.2.1 r11.2.2.1 r11.2.2.2 _ _ _ hf hP hD hS (lv_sub hl [1, 2, 3, 4] rfl)
      refine lv_iload_n hx hb dX11_search_79 rfl (lv_at hl 2 rfl) ?_
      refine lv_aload_n hx hb dX11_search_80 rfl (lv_at hl 0 rfl) ?_
      refine va_get (D := D) (ci := 11) (C := RX11) (T := TX11) (N := 24) hx hb hts huX11 hown hK hP 0 rfl rfl 19 (by decide) fk165 (fun _ h9 => h9) rfl dX11_search_81 ?_
      refine lv_icmp_ge (tgt := 187) hx hb dX11_search_84 (by decide) (fun c13 => ?_) (fun c13 => ?_)
      · have hf := if_t hf c13
        obtain rfl := Option.some.inj hf
        exact hex _ _ _ hP hD hS (lv_sub hl [0] rfl)
      · have hf := if_f hf c13
        refine lv_aload_n hx hb dX11_search_87 rfl (lv_at hl 0 rfl) ?_
        refine va_get (v := .ref (qM 6)) (D := D) (ci := 11) (C := RX11) (T := TX11) (N := 24) hx hb hts huX11 hown hK hP 0 rfl rfl 11 (by decide) fk32 (fun _ h9 => h9) rfl dX11_search_88 ?_
        refine lv_aload_n hx hb dX11_search_91 rfl (lv_at hl 0 rfl) ?_
        refine va_get (D := D) (ci := 11) (C := RX11) (T := TX11) (N := 24) hx hb hts huX11 hown hK hP 0 rfl rfl 16 (by decide) fk176 (fun _ h9 => h9) rfl dX11_search_92 ?_
        obtain ⟨c14, hf⟩ := ck_some hf
        refine va_iald hx hb hK hP 6 0 rfl rfl c14 dX11_search_95 ?_
        refine lv_bipush (v := (-4 : Int32)) hx hb dX11_search_96 (by decide) ?_
        refine lv_icmp_ne (tgt := 187) hx hb dX11_search_98 (by decide) (fun c15 => ?_) (fun c15 => ?_)
        · have hf := if_f hf c15
          obtain rfl := Option.some.inj hf
          exact hex _ _ _ hP hD hS (lv_sub hl [0] rfl)
        · have hf := if_t hf c15
          refine lv_iconst (v := (0 : Int32)) hx hb dX11_search_101 (by decide) ?_
          refine lv_istore_n (lv' := [(3, .int (0 : Int32)), (0, .ref (qM 0)), (1, .int a1), (2, .int x.1)]) hx hb dX11_search_102 rfl hl (by decide) rfl (fun ls hl => ?_)
          obtain ⟨ex16, hcl, hf⟩ := ob_some hf
          refine hL103 x.1 F ((0 : Int32), x.2.1, x.2.2.1, x.2.2.2.1, x.2.2.2.2) ex16 _ _ _ hcl (fun H locs ls hP hD hS hl => ?_) hP hD hS (lv_sub hl [1, 2, 3, 0] rfl)
          refine lv_iinc (v := (x.1 + (1 : Int32))) (lv' := [(2, .int (x.1 + (1 : Int32))), (0, .ref (qM 0)), (1, .int a1)]) hx hb dX11_search_181 hl (k := 2) rfl rfl (by decide) rfl (fun ls hl => ?_)
          refine lv_goto (tgt := 79) hx hb dX11_search_184 (by decide) ?_
          exact ih ((x.1 + (1 : Int32)), ex16.1, ex16.2.1, ex16.2.2.1, ex16.2.2.2) ex _ _ _ hf hex hP hD hS (lv_sub hl [1, 2, 0] rfl)
  have hL33 : ∀ (k : Nat) (x : Int32 × (Nat → Int32) × (Nat → Int32) × (Nat → Int32) × Int32) (ex : (Nat → Int32) × (Nat → Int32) × (Nat → Int32) × Int32) (H : Heap) (locs : List Loc) (ls : Array Slot), lp (f_X11_search_B33 F a1 m_base m_kind m_parts m_allowed m_bitOf) k x = some ex → (∀ (H : Heap) (locs : List Loc) (ls : Array Slot), va_P D vwCl (gM cy qM m_base m_f m_many m_figures m_tail m_round m_rounds m_leasts m_likes m_like m_isTwo ex.1 ex.2.1 ex.2.2.1 m_kind m_parts m_wanted m_allowed m_bitOf ex.2.2.2 m_row m_narrows m_narrow m_isMade) H → va_D A (gM cy qM m_base m_f m_many m_figures m_tail m_round m_rounds m_leasts m_likes m_like m_isTwo ex.1 ex.2.1 ex.2.2.1 m_kind m_parts m_wanted m_allowed m_bitOf ex.2.2.2 m_row m_narrows m_narrow m_isMade) → va_S A s.heap H locs → lv_has ls 5 [(0, .ref (qM 0)), (1, .int a1)] → W p l e0 rmX11_search s m ar below meth c H locs 0 0 Q (F0 m 77 ls [])) → va_P D vwCl (gM cy qM m_base m_f m_many m_figures m_tail m_round m_rounds m_leasts m_likes m_like m_isTwo x.2.1 x.2.2.1 x.2.2.2.1 m_kind m_parts m_wanted m_allowed m_bitOf x.2.2.2.2 m_row m_narrows m_narrow m_isMade) H → va_D A (gM cy qM m_base m_f m_many m_figures m_tail m_round m_rounds m_leasts m_likes m_like m_isTwo x.2.1 x.2.2.1 x.2.2.2.1 m_kind m_parts m_wanted m_allowed m_bitOf x.2.2.2.2 m_row m_narrows m_narrow m_isMade) → va_S A s.heap H locs → lv_has ls 5 [(0, .ref (qM 0)), (1, .int a1), (2, .int x.1)] → W p l e0 rmX11_search s m ar below meth c H locs 0 0 Q (F0 m 33 ls []) := by
    intro k
    induction k with
    | zero => intro x ex H locs ls hf; exact no_some hf
    | succ k ih =>
      intro x ex H locs ls hf hex hP hD hS hl
      have hf : f_X11_search_B33 F a1 m_base m_kind m_parts m_allowed m_bitOf (lp (f_X11_search_B33 F a1 m_base m_kind m_parts m_allowed m_bitOf) k) x = some ex := hf
      unfold f_X11_search_B33 at hf
      have hJ71 : ∀ (x2 : Int32) (m_came : Nat → Int32) (m_by : Nat → Int32) (m_queue : Nat → Int32) (m_met : Int32) (H : Heap) (locs : List Loc) (ls : Array Slot), f_X11_search_J71 F (lp (f_X11_search_B33 F a1 m_base m_kind m_parts m_allowed m_bitOf) k) x2 m_came m_by m_queue m_met = some ex → va_P D vwCl (gM cy qM m_base m_f m_many m_figures m_tail m_round m_rounds m_leasts m_likes m_like m_isTwo m_came m_by m_queue m_kind m_parts m_wanted m_allowed m_bitOf m_met m_row m_narrows m_narrow m_isMade) H → va_D A (gM cy qM m_base m_f m_many m_figures m_tail m_round m_rounds m_leasts m_likes m_like m_isTwo m_came m_by m_queue m_kind m_parts m_wanted m_allowed m_bitOf m_met m_row m_narrows m_narrow m_isMade) → va_S A s.heap H locs → lv_has ls 5 [(0, .ref (qM 0)), (1, .int a1), (2, .int x2)] → W p l e0 rmX11_search s m ar below meth c H locs 0 0 Q (F0 m 71 ls []) := by
        intro x2 m_came m_by m_queue m_met H locs ls hf hP hD hS hl
        unfold f_X11_search_J71 at hf
        refine lv_iinc (v := (x2 + (1 : Int32))) (lv' := [(2, .int (x2 + (1 : Int32))), (0, .ref (qM 0)), (1, .int a1)]) hx hb dX11_search_71 hl (k := 2) rfl rfl (by decide) rfl (fun ls hl => ?_)
        refine lv_goto (tgt := 33) hx hb dX11_search_74 (by decide) ?_
        exact ih ((x2 + (1 : Int32)), m_came, m_by, m_queue, m_met) ex _ _ _ hf hex hP hD hS (lv_sub hl [1, 2, 0] rfl)
      refine lv_iload_n hx hb dX11_search_33 rfl (lv_at hl 2 rfl) ?_
      refine lv_aload_n hx hb dX11_search_34 rfl (lv_at hl 0 rfl) ?_
      refine va_get (D := D) (ci := 11) (C := RX11) (T := TX11) (N := 24) hx hb hts huX11 hown hK hP 0 rfl rfl 0 (by decide) fk7 (fun _ h9 => h9) rfl dX11_search_35 ?_
      refine lv_icmp_ge (tgt := 77) hx hb dX11_search_38 (by decide) (fun c17 => ?_) (fun c17 => ?_)
      · have hf := if_t hf c17
        obtain rfl := Option.some.inj hf
        exact hex _ _ _ hP hD hS (lv_sub hl [0, 1] rfl)
      · have hf := if_f hf c17
        refine lv_aload_n hx hb dX11_search_41 rfl (lv_at hl 0 rfl) ?_
        refine lv_iconst (v := (0 : Int32)) hx hb dX11_search_42 (by decide) ?_
        refine lv_iload_n hx hb dX11_search_43 rfl (lv_at hl 2 rfl) ?_
        obtain ⟨r18, hc19, hf⟩ := ob_some hf
        refine kc_i (k_run ⟨hx, hb, hml, hown, hts⟩ (c_X11_beside hc19) (cwV 2 hts gX11_search_X11_beside rfl rfl rfl (by decide +kernel) ⟨Nat.le_of_ble_eq_true rfl, Nat.le_of_ble_eq_true rfl⟩) hK hN hP hD kA_s (ci := 11) (q0 := 0) rfl rfl rfl rfl hl.1 rfl (Nat.le_of_ble_eq_true rfl) dX11_search_44 ⟨Nat.le_of_ble_eq_true rfl, Nat.le_of_ble_eq_true rfl⟩) hP hD hS hA kI_s (fun _ H locs hP hD hS => ?_)
        refine lv_istore_n (lv' := [(3, .int r18), (0, .ref (qM 0)), (1, .int a1), (2, .int x.1)]) hx hb dX11_search_47 rfl hl (by decide) rfl (fun ls hl => ?_)
        refine lv_iload_n hx hb dX11_search_48 rfl (lv_at hl 0 rfl) ?_
        refine lv_bipush (v := (-4 : Int32)) hx hb dX11_search_49 (by decide) ?_
        refine lv_icmp_eq (tgt := 71) hx hb dX11_search_51 (by decide) (fun c20 => ?_) (fun c20 => ?_)
        · have hf := if_t hf c20
          exact hJ71 x.1 x.2.1 x.2.2.1 x.2.2.2.1 x.2.2.2.2 _ _ _ hf hP hD hS (lv_sub hl [1, 2, 3] rfl)
        · have hf := if_f hf c20
          refine lv_aload_n hx hb dX11_search_54 rfl (lv_at hl 1 rfl) ?_
          refine lv_iload_n hx hb dX11_search_55 rfl (lv_at hl 3 rfl) ?_
          refine lv_iload_n hx hb dX11_search_56 rfl (lv_at hl 2 rfl) ?_
          obtain ⟨c21, hf⟩ := ck_some hf
          refine lv_irem hx hb dX11_search_57 c21 ?_
          refine lv_aload_n hx hb dX11_search_58 rfl (lv_at hl 1 rfl) ?_
          refine va_get (D := D) (ci := 11) (C := RX11) (T := TX11) (N := 24) hx hb hts huX11 hown hK hP 0 rfl rfl 15 (by decide) fk162 (fun _ h9 => h9) rfl dX11_search_59 ?_
          refine lv_imul hx hb dX11_search_62 ?_
          refine lv_iload_n hx hb dX11_search_63 rfl (lv_at hl 0 rfl) ?_
          refine lv_iadd hx hb dX11_search_64 ?_
          refine lv_bipush (v := (-2 : Int32)) hx hb dX11_search_65 (by decide) ?_
          refine lv_iload_n hx hb dX11_search_67 rfl (lv_at hl 3 rfl) ?_
          obtain ⟨r22, hc23, hf⟩ := ob_some hf
          refine kc_v (k_run ⟨hx, hb, hml, hown, hts⟩ (c_X11_meet hc23) (cwV 3 hts gX11_search_X11_meet rfl rfl rfl (by decide +kernel) ⟨Nat.le_of_ble_eq_true rfl, Nat.le_of_ble_eq_true rfl⟩) hK hN hP hD kA_s (ci := 11) (q0 := 0) rfl rfl rfl rfl hl.1 rfl (Nat.le_of_ble_eq_true rfl) dX11_search_68 ⟨Nat.le_of_ble_eq_true rfl, Nat.le_of_ble_eq_true rfl⟩) hP hD hS hA kI_s (fun _ H locs hP hD hS => ?_)
          exact hJ71 x.1 r22.1 r22.2.1 r22.2.2.1 r22.2.2.2 _ _ _ hf hP hD hS (lv_sub hl [1, 2, 3] rfl)
  have hL2 : ∀ (m_by : Nat → Int32) (m_queue : Nat → Int32) (m_met : Int32) (k : Nat) (x : Int32 × (Nat → Int32)) (ex : (Nat → Int32)) (H : Heap) (locs : List Loc) (ls : Array Slot), lp (f_X11_search_B2 F a1 m_parts m_by m_queue m_met) k x = some ex → (∀ (H : Heap) (locs : List Loc) (ls : Array Slot), va_P D vwCl (gM cy qM m_base m_f m_many m_figures m_tail m_round m_rounds m_leasts m_likes m_like m_isTwo ex m_by m_queue m_kind m_parts m_wanted m_allowed m_bitOf m_met m_row m_narrows m_narrow m_isMade) H → va_D A (gM cy qM m_base m_f m_many m_figures m_tail m_round m_rounds m_leasts m_likes m_like m_isTwo ex m_by m_queue m_kind m_parts m_wanted m_allowed m_bitOf m_met m_row m_narrows m_narrow m_isMade) → va_S A s.heap H locs → lv_has ls 5 [(0, .ref (qM 0)), (1, .int a1)] → W p l e0 rmX11_search s m ar below meth c H locs 0 0 Q (F0 m 26 ls [])) → va_P D vwCl (gM cy qM m_base m_f m_many m_figures m_tail m_round m_rounds m_leasts m_likes m_like m_isTwo x.2 m_by m_queue m_kind m_parts m_wanted m_allowed m_bitOf m_met m_row m_narrows m_narrow m_isMade) H → va_D A (gM cy qM m_base m_f m_many m_figures m_tail m_round m_rounds m_leasts m_likes m_like m_isTwo x.2 m_by m_queue m_kind m_parts m_wanted m_allowed m_bitOf m_met m_row m_narrows m_narrow m_isMade) → va_S A s.heap H locs → lv_has ls 5 [(0, .ref (qM 0)), (1, .int a1), (2, .int x.1)] → W p l e0 rmX11_search s m ar below meth c H locs 0 0 Q (F0 m 2 ls []) := by
    intro m_by m_queue m_met k
    induction k with
    | zero => intro x ex H locs ls hf; exact no_some hf
    | succ k ih =>
      intro x ex H locs ls hf hex hP hD hS hl
      have hf : f_X11_search_B2 F a1 m_parts m_by m_queue m_met (lp (f_X11_search_B2 F a1 m_parts m_by m_queue m_met) k) x = some ex := hf
      unfold f_X11_search_B2 at hf
      refine lv_iload_n hx hb dX11_search_2 rfl (lv_at hl 2 rfl) ?_
      refine lv_iload_n hx hb dX11_search_3 rfl (lv_at hl 1 rfl) ?_
      refine lv_aload_n hx hb dX11_search_4 rfl (lv_at hl 0 rfl) ?_
      refine va_get (D := D) (ci := 11) (C := RX11) (T := TX11) (N := 24) hx hb hts huX11 hown hK hP 0 rfl rfl 15 (by decide) fk162 (fun _ h9 => h9) rfl dX11_search_5 ?_
      refine lv_imul hx hb dX11_search_8 ?_
      refine lv_icmp_ge (tgt := 26) hx hb dX11_search_9 (by decide) (fun c24 => ?_) (fun c24 => ?_)
      · have hf := if_t hf c24
        obtain rfl := Option.some.inj hf
        exact hex _ _ _ hP hD hS (lv_sub hl [0, 1] rfl)
      · have hf := if_f hf c24
        refine lv_aload_n hx hb dX11_search_12 rfl (lv_at hl 0 rfl) ?_
        refine va_get (v := .ref (qM 6)) (D := D) (ci := 11) (C := RX11) (T := TX11) (N := 24) hx hb hts huX11 hown hK hP 0 rfl rfl 11 (by decide) fk32 (fun _ h9 => h9) rfl dX11_search_13 ?_
        refine lv_iload_n hx hb dX11_search_16 rfl (lv_at hl 2 rfl) ?_
        refine lv_bipush (v := (-4 : Int32)) hx hb dX11_search_17 (by decide) ?_
        obtain ⟨c25, hf⟩ := ck_some hf
        refine va_iast hx hb hK hP hD hS 6 0 rfl rfl c25 dX11_search_19 (fun H locs hP hD hS => ?_)
        have hP : va_P D vwCl (gM cy qM m_base m_f m_many m_figures m_tail m_round m_rounds m_leasts m_likes m_like m_isTwo (upd x.2 x.1.toNatClampNeg (-4 : Int32)) m_by m_queue m_kind m_parts m_wanted m_allowed m_bitOf m_met m_row m_narrows m_narrow m_isMade) H := hP
        have hD : va_D A (gM cy qM m_base m_f m_many m_figures m_tail m_round m_rounds m_leasts m_likes m_like m_isTwo (upd x.2 x.1.toNatClampNeg (-4 : Int32)) m_by m_queue m_kind m_parts m_wanted m_allowed m_bitOf m_met m_row m_narrows m_narrow m_isMade) := hD
        refine lv_iinc (v := (x.1 + (1 : Int32))) (lv' := [(2, .int (x.1 + (1 : Int32))), (0, .ref (qM 0)), (1, .int a1)]) hx hb dX11_search_20 hl (k := 2) rfl rfl (by decide) rfl (fun ls hl => ?_)
        refine lv_goto (tgt := 2) hx hb dX11_search_23 (by decide) ?_
        exact ih ((x.1 + (1 : Int32)), (upd x.2 x.1.toNatClampNeg (-4 : Int32))) ex _ _ _ hf hex hP hD hS (lv_sub hl [1, 2, 0] rfl)
  refine lv_iconst (v := (0 : Int32)) hx hb dX11_search_0 (by decide) ?_
  refine lv_istore_n (lv' := [(2, .int (0 : Int32)), (0, .ref (qM 0)), (1, .int a1)]) hx hb dX11_search_1 rfl hl (by decide) rfl (fun ls hl => ?_)
  obtain ⟨ex26, hcl, hf⟩ := ob_some hf
  refine hL2 m_by m_queue m_met F ((0 : Int32), m_came) ex26 _ _ _ hcl (fun H locs ls hP hD hS hl => ?_) hP hD hS (lv_sub hl [1, 2, 0] rfl)
  refine lv_aload_n hx hb dX11_search_26 rfl (lv_at hl 0 rfl) ?_
  refine lv_iconst (v := (0 : Int32)) hx hb dX11_search_27 (by decide) ?_
  refine va_put (D := D) (ci := 11) (v := .int (0 : Int32)) (ty := .int) (C := RX11) (T := TX11) (N := 24) hx hb hts huX11 tyX11 tyX11_ok nmX11 hown hK hP hD hS 0 rfl rfl 19 (by decide) fk165 (fun _ h9 => h9) rfl (tyX11_ok 19 (by decide)) rfl rfl (Nat.le_of_ble_eq_true rfl) dX11_search_28 (fun H locs hP hD hS => ?_)
  have hP : va_P D vwCl (gM cy qM m_base m_f m_many m_figures m_tail m_round m_rounds m_leasts m_likes m_like m_isTwo ex26 m_by m_queue m_kind m_parts m_wanted m_allowed m_bitOf (0 : Int32) m_row m_narrows m_narrow m_isMade) H := hP
  have hD : va_D A (gM cy qM m_base m_f m_many m_figures m_tail m_round m_rounds m_leasts m_likes m_like m_isTwo ex26 m_by m_queue m_kind m_parts m_wanted m_allowed m_bitOf (0 : Int32) m_row m_narrows m_narrow m_isMade) := hD
  refine lv_iconst (v := (1 : Int32)) hx hb dX11_search_31 (by decide) ?_
  refine lv_istore_n (lv' := [(2, .int (1 : Int32)), (0, .ref (qM 0)), (1, .int a1)]) hx hb dX11_search_32 rfl hl (by decide) rfl (fun ls hl => ?_)
  obtain ⟨ex27, hcl, hf⟩ := ob_some hf
  refine hL33 F ((1 : Int32), ex26, m_by, m_queue, (0 : Int32)) ex27 _ _ _ hcl (fun H locs ls hP hD hS hl => ?_) hP hD hS (lv_sub hl [1, 2, 0] rfl)
  refine lv_iconst (v := (0 : Int32)) hx hb dX11_search_77 (by decide) ?_
  refine lv_istore_n (lv' := [(2, .int (0 : Int32)), (0, .ref (qM 0)), (1, .int a1)]) hx hb dX11_search_78 rfl hl (by decide) rfl (fun ls hl => ?_)
  obtain ⟨ex28, hcl, hf⟩ := ob_some hf
  refine hL79 F ((0 : Int32), ex27.1, ex27.2.1, ex27.2.2.1, ex27.2.2.2) ex28 _ _ _ hcl (fun H locs ls hP hD hS hl => ?_) hP hD hS (lv_sub hl [1, 2, 0] rfl)
  refine lv_aload_n hx hb dX11_search_187 rfl (lv_at hl 0 rfl) ?_
  refine va_get (v := .ref (qM 6)) (D := D) (ci := 11) (C := RX11) (T := TX11) (N := 24) hx hb hts huX11 hown hK hP 0 rfl rfl 11 (by decide) fk32 (fun _ h9 => h9) rfl dX11_search_188 ?_
  refine lv_aload_n hx hb dX11_search_191 rfl (lv_at hl 0 rfl) ?_
  refine va_get (D := D) (ci := 11) (C := RX11) (T := TX11) (N := 24) hx hb hts huX11 hown hK hP 0 rfl rfl 16 (by decide) fk176 (fun _ h9 => h9) rfl dX11_search_192 ?_
  obtain ⟨c29, hf⟩ := ck_some hf
  refine va_iald hx hb hK hP 6 0 rfl rfl c29 dX11_search_195 ?_
  refine lv_bipush (v := (-4 : Int32)) hx hb dX11_search_196 (by decide) ?_
  refine lv_icmp_ne (tgt := 206) hx hb dX11_search_198 (by decide) (fun c30 => ?_) (fun c30 => ?_)
  · have hf := if_f hf c30
    refine lv_aload_n hx hb dX11_search_206 rfl (lv_at hl 0 rfl) ?_
    refine va_get (D := D) (ci := 11) (C := RX11) (T := TX11) (N := 24) hx hb hts huX11 hown hK hP 0 rfl rfl 16 (by decide) fk176 (fun _ h9 => h9) rfl dX11_search_207 ?_
    exact hJ210 m_wanted ex28.1 ex28.2.1 ex28.2.2.1 ex28.2.2.2 _ _ _ hf hP hD hS (lv_sub hl [] rfl)
  · have hf := if_t hf c30
    refine lv_bipush (v := (-4 : Int32)) hx hb dX11_search_201 (by decide) ?_
    refine lv_goto (tgt := 210) hx hb dX11_search_203 (by decide) ?_
    exact hJ210 (-4 : Int32) ex28.1 ex28.2.1 ex28.2.2.1 ex28.2.2.2 _ _ _ hf hP hD hS (lv_sub hl [] rfl)
