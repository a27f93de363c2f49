theorem init_lp {F : Nat} : ∀ (n k G : Nat) (f : Nat → Int32), k + n = 16 → n + 1 ≤ G → ∃ g, lp (f_X1_init_B41 F) G (nI k, f) = some g ∧ ∀ d, g d = if k ≤ d ∧ d < 16 then nI d else f d
  | _, _, 0, _, _, h => absurd h (by omega)
  | 0, k, G + 1, f, e, _ => by
    obtain rfl : k = 16 := by omega
    refine ⟨f, ?_, fun d => (if_neg (by omega)).symm⟩
    show f_X1_init_B41 F (lp (f_X1_init_B41 F) G) (nI 16, f) = some f
    unfold f_X1_init_B41
    exact if_pos (by show (16 : Int32) ≤ nI 16; decide)
  | n + 1, k, G + 1, f, e, h => by
    obtain ⟨g, h1, h2⟩ := init_lp (F := F) n (k + 1) G (upd f k (nI k)) (by omega) (by omega)
    refine ⟨g, ?_, fun d => ?_⟩
    · show f_X1_init_B41 F (lp (f_X1_init_B41 F) G) (nI k, f) = some g
      have z : ¬ ((16 : Int32) ≤ nI k) := fun q => absurd q (by
        rw [Int32.le_iff_toInt_le, nI_toInt (by omega), show (16 : Int32).toInt = 16 by decide]; omega)
      have c1 : (nI k).toNatClampNeg = k := nI_clamp (by omega)
      have y : ¬ ((nI k) < 0 ∨ 16 ≤ (nI k).toNatClampNeg) := by
        rw [c1]
        exact fun q => q.elim (nI_pos (by omega)) (by omega)
      unfold f_X1_init_B41
      refine (if_neg z).trans ((ck_pos y).trans ?_)
      show lp _ G (nI k + 1, upd f (nI k).toNatClampNeg (nI k)) = some g
      rw [c1, nI_1]
      exact h1
    · rw [h2 d]
      by_cases z : k = d
      · subst z
        rw [if_neg (by omega), if_pos (by omega)]
        unfold upd
        exact if_pos rfl
      · by_cases y : k ≤ d ∧ d < 16
        · rw [if_pos y, if_pos (by omega)]
        · rw [if_neg y, if_neg (by omega)]
          unfold upd
          exact if_neg (by omega)
theorem init_X1 {F : Nat} (hF : 20 ≤ F) : ∃ g, f_X1_init F = some g ∧ tbOK g (fun d => d) := by
  obtain ⟨g, h1, h2⟩ := init_lp (F := F) 16 0 F (fun _ => 0) (by omega) (by omega)
  refine ⟨g, ?_, fun d hd => ⟨?_, by show d ≤ 100000; omega⟩⟩
  · unfold f_X1_init
    have h1 : lp (f_X1_init_B41 F) F ((0 : Int32), (fun _ => 0)) = some g := h1
    rw [h1]
    rfl
  · rw [h2 d, if_pos ⟨Nat.zero_le d, hd⟩]
theorem init_X11 {F : Nat} (hF : 20 ≤ F) : ∃ g, f_X11_init F = some g ∧ tbOK g (fun d => d) := by
  obtain ⟨g, h1, h2⟩ := init_lp (F := F) 16 0 F (fun _ => 0) (by omega) (by omega)
  refine ⟨g, ?_, fun d hd => ⟨?_, by show d ≤ 100000; omega⟩⟩
  · unfold f_X11_init
    have h1 : lp (f_X11_init_B113 F) F ((0 : Int32), (fun _ => 0)) = some g := h1
    rw [h1]
    rfl
  · rw [h2 d, if_pos ⟨Nat.zero_le d, hd⟩]
/-- the kinds of arrays, as the tables have them -/
theorem lw_arr {s : State} {ar : Array Value} {ty : FieldType} (hp : ∀ C, ty ≠ .object C) (h : (Cond.arrayClass ty).before ar s = true) : ∃ cA, ArrOfT s cA ty ∧ va_RA s cA ty := by
  obtain ⟨cA, kA, comp, h1, h2, h3⟩ := Cond.arrayClass_spec h
  refine ⟨cA, fun n z => ⟨fun k h => (by cases h), kA, h2, comp, h3⟩, ?_⟩
  cases ty <;> first | exact h1 | exact absurd rfl (hp _)
theorem lw_arrO {s : State} {C : String} (h : va_AO C s) : ∃ cA, ArrOfT s cA (.object C) ∧ va_RA s cA (.object C) := by
  obtain ⟨comp, cA, kA, h1, h2, h3, h4, h5⟩ := Cond.arrayOver_spec h
  exact ⟨cA, fun n z => ⟨fun k h => (by cases h), kA, h3, comp, h4⟩, kA, comp, h3, h4, h1, h5⟩
set_option maxHeartbeats 4000000 in
set_option maxRecDepth 100000 in
theorem whole_start {p : Program} {e : Env} {s : State} {m : MethodId} {below : List Frame} {meth : Method} {c : Code} (l : Launch) {b L : Nat} {xs : Nat → Int32} (hL : L ≤ 3072) (C0 : lw_At p s m meth c b L xs) : W p l e room_1 s m #[Value.ref b] below meth c s.heap [] 0 0 (lw_Z below #[Value.ref b] s) (entryFrame m ([Value.ref b] : List Value).toArray 4) := by
  obtain ⟨hx, hb, hr, hml, hown, htt, hX, hbl, hlocks, hgv⟩ := id C0
  have hts : ∀ w ∈ wsL_law, w.before #[Value.ref b] s = true := fun w hw => htt w (wsL_law_in w hw)
  have Sx : CallFix p m c cL_law 4 s #[Value.ref b] wsL_law RL := ⟨hx, hb, hml, hown, hts⟩
  have hA : ∀ q : Nat, s.heap.size ≤ q → (fun q : Nat => s.heap.size ≤ q) q := fun _ h => h
  obtain ⟨c0, iS0, hKn0⟩ := u_known (C := RX0) (T := TX0) (N := 10) (n := 10) hts inlX0 (hts (.instantiable RX0 10) (by decide +kernel))
  obtain ⟨c1, iS1, hKn1⟩ := u_known (C := RX1) (T := TX1) (N := 5) (n := 5) hts inlX1 (hts (.instantiable RX1 5) (by decide +kernel))
  obtain ⟨c2, iS2, hKn2⟩ := u_known (C := RX2) (T := TX2) (N := 4) (n := 4) hts inlX2 (hts (.instantiable RX2 4) (by decide +kernel))
  obtain ⟨c3, iS3, hKn3⟩ := u_known (C := RX3) (T := TX3) (N := 1) (n := 1) hts inlX3 (hts (.instantiable RX3 1) (by decide +kernel))
  obtain ⟨c4, iS4, hKn4⟩ := u_known (C := RX4) (T := TX4) (N := 10) (n := 10) hts inlX4 (hts (.instantiable RX4 10) (by decide +kernel))
  obtain ⟨c5, iS5, hKn5⟩ := u_known (C := RX5) (T := TX5) (N := 5) (n := 5) hts inlX5 (hts (.instantiable RX5 5) (by decide +kernel))
  obtain ⟨c6, iS6, hKn6⟩ := u_known (C := RX6) (T := TX6) (N := 4) (n := 4) hts inlX6 (hts (.instantiable RX6 4) (by decide +kernel))
  obtain ⟨c7, iS7, hKn7⟩ := u_known (C := RX7) (T := TX7) (N := 12) (n := 12) hts inlX7 (hts (.instantiable RX7 12) (by decide +kernel))
  obtain ⟨c8, iS8, hKn8⟩ := u_known (C := RX8) (T := TX8) (N := 4) (n := 4) hts inlX8 (hts (.instantiable RX8 4) (by decide +kernel))
  obtain ⟨c9, iS9, hKn9⟩ := u_known (C := RX9) (T := TX9) (N := 7) (n := 7) hts inlX9 (hts (.instantiable RX9 7) (by decide +kernel))
  obtain ⟨c10, iS10, hKn10⟩ := u_known (C := RX10) (T := TX10) (N := 9) (n := 9) hts inlX10 (hts (.instantiable RX10 9) (by decide +kernel))
  obtain ⟨c11, iS11, hKn11⟩ := u_known (C := RX11) (T := TX11) (N := 24) (n := 24) hts inlX11 (hts (.instantiable RX11 24) (by decide +kernel))
  have hN : kN s := ⟨va_Nw.of rfl (htt (.methodLinkNest RX10 18 yX6_init RX10) (by decide +kernel)), va_Nw.of rfl (htt (.methodLinkNest RX10 238 yX8_init RX10) (by decide +kernel)), va_Nw.of rfl (htt (.methodLinkNest RX0 77 yX10_countOrNone RX10) (by decide +kernel)), va_Nw.of rfl (htt (.methodLinkNest RX9 57 yX10_countOrNone RX10) (by decide +kernel)), va_Nw.of rfl (htt (.methodLinkNest RX10 251 yX7_init RX10) (by decide +kernel)), va_Nw.of rfl (htt (.methodLinkNest RX10 193 yX4_init RX10) (by decide +kernel)), va_Nw.of rfl (htt (.methodLinkNest RX2 36 yX10_countOrNone RX10) (by decide +kernel)), va_AO.of (htt (.arrayOver (.object RX9)) (by decide +kernel))⟩
  obtain ⟨dC, dI, hKc⟩ : ∃ (dC : Nat → ClassId) (dI : Nat → Nat → Nat), ∀ (k : Nat) (q : vw_C), vwCl[k]? = some q → u_Kn s q.1 q.2.1 q.2.2 (dC k) (dI k) := by
    refine ⟨fun k => match k with | 0 => c0 | 1 => c1 | 2 => c2 | 3 => c3 | 4 => c4 | 5 => c5 | 6 => c6 | 7 => c7 | 8 => c8 | 9 => c9 | 10 => c10 | _ => c11, fun k => match k with | 0 => iS0 | 1 => iS1 | 2 => iS2 | 3 => iS3 | 4 => iS4 | 5 => iS5 | 6 => iS6 | 7 => iS7 | 8 => iS8 | 9 => iS9 | 10 => iS10 | _ => iS11, ?_⟩
    intro k q hq
    match k, hq with
    | 0, hq => cases hq; exact hKn0
    | 1, hq => cases hq; exact hKn1
    | 2, hq => cases hq; exact hKn2
    | 3, hq => cases hq; exact hKn3
    | 4, hq => cases hq; exact hKn4
    | 5, hq => cases hq; exact hKn5
    | 6, hq => cases hq; exact hKn6
    | 7, hq => cases hq; exact hKn7
    | 8, hq => cases hq; exact hKn8
    | 9, hq => cases hq; exact hKn9
    | 10, hq => cases hq; exact hKn10
    | 11, hq => cases hq; exact hKn11
    | k + 12, hq => simp [vwCl] at hq
  obtain ⟨a0, ha0⟩ := lw_arr (ty := .int) (fun _ h => by cases h) (hts (.arrayClass .int) (by decide +kernel))
  obtain ⟨a1, ha1⟩ := lw_arr (ty := .long) (fun _ h => by cases h) (hts (.arrayClass .long) (by decide +kernel))
  obtain ⟨a2, ha2⟩ := lw_arr (ty := .boolean) (fun _ h => by cases h) (hts (.arrayClass .boolean) (by decide +kernel))
  obtain ⟨a3, ha3⟩ := lw_arrO (C := "FigurePlay$Ways") hN.2.2.2.2.2.2.2
  obtain ⟨cy, hcy⟩ : ∃ cy : Nat → ClassId, ∀ (k : Nat) (q : ClassId × FieldType), (kT cy)[k]? = some q → ArrOfT s q.1 q.2 ∧ va_RA s q.1 q.2 := by
    refine ⟨fun k => match k with | 0 => a0 | 1 => a1 | 2 => a2 | _ => a3, ?_⟩
    intro k q hq
    match k, hq with
    | 0, hq => cases hq; exact ha0
    | 1, hq => cases hq; exact ha1
    | 2, hq => cases hq; exact ha2
    | 3, hq => cases hq; exact ha3
    | k + 4, hq => simp [kT] at hq
  have hK : va_K (dC, dI) vwCl (kT cy) s := ⟨hKc, hcy⟩
  obtain ⟨g1, hf1, ht1⟩ := init_X1 (F := 20000000) (by decide)
  obtain ⟨g2, hf2, ht2⟩ := init_X11 (F := 20000000) (by decide)
  have hS : va_S (fun q : Nat => s.heap.size ≤ q) s.heap s.heap [] := va_S.rf
  have hP : va_P (dC, dI) vwCl [] s.heap := fun k q h => by simp at h
  have hD : va_D (fun q : Nat => s.heap.size ≤ q) [] := ⟨fun i j p q h => by simp at h, fun k q h => by simp at h⟩
  have hl := lv_entry ([.ref b]) (n := 4) (Nat.le_of_ble_eq_true rfl)
  rw [lg_entry_eq]
  generalize (lg_sl ([.ref b]) ++ List.replicate (4 - (lg_sl ([.ref b])).length) Slot.unset).toArray = ls at hl ⊢
  have hl : lv_has ls 4 [(0, .ref b)] := hl
  refine va_new (ci := 10) (fs := [.null, .null, .null, .null, .null, .null, .null, .null, .null]) (C := RX10) (T := TX10) (N := 9) hx hb hts inlX10 tyX10 tyX10_ok hown (hts (.classLink RL 7 RX10) (by decide +kernel)) (hts (.instantiable RX10 9) (by decide +kernel)) (hts (.initialized RX10) (by decide +kernel)) hK hP hD hS hA rfl (fun j hj => match j, hj with | 0, _ => rfl | 1, _ => rfl | 2, _ => rfl | 3, _ => rfl | 4, _ => rfl | 5, _ => rfl | 6, _ => rfl | 7, _ => rfl | 8, _ => rfl | j + 9, hj => absurd hj (by omega)) (Nat.le_of_ble_eq_true rfl) (Nat.le_of_ble_eq_true rfl) dL_law_0 (fun h H hP hD hS => ?_)
  have hP : va_P (dC, dI) vwCl ([(h, .inr (10, [.null, .null, .null, .null, .null, .null, .null, .null, .null]))] ++ []) H := hP
  have hD : va_D (fun q : Nat => s.heap.size ≤ q) ([(h, .inr (10, [.null, .null, .null, .null, .null, .null, .null, .null, .null]))] ++ []) := hD
  refine W.widen (k := 1) (n := 9) (Nat.le_of_ble_eq_true rfl) (Nat.le_of_ble_eq_true rfl) ?_
  refine lv_dup hx hb dL_law_3 rfl ?_
  refine kA_v (wc := [(h, .inr (10, [.null, .null, .null, .null, .null, .null, .null, .null, .null]))]) (wr := []) (k_runI Sx (c_X10_init hf1) (cwI 0 hts gL_law_X10_init rfl rfl rfl (hts (.initialized RX10) (by decide +kernel)) (hts (.methodLink RL 9 yX10_init) (by decide +kernel)) (hts (.instanceMethod yX10_init) (by decide +kernel)) rfl (by decide +kernel) ⟨(Nat.le_of_ble_eq_true rfl), (Nat.le_of_ble_eq_true rfl)⟩) hK hN hP hD (isC := [0]) ⟨rfl, rfl⟩ rfl hl.1 rfl (Nat.le_of_ble_eq_true rfl) dL_law_4 ⟨(Nat.le_of_ble_eq_true rfl), (Nat.le_of_ble_eq_true rfl)⟩) hP hD hS hA (fun u H locs hP hD hS => ?_)
  have eX : jn [gX cy (va_up (u 0) 0 h) ((u 1) 0) ((u 2) 0) ((u 3) 0) none none none none none (fun _ => none), gG cy (u 1) (10 : Int32) g1 (fun _ => 0) (fun _ => 0) (0 : Int32), gP cy (u 2) (fun _ => 0) (0 : Int32) (0 : Int32) (0 : Int32), gR cy (u 3) ((u 1) 0), []] = [] ++ (gX cy (va_up (u 0) 0 h) ((u 1) 0) ((u 2) 0) ((u 3) 0) none none none none none (fun _ => none) ++ (gG cy (u 1) (10 : Int32) g1 (fun _ => 0) (fun _ => 0) (0 : Int32) ++ (gP cy (u 2) (fun _ => 0) (0 : Int32) (0 : Int32) (0 : Int32) ++ gR cy (u 3) ((u 1) 0)))) := by
    show gX cy (va_up (u 0) 0 h) ((u 1) 0) ((u 2) 0) ((u 3) 0) none none none none none (fun _ => none) ++ (gG cy (u 1) (10 : Int32) g1 (fun _ => 0) (fun _ => 0) (0 : Int32) ++ (gP cy (u 2) (fun _ => 0) (0 : Int32) (0 : Int32) (0 : Int32) ++ (gR cy (u 3) ((u 1) 0) ++ []))) = _
    rw [List.append_nil]
    rfl
  rw [← eX] at hP hD
  have hXS : XS 20000000 cy 10 (fun d => d) 0 h 0 0 (jn [gX cy (va_up (u 0) 0 h) ((u 1) 0) ((u 2) 0) ((u 3) 0) none none none none none (fun _ => none), gG cy (u 1) (10 : Int32) g1 (fun _ => 0) (fun _ => 0) (0 : Int32), gP cy (u 2) (fun _ => 0) (0 : Int32) (0 : Int32) (0 : Int32), gR cy (u 3) ((u 1) 0), []]) := ⟨0, va_up (u 0) 0 h, u 1, u 2, u 3, none, none, none, none, none, fun _ => none, g1, fun _ => 0, fun _ => 0, fun _ => 0, 0, 0, 0, [], rfl, rfl, ⟨by decide, by decide⟩, ht1, Nat.le_refl 0, OP_new _ _ _ _ _ _ _ _ _⟩
  generalize jn [gX cy (va_up (u 0) 0 h) ((u 1) 0) ((u 2) 0) ((u 3) 0) none none none none none (fun _ => none), gG cy (u 1) (10 : Int32) g1 (fun _ => 0) (fun _ => 0) (0 : Int32), gP cy (u 2) (fun _ => 0) (0 : Int32) (0 : Int32) (0 : Int32), gR cy (u 3) ((u 1) 0), []] = wX at hP hD hXS
  refine W.widen (k := 9) (n := 422) (Nat.le_of_ble_eq_true rfl) (Nat.le_of_ble_eq_true rfl) ?_
  refine lv_astore_n (lv' := [(1, .ref h), (0, .ref b)]) hx hb dL_law_7 rfl hl (by decide) rfl (fun ls hl => ?_)
  refine va_new (ci := 11) (fs := [.int 0, .null, .int 0, .null, .int 0, .int 0, .int 0, .null, .int 0, .null, .null, .null, .null, .null, .int 0, .int 0, .int 0, .int 0, .null, .int 0, .null, .int 0, .null, .null]) (C := RX11) (T := TX11) (N := 24) hx hb hts inlX11 tyX11 tyX11_ok hown (hts (.classLink RL 10 RX11) (by decide +kernel)) (hts (.instantiable RX11 24) (by decide +kernel)) (hts (.initialized RX11) (by decide +kernel)) hK hP hD hS hA rfl (fun j hj => match j, hj with | 0, _ => rfl | 1, _ => rfl | 2, _ => rfl | 3, _ => rfl | 4, _ => rfl | 5, _ => rfl | 6, _ => rfl | 7, _ => rfl | 8, _ => rfl | 9, _ => rfl | 10, _ => rfl | 11, _ => rfl | 12, _ => rfl | 13, _ => rfl | 14, _ => rfl | 15, _ => rfl | 16, _ => rfl | 17, _ => rfl | 18, _ => rfl | 19, _ => rfl | 20, _ => rfl | 21, _ => rfl | 22, _ => rfl | 23, _ => rfl | j + 24, hj => absurd hj (by omega)) (Nat.le_of_ble_eq_true rfl) (Nat.le_of_ble_eq_true rfl) dL_law_8 (fun h2 H hP hD hS => ?_)
  have hP := Sel_P (Sel_sw wX [(h2, .inr (11, [.int 0, .null, .int 0, .null, .int 0, .int 0, .int 0, .null, .int 0, .null, .null, .null, .null, .null, .int 0, .int 0, .int 0, .int 0, .null, .int 0, .null, .int 0, .null, .null]))]) hP
  have hD := Sel_D (Sel_sw wX [(h2, .inr (11, [.int 0, .null, .int 0, .null, .int 0, .int 0, .int 0, .null, .int 0, .null, .null, .null, .null, .null, .int 0, .int 0, .int 0, .int 0, .null, .int 0, .null, .int 0, .null, .null]))]) hD
  refine W.widen (k := 10) (n := 446) (Nat.le_of_ble_eq_true rfl) (Nat.le_of_ble_eq_true rfl) ?_
  refine lv_dup hx hb dL_law_11 rfl ?_
  refine kA_v (wc := [(h2, .inr (11, [.int 0, .null, .int 0, .null, .int 0, .int 0, .int 0, .null, .int 0, .null, .null, .null, .null, .null, .int 0, .int 0, .int 0, .int 0, .null, .int 0, .null, .int 0, .null, .null]))]) (wr := wX) (k_runI Sx (c_X11_init hf2) (cwI 0 hts gL_law_X11_init rfl rfl rfl (hts (.initialized RX11) (by decide +kernel)) (hts (.methodLink RL 12 yX11_init) (by decide +kernel)) (hts (.instanceMethod yX11_init) (by decide +kernel)) rfl (by decide +kernel) ⟨(Nat.le_of_ble_eq_true rfl), (Nat.le_of_ble_eq_true rfl)⟩) hK hN hP hD (isC := [0]) ⟨rfl, rfl⟩ rfl hl.1 rfl (Nat.le_of_ble_eq_true rfl) dL_law_12 ⟨(Nat.le_of_ble_eq_true rfl), (Nat.le_of_ble_eq_true rfl)⟩) hP hD hS hA (fun u2 H locs hP hD hS => ?_)
  have hMS : MS' cy 10 (fun d => d) h2 (gM cy (va_up u2 0 h2) (10 : Int32) g2 0 (fun _ => 0) 0 0 0 (fun _ => 0) 0 (fun _ => 0) (fun _ => 0) (fun _ => 0) (fun _ => 0) (fun _ => 0) 0 0 0 0 (fun _ => 0) 0 (fun _ => 0) 0 (fun _ => 0) (fun _ => 0)) := ⟨va_up u2 0 h2, g2, _, _, _, _, _, _, _, _, _, _, _, _, _, _, _, _, _, _, _, _, _, _, rfl, rfl, ht2⟩
  refine W.widen (k := 22 + 0) (n := 214352 + 0) (Nat.le_of_ble_eq_true rfl) (Nat.le_of_ble_eq_true rfl) ?_
  refine lv_astore_n (lv' := [(2, .ref h2), (1, .ref h), (0, .ref b)]) hx hb dL_law_15 rfl hl (by decide) rfl (fun ls hl => ?_)
  refine lv_iconst (v := 0) hx hb dL_law_16 (by decide) ?_
  refine lv_istore_n (lv' := [(3, .int 0), (2, .ref h2), (1, .ref h), (0, .ref b)]) hx hb dL_law_17 rfl hl (by decide) rfl (fun ls hl => ?_)
  exact law_loop hL hr hlocks Sx hX hbl hK hN (Nat.le_refl 20000000) (L + 1) 0 10 (fun d => d) 0 0 wX _ H locs ls (by omega) (by omega) hXS hMS hP hD hS (lv_sub hl [3, 2, 1, 0] rfl)
