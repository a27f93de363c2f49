/-! makes: a scan that counts, both sides -/
def scn (P : Nat → Bool) (i : Int32) : Nat → Nat → Nat → Nat ⊕ Nat
  | 0, _, t => .inr t
  | r + 1, x, t => if P x = true then (if nI t = i then .inl x else scn P i r (x + 1) (t + 1)) else scn P i r (x + 1) t
theorem s_makes {F b : Nat} (hF : 30000 ≤ F) (hb : bOK b) {f worth : Nat → Int32} {tb : Nat → Nat} (hf : tbOK f tb) (hw : tbOK worth tb) (st : Int32) (n : Int64) (m i many : Int32) (figs row cnt : Nat → Int32) : ∃ a many' figs' row' cnt', f_X11_makes F st n m i (nI b) f many figs = some (a, many', figs') ∧ f_X10_makes F st n m i (nI b) worth row cnt = some (a, row', cnt') := by
  unfold f_X11_makes f_X11_makes_J42 f_X11_makes_J126 f_X10_makes f_X10_makes_J32
  rw [p_inI F st 0 5 (a' := 0) (c' := 5) rfl rfl, p_inI F m 0 20000 (a' := 0) (c' := 20000) rfl rfl, p_in, p_isNumber, p_isStep, p_within]
  simp only [Option.bind_some]
  rcases wi_1 (x := st) (c := 5) (by omega) with h | ⟨s, hs, rfl, h⟩
  · have h' : wi st 0 5 = 0 := h
    simp only [h', if_pos z00]; exact ⟨_, _, _, _, _, rfl, rfl⟩
  · have h' : wi (nI s) 0 5 = 1 := h
    simp only [h', if_neg n10]
    rcases wl_1 (x := n) with q | ⟨k, q1, rfl, q⟩
    · simp only [q, if_pos z00]; exact ⟨_, _, _, _, _, rfl, rfl⟩
    · simp only [q, if_neg n10]
      rcases wi_1 (x := m) (c := 20000) (by omega) with v | ⟨w, hw1, rfl, v⟩
      · have v' : wi m 0 20000 = 0 := v
        simp only [v', if_pos z00]; exact ⟨_, _, _, _, _, rfl, rfl⟩
      · have v' : wi (nI w) 0 20000 = 1 := v
        simp only [v', if_neg n10]
        by_cases hi : (-1 : Int32) ≤ i
        · simp only [if_pos hi]
          obtain ⟨RES, hRES⟩ : ∃ z, z = scn (fun x => decide (stepN b tb s x = k)) i (w + 1) 0 0 := ⟨_, rfl⟩
          have hk : k < 2 ^ 63 := by unfold TOP at q1; omega
          have eqk : ∀ x, x ≤ 20000 → (lN (stepN b tb s x) = lN k ↔ stepN b tb s x = k) := fun x hx => by
            have := stepN_lt (st := s) (n := x) hb (tbB_of hf) (by unfold TOP; omega)
            exact pk_lEQ (by omega) hk
          -- the reference
          have A : ∃ e, lp (f_X11_makes_B50 F (nI s) (lN k) (nI w) i (nI b) f) F ((0 : Int32), (0 : Int32), many, figs) = some e ∧ ((∃ x M G, RES = .inl x ∧ e = .inl (nI x, M, G)) ∨ (∃ t M G, RES = .inr t ∧ e = .inr (nI t, M, G))) := by
            refine lp_ex (B := f_X11_makes_B50 F (nI s) (lN k) (nI w) i (nI b) f) (fun q x => ∃ t j M G, x = (nI t, nI j, M, G) ∧ j ≤ w + 1 ∧ scn (fun x => decide (stepN b tb s x = k)) i (w + 1 - j) j t = RES ∧ q = w + 1 - j) (fun _ e => (∃ x M G, RES = .inl x ∧ e = .inl (nI x, M, G)) ∨ (∃ t M G, RES = .inr t ∧ e = .inr (nI t, M, G))) ?_ F (w + 1) _ ⟨0, 0, many, figs, rfl, by omega, hRES.symm, rfl⟩ (by omega)
            rintro rec q x ⟨t, j, M, G, rfl, hj, hs2, rfl⟩ hrec
            unfold f_X11_makes_B50 f_X11_makes_J75 f_X11_makes_J92 f_X11_makes_J104
            dsimp only
            rcases Nat.lt_or_ge w j with c | c
            · rw [if_pos (nI_lt c (by omega))]
              have : w + 1 - j = 0 := by omega
              rw [this] at hs2
              exact ⟨_, rfl, Or.inr ⟨t, M, G, hs2.symm, rfl⟩⟩
            · rw [if_neg (nI_nlt c (by omega)), nI_l (by omega), p_stepOf (by omega) hb hf (by omega) hs, Option.bind_some]
              dsimp only
              rw [show w + 1 - j = (w + 1 - (j + 1)) + 1 by omega] at hs2
              unfold scn at hs2
              by_cases hp : stepN b tb s j = k
              · rw [if_pos ((eqk j (by omega)).mpr hp), if_neg n10]
                rw [if_pos (decide_eq_true hp)] at hs2
                by_cases ht : nI t = i
                · rw [if_pos ht]
                  rw [if_pos ht] at hs2
                  exact ⟨_, rfl, Or.inl ⟨j, _, _, hs2.symm, rfl⟩⟩
                · rw [if_neg ht, if_neg n10, nI_1, nI_1]
                  rw [if_neg ht] at hs2
                  exact hrec (w + 1 - (j + 1)) _ (by omega) ⟨t + 1, j + 1, _, _, rfl, by omega, hs2, rfl⟩
              · rw [if_neg (fun z => hp ((eqk j (by omega)).mp z)), if_pos z00, if_pos z00, nI_1]
                rw [if_neg (by simpa using hp)] at hs2
                have e0 : nI t + (0 : Int32) = nI t := nI_add t 0
                rw [e0]
                exact hrec (w + 1 - (j + 1)) _ (by omega) ⟨t, j + 1, _, _, rfl, by omega, hs2, rfl⟩
          -- the class
          have B : ∃ e, lp (f_X10_makes_B40 F (nI s) (lN k) (nI w) i (nI b) worth) F ((0 : Int32), (0 : Int32), row, cnt) = some e ∧ ((∃ x M G, RES = .inl x ∧ e = .inl (nI x, M, G)) ∨ (∃ t M G, RES = .inr t ∧ e = .inr (nI t, M, G))) := by
            refine lp_ex (B := f_X10_makes_B40 F (nI s) (lN k) (nI w) i (nI b) worth) (fun q x => ∃ t j M G, x = (nI t, nI j, M, G) ∧ j ≤ w + 1 ∧ scn (fun x => decide (stepN b tb s x = k)) i (w + 1 - j) j t = RES ∧ q = w + 1 - j) (fun _ e => (∃ x M G, RES = .inl x ∧ e = .inl (nI x, M, G)) ∨ (∃ t M G, RES = .inr t ∧ e = .inr (nI t, M, G))) ?_ F (w + 1) _ ⟨0, 0, row, cnt, rfl, by omega, hRES.symm, rfl⟩ (by omega)
            rintro rec q x ⟨t, j, M, G, rfl, hj, hs2, rfl⟩ hrec
            unfold f_X10_makes_B40 f_X10_makes_J76
            dsimp only
            rcases Nat.lt_or_ge w j with c | c
            · rw [if_pos (nI_lt c (by omega))]
              have : w + 1 - j = 0 := by omega
              rw [this] at hs2
              exact ⟨_, rfl, Or.inr ⟨t, M, G, hs2.symm, rfl⟩⟩
            · obtain ⟨m', hm⟩ := p_make (F := F) (row := M) (many := G) (by omega) hb hw (n := j) (by omega) hs
              rw [if_neg (nI_nlt c (by omega)), nI_l (by omega), hm, Option.bind_some]
              dsimp only
              rw [show w + 1 - j = (w + 1 - (j + 1)) + 1 by omega] at hs2
              unfold scn at hs2
              by_cases hp : stepN b tb s j = k
              · rw [if_pos ((eqk j (by omega)).mpr hp)]
                rw [if_pos (decide_eq_true hp)] at hs2
                by_cases ht : nI t = i
                · rw [if_pos ht]
                  rw [if_pos ht] at hs2
                  exact ⟨_, rfl, Or.inl ⟨j, _, _, hs2.symm, rfl⟩⟩
                · rw [if_neg ht, nI_1, nI_1]
                  rw [if_neg ht] at hs2
                  exact hrec (w + 1 - (j + 1)) _ (by omega) ⟨t + 1, j + 1, _, _, rfl, by omega, hs2, rfl⟩
              · rw [if_neg (fun z => hp ((eqk j (by omega)).mp z)), nI_1]
                rw [if_neg (by simpa using hp)] at hs2
                exact hrec (w + 1 - (j + 1)) _ (by omega) ⟨t, j + 1, _, _, rfl, by omega, hs2, rfl⟩
          obtain ⟨e1, a1, a2⟩ := A
          obtain ⟨e2, b1, b2⟩ := B
          rw [a1, b1]
          simp only [Option.bind_some]
          rcases a2 with ⟨x, M, G, r1, rfl⟩ | ⟨t, M, G, r1, rfl⟩
          · rcases b2 with ⟨x', M', G', r2, rfl⟩ | ⟨t', M', G', r2, rfl⟩
            · have : x = x' := by rw [r1] at r2; exact Sum.inl.inj r2
              subst this
              exact ⟨_, _, _, _, _, rfl, rfl⟩
            · rw [r1] at r2; cases r2
          · rcases b2 with ⟨x', M', G', r2, rfl⟩ | ⟨t', M', G', r2, rfl⟩
            · rw [r1] at r2; cases r2
            · have : t = t' := by rw [r1] at r2; exact Sum.inr.inj r2
              subst this
              dsimp only [Sum.elim_inr]
              rw [p_count]
              simp only [Option.bind_some]
              by_cases c : i = (-1 : Int32)
              · simp only [if_pos c]; exact ⟨_, _, _, _, _, rfl, rfl⟩
              · simp only [if_neg c]; exact ⟨_, _, _, _, _, rfl, rfl⟩
        · simp only [if_neg hi]; exact ⟨_, _, _, _, _, rfl, rfl⟩
