/-! chain, chained: the same answers -/
theorem remI {j t r : Nat} (hj : j < 2 ^ 31) (ht : t ≤ j) (hr : 0 < r) (hr2 : r < 2 ^ 31) : nI t + ((nI j - nI t) - (nI j - nI t) / nI r * nI r) = nI (t + (j - t) % r) := by
  rw [pk_sub ht, pk_rem (by omega) hr hr2, nI_add]
theorem CH_bd {s : Nat → Nat} {n t r : Nat} (h : CH s n t r) : t ≤ 301 ∧ r ≤ 300 ∧ t + r ≤ 301 ∧ (0 < r → t + r ≤ 300) := by
  rcases h with ⟨h1, h2, -⟩ | ⟨h1, h2, -⟩
  · omega
  · omega
theorem CH_top {s : Nat → Nat} {n t r : Nat} (h : CH s n t r) : ∀ i, i < t + r → it s i n ≤ TOP := by
  rcases h with ⟨h1, h2, h3, h4, h5⟩ | ⟨h1, h2, h3, h4, h5⟩
  · intro i hi; exact h5 i (by omega)
  · intro i hi; exact h4 i (by omega)
theorem s_chain {F b : Nat} (hF : 1000 ≤ F) (hb : bOK b) {f worth : Nat → Int32} {tb : Nat → Nat} (hf : tbOK f tb) (hw : tbOK worth tb) (st : Int32) (n : Int64) (wh many mt mr pz pt pr : Int32) (figs row cnt : Nat → Int32) (told : Nat → Int64) : ∃ a many' figs' mt' mr' row' cnt' told' pz' pt' pr', f_X11_chain F st n wh (nI b) f many figs mt mr = some (a, many', figs', mt', mr') ∧ f_X10_chain F st n wh (nI b) worth row cnt told pz pt pr = some (a, row', cnt', told', pz', pt', pr') := by
  unfold f_X11_chain f_X11_chain_J34 f_X11_chain_J58 f_X10_chain f_X10_chain_J24 f_X10_chain_J61
  rw [p_inI F st 0 5 (a' := 0) (c' := 5) rfl rfl, p_inI F wh 0 1 (a' := 0) (c' := 1) rfl rfl, p_in, p_isNumber, p_isStep, p_within]
  simp only [Option.bind_some]
  rcases wi_1 (x := st) (c := 5) (by omega) with h | ⟨s, hs, rfl, h⟩
  · have h' : wi st 0 5 = 0 := h
    simp only [h', if_pos z00]; exact ⟨_, _, _, _, _, _, _, _, _, _, _, rfl, rfl⟩
  · have h' : wi (nI s) 0 5 = 1 := h
    simp only [h', if_neg n10]
    rcases wl_1 (x := n) with q | ⟨k, q1, rfl, q⟩
    · simp only [q, if_pos z00]; exact ⟨_, _, _, _, _, _, _, _, _, _, _, rfl, rfl⟩
    · simp only [q, if_neg n10]
      rcases wi_1 (x := wh) (c := 1) (by omega) with v | ⟨w, hw1, rfl, v⟩
      · have v' : wi wh 0 1 = 0 := v
        simp only [v', if_pos z00]; exact ⟨_, _, _, _, _, _, _, _, _, _, _, rfl, rfl⟩
      · have v' : wi (nI w) 0 1 = 1 := v
        simp only [v', if_neg n10]
        obtain ⟨M, G, t, r, c1, c2⟩ := p_layChain (many := many) (figs := figs) (tail := mt) (round := mr) hF hb hf hs q1
        obtain ⟨R, C, T, z, t2, r2, d1, d2, d3, d4⟩ := p_follow (row := row) (many := cnt) (told := told) (z0 := pz) (t0 := pt) (r0 := pr) hF hb hw hs q1
        obtain ⟨rfl, rfl⟩ := CH_one c1 d1
        rw [c2, d2]
        simp only [Option.bind_some]
        by_cases h0 : nI w = 0
        · simp only [if_pos h0]; exact ⟨_, _, _, _, _, _, _, _, _, _, _, rfl, rfl⟩
        · simp only [if_neg h0]; exact ⟨_, _, _, _, _, _, _, _, _, _, _, rfl, rfl⟩
theorem s_chained {F b : Nat} (hF : 1000 ≤ F) (hb : bOK b) {f worth : Nat → Int32} {tb : Nat → Nat} (hf : tbOK f tb) (hw : tbOK worth tb) (st : Int32) (n : Int64) (i many mt mr pz pt pr : Int32) (figs row cnt : Nat → Int32) (told : Nat → Int64) : ∃ a many' figs' mt' mr' row' cnt' told' pz' pt' pr', f_X11_chained F st n i (nI b) f many figs mt mr = some (a, many', figs', mt', mr') ∧ f_X10_chained F st n i (nI b) worth row cnt told pz pt pr = some (a, row', cnt', told', pz', pt', pr') := by
  unfold f_X11_chained f_X11_chained_J28 f_X10_chained f_X10_chained_J19
  rw [p_inI F st 0 5 (a' := 0) (c' := 5) rfl rfl, p_in, p_isNumber, p_isStep]
  simp only [Option.bind_some]
  rcases wi_1 (x := st) (c := 5) (by omega) with h | ⟨s, hs, rfl, h⟩
  · have h' : wi st 0 5 = 0 := h
    simp only [h', if_pos z00]; exact ⟨_, _, _, _, _, _, _, _, _, _, _, rfl, rfl⟩
  · have h' : wi (nI s) 0 5 = 1 := h
    simp only [h', if_neg n10]
    rcases wl_1 (x := n) with q | ⟨k, q1, rfl, q⟩
    · simp only [q, if_pos z00]; exact ⟨_, _, _, _, _, _, _, _, _, _, _, rfl, rfl⟩
    · simp only [q, if_neg n10]
      by_cases hi : 0 ≤ i
      · simp only [if_pos hi]
        have hi0 : ¬ i < 0 := Int32.not_lt.mpr hi
        obtain ⟨j, hj, rfl⟩ := nI_of hi0
        obtain ⟨M, G, t, r, c1, c2⟩ := p_layChain (many := many) (figs := figs) (tail := mt) (round := mr) hF hb hf hs q1
        obtain ⟨R, C, T, z, t2, r2, d1, d2, d3, d4⟩ := p_follow (row := row) (many := cnt) (told := told) (z0 := pz) (t0 := pt) (r0 := pr) hF hb hw hs q1
        obtain ⟨rfl, rfl⟩ := CH_one c1 d1
        obtain ⟨b1, b2, b3, b4⟩ := CH_bd c1
        have htop := CH_top c1
        rw [c2, d2]
        simp only [Option.bind_some]
        subst d3
        unfold f_X6_numberAt f_X6_numberAt_J19 f_X6_numberAt_J34
        -- the reference goes k numbers behind n
        have beh : ∀ q : Nat, q ≤ 900 → (∀ i, i < q → it (stepN b tb s) i k ≤ TOP) → ∃ M' G', f_X11_chained_J92 F (nI b) f (nI s) (lN k) (nI q) M G (nI t) (nI r) = some (lN (it (stepN b tb s) q k), M', G', nI t, nI r) := by
          intro q hq hh
          unfold f_X11_chained_J92
          obtain ⟨M', G', e⟩ := p_behind (k := q) (n := k) (figs := G) (many := M) hF hb hf hs q1 hq hh
          rw [e]
          exact ⟨M', G', rfl⟩
        unfold f_X11_chained_J58
        rw [if_neg hi0]
        by_cases hjz : j < t + r
        · -- told
          rw [if_neg (show ¬ nI (t + r) ≤ nI j from nI_ge hjz (by omega)), ck_pos (in_ok (by omega) (by omega)), nI_clamp (by omega), d4 j hjz]
          by_cases hjt : j < t
          · have q5 : nI j < nI t := nI_lt hjt (by omega)
            obtain ⟨M', G', e⟩ := beh j (by omega) (fun i hi => htop i (by omega))
            rw [if_pos q5, if_neg (show ¬ nI t ≤ nI j from nI_ge hjt (by omega)), e]
            exact ⟨_, _, _, _, _, _, _, _, _, _, _, rfl, rfl⟩
          · have q5 : ¬ nI j < nI t := nI_nlt (by omega) (by omega)
            have hr : 0 < r := by omega
            obtain ⟨M', G', e⟩ := beh j (by omega) (fun i hi => htop i (by omega))
            rw [if_neg q5, if_neg (nI_ne0 hr (by omega)), if_pos (show nI t ≤ nI j from nI_le (by omega) (by omega)), ck_pos (nI_ne0 hr (by omega)), remI hj (by omega) hr (by omega), Nat.mod_eq_of_lt (show j - t < r by omega), show t + (j - t) = j by omega, e]
            exact ⟨_, _, _, _, _, _, _, _, _, _, _, rfl, rfl⟩
        · rw [if_pos (show nI (t + r) ≤ nI j from nI_le (by omega) (by omega)), if_neg (show ¬ nI j < nI t from nI_nlt (by omega) (by omega))]
          by_cases hr0 : r = 0
          · subst hr0
            rw [if_pos nI_0, if_pos nI_0]
            exact ⟨_, _, _, _, _, _, _, _, _, _, _, rfl, rfl⟩
          · have hr : 0 < r := by omega
            have hm := Nat.mod_lt (j - t) hr
            have n0 := nI_ne0 hr (show r < 2 ^ 31 by omega)
            have le := nI_le (show t ≤ j by omega) hj
            obtain ⟨M', G', e⟩ := beh (t + (j - t) % r) (by omega) (fun i hi => htop i (by omega))
            rw [if_neg n0, if_pos le, ck_pos n0, remI hj (by omega) hr (by omega), e, if_neg n0, if_pos le, ck_pos n0, ck_pos (in_ok (by omega) (by omega)), nI_clamp (by omega), d4 _ (by omega)]
            exact ⟨_, _, _, _, _, _, _, _, _, _, _, rfl, rfl⟩
      · simp only [if_neg hi]; exact ⟨_, _, _, _, _, _, _, _, _, _, _, rfl, rfl⟩
