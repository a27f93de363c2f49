/-! narrow: the class's answers -/
theorem nwOK_new : nwOK 32 (fun _ => 0) 0 0 0 0 := ⟨rfl, Or.inl ⟨rfl, rfl, rfl⟩⟩
theorem s_narrowB {F b : Nat} (w e i : Int32) (h : ¬ inNar w e i) : f_X10_narrow_B F w e i = some (-1 : Int64) ∧ anNar b w e i (-1 : Int64) := by
  refine ⟨?_, Or.inr ⟨h, rfl⟩⟩
  unfold f_X10_narrow_B
  rw [p_within, Option.bind_some]
  by_cases z1 : wi w 1 6 = 0
  · rw [if_pos z1]
  · rw [if_neg z1, p_within, Option.bind_some]
    by_cases z2 : wi e 1 6 = 0
    · rw [if_pos z2]
    · rw [if_neg z2]
      by_cases z3 : (-1 : Int32) ≤ i
      · exact absurd ⟨z1, z2, z3⟩ h
      · rw [if_neg z3]
theorem nI_lt0 {i : Int32} (h : ¬ (-1 : Int32) = i) (h1 : (-1 : Int32) ≤ i) : ¬ i < 0 := ge_m1 h1 (fun q => h q.symm)
theorem s_narrowN {F b : Nat} (hF : 300 ≤ F) (hb : bOK b) (w e i : Int32) (h : inNar w e i) : ∃ (K : Nat) (r : Int64) (powers taken left found : Nat → Int32) (size base width exp y1 y2 : Int32), f_X10_narrow_N F 32 (List.replicate K 32) w e i (nI b) = some (r, powers, taken, left, 32, found, size, base, width, exp, y1, y2) ∧ nwOK 32 found size base width exp ∧ anNar b w e i r := by
  obtain ⟨z1, z2, z3⟩ := h
  obtain ⟨w', k1, k2, rfl⟩ := wi_k (a := 1) (c := 6) (by omega) (by omega) z1
  obtain ⟨e', l1, l2, rfl⟩ := wi_k (a := 1) (c := 6) (by omega) (by omega) z2
  obtain ⟨K, p', t', l', f', m, a, y1, y2, e1, h1, h2⟩ := p_seekN (F := F) (x5 := 0) (x6 := 0) (powers := fun _ => 0) (taken := fun _ => 0) (left := fun _ => 0) hF hb k1 k2 l2 nwOK_new
  have hbd := SA_bd hb k1 k2 l2 h1 (fun n q => q)
  have hok : nwOK 32 f' (nI m) (nI b) (nI w') (nI e') := ⟨rfl, Or.inr ⟨b, w', e', m, a, hb, k1, k2, l2, rfl, rfl, rfl, rfl, h1, h2⟩⟩
  have base : ∀ r : Int64, r = (if i = (-1 : Int32) then lN m else if nI m ≤ i then (-4 : Int64) else lN (a i.toNatClampNeg)) → anNar b (nI w') (nI e') i r := fun r hr => Or.inl ⟨⟨z1, z2, z3⟩, w', e', m, a, k1, k2, l2, rfl, rfl, h1, hr⟩
  refine ⟨K, ?_⟩
  unfold f_X10_narrow_N
  rw [p_within, Option.bind_some, if_neg z1, p_within, Option.bind_some, if_neg z2, if_pos z3, ck_pos ⟨Nat.le_refl _, Nat.le_refl _⟩, e1, Option.bind_some]
  dsimp only
  rw [ck_pos rfl]
  by_cases z4 : i = (-1 : Int32)
  · subst z4
    rw [if_pos (by decide), p_count, Option.bind_some, if_pos rfl, nI_l (by omega)]
    exact ⟨_, _, _, _, _, _, _, _, _, _, _, rfl, hok, base _ (by rw [if_pos rfl])⟩
  · obtain ⟨j, hj, rfl⟩ := nI_of (ge_m1 z3 z4)
    rw [if_neg (nI_pos hj)]
    by_cases z5 : nI m ≤ nI j
    · rw [if_pos z5, p_count, Option.bind_some, if_neg z4]
      exact ⟨_, _, _, _, _, _, _, _, _, _, _, rfl, hok, base _ (by rw [if_neg z4, if_pos z5]; rfl)⟩
    · have hjm : j < m := by
        rcases Nat.lt_or_ge j m with x | x
        · exact x
        · exact absurd (nI_le x hj) z5
      have hlt := NW_lt hb k2 ((h1.2 (a j)).mpr ⟨j, hjm, rfl⟩)
      rw [if_neg z5, ck_pos (in_ok (by omega) (by omega)), nI_clamp hj, h2 j hjm, nI_l (by omega)]
      exact ⟨_, _, _, _, _, _, _, _, _, _, _, rfl, hok, base _ (by rw [if_neg z4, if_neg z5, nI_clamp hj])⟩
theorem s_narrowP {F b : Nat} (hF : 300 ≤ F) (hb : bOK b) (w e i : Int32) {nf : Nat} {powers taken left found : Nat → Int32} {size base width exp x5 x6 : Int32} (hn : nwOK nf found size base width exp) : ∃ (K : Nat) (r : Int64) (powers' taken' left' found' : Nat → Int32) (size' base' width' exp' y1 y2 : Int32), f_X10_narrow_P F 32 (List.replicate K 32) w e i (nI b) powers taken left nf found size base width exp x5 x6 = some (r, powers', taken', left', 32, found', size', base', width', exp', y1, y2) ∧ nwOK 32 found' size' base' width' exp' ∧ anNar b w e i r := by
  have hnf := hn.1
  subst hnf
  by_cases hin : inNar w e i
  · obtain ⟨z1, z2, z3⟩ := hin
    obtain ⟨w', k1, k2, rfl⟩ := wi_k (a := 1) (c := 6) (by omega) (by omega) z1
    obtain ⟨e', l1, l2, rfl⟩ := wi_k (a := 1) (c := 6) (by omega) (by omega) z2
    obtain ⟨K, p', t', l', f', m, a, y1, y2, e1, h1, h2⟩ := p_seekN (F := F) (x5 := x5) (x6 := x6) (powers := powers) (taken := taken) (left := left) hF hb k1 k2 l2 hn
    have hbd := SA_bd hb k1 k2 l2 h1 (fun n q => q)
    have hok : nwOK 32 f' (nI m) (nI b) (nI w') (nI e') := ⟨rfl, Or.inr ⟨b, w', e', m, a, hb, k1, k2, l2, rfl, rfl, rfl, rfl, h1, h2⟩⟩
    have base : ∀ r : Int64, r = (if i = (-1 : Int32) then lN m else if nI m ≤ i then (-4 : Int64) else lN (a i.toNatClampNeg)) → anNar b (nI w') (nI e') i r := fun r hr => Or.inl ⟨⟨z1, z2, z3⟩, w', e', m, a, k1, k2, l2, rfl, rfl, h1, hr⟩
    refine ⟨K, ?_⟩
    unfold f_X10_narrow_P
    rw [p_within, Option.bind_some, if_neg z1, p_within, Option.bind_some, if_neg z2, if_pos z3, ck_pos ⟨Nat.le_refl _, Nat.le_refl _⟩, e1, Option.bind_some]
    dsimp only
    rw [ck_pos rfl]
    by_cases z4 : i = (-1 : Int32)
    · subst z4
      rw [if_pos (by decide), p_count, Option.bind_some, if_pos rfl, nI_l (by omega)]
      exact ⟨_, _, _, _, _, _, _, _, _, _, _, rfl, hok, base _ (by rw [if_pos rfl])⟩
    · obtain ⟨j, hj, rfl⟩ := nI_of (ge_m1 z3 z4)
      rw [if_neg (nI_pos hj)]
      by_cases z5 : nI m ≤ nI j
      · rw [if_pos z5, p_count, Option.bind_some, if_neg z4]
        exact ⟨_, _, _, _, _, _, _, _, _, _, _, rfl, hok, base _ (by rw [if_neg z4, if_pos z5]; rfl)⟩
      · have hjm : j < m := by
          rcases Nat.lt_or_ge j m with x | x
          · exact x
          · exact absurd (nI_le x hj) z5
        have hlt := NW_lt hb k2 ((h1.2 (a j)).mpr ⟨j, hjm, rfl⟩)
        rw [if_neg z5, ck_pos (in_ok (by omega) (by omega)), nI_clamp hj, h2 j hjm, nI_l (by omega)]
        exact ⟨_, _, _, _, _, _, _, _, _, _, _, rfl, hok, base _ (by rw [if_neg z4, if_neg z5, nI_clamp hj])⟩
  · refine ⟨0, (-1 : Int64), powers, taken, left, found, size, base, width, exp, x5, x6, ?_, hn, Or.inr ⟨hin, rfl⟩⟩
    unfold f_X10_narrow_P
    rw [p_within, Option.bind_some]
    by_cases z1 : wi w 1 6 = 0
    · rw [if_pos z1]
    · rw [if_neg z1, p_within, Option.bind_some]
      by_cases z2 : wi e 1 6 = 0
      · rw [if_pos z2]
      · rw [if_neg z2]
        by_cases z3 : (-1 : Int32) ≤ i
        · exact absurd ⟨z1, z2, z3⟩ hin
        · rw [if_neg z3]
