/-! the calls that ask for ways -/
theorem YS_0 {s : Nat → Nat} {B : Nat} {D : List Nat} {T Z : Nat} {ls ln : Nat → Nat} {keys : Nat → Int64} {tails homes : Nat → Int32} {cst : Int32} (h : YS s B D T Z ls ln keys tails homes cst) : TAB0 T keys := by
  rcases h with ⟨_, m, h, _⟩ | ⟨_, h⟩
  · exact TAB_0 h
  · exact h
theorem cst_bd {T T' : Nat} {keys keys' : Nat → Int64} {tails homes tails' homes' : Nat → Int32} {c c' : Int32} (h0 : c = (-1 : Int32) ∨ ∃ T0, T0 ≤ T ∧ c = nI T0) (h : (c' = nI T' ∧ ((c = nI T ∧ T' = T) ∨ T' = T + 1)) ∨ (T' = T ∧ keys' = keys ∧ tails' = tails ∧ homes' = homes ∧ (c' = c ∨ c' = (-1 : Int32)))) : c' = (-1 : Int32) ∨ ∃ T0, T0 ≤ T' ∧ c' = nI T0 := by
  rcases h with ⟨q, _⟩ | ⟨q, _, _, _, r | r⟩
  · exact Or.inr ⟨T', Nat.le_refl _, q⟩
  · rw [r, q]; exact h0
  · exact Or.inl r
theorem NN_16 {NN : Nat} (h : ∃ j, j ≤ 11 ∧ NN = 16 * 2 ^ j) : 16 ≤ NN ∧ NN ≤ 32768 := by
  obtain ⟨j, hj, rfl⟩ := h
  have h1 : 2 ^ j ≤ 2 ^ 11 := Nat.pow_le_pow_right (by omega) hj
  have h2 := Nat.two_pow_pos j
  omega
theorem bad3 {A B C : Prop} (h : ¬ (A ∧ B ∧ C)) : ¬ A ∨ ¬ B ∨ ¬ C := by
  by_cases a : A
  · by_cases b : B
    · exact Or.inr (Or.inr (fun c => h ⟨a, b, c⟩))
    · exact Or.inr (Or.inl b)
  · exact Or.inl a
set_option maxHeartbeats 4000000 in
theorem st_first {l : Launch} {D : va_G} {cy : Nat → ClassId} {F b : Nat} {tb : Nat → Nat} {N aX aM C S : Nat} {w v : va_W} (hF : 20000000 ≤ F) (hN : N ≤ 600) (hX : XS F cy b tb N aX C S w) (hM : MS' cy b tb aM v) (a1 a2 a3 : Int32) : StI l D cy F N aX aM C S w v yX10_first wsX10_first yX11_first wsX11_first [.int a1, .int a2, .int a3] := by
  obtain ⟨V, qX, qG, qP, qR, oS, oB, oE, oN, oL, xw, worth, row, many, told, sz, pt, pr, wO, rfl, rfl, hb, hw, hV, hO⟩ := hX
  obtain ⟨qM, m_f, m_many, m_figures, m_tail, m_round, m_rounds, m_leasts, m_likes, m_like, m_isTwo, m_came, m_by, m_queue, m_kind, m_parts, m_wanted, m_allowed, m_bitOf, m_met, m_row, m_narrows, m_narrow, m_isMade, rfl, rfl, hf⟩ := hM
  have hbd := OP_bd hO
  by_cases hin : ¬ wi a1 0 5 = 0 ∧ ¬ wi a2 0 300 = 0 ∧ ¬ wi a3 0 3000 = 0
  · obtain ⟨i1, i2, i3⟩ := hin
    obtain ⟨st, _, hst5, rfl⟩ := wi_k (a := 0) (c := 5) (by omega) (by omega) i1
    obtain ⟨kk, _, hkk, rfl⟩ := wi_k (a := 0) (c := 300) (by omega) (by omega) i2
    obtain ⟨M, _, hM3, rfl⟩ := wi_k (a := 0) (c := 3000) (by omega) (by omega) i3
    by_cases hst : st = 0 ∨ st = 3
    · have hcl : (nI st).toNatClampNeg = st := nI_clamp (by omega)
      obtain ⟨T, keys, tails, homes, c, kS, nS, k, n, uS, u, v', wr, hsel, hT, hSl, ho, hk, hn, put⟩ := OP_Y hO (by omega) hst
      rcases ho with ⟨hxn, rfl, rfl, rfl, rfl, rfl⟩ | ⟨q, qC, uC, aS, tl, known, yv, ho, size, NN, leasts, lengths, firstBy, order, hxs, hoS, rfl, rfl, hNN, hcb, hver, rfl, rfl⟩
      · rcases hSl with ⟨hT0, ⟨rfl, rfl, rfl, rfl, rfl, rfl, rfl, rfl⟩ | ⟨qS, rfl, rfl, rfl, rfl⟩⟩
        · obtain ⟨pl, NN', Z', T', K', cst', row', many', keys', tails', homes', tl', ho', ls', ln', fb', od', l', n', f', o', eW, hA⟩ := w_YN (F := F) (b := b) (st := st) (M := M) (V := V) (worth := worth) (by omega) hb hw hst (by omega) (by omega) row many
          have hNN' := NN_16 hA.2.2.2.2.2.1.1
          have hle := hA.1
          have hTL : ∀ n, n ≤ M → TL (stepN b tb st) n (tl' n) := fun n hn => KN_TL (AM_of hb (tbB_of hw) hst) hA.2.2.2.2.2.2.1 (by have := hA.2.2.1; omega) (by omega)
          obtain ⟨M', G', t', r', e1⟩ := first_ref (F := F) (k := kk) (by omega) hb hf (show st ≤ 5 by omega) hM3 hkk hTL m_many m_tail m_round m_figures
          have e2 : f_X10_first_YN F (4 * NN') pl (nI st) (nI kk) (nI M) (nI b) worth row many (nI V) = some (goF tl' (nI kk) (M + 1) 0, row', many', keys', tails', homes', nI T', nI st, tl', nI K', nI V, nI st, cst', ho', nI Z', NN', l', NN', n', NN', f', NN', o') := by
            unfold f_X10_first_YN
            rw [p_isStep, Option.bind_some, if_neg i1, p_within, Option.bind_some, if_neg i2, p_within, Option.bind_some, if_neg i3, eW, Option.bind_some]
            dsimp only
            rw [first_YZ, first_cls (by omega) hM3, Option.bind_some]
          refine ⟨_, b, tb, mkO_i (A := [gX cy qX (qG 0) (qP 0) (qR 0) none oB oE oN oL xw, gG cy qG (nI b) worth row many (nI V)]) (B := [gP cy qP told sz pt pr, gR cy qR (qG 0), wr]) (A1 := fun u : Nat → Nat → Nat => [gX cy qX (qG 0) (qP 0) (qR 0) (some ((u 0) 0)) oB oE oN oL (va_up xw (nI st).toNatClampNeg (some ((u 3) 0))), gG cy qG (nI b) worth row' many' (nI V), gS cy (u 0) keys' tails' homes' (nI T'), gC cy (u 1) (u 2) (qG 0) ((u 0) 0) (nI st) cst' ho' (nI Z') NN' l' NN' n' NN' f' NN' o', gY cy (u 3) (qG 0) (qP 0) ((u 1) 0) (nI st) tl' (nI K') (nI V)]) (GL := [gX cy qX (qG 0) (qP 0) (qR 0) none oB oE oN oL xw, gG cy qG (nI b) worth row many (nI V), gP cy qP told sz pt pr, gR cy qR (qG 0), wr]) [0, 1, 2, 3, 4] (Sel_last hsel) rfl (by decide) (c_X10_first_YN e2 (pot0 := 64) rfl (by rw [hcl]; exact hxn)) ⟨0, _, rfl⟩ ⟨Nat.le_of_ble_eq_true rfl, Nat.le_of_ble_eq_true rfl⟩ (by show C + (12 + (4 * NN' - 64)) ≤ 500000; omega) (by show S + (104391 + 2 * (4 * NN' - 64)) ≤ 7000000; omega) (fun u => ?_), mkM_i (c_X11_first e1) ⟨0, _, rfl⟩ ⟨by decide, by decide, rfl, rfl⟩ (Post := MS' cy b tb (qM 0)) ⟨qM, _, _, _, _, _, _, _, _, _, _, _, _, _, _, _, _, _, _, _, _, _, _, _, rfl, rfl, hf⟩⟩
          obtain ⟨w', hs', hO'⟩ := put (some ((u 0) 0)) (va_up xw (nI st).toNatClampNeg (some ((u 3) 0))) T' keys' tails' homes' cst' 4 98308 (8 + (4 * NN' - 64)) (6083 + 2 * (4 * NN' - 64)) (gS cy (u 0) keys' tails' homes' (nI T')) (gY cy (u 3) (qG 0) (qP 0) ((u 1) 0) (nI st) tl' (nI K') (nI V)) (gC cy (u 1) (u 2) (qG 0) ((u 0) 0) (nI st) cst' ho' (nI Z') NN' l' NN' n' NN' f' NN' o') (fun q => absurd rfl q) (fun j hj => va_up_ne xw _ (by rw [hcl]; exact hj)) hA.2.1 ⟨YS_0 hA.2.2.2.2.2.2.2, Or.inr ⟨u 0, rfl, rfl, rfl, rfl⟩⟩ (Or.inr ⟨u 3, u 1, u 2, (u 0) 0, tl', nI K', nI V, ho', nI Z', NN', l', n', f', o', by rw [hcl]; exact va_up_self xw st _, rfl, rfl, rfl, hA.2.2.2.2.2.1.1, cst_bd (Or.inl rfl) hA.2.1, Or.inr ⟨V, Nat.le_refl _, rfl, fun _ => ⟨K', Z', ls', ln', fb', od', rfl, hA.2.2.2.1, rfl, hA.2.2.2.2.1, hA.2.2.2.2.2.1, hA.2.2.2.2.2.2.1, hA.2.2.2.2.2.2.2⟩⟩, rfl, rfl⟩)
          rw [show C - (0 + 0) + (4 + (8 + (4 * NN' - 64))) = C + (12 + (4 * NN' - 64)) by omega, show S - (0 + 0) + (98308 + (6083 + 2 * (4 * NN' - 64))) = S + (104391 + 2 * (4 * NN' - 64)) by omega] at hO'
          exact ⟨_, Sel_trans (Sel_J3 (G := [gX cy qX (qG 0) (qP 0) (qR 0) (some ((u 0) 0)) oB oE oN oL (va_up xw (nI st).toNatClampNeg (some ((u 3) 0))), gG cy qG (nI b) worth row' many' (nI V), gP cy qP told sz pt pr, gR cy qR (qG 0), wr, gS cy (u 0) keys' tails' homes' (nI T'), gY cy (u 3) (qG 0) (qP 0) ((u 1) 0) (nI st) tl' (nI K') (nI V), gC cy (u 1) (u 2) (qG 0) ((u 0) 0) (nI st) cst' ho' (nI Z') NN' l' NN' n' NN' f' NN' o']) [3, 4, 0, 1, 2, 5, 7, 6] rfl (by decide)) (Sel_last hs'), V, qX, qG, qP, qR, (some ((u 0) 0)), oB, oE, oN, oL, (va_up xw (nI st).toNatClampNeg (some ((u 3) 0))), worth, row', many', told, sz, pt, pr, w', rfl, rfl, hb, hw, by omega, hO'⟩
        · obtain ⟨pl, NN', Z', T', K', cst', row', many', keys', tails', homes', tl', ho', ls', ln', fb', od', l', n', f', o', eW, hA⟩ := w_YS (F := F) (b := b) (st := st) (M := M) (T := T) (V := V) (worth := worth) (keys := keys) (tails := tails) (homes := homes) (by omega) hb hw hst (by omega) (by omega) (by omega) hT0 row many
          have hNN' := NN_16 hA.2.2.2.2.2.1.1
          have hle := hA.1
          have hTL : ∀ n, n ≤ M → TL (stepN b tb st) n (tl' n) := fun n hn => KN_TL (AM_of hb (tbB_of hw) hst) hA.2.2.2.2.2.2.1 (by have := hA.2.2.1; omega) (by omega)
          obtain ⟨M', G', t', r', e1⟩ := first_ref (F := F) (k := kk) (by omega) hb hf (show st ≤ 5 by omega) hM3 hkk hTL m_many m_tail m_round m_figures
          have e2 : f_X10_first_YS F (4 * NN') pl (nI st) (nI kk) (nI M) (nI b) worth row many (nI V) keys tails homes (nI T) = some (goF tl' (nI kk) (M + 1) 0, row', many', keys', tails', homes', nI T', nI st, tl', nI K', nI V, nI st, cst', ho', nI Z', NN', l', NN', n', NN', f', NN', o') := by
            unfold f_X10_first_YS
            rw [p_isStep, Option.bind_some, if_neg i1, p_within, Option.bind_some, if_neg i2, p_within, Option.bind_some, if_neg i3, eW, Option.bind_some]
            dsimp only
            rw [first_YZ, first_cls (by omega) hM3, Option.bind_some]
          refine ⟨_, b, tb, mkO_i (A := [gX cy qX (qG 0) (qP 0) (qR 0) (some (qS 0)) oB oE oN oL xw, gS cy qS keys tails homes (nI T), gG cy qG (nI b) worth row many (nI V)]) (B := [gP cy qP told sz pt pr, gR cy qR (qG 0), wr]) (A1 := fun u : Nat → Nat → Nat => [gX cy qX (qG 0) (qP 0) (qR 0) (some (qS 0)) oB oE oN oL (va_up xw (nI st).toNatClampNeg (some ((u 2) 0))), gS cy qS keys' tails' homes' (nI T'), gG cy qG (nI b) worth row' many' (nI V), gC cy (u 0) (u 1) (qG 0) (qS 0) (nI st) cst' ho' (nI Z') NN' l' NN' n' NN' f' NN' o', gY cy (u 2) (qG 0) (qP 0) ((u 0) 0) (nI st) tl' (nI K') (nI V)]) (GL := [gX cy qX (qG 0) (qP 0) (qR 0) (some (qS 0)) oB oE oN oL xw, gG cy qG (nI b) worth row many (nI V), gP cy qP told sz pt pr, gR cy qR (qG 0), gS cy qS keys tails homes (nI T), wr]) [0, 4, 1, 2, 3, 5] (Sel_last hsel) rfl (by decide) (c_X10_first_YS e2 (pot0 := 64) rfl (by rw [hcl]; exact hxn)) ⟨0, _, rfl⟩ ⟨Nat.le_of_ble_eq_true rfl, Nat.le_of_ble_eq_true rfl⟩ (by show C + (8 + (4 * NN' - 64)) ≤ 500000; omega) (by show S + (6083 + 2 * (4 * NN' - 64)) ≤ 7000000; omega) (fun u => ?_), mkM_i (c_X11_first e1) ⟨0, _, rfl⟩ ⟨by decide, by decide, rfl, rfl⟩ (Post := MS' cy b tb (qM 0)) ⟨qM, _, _, _, _, _, _, _, _, _, _, _, _, _, _, _, _, _, _, _, _, _, _, _, rfl, rfl, hf⟩⟩
          obtain ⟨w', hs', hO'⟩ := put (some (qS 0)) (va_up xw (nI st).toNatClampNeg (some ((u 2) 0))) T' keys' tails' homes' cst' 4 98308 (8 + (4 * NN' - 64)) (6083 + 2 * (4 * NN' - 64)) (gS cy qS keys' tails' homes' (nI T')) (gY cy (u 2) (qG 0) (qP 0) ((u 0) 0) (nI st) tl' (nI K') (nI V)) (gC cy (u 0) (u 1) (qG 0) (qS 0) (nI st) cst' ho' (nI Z') NN' l' NN' n' NN' f' NN' o') (fun _ => rfl) (fun j hj => va_up_ne xw _ (by rw [hcl]; exact hj)) hA.2.1 ⟨YS_0 hA.2.2.2.2.2.2.2, Or.inr ⟨qS, rfl, rfl, rfl, rfl⟩⟩ (Or.inr ⟨u 2, u 0, u 1, qS 0, tl', nI K', nI V, ho', nI Z', NN', l', n', f', o', by rw [hcl]; exact va_up_self xw st _, rfl, rfl, rfl, hA.2.2.2.2.2.1.1, cst_bd (Or.inl rfl) hA.2.1, Or.inr ⟨V, Nat.le_refl _, rfl, fun _ => ⟨K', Z', ls', ln', fb', od', rfl, hA.2.2.2.1, rfl, hA.2.2.2.2.1, hA.2.2.2.2.2.1, hA.2.2.2.2.2.2.1, hA.2.2.2.2.2.2.2⟩⟩, rfl, rfl⟩)
          rw [show C - (4 + 0) + (4 + (8 + (4 * NN' - 64))) = C + (8 + (4 * NN' - 64)) by omega, show S - (98308 + 0) + (98308 + (6083 + 2 * (4 * NN' - 64))) = S + (6083 + 2 * (4 * NN' - 64)) by omega] at hO'
          exact ⟨_, Sel_trans (Sel_J3 (G := [gX cy qX (qG 0) (qP 0) (qR 0) (some (qS 0)) oB oE oN oL (va_up xw (nI st).toNatClampNeg (some ((u 2) 0))), gG cy qG (nI b) worth row' many' (nI V), gP cy qP told sz pt pr, gR cy qR (qG 0), wr, gS cy qS keys' tails' homes' (nI T'), gY cy (u 2) (qG 0) (qP 0) ((u 0) 0) (nI st) tl' (nI K') (nI V), gC cy (u 0) (u 1) (qG 0) (qS 0) (nI st) cst' ho' (nI Z') NN' l' NN' n' NN' f' NN' o']) [3, 5, 0, 1, 2, 4, 7, 6] rfl (by decide)) (Sel_last hs'), V, qX, qG, qP, qR, (some (qS 0)), oB, oE, oN, oL, (va_up xw (nI st).toNatClampNeg (some ((u 2) 0))), worth, row', many', told, sz, pt, pr, w', rfl, rfl, hb, hw, by omega, hO'⟩
      · rcases hSl with ⟨hT0, ⟨rfl, _⟩ | ⟨qS, hqS, rfl, rfl, rfl⟩⟩
        · cases hoS
        · rw [hqS] at hoS
          injection hoS with hoS
          subst hoS
          subst hqS
          have hN16 := NN_16 hNN
          obtain ⟨pl, NN', Z', T', K', cst', row', many', keys', tails', homes', tl', ho', ls', ln', fb', od', l', n', f', o', eW, hA⟩ := w_Y (F := F) (b := b) (st := st) (M := M) (T := T) (V := V) (worth := worth) (by omega) hb hw hst (by omega) (by omega) (by omega) hT0 hNN hver row many
          have hNN' := NN_16 hA.2.2.2.2.2.1.1
          have hle := hA.1
          have hTL : ∀ n, n ≤ M → TL (stepN b tb st) n (tl' n) := fun n hn => KN_TL (AM_of hb (tbB_of hw) hst) hA.2.2.2.2.2.2.1 (by have := hA.2.2.1; omega) (by omega)
          obtain ⟨M', G', t', r', e1⟩ := first_ref (F := F) (k := kk) (by omega) hb hf (show st ≤ 5 by omega) hM3 hkk hTL m_many m_tail m_round m_figures
          have e2 : f_X10_first_Y F (4 * NN') pl (nI st) (nI kk) (nI M) (nI b) worth row many (nI V) keys tails homes (nI T) (nI st) tl known yv (nI st) c ho size NN leasts NN lengths NN firstBy NN order = some (goF tl' (nI kk) (M + 1) 0, row', many', keys', tails', homes', nI T', tl', nI K', nI V, cst', ho', nI Z', NN', l', NN', n', NN', f', NN', o') := by
            unfold f_X10_first_Y
            rw [p_isStep, Option.bind_some, if_neg i1, p_within, Option.bind_some, if_neg i2, p_within, Option.bind_some, if_neg i3, eW, Option.bind_some]
            dsimp only
            rw [first_YZ, first_cls (by omega) hM3, Option.bind_some]
          refine ⟨_, b, tb, mkO_i (A := [gX cy qX (qG 0) (qP 0) (qR 0) (some (qS 0)) oB oE oN oL xw, gY cy q (qG 0) (qP 0) (qC 0) (nI st) tl known yv, gC cy qC uC (qG 0) (qS 0) (nI st) c ho size NN leasts NN lengths NN firstBy NN order, gS cy qS keys tails homes (nI T), gG cy qG (nI b) worth row many (nI V)]) (B := [gP cy qP told sz pt pr, gR cy qR (qG 0), wr]) (A1 := fun u : Nat → Nat → Nat => [gX cy qX (qG 0) (qP 0) (qR 0) (some (qS 0)) oB oE oN oL xw, gY cy q (qG 0) (qP 0) (qC 0) (nI st) tl' (nI K') (nI V), gC cy qC (u 0) (qG 0) (qS 0) (nI st) cst' ho' (nI Z') NN' l' NN' n' NN' f' NN' o', gS cy qS keys' tails' homes' (nI T'), gG cy qG (nI b) worth row' many' (nI V)]) (GL := [gX cy qX (qG 0) (qP 0) (qR 0) (some (qS 0)) oB oE oN oL xw, gG cy qG (nI b) worth row many (nI V), gP cy qP told sz pt pr, gR cy qR (qG 0), gS cy qS keys tails homes (nI T), gY cy q (qG 0) (qP 0) (qC 0) (nI st) tl known yv, gC cy qC uC (qG 0) (qS 0) (nI st) c ho size NN leasts NN lengths NN firstBy NN order, wr]) [0, 5, 6, 4, 1, 2, 3, 7] (Sel_last hsel) rfl (by decide) (c_X10_first_Y e2 (pot0 := NN + NN + NN + NN) rfl (by rw [hcl]; exact hxs)) ⟨0, _, rfl⟩ ⟨Nat.le_of_ble_eq_true rfl, Nat.le_of_ble_eq_true rfl⟩ (by show C + (0 + (4 * NN' - (NN + NN + NN + NN))) ≤ 500000; omega) (by show S + (0 + 2 * (4 * NN' - (NN + NN + NN + NN))) ≤ 7000000; omega) (fun u => ?_), mkM_i (c_X11_first e1) ⟨0, _, rfl⟩ ⟨by decide, by decide, rfl, rfl⟩ (Post := MS' cy b tb (qM 0)) ⟨qM, _, _, _, _, _, _, _, _, _, _, _, _, _, _, _, _, _, _, _, _, _, _, _, rfl, rfl, hf⟩⟩
          obtain ⟨w', hs', hO'⟩ := put (some (qS 0)) xw T' keys' tails' homes' cst' 4 98308 (8 + (4 * NN' - 64)) (6083 + 2 * (4 * NN' - 64)) (gS cy qS keys' tails' homes' (nI T')) (gY cy q (qG 0) (qP 0) (qC 0) (nI st) tl' (nI K') (nI V)) (gC cy qC (u 0) (qG 0) (qS 0) (nI st) cst' ho' (nI Z') NN' l' NN' n' NN' f' NN' o') (fun _ => rfl) (fun j hj => rfl) hA.2.1 ⟨YS_0 hA.2.2.2.2.2.2.2, Or.inr ⟨qS, rfl, rfl, rfl, rfl⟩⟩ (Or.inr ⟨q, qC, u 0, qS 0, tl', nI K', nI V, ho', nI Z', NN', l', n', f', o', hxs, rfl, rfl, rfl, hA.2.2.2.2.2.1.1, cst_bd hcb hA.2.1, Or.inr ⟨V, Nat.le_refl _, rfl, fun _ => ⟨K', Z', ls', ln', fb', od', rfl, hA.2.2.2.1, rfl, hA.2.2.2.2.1, hA.2.2.2.2.2.1, hA.2.2.2.2.2.2.1, hA.2.2.2.2.2.2.2⟩⟩, rfl, rfl⟩)
          rw [show C - (4 + (8 + (4 * NN - 64))) + (4 + (8 + (4 * NN' - 64))) = C + (0 + (4 * NN' - (NN + NN + NN + NN))) by omega, show S - (98308 + (6083 + 2 * (4 * NN - 64))) + (98308 + (6083 + 2 * (4 * NN' - 64))) = S + (0 + 2 * (4 * NN' - (NN + NN + NN + NN))) by omega] at hO'
          exact ⟨_, Sel_trans (Sel_J3 (G := [gX cy qX (qG 0) (qP 0) (qR 0) (some (qS 0)) oB oE oN oL xw, gG cy qG (nI b) worth row' many' (nI V), gP cy qP told sz pt pr, gR cy qR (qG 0), wr, gS cy qS keys' tails' homes' (nI T'), gY cy q (qG 0) (qP 0) (qC 0) (nI st) tl' (nI K') (nI V), gC cy qC (u 0) (qG 0) (qS 0) (nI st) cst' ho' (nI Z') NN' l' NN' n' NN' f' NN' o']) [3, 7, 0, 1, 2, 6, 4, 5] rfl (by decide)) (Sel_last hs'), V, qX, qG, qP, qR, (some (qS 0)), oB, oE, oN, oL, xw, worth, row', many', told, sz, pt, pr, w', rfl, rfl, hb, hw, by omega, hO'⟩
    · have hcl : (nI st).toNatClampNeg = st := nI_clamp (by omega)
      obtain ⟨k, n, u, wr, hsel, ho, hk, hn, put⟩ := OP_Z hO hst5 (fun q => hst (Or.inl q)) (fun q => hst (Or.inr q))
      rcases ho with ⟨hxn, rfl, rfl, rfl⟩ | ⟨q, tails, known, zv, hxs, rfl, hver, rfl, rfl⟩
      · obtain ⟨row', many', told', sz', pt', pr', tl', K', eW, g1, g2, g3⟩ := w_ZN (F := F) (b := b) (st := st) (M := M) (V := V) (worth := worth) (told := told) (sz := sz) (pt := pt) (pr := pr) (by omega) hb hw hst5 (fun q => hst (Or.inl q)) (fun q => hst (Or.inr q)) hM3 (by omega) row many
        have hTL : ∀ n, n ≤ M → TL (stepN b tb st) n (tl' n) := fun n hn => g3 n (by omega)
        obtain ⟨M', G', t', r', e1⟩ := first_ref (F := F) (k := kk) (by omega) hb hf (show st ≤ 5 by omega) hM3 hkk hTL m_many m_tail m_round m_figures
        have e2 : f_X10_first_ZN F (nI st) (nI kk) (nI M) (nI b) worth row many (nI V) told sz pt pr = some (goF tl' (nI kk) (M + 1) 0, row', many', told', sz', pt', pr', nI st, tl', nI K', nI V) := by
          unfold f_X10_first_ZN
          rw [p_isStep, Option.bind_some, if_neg i1, p_within, Option.bind_some, if_neg i2, p_within, Option.bind_some, if_neg i3, eW, Option.bind_some]
          dsimp only
          rw [first_cls (by omega) hM3, Option.bind_some]
        refine ⟨_, b, tb, mkO_i (A := [gX cy qX (qG 0) (qP 0) (qR 0) oS oB oE oN oL xw, gP cy qP told sz pt pr, gG cy qG (nI b) worth row many (nI V)]) (B := [gR cy qR (qG 0), wr]) (A1 := fun u : Nat → Nat → Nat => [gX cy qX (qG 0) (qP 0) (qR 0) oS oB oE oN oL (va_up xw (nI st).toNatClampNeg (some ((u 0) 0))), gP cy qP told' sz' pt' pr', gG cy qG (nI b) worth row' many' (nI V), gZ cy (u 0) (qG 0) (qP 0) (nI st) tl' (nI K') (nI V)]) (GL := [gX cy qX (qG 0) (qP 0) (qR 0) oS oB oE oN oL xw, gG cy qG (nI b) worth row many (nI V), gP cy qP told sz pt pr, gR cy qR (qG 0), wr]) [0, 2, 1, 3, 4] (Sel_last hsel) rfl (by decide) (c_X10_first_ZN e2 (by rw [hcl]; exact hxn)) ⟨0, _, rfl⟩ ⟨Nat.le_of_ble_eq_true rfl, Nat.le_of_ble_eq_true rfl⟩ (by show C + 2 ≤ 500000; omega) (by show S + 3008 ≤ 7000000; omega) (fun u => ?_), mkM_i (c_X11_first e1) ⟨0, _, rfl⟩ ⟨by decide, by decide, rfl, rfl⟩ (Post := MS' cy b tb (qM 0)) ⟨qM, _, _, _, _, _, _, _, _, _, _, _, _, _, _, _, _, _, _, _, _, _, _, _, rfl, rfl, hf⟩⟩
        obtain ⟨w', hs', hO'⟩ := put (va_up xw (nI st).toNatClampNeg (some ((u 0) 0))) 2 3008 (gZ cy (u 0) (qG 0) (qP 0) (nI st) tl' (nI K') (nI V)) (fun j hj => va_up_ne xw _ (by rw [hcl]; exact hj)) (Or.inr ⟨u 0, tl', nI K', nI V, by rw [hcl]; exact va_up_self xw st _, rfl, Or.inr ⟨V, Nat.le_refl _, rfl, fun _ => ⟨K', g2, rfl, g3⟩⟩, rfl, rfl⟩)
        exact ⟨_, Sel_trans (Sel_J3 (G := [gX cy qX (qG 0) (qP 0) (qR 0) oS oB oE oN oL (va_up xw (nI st).toNatClampNeg (some ((u 0) 0))), gG cy qG (nI b) worth row' many' (nI V), gP cy qP told' sz' pt' pr', gR cy qR (qG 0), wr, gZ cy (u 0) (qG 0) (qP 0) (nI st) tl' (nI K') (nI V)]) [2, 4, 3, 0, 1, 5] rfl (by decide)) (Sel_last hs'), V, qX, qG, qP, qR, oS, oB, oE, oN, oL, (va_up xw (nI st).toNatClampNeg (some ((u 0) 0))), worth, row', many', told', sz', pt', pr', w', rfl, rfl, hb, hw, by omega, OP_mo hO' (by omega)⟩
      · obtain ⟨row', many', told', sz', pt', pr', tl', K', eW, g1, g2, g3⟩ := w_Z (F := F) (b := b) (st := st) (M := M) (V := V) (worth := worth) (told := told) (sz := sz) (pt := pt) (pr := pr) (by omega) hb hw hst5 hM3 (by omega) hver row many
        have hTL : ∀ n, n ≤ M → TL (stepN b tb st) n (tl' n) := fun n hn => g3 n (by omega)
        obtain ⟨M', G', t', r', e1⟩ := first_ref (F := F) (k := kk) (by omega) hb hf (show st ≤ 5 by omega) hM3 hkk hTL m_many m_tail m_round m_figures
        have e2 : f_X10_first_Z F (nI st) (nI kk) (nI M) (nI b) worth row many (nI V) told sz pt pr (nI st) tails known zv = some (goF tl' (nI kk) (M + 1) 0, row', many', told', sz', pt', pr', tl', nI K', nI V) := by
          unfold f_X10_first_Z
          rw [p_isStep, Option.bind_some, if_neg i1, p_within, Option.bind_some, if_neg i2, p_within, Option.bind_some, if_neg i3, eW, Option.bind_some]
          dsimp only
          rw [first_cls (by omega) hM3, Option.bind_some]
        refine ⟨_, b, tb, mkO_i (A := [gX cy qX (qG 0) (qP 0) (qR 0) oS oB oE oN oL xw, gZ cy q (qG 0) (qP 0) (nI st) tails known zv, gP cy qP told sz pt pr, gG cy qG (nI b) worth row many (nI V)]) (B := [gR cy qR (qG 0), wr]) (A1 := fun u : Nat → Nat → Nat => [gX cy qX (qG 0) (qP 0) (qR 0) oS oB oE oN oL xw, gZ cy q (qG 0) (qP 0) (nI st) tl' (nI K') (nI V), gP cy qP told' sz' pt' pr', gG cy qG (nI b) worth row' many' (nI V)]) (GL := [gX cy qX (qG 0) (qP 0) (qR 0) oS oB oE oN oL xw, gG cy qG (nI b) worth row many (nI V), gP cy qP told sz pt pr, gR cy qR (qG 0), gZ cy q (qG 0) (qP 0) (nI st) tails known zv, wr]) [0, 4, 2, 1, 3, 5] (Sel_last hsel) rfl (by decide) (c_X10_first_Z e2 (by rw [hcl]; exact hxs)) ⟨0, _, rfl⟩ ⟨Nat.le_of_ble_eq_true rfl, Nat.le_of_ble_eq_true rfl⟩ (by show C + 0 ≤ 500000; omega) (by show S + 0 ≤ 7000000; omega) (fun u => ?_), mkM_i (c_X11_first e1) ⟨0, _, rfl⟩ ⟨by decide, by decide, rfl, rfl⟩ (Post := MS' cy b tb (qM 0)) ⟨qM, _, _, _, _, _, _, _, _, _, _, _, _, _, _, _, _, _, _, _, _, _, _, _, rfl, rfl, hf⟩⟩
        obtain ⟨w', hs', hO'⟩ := put xw 2 3008 (gZ cy q (qG 0) (qP 0) (nI st) tl' (nI K') (nI V)) (fun j hj => rfl) (Or.inr ⟨q, tl', nI K', nI V, hxs, rfl, Or.inr ⟨V, Nat.le_refl _, rfl, fun _ => ⟨K', g2, rfl, g3⟩⟩, rfl, rfl⟩)
        rw [show C - 2 + 2 = C by omega, show S - 3008 + 3008 = S by omega] at hO'
        exact ⟨_, Sel_trans (Sel_J3 (G := [gX cy qX (qG 0) (qP 0) (qR 0) oS oB oE oN oL xw, gG cy qG (nI b) worth row' many' (nI V), gP cy qP told' sz' pt' pr', gR cy qR (qG 0), wr, gZ cy q (qG 0) (qP 0) (nI st) tl' (nI K') (nI V)]) [2, 5, 4, 0, 1, 3] rfl (by decide)) (Sel_last hs'), V, qX, qG, qP, qR, oS, oB, oE, oN, oL, xw, worth, row', many', told', sz', pt', pr', w', rfl, rfl, hb, hw, by omega, OP_mo hO' (by omega)⟩
  · have e1 : f_X11_first F a1 a2 a3 (nI b) m_f m_many m_figures m_tail m_round = some ((-1 : Int32), m_many, m_figures, m_tail, m_round) := by
      unfold f_X11_first f_X11_first_J20
      rw [p_isTo, Option.bind_some, p_inI F a2 0 300 (a' := 0) (c' := 300) rfl rfl, Option.bind_some]
      by_cases z1 : wi a1 0 5 = 0
      · rw [if_pos z1, if_pos z00]
      · rw [if_neg z1]
        by_cases z3 : wi a3 0 3000 = 0
        · rw [if_pos z3, if_pos z00]
        · rw [if_neg z3, if_neg n10]
          by_cases z2 : wi a2 0 300 = 0
          · rw [if_pos z2]
          · exact absurd ⟨z1, z2, z3⟩ hin
    have e2 : f_X10_first_B F a1 a2 a3 = some (-1 : Int32) := by
      unfold f_X10_first_B
      rw [p_isStep, Option.bind_some, p_within, Option.bind_some, p_within, Option.bind_some]
      by_cases z1 : wi a1 0 5 = 0
      · rw [if_pos z1]
      · rw [if_neg z1]
        by_cases z2 : wi a2 0 300 = 0
        · rw [if_pos z2]
        · rw [if_neg z2]
          by_cases z3 : wi a3 0 3000 = 0
          · rw [if_pos z3]
          · exact absurd ⟨z1, z2, z3⟩ hin
    refine ⟨_, b, tb, mkO_i (A := [gX cy qX (qG 0) (qP 0) (qR 0) oS oB oE oN oL xw]) (B := [gG cy qG (nI b) worth row many (nI V), gP cy qP told sz pt pr, gR cy qR (qG 0), wO]) (A1 := fun _ : Nat → Nat → Nat => [gX cy qX (qG 0) (qP 0) (qR 0) oS oB oE oN oL xw]) (GL := [gX cy qX (qG 0) (qP 0) (qR 0) oS oB oE oN oL xw, gG cy qG (nI b) worth row many (nI V), gP cy qP told sz pt pr, gR cy qR (qG 0), wO]) [0, 1, 2, 3, 4] (Sel_refl _) rfl (by decide) (c_X10_first_B e2) ⟨0, _, rfl⟩ ⟨Nat.le_of_ble_eq_true rfl, Nat.le_of_ble_eq_true rfl⟩ (by show C + 0 ≤ 500000; omega) (by show S + 0 ≤ 7000000; omega) (fun _ => ⟨_, Sel_J3 (G := [gX cy qX (qG 0) (qP 0) (qR 0) oS oB oE oN oL xw, gG cy qG (nI b) worth row many (nI V), gP cy qP told sz pt pr, gR cy qR (qG 0), wO]) [4, 0, 1, 2, 3] rfl (by decide), V, qX, qG, qP, qR, oS, oB, oE, oN, oL, xw, worth, row, many, told, sz, pt, pr, wO, rfl, rfl, hb, hw, by omega, OP_mo hO (by omega)⟩), mkM_i (c_X11_first e1) ⟨0, _, rfl⟩ ⟨by decide, by decide, rfl, rfl⟩ (Post := MS' cy b tb (qM 0)) ⟨qM, _, _, _, _, _, _, _, _, _, _, _, _, _, _, _, _, _, _, _, _, _, _, _, rfl, rfl, hf⟩⟩
set_option maxHeartbeats 4000000 in
theorem st_lost {l : Launch} {D : va_G} {cy : Nat → ClassId} {F b : Nat} {tb : Nat → Nat} {N aX aM C S : Nat} {w v : va_W} (hF : 20000000 ≤ F) (hN : N ≤ 600) (hX : XS F cy b tb N aX C S w) (hM : MS' cy b tb aM v) (a1 a2 a3 : Int32) : StI l D cy F N aX aM C S w v yX10_lost wsX10_lost yX11_lost wsX11_lost [.int a1, .int a2, .int a3] := by
  obtain ⟨V, qX, qG, qP, qR, oS, oB, oE, oN, oL, xw, worth, row, many, told, sz, pt, pr, wO, rfl, rfl, hb, hw, hV, hO⟩ := hX
  obtain ⟨qM, m_f, m_many, m_figures, m_tail, m_round, m_rounds, m_leasts, m_likes, m_like, m_isTwo, m_came, m_by, m_queue, m_kind, m_parts, m_wanted, m_allowed, m_bitOf, m_met, m_row, m_narrows, m_narrow, m_isMade, rfl, rfl, hf⟩ := hM
  have hbd := OP_bd hO
  by_cases hin : ¬ wi a1 0 5 = 0 ∧ ¬ wi a2 0 3000 = 0 ∧ (-1 : Int32) ≤ a3
  · obtain ⟨i1, i2, i3⟩ := hin
    obtain ⟨st, _, hst5, rfl⟩ := wi_k (a := 0) (c := 5) (by omega) (by omega) i1
    obtain ⟨M, _, hM3, rfl⟩ := wi_k (a := 0) (c := 3000) (by omega) (by omega) i2
    by_cases hst : st = 0 ∨ st = 3
    · have hcl : (nI st).toNatClampNeg = st := nI_clamp (by omega)
      obtain ⟨T, keys, tails, homes, c, kS, nS, k, n, uS, u, v', wr, hsel, hT, hSl, ho, hk, hn, put⟩ := OP_Y hO (by omega) hst
      rcases ho with ⟨hxn, rfl, rfl, rfl, rfl, rfl⟩ | ⟨q, qC, uC, aS, tl, known, yv, ho, size, NN, leasts, lengths, firstBy, order, hxs, hoS, rfl, rfl, hNN, hcb, hver, rfl, rfl⟩
      · rcases hSl with ⟨hT0, ⟨rfl, rfl, rfl, rfl, rfl, rfl, rfl, rfl⟩ | ⟨qS, rfl, rfl, rfl, rfl⟩⟩
        · obtain ⟨pl, NN', Z', T', K', cst', row', many', keys', tails', homes', tl', ho', ls', ln', fb', od', l', n', f', o', eW, hA⟩ := w_YN (F := F) (b := b) (st := st) (M := M) (V := V) (worth := worth) (by omega) hb hw hst (by omega) (by omega) row many
          have hNN' := NN_16 hA.2.2.2.2.2.1.1
          have hle := hA.1
          have hTL : ∀ n, n ≤ M → TL (stepN b tb st) n (tl' n) := fun n hn => KN_TL (AM_of hb (tbB_of hw) hst) hA.2.2.2.2.2.2.1 (by have := hA.2.2.1; omega) (by omega)
          obtain ⟨M', G', t', r', e1⟩ := lost_ref (F := F) (i := a3) (by omega) hb hf (show st ≤ 5 by omega) hM3 i3 hTL m_many m_tail m_round m_figures
          have e2 : f_X10_lost_YN F (4 * NN') pl (nI st) (nI M) a3 (nI b) worth row many (nI V) = some (scA a3 (scn (fun x => decide (tl' x = (-1 : Int32))) a3 (M + 1) 0 0), row', many', keys', tails', homes', nI T', nI st, tl', nI K', nI V, nI st, cst', ho', nI Z', NN', l', NN', n', NN', f', NN', o') := by
            unfold f_X10_lost_YN
            rw [p_isStep, Option.bind_some, if_neg i1, p_within, Option.bind_some, if_neg i2, if_pos i3, eW, Option.bind_some]
            dsimp only
            rw [lost_YZ, lost_cls (by omega) hM3, Option.bind_some]
          refine ⟨_, b, tb, mkO_i (A := [gX cy qX (qG 0) (qP 0) (qR 0) none oB oE oN oL xw, gG cy qG (nI b) worth row many (nI V)]) (B := [gP cy qP told sz pt pr, gR cy qR (qG 0), wr]) (A1 := fun u : Nat → Nat → Nat => [gX cy qX (qG 0) (qP 0) (qR 0) (some ((u 0) 0)) oB oE oN oL (va_up xw (nI st).toNatClampNeg (some ((u 3) 0))), gG cy qG (nI b) worth row' many' (nI V), gS cy (u 0) keys' tails' homes' (nI T'), gC cy (u 1) (u 2) (qG 0) ((u 0) 0) (nI st) cst' ho' (nI Z') NN' l' NN' n' NN' f' NN' o', gY cy (u 3) (qG 0) (qP 0) ((u 1) 0) (nI st) tl' (nI K') (nI V)]) (GL := [gX cy qX (qG 0) (qP 0) (qR 0) none oB oE oN oL xw, gG cy qG (nI b) worth row many (nI V), gP cy qP told sz pt pr, gR cy qR (qG 0), wr]) [0, 1, 2, 3, 4] (Sel_last hsel) rfl (by decide) (c_X10_lost_YN e2 (pot0 := 64) rfl (by rw [hcl]; exact hxn)) ⟨0, _, rfl⟩ ⟨Nat.le_of_ble_eq_true rfl, Nat.le_of_ble_eq_true rfl⟩ (by show C + (12 + (4 * NN' - 64)) ≤ 500000; omega) (by show S + (104391 + 2 * (4 * NN' - 64)) ≤ 7000000; omega) (fun u => ?_), mkM_i (c_X11_lost e1) ⟨0, _, rfl⟩ ⟨by decide, by decide, rfl, rfl⟩ (Post := MS' cy b tb (qM 0)) ⟨qM, _, _, _, _, _, _, _, _, _, _, _, _, _, _, _, _, _, _, _, _, _, _, _, rfl, rfl, hf⟩⟩
          obtain ⟨w', hs', hO'⟩ := put (some ((u 0) 0)) (va_up xw (nI st).toNatClampNeg (some ((u 3) 0))) T' keys' tails' homes' cst' 4 98308 (8 + (4 * NN' - 64)) (6083 + 2 * (4 * NN' - 64)) (gS cy (u 0) keys' tails' homes' (nI T')) (gY cy (u 3) (qG 0) (qP 0) ((u 1) 0) (nI st) tl' (nI K') (nI V)) (gC cy (u 1) (u 2) (qG 0) ((u 0) 0) (nI st) cst' ho' (nI Z') NN' l' NN' n' NN' f' NN' o') (fun q => absurd rfl q) (fun j hj => va_up_ne xw _ (by rw [hcl]; exact hj)) hA.2.1 ⟨YS_0 hA.2.2.2.2.2.2.2, Or.inr ⟨u 0, rfl, rfl, rfl, rfl⟩⟩ (Or.inr ⟨u 3, u 1, u 2, (u 0) 0, tl', nI K', nI V, ho', nI Z', NN', l', n', f', o', by rw [hcl]; exact va_up_self xw st _, rfl, rfl, rfl, hA.2.2.2.2.2.1.1, cst_bd (Or.inl rfl) hA.2.1, Or.inr ⟨V, Nat.le_refl _, rfl, fun _ => ⟨K', Z', ls', ln', fb', od', rfl, hA.2.2.2.1, rfl, hA.2.2.2.2.1, hA.2.2.2.2.2.1, hA.2.2.2.2.2.2.1, hA.2.2.2.2.2.2.2⟩⟩, rfl, rfl⟩)
          rw [show C - (0 + 0) + (4 + (8 + (4 * NN' - 64))) = C + (12 + (4 * NN' - 64)) by omega, show S - (0 + 0) + (98308 + (6083 + 2 * (4 * NN' - 64))) = S + (104391 + 2 * (4 * NN' - 64)) by omega] at hO'
          exact ⟨_, Sel_trans (Sel_J3 (G := [gX cy qX (qG 0) (qP 0) (qR 0) (some ((u 0) 0)) oB oE oN oL (va_up xw (nI st).toNatClampNeg (some ((u 3) 0))), gG cy qG (nI b) worth row' many' (nI V), gP cy qP told sz pt pr, gR cy qR (qG 0), wr, gS cy (u 0) keys' tails' homes' (nI T'), gY cy (u 3) (qG 0) (qP 0) ((u 1) 0) (nI st) tl' (nI K') (nI V), gC cy (u 1) (u 2) (qG 0) ((u 0) 0) (nI st) cst' ho' (nI Z') NN' l' NN' n' NN' f' NN' o']) [3, 4, 0, 1, 2, 5, 7, 6] rfl (by decide)) (Sel_last hs'), V, qX, qG, qP, qR, (some ((u 0) 0)), oB, oE, oN, oL, (va_up xw (nI st).toNatClampNeg (some ((u 3) 0))), worth, row', many', told, sz, pt, pr, w', rfl, rfl, hb, hw, by omega, hO'⟩
        · obtain ⟨pl, NN', Z', T', K', cst', row', many', keys', tails', homes', tl', ho', ls', ln', fb', od', l', n', f', o', eW, hA⟩ := w_YS (F := F) (b := b) (st := st) (M := M) (T := T) (V := V) (worth := worth) (keys := keys) (tails := tails) (homes := homes) (by omega) hb hw hst (by omega) (by omega) (by omega) hT0 row many
          have hNN' := NN_16 hA.2.2.2.2.2.1.1
          have hle := hA.1
          have hTL : ∀ n, n ≤ M → TL (stepN b tb st) n (tl' n) := fun n hn => KN_TL (AM_of hb (tbB_of hw) hst) hA.2.2.2.2.2.2.1 (by have := hA.2.2.1; omega) (by omega)
          obtain ⟨M', G', t', r', e1⟩ := lost_ref (F := F) (i := a3) (by omega) hb hf (show st ≤ 5 by omega) hM3 i3 hTL m_many m_tail m_round m_figures
          have e2 : f_X10_lost_YS F (4 * NN') pl (nI st) (nI M) a3 (nI b) worth row many (nI V) keys tails homes (nI T) = some (scA a3 (scn (fun x => decide (tl' x = (-1 : Int32))) a3 (M + 1) 0 0), row', many', keys', tails', homes', nI T', nI st, tl', nI K', nI V, nI st, cst', ho', nI Z', NN', l', NN', n', NN', f', NN', o') := by
            unfold f_X10_lost_YS
            rw [p_isStep, Option.bind_some, if_neg i1, p_within, Option.bind_some, if_neg i2, if_pos i3, eW, Option.bind_some]
            dsimp only
            rw [lost_YZ, lost_cls (by omega) hM3, Option.bind_some]
          refine ⟨_, b, tb, mkO_i (A := [gX cy qX (qG 0) (qP 0) (qR 0) (some (qS 0)) oB oE oN oL xw, gS cy qS keys tails homes (nI T), gG cy qG (nI b) worth row many (nI V)]) (B := [gP cy qP told sz pt pr, gR cy qR (qG 0), wr]) (A1 := fun u : Nat → Nat → Nat => [gX cy qX (qG 0) (qP 0) (qR 0) (some (qS 0)) oB oE oN oL (va_up xw (nI st).toNatClampNeg (some ((u 2) 0))), gS cy qS keys' tails' homes' (nI T'), gG cy qG (nI b) worth row' many' (nI V), gC cy (u 0) (u 1) (qG 0) (qS 0) (nI st) cst' ho' (nI Z') NN' l' NN' n' NN' f' NN' o', gY cy (u 2) (qG 0) (qP 0) ((u 0) 0) (nI st) tl' (nI K') (nI V)]) (GL := [gX cy qX (qG 0) (qP 0) (qR 0) (some (qS 0)) oB oE oN oL xw, gG cy qG (nI b) worth row many (nI V), gP cy qP told sz pt pr, gR cy qR (qG 0), gS cy qS keys tails homes (nI T), wr]) [0, 4, 1, 2, 3, 5] (Sel_last hsel) rfl (by decide) (c_X10_lost_YS e2 (pot0 := 64) rfl (by rw [hcl]; exact hxn)) ⟨0, _, rfl⟩ ⟨Nat.le_of_ble_eq_true rfl, Nat.le_of_ble_eq_true rfl⟩ (by show C + (8 + (4 * NN' - 64)) ≤ 500000; omega) (by show S + (6083 + 2 * (4 * NN' - 64)) ≤ 7000000; omega) (fun u => ?_), mkM_i (c_X11_lost e1) ⟨0, _, rfl⟩ ⟨by decide, by decide, rfl, rfl⟩ (Post := MS' cy b tb (qM 0)) ⟨qM, _, _, _, _, _, _, _, _, _, _, _, _, _, _, _, _, _, _, _, _, _, _, _, rfl, rfl, hf⟩⟩
          obtain ⟨w', hs', hO'⟩ := put (some (qS 0)) (va_up xw (nI st).toNatClampNeg (some ((u 2) 0))) T' keys' tails' homes' cst' 4 98308 (8 + (4 * NN' - 64)) (6083 + 2 * (4 * NN' - 64)) (gS cy qS keys' tails' homes' (nI T')) (gY cy (u 2) (qG 0) (qP 0) ((u 0) 0) (nI st) tl' (nI K') (nI V)) (gC cy (u 0) (u 1) (qG 0) (qS 0) (nI st) cst' ho' (nI Z') NN' l' NN' n' NN' f' NN' o') (fun _ => rfl) (fun j hj => va_up_ne xw _ (by rw [hcl]; exact hj)) hA.2.1 ⟨YS_0 hA.2.2.2.2.2.2.2, Or.inr ⟨qS, rfl, rfl, rfl, rfl⟩⟩ (Or.inr ⟨u 2, u 0, u 1, qS 0, tl', nI K', nI V, ho', nI Z', NN', l', n', f', o', by rw [hcl]; exact va_up_self xw st _, rfl, rfl, rfl, hA.2.2.2.2.2.1.1, cst_bd (Or.inl rfl) hA.2.1, Or.inr ⟨V, Nat.le_refl _, rfl, fun _ => ⟨K', Z', ls', ln', fb', od', rfl, hA.2.2.2.1, rfl, hA.2.2.2.2.1, hA.2.2.2.2.2.1, hA.2.2.2.2.2.2.1, hA.2.2.2.2.2.2.2⟩⟩, rfl, rfl⟩)
          rw [show C - (4 + 0) + (4 + (8 + (4 * NN' - 64))) = C + (8 + (4 * NN' - 64)) by omega, show S - (98308 + 0) + (98308 + (6083 + 2 * (4 * NN' - 64))) = S + (6083 + 2 * (4 * NN' - 64)) by omega] at hO'
          exact ⟨_, Sel_trans (Sel_J3 (G := [gX cy qX (qG 0) (qP 0) (qR 0) (some (qS 0)) oB oE oN oL (va_up xw (nI st).toNatClampNeg (some ((u 2) 0))), gG cy qG (nI b) worth row' many' (nI V), gP cy qP told sz pt pr, gR cy qR (qG 0), wr, gS cy qS keys' tails' homes' (nI T'), gY cy (u 2) (qG 0) (qP 0) ((u 0) 0) (nI st) tl' (nI K') (nI V), gC cy (u 0) (u 1) (qG 0) (qS 0) (nI st) cst' ho' (nI Z') NN' l' NN' n' NN' f' NN' o']) [3, 5, 0, 1, 2, 4, 7, 6] rfl (by decide)) (Sel_last hs'), V, qX, qG, qP, qR, (some (qS 0)), oB, oE, oN, oL, (va_up xw (nI st).toNatClampNeg (some ((u 2) 0))), worth, row', many', told, sz, pt, pr, w', rfl, rfl, hb, hw, by omega, hO'⟩
      · rcases hSl with ⟨hT0, ⟨rfl, _⟩ | ⟨qS, hqS, rfl, rfl, rfl⟩⟩
        · cases hoS
        · rw [hqS] at hoS
          injection hoS with hoS
          subst hoS
          subst hqS
          have hN16 := NN_16 hNN
          obtain ⟨pl, NN', Z', T', K', cst', row', many', keys', tails', homes', tl', ho', ls', ln', fb', od', l', n', f', o', eW, hA⟩ := w_Y (F := F) (b := b) (st := st) (M := M) (T := T) (V := V) (worth := worth) (by omega) hb hw hst (by omega) (by omega) (by omega) hT0 hNN hver row many
          have hNN' := NN_16 hA.2.2.2.2.2.1.1
          have hle := hA.1
          have hTL : ∀ n, n ≤ M → TL (stepN b tb st) n (tl' n) := fun n hn => KN_TL (AM_of hb (tbB_of hw) hst) hA.2.2.2.2.2.2.1 (by have := hA.2.2.1; omega) (by omega)
          obtain ⟨M', G', t', r', e1⟩ := lost_ref (F := F) (i := a3) (by omega) hb hf (show st ≤ 5 by omega) hM3 i3 hTL m_many m_tail m_round m_figures
          have e2 : f_X10_lost_Y F (4 * NN') pl (nI st) (nI M) a3 (nI b) worth row many (nI V) keys tails homes (nI T) (nI st) tl known yv (nI st) c ho size NN leasts NN lengths NN firstBy NN order = some (scA a3 (scn (fun x => decide (tl' x = (-1 : Int32))) a3 (M + 1) 0 0), row', many', keys', tails', homes', nI T', tl', nI K', nI V, cst', ho', nI Z', NN', l', NN', n', NN', f', NN', o') := by
            unfold f_X10_lost_Y
            rw [p_isStep, Option.bind_some, if_neg i1, p_within, Option.bind_some, if_neg i2, if_pos i3, eW, Option.bind_some]
            dsimp only
            rw [lost_YZ, lost_cls (by omega) hM3, Option.bind_some]
          refine ⟨_, b, tb, mkO_i (A := [gX cy qX (qG 0) (qP 0) (qR 0) (some (qS 0)) oB oE oN oL xw, gY cy q (qG 0) (qP 0) (qC 0) (nI st) tl known yv, gC cy qC uC (qG 0) (qS 0) (nI st) c ho size NN leasts NN lengths NN firstBy NN order, gS cy qS keys tails homes (nI T), gG cy qG (nI b) worth row many (nI V)]) (B := [gP cy qP told sz pt pr, gR cy qR (qG 0), wr]) (A1 := fun u : Nat → Nat → Nat => [gX cy qX (qG 0) (qP 0) (qR 0) (some (qS 0)) oB oE oN oL xw, gY cy q (qG 0) (qP 0) (qC 0) (nI st) tl' (nI K') (nI V), gC cy qC (u 0) (qG 0) (qS 0) (nI st) cst' ho' (nI Z') NN' l' NN' n' NN' f' NN' o', gS cy qS keys' tails' homes' (nI T'), gG cy qG (nI b) worth row' many' (nI V)]) (GL := [gX cy qX (qG 0) (qP 0) (qR 0) (some (qS 0)) oB oE oN oL xw, gG cy qG (nI b) worth row many (nI V), gP cy qP told sz pt pr, gR cy qR (qG 0), gS cy qS keys tails homes (nI T), gY cy q (qG 0) (qP 0) (qC 0) (nI st) tl known yv, gC cy qC uC (qG 0) (qS 0) (nI st) c ho size NN leasts NN lengths NN firstBy NN order, wr]) [0, 5, 6, 4, 1, 2, 3, 7] (Sel_last hsel) rfl (by decide) (c_X10_lost_Y e2 (pot0 := NN + NN + NN + NN) rfl (by rw [hcl]; exact hxs)) ⟨0, _, rfl⟩ ⟨Nat.le_of_ble_eq_true rfl, Nat.le_of_ble_eq_true rfl⟩ (by show C + (0 + (4 * NN' - (NN + NN + NN + NN))) ≤ 500000; omega) (by show S + (0 + 2 * (4 * NN' - (NN + NN + NN + NN))) ≤ 7000000; omega) (fun u => ?_), mkM_i (c_X11_lost e1) ⟨0, _, rfl⟩ ⟨by decide, by decide, rfl, rfl⟩ (Post := MS' cy b tb (qM 0)) ⟨qM, _, _, _, _, _, _, _, _, _, _, _, _, _, _, _, _, _, _, _, _, _, _, _, rfl, rfl, hf⟩⟩
          obtain ⟨w', hs', hO'⟩ := put (some (qS 0)) xw T' keys' tails' homes' cst' 4 98308 (8 + (4 * NN' - 64)) (6083 + 2 * (4 * NN' - 64)) (gS cy qS keys' tails' homes' (nI T')) (gY cy q (qG 0) (qP 0) (qC 0) (nI st) tl' (nI K') (nI V)) (gC cy qC (u 0) (qG 0) (qS 0) (nI st) cst' ho' (nI Z') NN' l' NN' n' NN' f' NN' o') (fun _ => rfl) (fun j hj => rfl) hA.2.1 ⟨YS_0 hA.2.2.2.2.2.2.2, Or.inr ⟨qS, rfl, rfl, rfl, rfl⟩⟩ (Or.inr ⟨q, qC, u 0, qS 0, tl', nI K', nI V, ho', nI Z', NN', l', n', f', o', hxs, rfl, rfl, rfl, hA.2.2.2.2.2.1.1, cst_bd hcb hA.2.1, Or.inr ⟨V, Nat.le_refl _, rfl, fun _ => ⟨K', Z', ls', ln', fb', od', rfl, hA.2.2.2.1, rfl, hA.2.2.2.2.1, hA.2.2.2.2.2.1, hA.2.2.2.2.2.2.1, hA.2.2.2.2.2.2.2⟩⟩, rfl, rfl⟩)
          rw [show C - (4 + (8 + (4 * NN - 64))) + (4 + (8 + (4 * NN' - 64))) = C + (0 + (4 * NN' - (NN + NN + NN + NN))) by omega, show S - (98308 + (6083 + 2 * (4 * NN - 64))) + (98308 + (6083 + 2 * (4 * NN' - 64))) = S + (0 + 2 * (4 * NN' - (NN + NN + NN + NN))) by omega] at hO'
          exact ⟨_, Sel_trans (Sel_J3 (G := [gX cy qX (qG 0) (qP 0) (qR 0) (some (qS 0)) oB oE oN oL xw, gG cy qG (nI b) worth row' many' (nI V), gP cy qP told sz pt pr, gR cy qR (qG 0), wr, gS cy qS keys' tails' homes' (nI T'), gY cy q (qG 0) (qP 0) (qC 0) (nI st) tl' (nI K') (nI V), gC cy qC (u 0) (qG 0) (qS 0) (nI st) cst' ho' (nI Z') NN' l' NN' n' NN' f' NN' o']) [3, 7, 0, 1, 2, 6, 4, 5] rfl (by decide)) (Sel_last hs'), V, qX, qG, qP, qR, (some (qS 0)), oB, oE, oN, oL, xw, worth, row', many', told, sz, pt, pr, w', rfl, rfl, hb, hw, by omega, hO'⟩
    · have hcl : (nI st).toNatClampNeg = st := nI_clamp (by omega)
      obtain ⟨k, n, u, wr, hsel, ho, hk, hn, put⟩ := OP_Z hO hst5 (fun q => hst (Or.inl q)) (fun q => hst (Or.inr q))
      rcases ho with ⟨hxn, rfl, rfl, rfl⟩ | ⟨q, tails, known, zv, hxs, rfl, hver, rfl, rfl⟩
      · obtain ⟨row', many', told', sz', pt', pr', tl', K', eW, g1, g2, g3⟩ := w_ZN (F := F) (b := b) (st := st) (M := M) (V := V) (worth := worth) (told := told) (sz := sz) (pt := pt) (pr := pr) (by omega) hb hw hst5 (fun q => hst (Or.inl q)) (fun q => hst (Or.inr q)) hM3 (by omega) row many
        have hTL : ∀ n, n ≤ M → TL (stepN b tb st) n (tl' n) := fun n hn => g3 n (by omega)
        obtain ⟨M', G', t', r', e1⟩ := lost_ref (F := F) (i := a3) (by omega) hb hf (show st ≤ 5 by omega) hM3 i3 hTL m_many m_tail m_round m_figures
        have e2 : f_X10_lost_ZN F (nI st) (nI M) a3 (nI b) worth row many (nI V) told sz pt pr = some (scA a3 (scn (fun x => decide (tl' x = (-1 : Int32))) a3 (M + 1) 0 0), row', many', told', sz', pt', pr', nI st, tl', nI K', nI V) := by
          unfold f_X10_lost_ZN
          rw [p_isStep, Option.bind_some, if_neg i1, p_within, Option.bind_some, if_neg i2, if_pos i3, eW, Option.bind_some]
          dsimp only
          rw [lost_cls (by omega) hM3, Option.bind_some]
        refine ⟨_, b, tb, mkO_i (A := [gX cy qX (qG 0) (qP 0) (qR 0) oS oB oE oN oL xw, gP cy qP told sz pt pr, gG cy qG (nI b) worth row many (nI V)]) (B := [gR cy qR (qG 0), wr]) (A1 := fun u : Nat → Nat → Nat => [gX cy qX (qG 0) (qP 0) (qR 0) oS oB oE oN oL (va_up xw (nI st).toNatClampNeg (some ((u 0) 0))), gP cy qP told' sz' pt' pr', gG cy qG (nI b) worth row' many' (nI V), gZ cy (u 0) (qG 0) (qP 0) (nI st) tl' (nI K') (nI V)]) (GL := [gX cy qX (qG 0) (qP 0) (qR 0) oS oB oE oN oL xw, gG cy qG (nI b) worth row many (nI V), gP cy qP told sz pt pr, gR cy qR (qG 0), wr]) [0, 2, 1, 3, 4] (Sel_last hsel) rfl (by decide) (c_X10_lost_ZN e2 (by rw [hcl]; exact hxn)) ⟨0, _, rfl⟩ ⟨Nat.le_of_ble_eq_true rfl, Nat.le_of_ble_eq_true rfl⟩ (by show C + 2 ≤ 500000; omega) (by show S + 3008 ≤ 7000000; omega) (fun u => ?_), mkM_i (c_X11_lost e1) ⟨0, _, rfl⟩ ⟨by decide, by decide, rfl, rfl⟩ (Post := MS' cy b tb (qM 0)) ⟨qM, _, _, _, _, _, _, _, _, _, _, _, _, _, _, _, _, _, _, _, _, _, _, _, rfl, rfl, hf⟩⟩
        obtain ⟨w', hs', hO'⟩ := put (va_up xw (nI st).toNatClampNeg (some ((u 0) 0))) 2 3008 (gZ cy (u 0) (qG 0) (qP 0) (nI st) tl' (nI K') (nI V)) (fun j hj => va_up_ne xw _ (by rw [hcl]; exact hj)) (Or.inr ⟨u 0, tl', nI K', nI V, by rw [hcl]; exact va_up_self xw st _, rfl, Or.inr ⟨V, Nat.le_refl _, rfl, fun _ => ⟨K', g2, rfl, g3⟩⟩, rfl, rfl⟩)
        exact ⟨_, Sel_trans (Sel_J3 (G := [gX cy qX (qG 0) (qP 0) (qR 0) oS oB oE oN oL (va_up xw (nI st).toNatClampNeg (some ((u 0) 0))), gG cy qG (nI b) worth row' many' (nI V), gP cy qP told' sz' pt' pr', gR cy qR (qG 0), wr, gZ cy (u 0) (qG 0) (qP 0) (nI st) tl' (nI K') (nI V)]) [2, 4, 3, 0, 1, 5] rfl (by decide)) (Sel_last hs'), V, qX, qG, qP, qR, oS, oB, oE, oN, oL, (va_up xw (nI st).toNatClampNeg (some ((u 0) 0))), worth, row', many', told', sz', pt', pr', w', rfl, rfl, hb, hw, by omega, OP_mo hO' (by omega)⟩
      · obtain ⟨row', many', told', sz', pt', pr', tl', K', eW, g1, g2, g3⟩ := w_Z (F := F) (b := b) (st := st) (M := M) (V := V) (worth := worth) (told := told) (sz := sz) (pt := pt) (pr := pr) (by omega) hb hw hst5 hM3 (by omega) hver row many
        have hTL : ∀ n, n ≤ M → TL (stepN b tb st) n (tl' n) := fun n hn => g3 n (by omega)
        obtain ⟨M', G', t', r', e1⟩ := lost_ref (F := F) (i := a3) (by omega) hb hf (show st ≤ 5 by omega) hM3 i3 hTL m_many m_tail m_round m_figures
        have e2 : f_X10_lost_Z F (nI st) (nI M) a3 (nI b) worth row many (nI V) told sz pt pr (nI st) tails known zv = some (scA a3 (scn (fun x => decide (tl' x = (-1 : Int32))) a3 (M + 1) 0 0), row', many', told', sz', pt', pr', tl', nI K', nI V) := by
          unfold f_X10_lost_Z
          rw [p_isStep, Option.bind_some, if_neg i1, p_within, Option.bind_some, if_neg i2, if_pos i3, eW, Option.bind_some]
          dsimp only
          rw [lost_cls (by omega) hM3, Option.bind_some]
        refine ⟨_, b, tb, mkO_i (A := [gX cy qX (qG 0) (qP 0) (qR 0) oS oB oE oN oL xw, gZ cy q (qG 0) (qP 0) (nI st) tails known zv, gP cy qP told sz pt pr, gG cy qG (nI b) worth row many (nI V)]) (B := [gR cy qR (qG 0), wr]) (A1 := fun u : Nat → Nat → Nat => [gX cy qX (qG 0) (qP 0) (qR 0) oS oB oE oN oL xw, gZ cy q (qG 0) (qP 0) (nI st) tl' (nI K') (nI V), gP cy qP told' sz' pt' pr', gG cy qG (nI b) worth row' many' (nI V)]) (GL := [gX cy qX (qG 0) (qP 0) (qR 0) oS oB oE oN oL xw, gG cy qG (nI b) worth row many (nI V), gP cy qP told sz pt pr, gR cy qR (qG 0), gZ cy q (qG 0) (qP 0) (nI st) tails known zv, wr]) [0, 4, 2, 1, 3, 5] (Sel_last hsel) rfl (by decide) (c_X10_lost_Z e2 (by rw [hcl]; exact hxs)) ⟨0, _, rfl⟩ ⟨Nat.le_of_ble_eq_true rfl, Nat.le_of_ble_eq_true rfl⟩ (by show C + 0 ≤ 500000; omega) (by show S + 0 ≤ 7000000; omega) (fun u => ?_), mkM_i (c_X11_lost e1) ⟨0, _, rfl⟩ ⟨by decide, by decide, rfl, rfl⟩ (Post := MS' cy b tb (qM 0)) ⟨qM, _, _, _, _, _, _, _, _, _, _, _, _, _, _, _, _, _, _, _, _, _, _, _, rfl, rfl, hf⟩⟩
        obtain ⟨w', hs', hO'⟩ := put xw 2 3008 (gZ cy q (qG 0) (qP 0) (nI st) tl' (nI K') (nI V)) (fun j hj => rfl) (Or.inr ⟨q, tl', nI K', nI V, hxs, rfl, Or.inr ⟨V, Nat.le_refl _, rfl, fun _ => ⟨K', g2, rfl, g3⟩⟩, rfl, rfl⟩)
        rw [show C - 2 + 2 = C by omega, show S - 3008 + 3008 = S by omega] at hO'
        exact ⟨_, Sel_trans (Sel_J3 (G := [gX cy qX (qG 0) (qP 0) (qR 0) oS oB oE oN oL xw, gG cy qG (nI b) worth row' many' (nI V), gP cy qP told' sz' pt' pr', gR cy qR (qG 0), wr, gZ cy q (qG 0) (qP 0) (nI st) tl' (nI K') (nI V)]) [2, 5, 4, 0, 1, 3] rfl (by decide)) (Sel_last hs'), V, qX, qG, qP, qR, oS, oB, oE, oN, oL, xw, worth, row', many', told', sz', pt', pr', w', rfl, rfl, hb, hw, by omega, OP_mo hO' (by omega)⟩
  · have e1 : f_X11_lost F a1 a2 a3 (nI b) m_f m_many m_figures m_tail m_round = some ((-1 : Int32), m_many, m_figures, m_tail, m_round) := by
      unfold f_X11_lost f_X11_lost_J13
      rw [p_isTo, Option.bind_some]
      by_cases z1 : wi a1 0 5 = 0
      · rw [if_pos z1, if_pos z00]
      · rw [if_neg z1]
        by_cases z3 : wi a2 0 3000 = 0
        · rw [if_pos z3, if_pos z00]
        · rw [if_neg z3, if_neg n10]
          by_cases z2 : (-1 : Int32) ≤ a3
          · exact absurd ⟨z1, z3, z2⟩ hin
          · rw [if_neg z2]
    have e2 : f_X10_lost_B F a1 a2 a3 = some (-1 : Int32) := by
      unfold f_X10_lost_B
      rw [p_isStep, Option.bind_some, p_within, Option.bind_some]
      by_cases z1 : wi a1 0 5 = 0
      · rw [if_pos z1]
      · rw [if_neg z1]
        by_cases z2 : wi a2 0 3000 = 0
        · rw [if_pos z2]
        · rw [if_neg z2]
          by_cases z3 : (-1 : Int32) ≤ a3
          · exact absurd ⟨z1, z2, z3⟩ hin
          · rw [if_neg z3]
    refine ⟨_, b, tb, mkO_i (A := [gX cy qX (qG 0) (qP 0) (qR 0) oS oB oE oN oL xw]) (B := [gG cy qG (nI b) worth row many (nI V), gP cy qP told sz pt pr, gR cy qR (qG 0), wO]) (A1 := fun _ : Nat → Nat → Nat => [gX cy qX (qG 0) (qP 0) (qR 0) oS oB oE oN oL xw]) (GL := [gX cy qX (qG 0) (qP 0) (qR 0) oS oB oE oN oL xw, gG cy qG (nI b) worth row many (nI V), gP cy qP told sz pt pr, gR cy qR (qG 0), wO]) [0, 1, 2, 3, 4] (Sel_refl _) rfl (by decide) (c_X10_lost_B e2) ⟨0, _, rfl⟩ ⟨Nat.le_of_ble_eq_true rfl, Nat.le_of_ble_eq_true rfl⟩ (by show C + 0 ≤ 500000; omega) (by show S + 0 ≤ 7000000; omega) (fun _ => ⟨_, Sel_J3 (G := [gX cy qX (qG 0) (qP 0) (qR 0) oS oB oE oN oL xw, gG cy qG (nI b) worth row many (nI V), gP cy qP told sz pt pr, gR cy qR (qG 0), wO]) [4, 0, 1, 2, 3] rfl (by decide), V, qX, qG, qP, qR, oS, oB, oE, oN, oL, xw, worth, row, many, told, sz, pt, pr, wO, rfl, rfl, hb, hw, by omega, OP_mo hO (by omega)⟩), mkM_i (c_X11_lost e1) ⟨0, _, rfl⟩ ⟨by decide, by decide, rfl, rfl⟩ (Post := MS' cy b tb (qM 0)) ⟨qM, _, _, _, _, _, _, _, _, _, _, _, _, _, _, _, _, _, _, _, _, _, _, _, rfl, rfl, hf⟩⟩
/-- the answer of tallest, out of the best number -/
def tlA (v : Nat → Int32) (M : Nat) (wh : Int32) : Int32 := if 0 ≤ tlF v (M + 1) 0 (-1) (-1) then (if wh = 0 then tlF v (M + 1) 0 (-1) (-1) else v (tlF v (M + 1) 0 (-1) (-1)).toNatClampNeg) else (-4 : Int32)
theorem tlA_ref {v : Nat → Int32} {M : Nat} {wh lg rb rm : Int32} (hM : M ≤ 3000) (h : tlB v M (tlF v (M + 1) 0 (-1) (-1)) lg rb rm) : (if wh = 0 then rb else rm) = tlA v M wh ∧ (0 ≤ tlF v (M + 1) 0 (-1) (-1) → ¬ (tlF v (M + 1) 0 (-1) (-1) < 0 ∨ 3001 ≤ (tlF v (M + 1) 0 (-1) (-1)).toNatClampNeg)) := by
  unfold tlA
  rcases h with ⟨h1, h2, h3, h4⟩ | ⟨n0, t0, h1, h2, h3, h4, h5, h6, h7⟩
  · rw [h1, h3, h4]
    have z : ¬ ((0 : Int32) ≤ -1) := by decide
    refine ⟨?_, fun q => absurd q z⟩
    rw [if_neg z]
    split <;> rfl
  · rw [h3, if_pos (nI_pos' (by omega)), nI_clamp (by omega), h5, h6, h7]
    exact ⟨rfl, fun _ q => q.elim (nI_pos (by omega)) (by omega)⟩
set_option maxHeartbeats 4000000 in
theorem st_tallest {l : Launch} {D : va_G} {cy : Nat → ClassId} {F b : Nat} {tb : Nat → Nat} {N aX aM C S : Nat} {w v : va_W} (hF : 20000000 ≤ F) (hN : N ≤ 600) (hX : XS F cy b tb N aX C S w) (hM : MS' cy b tb aM v) (a1 a2 a3 : Int32) : StI l D cy F N aX aM C S w v yX10_tallest wsX10_tallest yX11_tallest wsX11_tallest [.int a1, .int a2, .int a3] := by
  obtain ⟨V, qX, qG, qP, qR, oS, oB, oE, oN, oL, xw, worth, row, many, told, sz, pt, pr, wO, rfl, rfl, hb, hw, hV, hO⟩ := hX
  obtain ⟨qM, m_f, m_many, m_figures, m_tail, m_round, m_rounds, m_leasts, m_likes, m_like, m_isTwo, m_came, m_by, m_queue, m_kind, m_parts, m_wanted, m_allowed, m_bitOf, m_met, m_row, m_narrows, m_narrow, m_isMade, rfl, rfl, hf⟩ := hM
  have hbd := OP_bd hO
  by_cases hin : ¬ wi a1 0 5 = 0 ∧ ¬ wi a2 0 3000 = 0 ∧ ¬ wi a3 0 1 = 0
  · obtain ⟨i1, i2, i3⟩ := hin
    obtain ⟨st, _, hst5, rfl⟩ := wi_k (a := 0) (c := 5) (by omega) (by omega) i1
    obtain ⟨M, _, hM3, rfl⟩ := wi_k (a := 0) (c := 3000) (by omega) (by omega) i2
    obtain ⟨wh, _, hwh, rfl⟩ := wi_k (a := 0) (c := 1) (by omega) (by omega) i3
    by_cases hst : st = 0 ∨ st = 3
    · have hcl : (nI st).toNatClampNeg = st := nI_clamp (by omega)
      obtain ⟨T, keys, tails, homes, c, kS, nS, k, n, uS, u, v', wr, hsel, hT, hSl, ho, hk, hn, put⟩ := OP_Y hO (by omega) hst
      rcases ho with ⟨hxn, rfl, rfl, rfl, rfl, rfl⟩ | ⟨q, qC, uC, aS, tl, known, yv, ho, size, NN, leasts, lengths, firstBy, order, hxs, hoS, rfl, rfl, hNN, hcb, hver, rfl, rfl⟩
      · rcases hSl with ⟨hT0, ⟨rfl, rfl, rfl, rfl, rfl, rfl, rfl, rfl⟩ | ⟨qS, rfl, rfl, rfl, rfl⟩⟩
        · obtain ⟨pl, NN', Z', T', K', cst', row', many', keys', tails', homes', tl', ho', ls', ln', fb', od', l', n', f', o', eW, hA⟩ := w_YN (F := F) (b := b) (st := st) (M := M) (V := V) (worth := worth) (by omega) hb hw hst (by omega) (by omega) row many
          have hNN' := NN_16 hA.2.2.2.2.2.1.1
          have hle := hA.1
          have hTL : ∀ n, n ≤ M → TL (stepN b tb st) n (tl' n) := fun n hn => KN_TL (AM_of hb (tbB_of hw) hst) hA.2.2.2.2.2.2.1 (by have := hA.2.2.1; omega) (by omega)
          obtain ⟨rb, rm, lg, M', G', t', r', e1, hB⟩ := tall_ref (F := F) (w := wh) (by omega) hb hf (show st ≤ 5 by omega) hM3 hwh hTL m_many m_tail m_round m_figures
          obtain ⟨hB1, hB2⟩ := tlA_ref (wh := nI wh) hM3 hB
          rw [hB1] at e1
          have e2 : f_X10_tallest_YN F (4 * NN') pl (nI st) (nI M) (nI wh) (nI b) worth row many (nI V) = some (tlA tl' M (nI wh), row', many', keys', tails', homes', nI T', nI st, tl', nI K', nI V, nI st, cst', ho', nI Z', NN', l', NN', n', NN', f', NN', o') := by
            unfold f_X10_tallest_YN
            rw [p_isStep, Option.bind_some, if_neg i1, p_within, Option.bind_some, if_neg i2, p_within, Option.bind_some, if_neg i3, eW, Option.bind_some]
            dsimp only
            rw [long_YZ, tall_cls (by omega) hM3, Option.bind_some]
            unfold tlA
            by_cases z : 0 ≤ tlF tl' (M + 1) 0 (-1) (-1)
            · rw [if_pos z, if_pos z]
              by_cases y : nI wh = 0
              · rw [if_pos y, if_pos y]
              · rw [if_neg y, if_neg y, ck_pos (hB2 z)]
            · rw [if_neg z, if_neg z]
          refine ⟨_, b, tb, mkO_i (A := [gX cy qX (qG 0) (qP 0) (qR 0) none oB oE oN oL xw, gG cy qG (nI b) worth row many (nI V)]) (B := [gP cy qP told sz pt pr, gR cy qR (qG 0), wr]) (A1 := fun u : Nat → Nat → Nat => [gX cy qX (qG 0) (qP 0) (qR 0) (some ((u 0) 0)) oB oE oN oL (va_up xw (nI st).toNatClampNeg (some ((u 3) 0))), gG cy qG (nI b) worth row' many' (nI V), gS cy (u 0) keys' tails' homes' (nI T'), gC cy (u 1) (u 2) (qG 0) ((u 0) 0) (nI st) cst' ho' (nI Z') NN' l' NN' n' NN' f' NN' o', gY cy (u 3) (qG 0) (qP 0) ((u 1) 0) (nI st) tl' (nI K') (nI V)]) (GL := [gX cy qX (qG 0) (qP 0) (qR 0) none oB oE oN oL xw, gG cy qG (nI b) worth row many (nI V), gP cy qP told sz pt pr, gR cy qR (qG 0), wr]) [0, 1, 2, 3, 4] (Sel_last hsel) rfl (by decide) (c_X10_tallest_YN e2 (pot0 := 64) rfl (by rw [hcl]; exact hxn)) ⟨0, _, rfl⟩ ⟨Nat.le_of_ble_eq_true rfl, Nat.le_of_ble_eq_true rfl⟩ (by show C + (12 + (4 * NN' - 64)) ≤ 500000; omega) (by show S + (104391 + 2 * (4 * NN' - 64)) ≤ 7000000; omega) (fun u => ?_), mkM_i (c_X11_tallest e1) ⟨0, _, rfl⟩ ⟨by decide, by decide, rfl, rfl⟩ (Post := MS' cy b tb (qM 0)) ⟨qM, _, _, _, _, _, _, _, _, _, _, _, _, _, _, _, _, _, _, _, _, _, _, _, rfl, rfl, hf⟩⟩
          obtain ⟨w', hs', hO'⟩ := put (some ((u 0) 0)) (va_up xw (nI st).toNatClampNeg (some ((u 3) 0))) T' keys' tails' homes' cst' 4 98308 (8 + (4 * NN' - 64)) (6083 + 2 * (4 * NN' - 64)) (gS cy (u 0) keys' tails' homes' (nI T')) (gY cy (u 3) (qG 0) (qP 0) ((u 1) 0) (nI st) tl' (nI K') (nI V)) (gC cy (u 1) (u 2) (qG 0) ((u 0) 0) (nI st) cst' ho' (nI Z') NN' l' NN' n' NN' f' NN' o') (fun q => absurd rfl q) (fun j hj => va_up_ne xw _ (by rw [hcl]; exact hj)) hA.2.1 ⟨YS_0 hA.2.2.2.2.2.2.2, Or.inr ⟨u 0, rfl, rfl, rfl, rfl⟩⟩ (Or.inr ⟨u 3, u 1, u 2, (u 0) 0, tl', nI K', nI V, ho', nI Z', NN', l', n', f', o', by rw [hcl]; exact va_up_self xw st _, rfl, rfl, rfl, hA.2.2.2.2.2.1.1, cst_bd (Or.inl rfl) hA.2.1, Or.inr ⟨V, Nat.le_refl _, rfl, fun _ => ⟨K', Z', ls', ln', fb', od', rfl, hA.2.2.2.1, rfl, hA.2.2.2.2.1, hA.2.2.2.2.2.1, hA.2.2.2.2.2.2.1, hA.2.2.2.2.2.2.2⟩⟩, rfl, rfl⟩)
          rw [show C - (0 + 0) + (4 + (8 + (4 * NN' - 64))) = C + (12 + (4 * NN' - 64)) by omega, show S - (0 + 0) + (98308 + (6083 + 2 * (4 * NN' - 64))) = S + (104391 + 2 * (4 * NN' - 64)) by omega] at hO'
          exact ⟨_, Sel_trans (Sel_J3 (G := [gX cy qX (qG 0) (qP 0) (qR 0) (some ((u 0) 0)) oB oE oN oL (va_up xw (nI st).toNatClampNeg (some ((u 3) 0))), gG cy qG (nI b) worth row' many' (nI V), gP cy qP told sz pt pr, gR cy qR (qG 0), wr, gS cy (u 0) keys' tails' homes' (nI T'), gY cy (u 3) (qG 0) (qP 0) ((u 1) 0) (nI st) tl' (nI K') (nI V), gC cy (u 1) (u 2) (qG 0) ((u 0) 0) (nI st) cst' ho' (nI Z') NN' l' NN' n' NN' f' NN' o']) [3, 4, 0, 1, 2, 5, 7, 6] rfl (by decide)) (Sel_last hs'), V, qX, qG, qP, qR, (some ((u 0) 0)), oB, oE, oN, oL, (va_up xw (nI st).toNatClampNeg (some ((u 3) 0))), worth, row', many', told, sz, pt, pr, w', rfl, rfl, hb, hw, by omega, hO'⟩
        · obtain ⟨pl, NN', Z', T', K', cst', row', many', keys', tails', homes', tl', ho', ls', ln', fb', od', l', n', f', o', eW, hA⟩ := w_YS (F := F) (b := b) (st := st) (M := M) (T := T) (V := V) (worth := worth) (keys := keys) (tails := tails) (homes := homes) (by omega) hb hw hst (by omega) (by omega) (by omega) hT0 row many
          have hNN' := NN_16 hA.2.2.2.2.2.1.1
          have hle := hA.1
          have hTL : ∀ n, n ≤ M → TL (stepN b tb st) n (tl' n) := fun n hn => KN_TL (AM_of hb (tbB_of hw) hst) hA.2.2.2.2.2.2.1 (by have := hA.2.2.1; omega) (by omega)
          obtain ⟨rb, rm, lg, M', G', t', r', e1, hB⟩ := tall_ref (F := F) (w := wh) (by omega) hb hf (show st ≤ 5 by omega) hM3 hwh hTL m_many m_tail m_round m_figures
          obtain ⟨hB1, hB2⟩ := tlA_ref (wh := nI wh) hM3 hB
          rw [hB1] at e1
          have e2 : f_X10_tallest_YS F (4 * NN') pl (nI st) (nI M) (nI wh) (nI b) worth row many (nI V) keys tails homes (nI T) = some (tlA tl' M (nI wh), row', many', keys', tails', homes', nI T', nI st, tl', nI K', nI V, nI st, cst', ho', nI Z', NN', l', NN', n', NN', f', NN', o') := by
            unfold f_X10_tallest_YS
            rw [p_isStep, Option.bind_some, if_neg i1, p_within, Option.bind_some, if_neg i2, p_within, Option.bind_some, if_neg i3, eW, Option.bind_some]
            dsimp only
            rw [long_YZ, tall_cls (by omega) hM3, Option.bind_some]
            unfold tlA
            by_cases z : 0 ≤ tlF tl' (M + 1) 0 (-1) (-1)
            · rw [if_pos z, if_pos z]
              by_cases y : nI wh = 0
              · rw [if_pos y, if_pos y]
              · rw [if_neg y, if_neg y, ck_pos (hB2 z)]
            · rw [if_neg z, if_neg z]
          refine ⟨_, b, tb, mkO_i (A := [gX cy qX (qG 0) (qP 0) (qR 0) (some (qS 0)) oB oE oN oL xw, gS cy qS keys tails homes (nI T), gG cy qG (nI b) worth row many (nI V)]) (B := [gP cy qP told sz pt pr, gR cy qR (qG 0), wr]) (A1 := fun u : Nat → Nat → Nat => [gX cy qX (qG 0) (qP 0) (qR 0) (some (qS 0)) oB oE oN oL (va_up xw (nI st).toNatClampNeg (some ((u 2) 0))), gS cy qS keys' tails' homes' (nI T'), gG cy qG (nI b) worth row' many' (nI V), gC cy (u 0) (u 1) (qG 0) (qS 0) (nI st) cst' ho' (nI Z') NN' l' NN' n' NN' f' NN' o', gY cy (u 2) (qG 0) (qP 0) ((u 0) 0) (nI st) tl' (nI K') (nI V)]) (GL := [gX cy qX (qG 0) (qP 0) (qR 0) (some (qS 0)) oB oE oN oL xw, gG cy qG (nI b) worth row many (nI V), gP cy qP told sz pt pr, gR cy qR (qG 0), gS cy qS keys tails homes (nI T), wr]) [0, 4, 1, 2, 3, 5] (Sel_last hsel) rfl (by decide) (c_X10_tallest_YS e2 (pot0 := 64) rfl (by rw [hcl]; exact hxn)) ⟨0, _, rfl⟩ ⟨Nat.le_of_ble_eq_true rfl, Nat.le_of_ble_eq_true rfl⟩ (by show C + (8 + (4 * NN' - 64)) ≤ 500000; omega) (by show S + (6083 + 2 * (4 * NN' - 64)) ≤ 7000000; omega) (fun u => ?_), mkM_i (c_X11_tallest e1) ⟨0, _, rfl⟩ ⟨by decide, by decide, rfl, rfl⟩ (Post := MS' cy b tb (qM 0)) ⟨qM, _, _, _, _, _, _, _, _, _, _, _, _, _, _, _, _, _, _, _, _, _, _, _, rfl, rfl, hf⟩⟩
          obtain ⟨w', hs', hO'⟩ := put (some (qS 0)) (va_up xw (nI st).toNatClampNeg (some ((u 2) 0))) T' keys' tails' homes' cst' 4 98308 (8 + (4 * NN' - 64)) (6083 + 2 * (4 * NN' - 64)) (gS cy qS keys' tails' homes' (nI T')) (gY cy (u 2) (qG 0) (qP 0) ((u 0) 0) (nI st) tl' (nI K') (nI V)) (gC cy (u 0) (u 1) (qG 0) (qS 0) (nI st) cst' ho' (nI Z') NN' l' NN' n' NN' f' NN' o') (fun _ => rfl) (fun j hj => va_up_ne xw _ (by rw [hcl]; exact hj)) hA.2.1 ⟨YS_0 hA.2.2.2.2.2.2.2, Or.inr ⟨qS, rfl, rfl, rfl, rfl⟩⟩ (Or.inr ⟨u 2, u 0, u 1, qS 0, tl', nI K', nI V, ho', nI Z', NN', l', n', f', o', by rw [hcl]; exact va_up_self xw st _, rfl, rfl, rfl, hA.2.2.2.2.2.1.1, cst_bd (Or.inl rfl) hA.2.1, Or.inr ⟨V, Nat.le_refl _, rfl, fun _ => ⟨K', Z', ls', ln', fb', od', rfl, hA.2.2.2.1, rfl, hA.2.2.2.2.1, hA.2.2.2.2.2.1, hA.2.2.2.2.2.2.1, hA.2.2.2.2.2.2.2⟩⟩, rfl, rfl⟩)
          rw [show C - (4 + 0) + (4 + (8 + (4 * NN' - 64))) = C + (8 + (4 * NN' - 64)) by omega, show S - (98308 + 0) + (98308 + (6083 + 2 * (4 * NN' - 64))) = S + (6083 + 2 * (4 * NN' - 64)) by omega] at hO'
          exact ⟨_, Sel_trans (Sel_J3 (G := [gX cy qX (qG 0) (qP 0) (qR 0) (some (qS 0)) oB oE oN oL (va_up xw (nI st).toNatClampNeg (some ((u 2) 0))), gG cy qG (nI b) worth row' many' (nI V), gP cy qP told sz pt pr, gR cy qR (qG 0), wr, gS cy qS keys' tails' homes' (nI T'), gY cy (u 2) (qG 0) (qP 0) ((u 0) 0) (nI st) tl' (nI K') (nI V), gC cy (u 0) (u 1) (qG 0) (qS 0) (nI st) cst' ho' (nI Z') NN' l' NN' n' NN' f' NN' o']) [3, 5, 0, 1, 2, 4, 7, 6] rfl (by decide)) (Sel_last hs'), V, qX, qG, qP, qR, (some (qS 0)), oB, oE, oN, oL, (va_up xw (nI st).toNatClampNeg (some ((u 2) 0))), worth, row', many', told, sz, pt, pr, w', rfl, rfl, hb, hw, by omega, hO'⟩
      · rcases hSl with ⟨hT0, ⟨rfl, _⟩ | ⟨qS, hqS, rfl, rfl, rfl⟩⟩
        · cases hoS
        · rw [hqS] at hoS
          injection hoS with hoS
          subst hoS
          subst hqS
          have hN16 := NN_16 hNN
          obtain ⟨pl, NN', Z', T', K', cst', row', many', keys', tails', homes', tl', ho', ls', ln', fb', od', l', n', f', o', eW, hA⟩ := w_Y (F := F) (b := b) (st := st) (M := M) (T := T) (V := V) (worth := worth) (by omega) hb hw hst (by omega) (by omega) (by omega) hT0 hNN hver row many
          have hNN' := NN_16 hA.2.2.2.2.2.1.1
          have hle := hA.1
          have hTL : ∀ n, n ≤ M → TL (stepN b tb st) n (tl' n) := fun n hn => KN_TL (AM_of hb (tbB_of hw) hst) hA.2.2.2.2.2.2.1 (by have := hA.2.2.1; omega) (by omega)
          obtain ⟨rb, rm, lg, M', G', t', r', e1, hB⟩ := tall_ref (F := F) (w := wh) (by omega) hb hf (show st ≤ 5 by omega) hM3 hwh hTL m_many m_tail m_round m_figures
          obtain ⟨hB1, hB2⟩ := tlA_ref (wh := nI wh) hM3 hB
          rw [hB1] at e1
          have e2 : f_X10_tallest_Y F (4 * NN') pl (nI st) (nI M) (nI wh) (nI b) worth row many (nI V) keys tails homes (nI T) (nI st) tl known yv (nI st) c ho size NN leasts NN lengths NN firstBy NN order = some (tlA tl' M (nI wh), row', many', keys', tails', homes', nI T', tl', nI K', nI V, cst', ho', nI Z', NN', l', NN', n', NN', f', NN', o') := by
            unfold f_X10_tallest_Y
            rw [p_isStep, Option.bind_some, if_neg i1, p_within, Option.bind_some, if_neg i2, p_within, Option.bind_some, if_neg i3, eW, Option.bind_some]
            dsimp only
            rw [long_YZ, tall_cls (by omega) hM3, Option.bind_some]
            unfold tlA
            by_cases z : 0 ≤ tlF tl' (M + 1) 0 (-1) (-1)
            · rw [if_pos z, if_pos z]
              by_cases y : nI wh = 0
              · rw [if_pos y, if_pos y]
              · rw [if_neg y, if_neg y, ck_pos (hB2 z)]
            · rw [if_neg z, if_neg z]
          refine ⟨_, b, tb, mkO_i (A := [gX cy qX (qG 0) (qP 0) (qR 0) (some (qS 0)) oB oE oN oL xw, gY cy q (qG 0) (qP 0) (qC 0) (nI st) tl known yv, gC cy qC uC (qG 0) (qS 0) (nI st) c ho size NN leasts NN lengths NN firstBy NN order, gS cy qS keys tails homes (nI T), gG cy qG (nI b) worth row many (nI V)]) (B := [gP cy qP told sz pt pr, gR cy qR (qG 0), wr]) (A1 := fun u : Nat → Nat → Nat => [gX cy qX (qG 0) (qP 0) (qR 0) (some (qS 0)) oB oE oN oL xw, gY cy q (qG 0) (qP 0) (qC 0) (nI st) tl' (nI K') (nI V), gC cy qC (u 0) (qG 0) (qS 0) (nI st) cst' ho' (nI Z') NN' l' NN' n' NN' f' NN' o', gS cy qS keys' tails' homes' (nI T'), gG cy qG (nI b) worth row' many' (nI V)]) (GL := [gX cy qX (qG 0) (qP 0) (qR 0) (some (qS 0)) oB oE oN oL xw, gG cy qG (nI b) worth row many (nI V), gP cy qP told sz pt pr, gR cy qR (qG 0), gS cy qS keys tails homes (nI T), gY cy q (qG 0) (qP 0) (qC 0) (nI st) tl known yv, gC cy qC uC (qG 0) (qS 0) (nI st) c ho size NN leasts NN lengths NN firstBy NN order, wr]) [0, 5, 6, 4, 1, 2, 3, 7] (Sel_last hsel) rfl (by decide) (c_X10_tallest_Y e2 (pot0 := NN + NN + NN + NN) rfl (by rw [hcl]; exact hxs)) ⟨0, _, rfl⟩ ⟨Nat.le_of_ble_eq_true rfl, Nat.le_of_ble_eq_true rfl⟩ (by show C + (0 + (4 * NN' - (NN + NN + NN + NN))) ≤ 500000; omega) (by show S + (0 + 2 * (4 * NN' - (NN + NN + NN + NN))) ≤ 7000000; omega) (fun u => ?_), mkM_i (c_X11_tallest e1) ⟨0, _, rfl⟩ ⟨by decide, by decide, rfl, rfl⟩ (Post := MS' cy b tb (qM 0)) ⟨qM, _, _, _, _, _, _, _, _, _, _, _, _, _, _, _, _, _, _, _, _, _, _, _, rfl, rfl, hf⟩⟩
          obtain ⟨w', hs', hO'⟩ := put (some (qS 0)) xw T' keys' tails' homes' cst' 4 98308 (8 + (4 * NN' - 64)) (6083 + 2 * (4 * NN' - 64)) (gS cy qS keys' tails' homes' (nI T')) (gY cy q (qG 0) (qP 0) (qC 0) (nI st) tl' (nI K') (nI V)) (gC cy qC (u 0) (qG 0) (qS 0) (nI st) cst' ho' (nI Z') NN' l' NN' n' NN' f' NN' o') (fun _ => rfl) (fun j hj => rfl) hA.2.1 ⟨YS_0 hA.2.2.2.2.2.2.2, Or.inr ⟨qS, rfl, rfl, rfl, rfl⟩⟩ (Or.inr ⟨q, qC, u 0, qS 0, tl', nI K', nI V, ho', nI Z', NN', l', n', f', o', hxs, rfl, rfl, rfl, hA.2.2.2.2.2.1.1, cst_bd hcb hA.2.1, Or.inr ⟨V, Nat.le_refl _, rfl, fun _ => ⟨K', Z', ls', ln', fb', od', rfl, hA.2.2.2.1, rfl, hA.2.2.2.2.1, hA.2.2.2.2.2.1, hA.2.2.2.2.2.2.1, hA.2.2.2.2.2.2.2⟩⟩, rfl, rfl⟩)
          rw [show C - (4 + (8 + (4 * NN - 64))) + (4 + (8 + (4 * NN' - 64))) = C + (0 + (4 * NN' - (NN + NN + NN + NN))) by omega, show S - (98308 + (6083 + 2 * (4 * NN - 64))) + (98308 + (6083 + 2 * (4 * NN' - 64))) = S + (0 + 2 * (4 * NN' - (NN + NN + NN + NN))) by omega] at hO'
          exact ⟨_, Sel_trans (Sel_J3 (G := [gX cy qX (qG 0) (qP 0) (qR 0) (some (qS 0)) oB oE oN oL xw, gG cy qG (nI b) worth row' many' (nI V), gP cy qP told sz pt pr, gR cy qR (qG 0), wr, gS cy qS keys' tails' homes' (nI T'), gY cy q (qG 0) (qP 0) (qC 0) (nI st) tl' (nI K') (nI V), gC cy qC (u 0) (qG 0) (qS 0) (nI st) cst' ho' (nI Z') NN' l' NN' n' NN' f' NN' o']) [3, 7, 0, 1, 2, 6, 4, 5] rfl (by decide)) (Sel_last hs'), V, qX, qG, qP, qR, (some (qS 0)), oB, oE, oN, oL, xw, worth, row', many', told, sz, pt, pr, w', rfl, rfl, hb, hw, by omega, hO'⟩
    · have hcl : (nI st).toNatClampNeg = st := nI_clamp (by omega)
      obtain ⟨k, n, u, wr, hsel, ho, hk, hn, put⟩ := OP_Z hO hst5 (fun q => hst (Or.inl q)) (fun q => hst (Or.inr q))
      rcases ho with ⟨hxn, rfl, rfl, rfl⟩ | ⟨q, tails, known, zv, hxs, rfl, hver, rfl, rfl⟩
      · obtain ⟨row', many', told', sz', pt', pr', tl', K', eW, g1, g2, g3⟩ := w_ZN (F := F) (b := b) (st := st) (M := M) (V := V) (worth := worth) (told := told) (sz := sz) (pt := pt) (pr := pr) (by omega) hb hw hst5 (fun q => hst (Or.inl q)) (fun q => hst (Or.inr q)) hM3 (by omega) row many
        have hTL : ∀ n, n ≤ M → TL (stepN b tb st) n (tl' n) := fun n hn => g3 n (by omega)
        obtain ⟨rb, rm, lg, M', G', t', r', e1, hB⟩ := tall_ref (F := F) (w := wh) (by omega) hb hf (show st ≤ 5 by omega) hM3 hwh hTL m_many m_tail m_round m_figures
        obtain ⟨hB1, hB2⟩ := tlA_ref (wh := nI wh) hM3 hB
        rw [hB1] at e1
        have e2 : f_X10_tallest_ZN F (nI st) (nI M) (nI wh) (nI b) worth row many (nI V) told sz pt pr = some (tlA tl' M (nI wh), row', many', told', sz', pt', pr', nI st, tl', nI K', nI V) := by
          unfold f_X10_tallest_ZN
          rw [p_isStep, Option.bind_some, if_neg i1, p_within, Option.bind_some, if_neg i2, p_within, Option.bind_some, if_neg i3, eW, Option.bind_some]
          dsimp only
          rw [tall_cls (by omega) hM3, Option.bind_some]
          unfold tlA
          by_cases z : 0 ≤ tlF tl' (M + 1) 0 (-1) (-1)
          · rw [if_pos z, if_pos z]
            by_cases y : nI wh = 0
            · rw [if_pos y, if_pos y]
            · rw [if_neg y, if_neg y, ck_pos (hB2 z)]
          · rw [if_neg z, if_neg z]
        refine ⟨_, b, tb, mkO_i (A := [gX cy qX (qG 0) (qP 0) (qR 0) oS oB oE oN oL xw, gP cy qP told sz pt pr, gG cy qG (nI b) worth row many (nI V)]) (B := [gR cy qR (qG 0), wr]) (A1 := fun u : Nat → Nat → Nat => [gX cy qX (qG 0) (qP 0) (qR 0) oS oB oE oN oL (va_up xw (nI st).toNatClampNeg (some ((u 0) 0))), gP cy qP told' sz' pt' pr', gG cy qG (nI b) worth row' many' (nI V), gZ cy (u 0) (qG 0) (qP 0) (nI st) tl' (nI K') (nI V)]) (GL := [gX cy qX (qG 0) (qP 0) (qR 0) oS oB oE oN oL xw, gG cy qG (nI b) worth row many (nI V), gP cy qP told sz pt pr, gR cy qR (qG 0), wr]) [0, 2, 1, 3, 4] (Sel_last hsel) rfl (by decide) (c_X10_tallest_ZN e2 (by rw [hcl]; exact hxn)) ⟨0, _, rfl⟩ ⟨Nat.le_of_ble_eq_true rfl, Nat.le_of_ble_eq_true rfl⟩ (by show C + 2 ≤ 500000; omega) (by show S + 3008 ≤ 7000000; omega) (fun u => ?_), mkM_i (c_X11_tallest e1) ⟨0, _, rfl⟩ ⟨by decide, by decide, rfl, rfl⟩ (Post := MS' cy b tb (qM 0)) ⟨qM, _, _, _, _, _, _, _, _, _, _, _, _, _, _, _, _, _, _, _, _, _, _, _, rfl, rfl, hf⟩⟩
        obtain ⟨w', hs', hO'⟩ := put (va_up xw (nI st).toNatClampNeg (some ((u 0) 0))) 2 3008 (gZ cy (u 0) (qG 0) (qP 0) (nI st) tl' (nI K') (nI V)) (fun j hj => va_up_ne xw _ (by rw [hcl]; exact hj)) (Or.inr ⟨u 0, tl', nI K', nI V, by rw [hcl]; exact va_up_self xw st _, rfl, Or.inr ⟨V, Nat.le_refl _, rfl, fun _ => ⟨K', g2, rfl, g3⟩⟩, rfl, rfl⟩)
        exact ⟨_, Sel_trans (Sel_J3 (G := [gX cy qX (qG 0) (qP 0) (qR 0) oS oB oE oN oL (va_up xw (nI st).toNatClampNeg (some ((u 0) 0))), gG cy qG (nI b) worth row' many' (nI V), gP cy qP told' sz' pt' pr', gR cy qR (qG 0), wr, gZ cy (u 0) (qG 0) (qP 0) (nI st) tl' (nI K') (nI V)]) [2, 4, 3, 0, 1, 5] rfl (by decide)) (Sel_last hs'), V, qX, qG, qP, qR, oS, oB, oE, oN, oL, (va_up xw (nI st).toNatClampNeg (some ((u 0) 0))), worth, row', many', told', sz', pt', pr', w', rfl, rfl, hb, hw, by omega, OP_mo hO' (by omega)⟩
      · obtain ⟨row', many', told', sz', pt', pr', tl', K', eW, g1, g2, g3⟩ := w_Z (F := F) (b := b) (st := st) (M := M) (V := V) (worth := worth) (told := told) (sz := sz) (pt := pt) (pr := pr) (by omega) hb hw hst5 hM3 (by omega) hver row many
        have hTL : ∀ n, n ≤ M → TL (stepN b tb st) n (tl' n) := fun n hn => g3 n (by omega)
        obtain ⟨rb, rm, lg, M', G', t', r', e1, hB⟩ := tall_ref (F := F) (w := wh) (by omega) hb hf (show st ≤ 5 by omega) hM3 hwh hTL m_many m_tail m_round m_figures
        obtain ⟨hB1, hB2⟩ := tlA_ref (wh := nI wh) hM3 hB
        rw [hB1] at e1
        have e2 : f_X10_tallest_Z F (nI st) (nI M) (nI wh) (nI b) worth row many (nI V) told sz pt pr (nI st) tails known zv = some (tlA tl' M (nI wh), row', many', told', sz', pt', pr', tl', nI K', nI V) := by
          unfold f_X10_tallest_Z
          rw [p_isStep, Option.bind_some, if_neg i1, p_within, Option.bind_some, if_neg i2, p_within, Option.bind_some, if_neg i3, eW, Option.bind_some]
          dsimp only
          rw [tall_cls (by omega) hM3, Option.bind_some]
          unfold tlA
          by_cases z : 0 ≤ tlF tl' (M + 1) 0 (-1) (-1)
          · rw [if_pos z, if_pos z]
            by_cases y : nI wh = 0
            · rw [if_pos y, if_pos y]
            · rw [if_neg y, if_neg y, ck_pos (hB2 z)]
          · rw [if_neg z, if_neg z]
        refine ⟨_, b, tb, mkO_i (A := [gX cy qX (qG 0) (qP 0) (qR 0) oS oB oE oN oL xw, gZ cy q (qG 0) (qP 0) (nI st) tails known zv, gP cy qP told sz pt pr, gG cy qG (nI b) worth row many (nI V)]) (B := [gR cy qR (qG 0), wr]) (A1 := fun u : Nat → Nat → Nat => [gX cy qX (qG 0) (qP 0) (qR 0) oS oB oE oN oL xw, gZ cy q (qG 0) (qP 0) (nI st) tl' (nI K') (nI V), gP cy qP told' sz' pt' pr', gG cy qG (nI b) worth row' many' (nI V)]) (GL := [gX cy qX (qG 0) (qP 0) (qR 0) oS oB oE oN oL xw, gG cy qG (nI b) worth row many (nI V), gP cy qP told sz pt pr, gR cy qR (qG 0), gZ cy q (qG 0) (qP 0) (nI st) tails known zv, wr]) [0, 4, 2, 1, 3, 5] (Sel_last hsel) rfl (by decide) (c_X10_tallest_Z e2 (by rw [hcl]; exact hxs)) ⟨0, _, rfl⟩ ⟨Nat.le_of_ble_eq_true rfl, Nat.le_of_ble_eq_true rfl⟩ (by show C + 0 ≤ 500000; omega) (by show S + 0 ≤ 7000000; omega) (fun u => ?_), mkM_i (c_X11_tallest e1) ⟨0, _, rfl⟩ ⟨by decide, by decide, rfl, rfl⟩ (Post := MS' cy b tb (qM 0)) ⟨qM, _, _, _, _, _, _, _, _, _, _, _, _, _, _, _, _, _, _, _, _, _, _, _, rfl, rfl, hf⟩⟩
        obtain ⟨w', hs', hO'⟩ := put xw 2 3008 (gZ cy q (qG 0) (qP 0) (nI st) tl' (nI K') (nI V)) (fun j hj => rfl) (Or.inr ⟨q, tl', nI K', nI V, hxs, rfl, Or.inr ⟨V, Nat.le_refl _, rfl, fun _ => ⟨K', g2, rfl, g3⟩⟩, rfl, rfl⟩)
        rw [show C - 2 + 2 = C by omega, show S - 3008 + 3008 = S by omega] at hO'
        exact ⟨_, Sel_trans (Sel_J3 (G := [gX cy qX (qG 0) (qP 0) (qR 0) oS oB oE oN oL xw, gG cy qG (nI b) worth row' many' (nI V), gP cy qP told' sz' pt' pr', gR cy qR (qG 0), wr, gZ cy q (qG 0) (qP 0) (nI st) tl' (nI K') (nI V)]) [2, 5, 4, 0, 1, 3] rfl (by decide)) (Sel_last hs'), V, qX, qG, qP, qR, oS, oB, oE, oN, oL, xw, worth, row', many', told', sz', pt', pr', w', rfl, rfl, hb, hw, by omega, OP_mo hO' (by omega)⟩
  · have e1 : f_X11_tallest F a1 a2 a3 (nI b) m_f m_many m_figures m_tail m_round = some ((-1 : Int32), m_many, m_figures, m_tail, m_round) := by
      unfold f_X11_tallest f_X11_tallest_J18
      rw [p_isTo, Option.bind_some, p_inI F a3 0 1 (a' := 0) (c' := 1) rfl rfl, Option.bind_some]
      by_cases z1 : wi a1 0 5 = 0
      · rw [if_pos z1, if_pos z00]
      · rw [if_neg z1]
        by_cases z3 : wi a2 0 3000 = 0
        · rw [if_pos z3, if_pos z00]
        · rw [if_neg z3, if_neg n10]
          by_cases z2 : wi a3 0 1 = 0
          · rw [if_pos z2]
          · exact absurd ⟨z1, z3, z2⟩ hin
    have e2 : f_X10_tallest_B F a1 a2 a3 = some (-1 : Int32) := by
      unfold f_X10_tallest_B
      rw [p_isStep, Option.bind_some, p_within, Option.bind_some, p_within, Option.bind_some]
      by_cases z1 : wi a1 0 5 = 0
      · rw [if_pos z1]
      · rw [if_neg z1]
        by_cases z2 : wi a2 0 3000 = 0
        · rw [if_pos z2]
        · rw [if_neg z2]
          by_cases z3 : wi a3 0 1 = 0
          · rw [if_pos z3]
          · exact absurd ⟨z1, z2, z3⟩ hin
    refine ⟨_, b, tb, mkO_i (A := [gX cy qX (qG 0) (qP 0) (qR 0) oS oB oE oN oL xw]) (B := [gG cy qG (nI b) worth row many (nI V), gP cy qP told sz pt pr, gR cy qR (qG 0), wO]) (A1 := fun _ : Nat → Nat → Nat => [gX cy qX (qG 0) (qP 0) (qR 0) oS oB oE oN oL xw]) (GL := [gX cy qX (qG 0) (qP 0) (qR 0) oS oB oE oN oL xw, gG cy qG (nI b) worth row many (nI V), gP cy qP told sz pt pr, gR cy qR (qG 0), wO]) [0, 1, 2, 3, 4] (Sel_refl _) rfl (by decide) (c_X10_tallest_B e2) ⟨0, _, rfl⟩ ⟨Nat.le_of_ble_eq_true rfl, Nat.le_of_ble_eq_true rfl⟩ (by show C + 0 ≤ 500000; omega) (by show S + 0 ≤ 7000000; omega) (fun _ => ⟨_, Sel_J3 (G := [gX cy qX (qG 0) (qP 0) (qR 0) oS oB oE oN oL xw, gG cy qG (nI b) worth row many (nI V), gP cy qP told sz pt pr, gR cy qR (qG 0), wO]) [4, 0, 1, 2, 3] rfl (by decide), V, qX, qG, qP, qR, oS, oB, oE, oN, oL, xw, worth, row, many, told, sz, pt, pr, wO, rfl, rfl, hb, hw, by omega, OP_mo hO (by omega)⟩), mkM_i (c_X11_tallest e1) ⟨0, _, rfl⟩ ⟨by decide, by decide, rfl, rfl⟩ (Post := MS' cy b tb (qM 0)) ⟨qM, _, _, _, _, _, _, _, _, _, _, _, _, _, _, _, _, _, _, _, _, _, _, _, rfl, rfl, hf⟩⟩
