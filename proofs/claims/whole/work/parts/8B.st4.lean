/-! rounds, come -/
theorem p_isRS (F : Nat) (a : Int32) : f_X10_isRoundStep F a = some (if a = 0 then 1 else if a = (3 : Int32) then 1 else 0) := by
  unfold f_X10_isRoundStep f_X10_isRoundStep_J9 f_X10_isRoundStep_J14
  split
  · rfl
  · split <;> rfl
theorem rs_st {a : Int32} (h : a = 0 ∨ a = (3 : Int32)) : ∃ st, (st = 0 ∨ st = 3) ∧ a = nI st := by
  rcases h with rfl | rfl
  · exact ⟨0, Or.inl rfl, rfl⟩
  · exact ⟨3, Or.inr rfl, rfl⟩
theorem wl_k {x : Int64} (h : ¬ wl x 0 1000000000000000 = 0) : ∃ k, k ≤ TOP ∧ x = lN k := by
  rcases wl_1 (x := x) with q | ⟨k, q1, q2, _⟩
  · exact absurd q h
  · exact ⟨k, q1, q2⟩
set_option maxHeartbeats 4000000 in
theorem st_rounds {l : Launch} {D : va_G} {cy : Nat → ClassId} {F b : Nat} {tb : Nat → Nat} {N aX aM C S : Nat} {w v : va_W} (hF : 20000000 ≤ F) (hN : N ≤ 600) (hX : XS F cy b tb N aX C S w) (hM : MS' cy b tb aM v) (a1 a2 a3 : Int32) : StL l D cy F N aX aM C S w v yX10_rounds wsX10_rounds yX11_rounds wsX11_rounds [.int a1, .int a2, .int a3] := by
  obtain ⟨V, qX, qG, qP, qR, oS, oB, oE, oN, oL, xw, worth, row, many, told, sz, pt, pr, wO, rfl, rfl, hb, hw, hV, hO⟩ := hX
  obtain ⟨qM, m_f, m_many, m_figures, m_tail, m_round, m_rounds, m_leasts, m_likes, m_like, m_isTwo, m_came, m_by, m_queue, m_kind, m_parts, m_wanted, m_allowed, m_bitOf, m_met, m_row, m_narrows, m_narrow, m_isMade, rfl, rfl, hf⟩ := hM
  have hbd := OP_bd hO
  by_cases hin : (a1 = 0 ∨ a1 = (3 : Int32)) ∧ ¬ wi a2 0 20000 = 0 ∧ (-1 : Int32) ≤ a3
  · obtain ⟨i1, i2, i3⟩ := hin
    obtain ⟨st, hst, rfl⟩ := rs_st i1
    obtain ⟨M, _, hM2, rfl⟩ := wi_k (a := 0) (c := 20000) (by omega) (by omega) i2
    have hcl : (nI st).toNatClampNeg = st := nI_clamp (by omega)
    obtain ⟨T, keys, tails, homes, c, kS, nS, k, n, uS, u, v', wr, hsel, hT, hSl, ho, hk, hn, put⟩ := OP_Y hO (by omega) hst
    rcases ho with ⟨hxn, rfl, rfl, rfl, rfl, rfl⟩ | ⟨q, qC, uC, aS, tl, known, yv, ho, size, NN, leasts, lengths, firstBy, order, hxs, hoS, rfl, rfl, hNN, hcb, hver, rfl, rfl⟩
    · rcases hSl with ⟨hT0, ⟨rfl, rfl, rfl, rfl, rfl, rfl, rfl, rfl⟩ | ⟨qS, rfl, rfl, rfl, rfl⟩⟩
      · obtain ⟨pl, NN', Z', T', K', cst', row', many', keys', tails', homes', tl', ho', ls', ln', fb', od', l', n', f', o', eW, hA⟩ := w_YN (F := F) (b := b) (st := st) (M := M) (V := V) (worth := worth) (by omega) hb hw hst (by omega) (by omega) row many
        have hNN' := NN_16 hA.2.2.2.2.2.1.1
        have hle := hA.1
        obtain ⟨r, M', G', t', r', rds', arr', e1, hcls⟩ := rounds_agree (F := F) (by omega) hb hf hst hM2 i3 hA.2.2.1 hA.2.2.2.2.1 hA.2.2.2.2.2.1 hA.2.2.2.2.2.2.1 m_many m_tail m_round m_rounds m_figures m_leasts
        have e2 : f_X10_rounds_YN F (4 * NN') pl (nI st) (nI M) a3 (nI b) worth row many (nI V) = some (r, row', many', keys', tails', homes', nI T', nI st, tl', nI K', nI V, nI st, cst', ho', nI Z', NN', l', NN', n', NN', f', NN', o') := by
          unfold f_X10_rounds_YN
          rw [isRound_1 hst, Option.bind_some, if_neg n10, p_within, Option.bind_some, if_neg i2, if_pos i3, eW, Option.bind_some]
          dsimp only
          rw [hcls, Option.bind_some]
        refine ⟨_, b, tb, mkO_l (A := [gX cy qX (qG 0) (qP 0) (qR 0) none oB oE oN oL xw, gG cy qG (nI b) worth row many (nI V)]) (B := [gP cy qP told sz pt pr, gR cy qR (qG 0), wr]) (A1 := fun u : Nat → Nat → Nat => [gX cy qX (qG 0) (qP 0) (qR 0) (some ((u 0) 0)) oB oE oN oL (va_up xw (nI st).toNatClampNeg (some ((u 3) 0))), gG cy qG (nI b) worth row' many' (nI V), gS cy (u 0) keys' tails' homes' (nI T'), gC cy (u 1) (u 2) (qG 0) ((u 0) 0) (nI st) cst' ho' (nI Z') NN' l' NN' n' NN' f' NN' o', gY cy (u 3) (qG 0) (qP 0) ((u 1) 0) (nI st) tl' (nI K') (nI V)]) (GL := [gX cy qX (qG 0) (qP 0) (qR 0) none oB oE oN oL xw, gG cy qG (nI b) worth row many (nI V), gP cy qP told sz pt pr, gR cy qR (qG 0), wr]) [0, 1, 2, 3, 4] (Sel_last hsel) rfl (by decide) (c_X10_rounds_YN e2 (pot0 := 64) rfl (by rw [hcl]; exact hxn)) ⟨0, _, rfl⟩ ⟨Nat.le_of_ble_eq_true rfl, Nat.le_of_ble_eq_true rfl⟩ (by show C + (12 + (4 * NN' - 64)) ≤ 500000; omega) (by show S + (104391 + 2 * (4 * NN' - 64)) ≤ 7000000; omega) (fun u => ?_), mkM_l (c_X11_rounds e1) ⟨0, _, rfl⟩ ⟨by decide, by decide, rfl, rfl⟩ (Post := MS' cy b tb (qM 0)) ⟨qM, _, _, _, _, _, _, _, _, _, _, _, _, _, _, _, _, _, _, _, _, _, _, _, rfl, rfl, hf⟩⟩
        obtain ⟨w', hs', hO'⟩ := put (some ((u 0) 0)) (va_up xw (nI st).toNatClampNeg (some ((u 3) 0))) T' keys' tails' homes' cst' 4 98308 (8 + (4 * NN' - 64)) (6083 + 2 * (4 * NN' - 64)) (gS cy (u 0) keys' tails' homes' (nI T')) (gY cy (u 3) (qG 0) (qP 0) ((u 1) 0) (nI st) tl' (nI K') (nI V)) (gC cy (u 1) (u 2) (qG 0) ((u 0) 0) (nI st) cst' ho' (nI Z') NN' l' NN' n' NN' f' NN' o') (fun q => absurd rfl q) (fun j hj => va_up_ne xw _ (by rw [hcl]; exact hj)) hA.2.1 ⟨YS_0 hA.2.2.2.2.2.2.2, Or.inr ⟨u 0, rfl, rfl, rfl, rfl⟩⟩ (Or.inr ⟨u 3, u 1, u 2, (u 0) 0, tl', nI K', nI V, ho', nI Z', NN', l', n', f', o', by rw [hcl]; exact va_up_self xw st _, rfl, rfl, rfl, hA.2.2.2.2.2.1.1, cst_bd (Or.inl rfl) hA.2.1, Or.inr ⟨V, Nat.le_refl _, rfl, fun _ => ⟨K', Z', ls', ln', fb', od', rfl, hA.2.2.2.1, rfl, hA.2.2.2.2.1, hA.2.2.2.2.2.1, hA.2.2.2.2.2.2.1, hA.2.2.2.2.2.2.2⟩⟩, rfl, rfl⟩)
        rw [show C - (0 + 0) + (4 + (8 + (4 * NN' - 64))) = C + (12 + (4 * NN' - 64)) by omega, show S - (0 + 0) + (98308 + (6083 + 2 * (4 * NN' - 64))) = S + (104391 + 2 * (4 * NN' - 64)) by omega] at hO'
        exact ⟨_, Sel_trans (Sel_J3 (G := [gX cy qX (qG 0) (qP 0) (qR 0) (some ((u 0) 0)) oB oE oN oL (va_up xw (nI st).toNatClampNeg (some ((u 3) 0))), gG cy qG (nI b) worth row' many' (nI V), gP cy qP told sz pt pr, gR cy qR (qG 0), wr, gS cy (u 0) keys' tails' homes' (nI T'), gY cy (u 3) (qG 0) (qP 0) ((u 1) 0) (nI st) tl' (nI K') (nI V), gC cy (u 1) (u 2) (qG 0) ((u 0) 0) (nI st) cst' ho' (nI Z') NN' l' NN' n' NN' f' NN' o']) [3, 4, 0, 1, 2, 5, 7, 6] rfl (by decide)) (Sel_last hs'), V, qX, qG, qP, qR, (some ((u 0) 0)), oB, oE, oN, oL, (va_up xw (nI st).toNatClampNeg (some ((u 3) 0))), worth, row', many', told, sz, pt, pr, w', rfl, rfl, hb, hw, by omega, hO'⟩
      · obtain ⟨pl, NN', Z', T', K', cst', row', many', keys', tails', homes', tl', ho', ls', ln', fb', od', l', n', f', o', eW, hA⟩ := w_YS (F := F) (b := b) (st := st) (M := M) (T := T) (V := V) (worth := worth) (keys := keys) (tails := tails) (homes := homes) (by omega) hb hw hst (by omega) (by omega) (by omega) hT0 row many
        have hNN' := NN_16 hA.2.2.2.2.2.1.1
        have hle := hA.1
        obtain ⟨r, M', G', t', r', rds', arr', e1, hcls⟩ := rounds_agree (F := F) (by omega) hb hf hst hM2 i3 hA.2.2.1 hA.2.2.2.2.1 hA.2.2.2.2.2.1 hA.2.2.2.2.2.2.1 m_many m_tail m_round m_rounds m_figures m_leasts
        have e2 : f_X10_rounds_YS F (4 * NN') pl (nI st) (nI M) a3 (nI b) worth row many (nI V) keys tails homes (nI T) = some (r, row', many', keys', tails', homes', nI T', nI st, tl', nI K', nI V, nI st, cst', ho', nI Z', NN', l', NN', n', NN', f', NN', o') := by
          unfold f_X10_rounds_YS
          rw [isRound_1 hst, Option.bind_some, if_neg n10, p_within, Option.bind_some, if_neg i2, if_pos i3, eW, Option.bind_some]
          dsimp only
          rw [hcls, Option.bind_some]
        refine ⟨_, b, tb, mkO_l (A := [gX cy qX (qG 0) (qP 0) (qR 0) (some (qS 0)) oB oE oN oL xw, gS cy qS keys tails homes (nI T), gG cy qG (nI b) worth row many (nI V)]) (B := [gP cy qP told sz pt pr, gR cy qR (qG 0), wr]) (A1 := fun u : Nat → Nat → Nat => [gX cy qX (qG 0) (qP 0) (qR 0) (some (qS 0)) oB oE oN oL (va_up xw (nI st).toNatClampNeg (some ((u 2) 0))), gS cy qS keys' tails' homes' (nI T'), gG cy qG (nI b) worth row' many' (nI V), gC cy (u 0) (u 1) (qG 0) (qS 0) (nI st) cst' ho' (nI Z') NN' l' NN' n' NN' f' NN' o', gY cy (u 2) (qG 0) (qP 0) ((u 0) 0) (nI st) tl' (nI K') (nI V)]) (GL := [gX cy qX (qG 0) (qP 0) (qR 0) (some (qS 0)) oB oE oN oL xw, gG cy qG (nI b) worth row many (nI V), gP cy qP told sz pt pr, gR cy qR (qG 0), gS cy qS keys tails homes (nI T), wr]) [0, 4, 1, 2, 3, 5] (Sel_last hsel) rfl (by decide) (c_X10_rounds_YS e2 (pot0 := 64) rfl (by rw [hcl]; exact hxn)) ⟨0, _, rfl⟩ ⟨Nat.le_of_ble_eq_true rfl, Nat.le_of_ble_eq_true rfl⟩ (by show C + (8 + (4 * NN' - 64)) ≤ 500000; omega) (by show S + (6083 + 2 * (4 * NN' - 64)) ≤ 7000000; omega) (fun u => ?_), mkM_l (c_X11_rounds e1) ⟨0, _, rfl⟩ ⟨by decide, by decide, rfl, rfl⟩ (Post := MS' cy b tb (qM 0)) ⟨qM, _, _, _, _, _, _, _, _, _, _, _, _, _, _, _, _, _, _, _, _, _, _, _, rfl, rfl, hf⟩⟩
        obtain ⟨w', hs', hO'⟩ := put (some (qS 0)) (va_up xw (nI st).toNatClampNeg (some ((u 2) 0))) T' keys' tails' homes' cst' 4 98308 (8 + (4 * NN' - 64)) (6083 + 2 * (4 * NN' - 64)) (gS cy qS keys' tails' homes' (nI T')) (gY cy (u 2) (qG 0) (qP 0) ((u 0) 0) (nI st) tl' (nI K') (nI V)) (gC cy (u 0) (u 1) (qG 0) (qS 0) (nI st) cst' ho' (nI Z') NN' l' NN' n' NN' f' NN' o') (fun _ => rfl) (fun j hj => va_up_ne xw _ (by rw [hcl]; exact hj)) hA.2.1 ⟨YS_0 hA.2.2.2.2.2.2.2, Or.inr ⟨qS, rfl, rfl, rfl, rfl⟩⟩ (Or.inr ⟨u 2, u 0, u 1, qS 0, tl', nI K', nI V, ho', nI Z', NN', l', n', f', o', by rw [hcl]; exact va_up_self xw st _, rfl, rfl, rfl, hA.2.2.2.2.2.1.1, cst_bd (Or.inl rfl) hA.2.1, Or.inr ⟨V, Nat.le_refl _, rfl, fun _ => ⟨K', Z', ls', ln', fb', od', rfl, hA.2.2.2.1, rfl, hA.2.2.2.2.1, hA.2.2.2.2.2.1, hA.2.2.2.2.2.2.1, hA.2.2.2.2.2.2.2⟩⟩, rfl, rfl⟩)
        rw [show C - (4 + 0) + (4 + (8 + (4 * NN' - 64))) = C + (8 + (4 * NN' - 64)) by omega, show S - (98308 + 0) + (98308 + (6083 + 2 * (4 * NN' - 64))) = S + (6083 + 2 * (4 * NN' - 64)) by omega] at hO'
        exact ⟨_, Sel_trans (Sel_J3 (G := [gX cy qX (qG 0) (qP 0) (qR 0) (some (qS 0)) oB oE oN oL (va_up xw (nI st).toNatClampNeg (some ((u 2) 0))), gG cy qG (nI b) worth row' many' (nI V), gP cy qP told sz pt pr, gR cy qR (qG 0), wr, gS cy qS keys' tails' homes' (nI T'), gY cy (u 2) (qG 0) (qP 0) ((u 0) 0) (nI st) tl' (nI K') (nI V), gC cy (u 0) (u 1) (qG 0) (qS 0) (nI st) cst' ho' (nI Z') NN' l' NN' n' NN' f' NN' o']) [3, 5, 0, 1, 2, 4, 7, 6] rfl (by decide)) (Sel_last hs'), V, qX, qG, qP, qR, (some (qS 0)), oB, oE, oN, oL, (va_up xw (nI st).toNatClampNeg (some ((u 2) 0))), worth, row', many', told, sz, pt, pr, w', rfl, rfl, hb, hw, by omega, hO'⟩
    · rcases hSl with ⟨hT0, ⟨rfl, _⟩ | ⟨qS, hqS, rfl, rfl, rfl⟩⟩
      · cases hoS
      · rw [hqS] at hoS
        injection hoS with hoS
        subst hoS
        subst hqS
        have hN16 := NN_16 hNN
        obtain ⟨pl, NN', Z', T', K', cst', row', many', keys', tails', homes', tl', ho', ls', ln', fb', od', l', n', f', o', eW, hA⟩ := w_Y (F := F) (b := b) (st := st) (M := M) (T := T) (V := V) (worth := worth) (by omega) hb hw hst (by omega) (by omega) (by omega) hT0 hNN hver row many
        have hNN' := NN_16 hA.2.2.2.2.2.1.1
        have hle := hA.1
        obtain ⟨r, M', G', t', r', rds', arr', e1, hcls⟩ := rounds_agree (F := F) (by omega) hb hf hst hM2 i3 hA.2.2.1 hA.2.2.2.2.1 hA.2.2.2.2.2.1 hA.2.2.2.2.2.2.1 m_many m_tail m_round m_rounds m_figures m_leasts
        have e2 : f_X10_rounds_Y F (4 * NN') pl (nI st) (nI M) a3 (nI b) worth row many (nI V) keys tails homes (nI T) (nI st) tl known yv (nI st) c ho size NN leasts NN lengths NN firstBy NN order = some (r, row', many', keys', tails', homes', nI T', tl', nI K', nI V, cst', ho', nI Z', NN', l', NN', n', NN', f', NN', o') := by
          unfold f_X10_rounds_Y
          rw [isRound_1 hst, Option.bind_some, if_neg n10, p_within, Option.bind_some, if_neg i2, if_pos i3, eW, Option.bind_some]
          dsimp only
          rw [hcls, Option.bind_some]
        refine ⟨_, b, tb, mkO_l (A := [gX cy qX (qG 0) (qP 0) (qR 0) (some (qS 0)) oB oE oN oL xw, gY cy q (qG 0) (qP 0) (qC 0) (nI st) tl known yv, gC cy qC uC (qG 0) (qS 0) (nI st) c ho size NN leasts NN lengths NN firstBy NN order, gS cy qS keys tails homes (nI T), gG cy qG (nI b) worth row many (nI V)]) (B := [gP cy qP told sz pt pr, gR cy qR (qG 0), wr]) (A1 := fun u : Nat → Nat → Nat => [gX cy qX (qG 0) (qP 0) (qR 0) (some (qS 0)) oB oE oN oL xw, gY cy q (qG 0) (qP 0) (qC 0) (nI st) tl' (nI K') (nI V), gC cy qC (u 0) (qG 0) (qS 0) (nI st) cst' ho' (nI Z') NN' l' NN' n' NN' f' NN' o', gS cy qS keys' tails' homes' (nI T'), gG cy qG (nI b) worth row' many' (nI V)]) (GL := [gX cy qX (qG 0) (qP 0) (qR 0) (some (qS 0)) oB oE oN oL xw, gG cy qG (nI b) worth row many (nI V), gP cy qP told sz pt pr, gR cy qR (qG 0), gS cy qS keys tails homes (nI T), gY cy q (qG 0) (qP 0) (qC 0) (nI st) tl known yv, gC cy qC uC (qG 0) (qS 0) (nI st) c ho size NN leasts NN lengths NN firstBy NN order, wr]) [0, 5, 6, 4, 1, 2, 3, 7] (Sel_last hsel) rfl (by decide) (c_X10_rounds_Y e2 (pot0 := NN + NN + NN + NN) rfl (by rw [hcl]; exact hxs)) ⟨0, _, rfl⟩ ⟨Nat.le_of_ble_eq_true rfl, Nat.le_of_ble_eq_true rfl⟩ (by show C + (0 + (4 * NN' - (NN + NN + NN + NN))) ≤ 500000; omega) (by show S + (0 + 2 * (4 * NN' - (NN + NN + NN + NN))) ≤ 7000000; omega) (fun u => ?_), mkM_l (c_X11_rounds e1) ⟨0, _, rfl⟩ ⟨by decide, by decide, rfl, rfl⟩ (Post := MS' cy b tb (qM 0)) ⟨qM, _, _, _, _, _, _, _, _, _, _, _, _, _, _, _, _, _, _, _, _, _, _, _, rfl, rfl, hf⟩⟩
        obtain ⟨w', hs', hO'⟩ := put (some (qS 0)) xw T' keys' tails' homes' cst' 4 98308 (8 + (4 * NN' - 64)) (6083 + 2 * (4 * NN' - 64)) (gS cy qS keys' tails' homes' (nI T')) (gY cy q (qG 0) (qP 0) (qC 0) (nI st) tl' (nI K') (nI V)) (gC cy qC (u 0) (qG 0) (qS 0) (nI st) cst' ho' (nI Z') NN' l' NN' n' NN' f' NN' o') (fun _ => rfl) (fun j hj => rfl) hA.2.1 ⟨YS_0 hA.2.2.2.2.2.2.2, Or.inr ⟨qS, rfl, rfl, rfl, rfl⟩⟩ (Or.inr ⟨q, qC, u 0, qS 0, tl', nI K', nI V, ho', nI Z', NN', l', n', f', o', hxs, rfl, rfl, rfl, hA.2.2.2.2.2.1.1, cst_bd hcb hA.2.1, Or.inr ⟨V, Nat.le_refl _, rfl, fun _ => ⟨K', Z', ls', ln', fb', od', rfl, hA.2.2.2.1, rfl, hA.2.2.2.2.1, hA.2.2.2.2.2.1, hA.2.2.2.2.2.2.1, hA.2.2.2.2.2.2.2⟩⟩, rfl, rfl⟩)
        rw [show C - (4 + (8 + (4 * NN - 64))) + (4 + (8 + (4 * NN' - 64))) = C + (0 + (4 * NN' - (NN + NN + NN + NN))) by omega, show S - (98308 + (6083 + 2 * (4 * NN - 64))) + (98308 + (6083 + 2 * (4 * NN' - 64))) = S + (0 + 2 * (4 * NN' - (NN + NN + NN + NN))) by omega] at hO'
        exact ⟨_, Sel_trans (Sel_J3 (G := [gX cy qX (qG 0) (qP 0) (qR 0) (some (qS 0)) oB oE oN oL xw, gG cy qG (nI b) worth row' many' (nI V), gP cy qP told sz pt pr, gR cy qR (qG 0), wr, gS cy qS keys' tails' homes' (nI T'), gY cy q (qG 0) (qP 0) (qC 0) (nI st) tl' (nI K') (nI V), gC cy qC (u 0) (qG 0) (qS 0) (nI st) cst' ho' (nI Z') NN' l' NN' n' NN' f' NN' o']) [3, 7, 0, 1, 2, 6, 4, 5] rfl (by decide)) (Sel_last hs'), V, qX, qG, qP, qR, (some (qS 0)), oB, oE, oN, oL, xw, worth, row', many', told, sz, pt, pr, w', rfl, rfl, hb, hw, by omega, hO'⟩
  · have e1 : f_X11_rounds F a1 a2 a3 (nI b) m_f m_many m_figures m_tail m_round m_rounds m_leasts = some ((-1 : Int64), m_many, m_figures, m_tail, m_round, m_rounds, m_leasts) := by
      unfold f_X11_rounds f_X11_rounds_J9 f_X11_rounds_J26
      rw [p_inI F a2 0 20000 (a' := 0) (c' := 20000) rfl rfl, Option.bind_some]
      by_cases z0 : a1 = 0 ∨ a1 = (3 : Int32)
      · have hb2 : ∀ x y : Option (Int64 × Int32 × (Nat → Int32) × Int32 × Int32 × Int32 × (Nat → Int64)), (if a1 = 0 then x else if a1 = (3 : Int32) then x else y) = x := fun x y => by
          rcases z0 with z | z
          · rw [if_pos z]
          · by_cases z' : a1 = 0
            · rw [if_pos z']
            · rw [if_neg z', if_pos z]
        rw [hb2]
        by_cases z2 : wi a2 0 20000 = 0
        · rw [if_pos z2]
        · rw [if_neg z2]
          by_cases z3 : (-1 : Int32) ≤ a3
          · exact absurd ⟨z0, z2, z3⟩ hin
          · rw [if_neg z3]
      · rw [if_neg (fun q => z0 (Or.inl q)), if_neg (fun q => z0 (Or.inr q))]
    have e2 : f_X10_rounds_B F a1 a2 a3 = some (-1 : Int64) := by
      unfold f_X10_rounds_B
      rw [p_isRS, Option.bind_some, p_within, Option.bind_some]
      by_cases z0 : a1 = 0 ∨ a1 = (3 : Int32)
      · have hb2 : (if a1 = 0 then (1 : Int32) else if a1 = (3 : Int32) then 1 else 0) = 1 := by
          rcases z0 with z | z
          · rw [if_pos z]
          · by_cases z' : a1 = 0
            · rw [if_pos z']
            · rw [if_neg z', if_pos z]
        rw [hb2, if_neg n10]
        by_cases z2 : wi a2 0 20000 = 0
        · rw [if_pos z2]
        · rw [if_neg z2]
          by_cases z3 : (-1 : Int32) ≤ a3
          · exact absurd ⟨z0, z2, z3⟩ hin
          · rw [if_neg z3]
      · rw [if_neg (fun q => z0 (Or.inl q)), if_neg (fun q => z0 (Or.inr q)), if_pos z00]
    refine ⟨_, b, tb, mkO_l (A := [gX cy qX (qG 0) (qP 0) (qR 0) oS oB oE oN oL xw]) (B := [gG cy qG (nI b) worth row many (nI V), gP cy qP told sz pt pr, gR cy qR (qG 0), wO]) (A1 := fun _ : Nat → Nat → Nat => [gX cy qX (qG 0) (qP 0) (qR 0) oS oB oE oN oL xw]) (GL := [gX cy qX (qG 0) (qP 0) (qR 0) oS oB oE oN oL xw, gG cy qG (nI b) worth row many (nI V), gP cy qP told sz pt pr, gR cy qR (qG 0), wO]) [0, 1, 2, 3, 4] (Sel_refl _) rfl (by decide) (c_X10_rounds_B e2) ⟨0, _, rfl⟩ ⟨Nat.le_of_ble_eq_true rfl, Nat.le_of_ble_eq_true rfl⟩ (by show C + 0 ≤ 500000; omega) (by show S + 0 ≤ 7000000; omega) (fun _ => ⟨_, Sel_J3 (G := [gX cy qX (qG 0) (qP 0) (qR 0) oS oB oE oN oL xw, gG cy qG (nI b) worth row many (nI V), gP cy qP told sz pt pr, gR cy qR (qG 0), wO]) [4, 0, 1, 2, 3] rfl (by decide), V, qX, qG, qP, qR, oS, oB, oE, oN, oL, xw, worth, row, many, told, sz, pt, pr, wO, rfl, rfl, hb, hw, by omega, OP_mo hO (by omega)⟩), mkM_l (c_X11_rounds e1) ⟨0, _, rfl⟩ ⟨by decide, by decide, rfl, rfl⟩ (Post := MS' cy b tb (qM 0)) ⟨qM, _, _, _, _, _, _, _, _, _, _, _, _, _, _, _, _, _, _, _, _, _, _, _, rfl, rfl, hf⟩⟩
set_option maxHeartbeats 4000000 in
theorem st_come {l : Launch} {D : va_G} {cy : Nat → ClassId} {F b : Nat} {tb : Nat → Nat} {N aX aM C S : Nat} {w v : va_W} (hF : 20000000 ≤ F) (hN : N ≤ 600) (hX : XS F cy b tb N aX C S w) (hM : MS' cy b tb aM v) (a1 a2 : Int32) (a3 : Int64) (a5 : Int32) : StI l D cy F N aX aM C S w v yX10_come wsX10_come yX11_come wsX11_come [.int a1, .int a2, .long a3, .int a5] := by
  obtain ⟨V, qX, qG, qP, qR, oS, oB, oE, oN, oL, xw, worth, row, many, told, sz, pt, pr, wO, rfl, rfl, hb, hw, hV, hO⟩ := hX
  obtain ⟨qM, m_f, m_many, m_figures, m_tail, m_round, m_rounds, m_leasts, m_likes, m_like, m_isTwo, m_came, m_by, m_queue, m_kind, m_parts, m_wanted, m_allowed, m_bitOf, m_met, m_row, m_narrows, m_narrow, m_isMade, rfl, rfl, hf⟩ := hM
  have hbd := OP_bd hO
  by_cases hin : (a1 = 0 ∨ a1 = (3 : Int32)) ∧ ¬ wi a2 0 3000 = 0 ∧ ¬ wl a3 0 1000000000000000 = 0 ∧ ¬ wi a5 0 1 = 0
  · obtain ⟨i1, i2, i4, i5⟩ := hin
    obtain ⟨st, hst, rfl⟩ := rs_st i1
    obtain ⟨M, _, hM3, rfl⟩ := wi_k (a := 0) (c := 3000) (by omega) (by omega) i2
    obtain ⟨L, hL, rfl⟩ := wl_k i4
    obtain ⟨wh, _, hwh, rfl⟩ := wi_k (a := 0) (c := 1) (by omega) (by omega) i5
    obtain ⟨row1, many1, told1, z1, t, r, d1, d2, d3, d4⟩ := p_follow (F := F) (row := row) (many := many) (told := told) (z0 := sz) (t0 := pt) (r0 := pr) (by omega) hb hw (show st ≤ 5 by omega) hL
    subst d3
    rcases p_isRound (F := F) (by omega) d1 d4 with ⟨eR, hr, rfl, hcl0⟩ | ⟨eR, hno⟩
    · by_cases y : wh = 0
      · subst y
        have hcl : (nI st).toNatClampNeg = st := nI_clamp (by omega)
        obtain ⟨T, keys, tails, homes, c, kS, nS, k, n, uS, u, v', wr, hsel, hT, hSl, ho, hk, hn, put⟩ := OP_Y hO (by omega) hst
        rcases ho with ⟨hxn, rfl, rfl, rfl, rfl, rfl⟩ | ⟨q, qC, uC, aS, tl, known, yv, ho, size, NN, leasts, lengths, firstBy, order, hxs, hoS, rfl, rfl, hNN, hcb, hver, rfl, rfl⟩
        · rcases hSl with ⟨hT0, ⟨rfl, rfl, rfl, rfl, rfl, rfl, rfl, rfl⟩ | ⟨qS, rfl, rfl, rfl, rfl⟩⟩
          · obtain ⟨pl, NN', Z', T', K', cst', row', many', keys', tails', homes', tl', ho', ls', ln', fb', od', l', n', f', o', eW, hA⟩ := w_YN (F := F) (b := b) (st := st) (M := M) (V := V) (worth := worth) (by omega) hb hw hst (by omega) (by omega) row1 many1
            have hNN' := NN_16 hA.2.2.2.2.2.1.1
            have hle := hA.1
            obtain ⟨M', G', t', r', e1⟩ := come_yes (F := F) (M := M) (w := 0) (by omega) hb hf hst hM3 (by omega) hL d1 hr hcl0 m_many m_tail m_round m_figures
            rw [if_pos nI_0] at e1
            have e2 : f_X10_come_YN F (4 * NN') pl (nI st) (nI M) (lN L) (nI 0) (nI b) worth row many (nI V) told sz pt pr = some (nI (cntN (crB (stepN b tb st) L) (M + 1) 0), row', many', told1, nI (0 + r), nI 0, nI r, keys', tails', homes', nI T', nI st, tl', nI K', nI V, nI st, cst', ho', nI Z', NN', l', NN', n', NN', f', NN', o') := by
              unfold f_X10_come_YN
              rw [isRound_1 hst, Option.bind_some, if_neg n10, p_within, Option.bind_some, if_neg i2, p_isNumber, Option.bind_some, if_neg i4, p_within, Option.bind_some, if_neg i5, d2, Option.bind_some]
              dsimp only
              rw [eR, Option.bind_some, if_neg n10, if_neg (show ¬ nI 0 = (1 : Int32) by decide), eW, Option.bind_some]
              dsimp only
              rw [comers_cls (by omega) hb (tbB_of hw) hst hM3 hA.2.2.1 hL hcl0 hA.2.2.2.2.1 hA.2.2.2.2.2.1 hA.2.2.2.2.2.2.1, Option.bind_some]
            refine ⟨_, b, tb, mkO_i (A := [gX cy qX (qG 0) (qP 0) (qR 0) none oB oE oN oL xw, gP cy qP told sz pt pr, gG cy qG (nI b) worth row many (nI V)]) (B := [gR cy qR (qG 0), wr]) (A1 := fun u : Nat → Nat → Nat => [gX cy qX (qG 0) (qP 0) (qR 0) (some ((u 0) 0)) oB oE oN oL (va_up xw (nI st).toNatClampNeg (some ((u 3) 0))), gP cy qP told1 (nI (0 + r)) (nI 0) (nI r), gG cy qG (nI b) worth row' many' (nI V), gS cy (u 0) keys' tails' homes' (nI T'), gC cy (u 1) (u 2) (qG 0) ((u 0) 0) (nI st) cst' ho' (nI Z') NN' l' NN' n' NN' f' NN' o', gY cy (u 3) (qG 0) (qP 0) ((u 1) 0) (nI st) tl' (nI K') (nI V)]) (GL := [gX cy qX (qG 0) (qP 0) (qR 0) none oB oE oN oL xw, gG cy qG (nI b) worth row many (nI V), gP cy qP told sz pt pr, gR cy qR (qG 0), wr]) [0, 2, 1, 3, 4] (Sel_last hsel) rfl (by decide) (c_X10_come_YN e2 (pot0 := 64) rfl (by rw [hcl]; exact hxn)) ⟨0, _, rfl⟩ ⟨Nat.le_of_ble_eq_true rfl, Nat.le_of_ble_eq_true rfl⟩ (by show C + (12 + (4 * NN' - 64)) ≤ 500000; omega) (by show S + (104391 + 2 * (4 * NN' - 64)) ≤ 7000000; omega) (fun u => ?_), mkM_i (c_X11_come e1) ⟨0, _, rfl⟩ ⟨by decide, by decide, rfl, rfl⟩ (Post := MS' cy b tb (qM 0)) ⟨qM, _, _, _, _, _, _, _, _, _, _, _, _, _, _, _, _, _, _, _, _, _, _, _, rfl, rfl, hf⟩⟩
            obtain ⟨w', hs', hO'⟩ := put (some ((u 0) 0)) (va_up xw (nI st).toNatClampNeg (some ((u 3) 0))) T' keys' tails' homes' cst' 4 98308 (8 + (4 * NN' - 64)) (6083 + 2 * (4 * NN' - 64)) (gS cy (u 0) keys' tails' homes' (nI T')) (gY cy (u 3) (qG 0) (qP 0) ((u 1) 0) (nI st) tl' (nI K') (nI V)) (gC cy (u 1) (u 2) (qG 0) ((u 0) 0) (nI st) cst' ho' (nI Z') NN' l' NN' n' NN' f' NN' o') (fun q => absurd rfl q) (fun j hj => va_up_ne xw _ (by rw [hcl]; exact hj)) hA.2.1 ⟨YS_0 hA.2.2.2.2.2.2.2, Or.inr ⟨u 0, rfl, rfl, rfl, rfl⟩⟩ (Or.inr ⟨u 3, u 1, u 2, (u 0) 0, tl', nI K', nI V, ho', nI Z', NN', l', n', f', o', by rw [hcl]; exact va_up_self xw st _, rfl, rfl, rfl, hA.2.2.2.2.2.1.1, cst_bd (Or.inl rfl) hA.2.1, Or.inr ⟨V, Nat.le_refl _, rfl, fun _ => ⟨K', Z', ls', ln', fb', od', rfl, hA.2.2.2.1, rfl, hA.2.2.2.2.1, hA.2.2.2.2.2.1, hA.2.2.2.2.2.2.1, hA.2.2.2.2.2.2.2⟩⟩, rfl, rfl⟩)
            rw [show C - (0 + 0) + (4 + (8 + (4 * NN' - 64))) = C + (12 + (4 * NN' - 64)) by omega, show S - (0 + 0) + (98308 + (6083 + 2 * (4 * NN' - 64))) = S + (104391 + 2 * (4 * NN' - 64)) by omega] at hO'
            exact ⟨_, Sel_trans (Sel_J3 (G := [gX cy qX (qG 0) (qP 0) (qR 0) (some ((u 0) 0)) oB oE oN oL (va_up xw (nI st).toNatClampNeg (some ((u 3) 0))), gG cy qG (nI b) worth row' many' (nI V), gP cy qP told1 (nI (0 + r)) (nI 0) (nI r), gR cy qR (qG 0), wr, gS cy (u 0) keys' tails' homes' (nI T'), gY cy (u 3) (qG 0) (qP 0) ((u 1) 0) (nI st) tl' (nI K') (nI V), gC cy (u 1) (u 2) (qG 0) ((u 0) 0) (nI st) cst' ho' (nI Z') NN' l' NN' n' NN' f' NN' o']) [2, 4, 3, 0, 1, 5, 7, 6] rfl (by decide)) (Sel_last hs'), V, qX, qG, qP, qR, (some ((u 0) 0)), oB, oE, oN, oL, (va_up xw (nI st).toNatClampNeg (some ((u 3) 0))), worth, row', many', told1, (nI (0 + r)), (nI 0), (nI r), w', rfl, rfl, hb, hw, by omega, hO'⟩
          · obtain ⟨pl, NN', Z', T', K', cst', row', many', keys', tails', homes', tl', ho', ls', ln', fb', od', l', n', f', o', eW, hA⟩ := w_YS (F := F) (b := b) (st := st) (M := M) (T := T) (V := V) (worth := worth) (keys := keys) (tails := tails) (homes := homes) (by omega) hb hw hst (by omega) (by omega) (by omega) hT0 row1 many1
            have hNN' := NN_16 hA.2.2.2.2.2.1.1
            have hle := hA.1
            obtain ⟨M', G', t', r', e1⟩ := come_yes (F := F) (M := M) (w := 0) (by omega) hb hf hst hM3 (by omega) hL d1 hr hcl0 m_many m_tail m_round m_figures
            rw [if_pos nI_0] at e1
            have e2 : f_X10_come_YS F (4 * NN') pl (nI st) (nI M) (lN L) (nI 0) (nI b) worth row many (nI V) told sz pt pr keys tails homes (nI T) = some (nI (cntN (crB (stepN b tb st) L) (M + 1) 0), row', many', told1, nI (0 + r), nI 0, nI r, keys', tails', homes', nI T', nI st, tl', nI K', nI V, nI st, cst', ho', nI Z', NN', l', NN', n', NN', f', NN', o') := by
              unfold f_X10_come_YS
              rw [isRound_1 hst, Option.bind_some, if_neg n10, p_within, Option.bind_some, if_neg i2, p_isNumber, Option.bind_some, if_neg i4, p_within, Option.bind_some, if_neg i5, d2, Option.bind_some]
              dsimp only
              rw [eR, Option.bind_some, if_neg n10, if_neg (show ¬ nI 0 = (1 : Int32) by decide), eW, Option.bind_some]
              dsimp only
              rw [comers_cls (by omega) hb (tbB_of hw) hst hM3 hA.2.2.1 hL hcl0 hA.2.2.2.2.1 hA.2.2.2.2.2.1 hA.2.2.2.2.2.2.1, Option.bind_some]
            refine ⟨_, b, tb, mkO_i (A := [gX cy qX (qG 0) (qP 0) (qR 0) (some (qS 0)) oB oE oN oL xw, gP cy qP told sz pt pr, gS cy qS keys tails homes (nI T), gG cy qG (nI b) worth row many (nI V)]) (B := [gR cy qR (qG 0), wr]) (A1 := fun u : Nat → Nat → Nat => [gX cy qX (qG 0) (qP 0) (qR 0) (some (qS 0)) oB oE oN oL (va_up xw (nI st).toNatClampNeg (some ((u 2) 0))), gP cy qP told1 (nI (0 + r)) (nI 0) (nI r), gS cy qS keys' tails' homes' (nI T'), gG cy qG (nI b) worth row' many' (nI V), gC cy (u 0) (u 1) (qG 0) (qS 0) (nI st) cst' ho' (nI Z') NN' l' NN' n' NN' f' NN' o', gY cy (u 2) (qG 0) (qP 0) ((u 0) 0) (nI st) tl' (nI K') (nI V)]) (GL := [gX cy qX (qG 0) (qP 0) (qR 0) (some (qS 0)) oB oE oN oL xw, gG cy qG (nI b) worth row many (nI V), gP cy qP told sz pt pr, gR cy qR (qG 0), gS cy qS keys tails homes (nI T), wr]) [0, 2, 4, 1, 3, 5] (Sel_last hsel) rfl (by decide) (c_X10_come_YS e2 (pot0 := 64) rfl (by rw [hcl]; exact hxn)) ⟨0, _, rfl⟩ ⟨Nat.le_of_ble_eq_true rfl, Nat.le_of_ble_eq_true rfl⟩ (by show C + (8 + (4 * NN' - 64)) ≤ 500000; omega) (by show S + (6083 + 2 * (4 * NN' - 64)) ≤ 7000000; omega) (fun u => ?_), mkM_i (c_X11_come e1) ⟨0, _, rfl⟩ ⟨by decide, by decide, rfl, rfl⟩ (Post := MS' cy b tb (qM 0)) ⟨qM, _, _, _, _, _, _, _, _, _, _, _, _, _, _, _, _, _, _, _, _, _, _, _, rfl, rfl, hf⟩⟩
            obtain ⟨w', hs', hO'⟩ := put (some (qS 0)) (va_up xw (nI st).toNatClampNeg (some ((u 2) 0))) T' keys' tails' homes' cst' 4 98308 (8 + (4 * NN' - 64)) (6083 + 2 * (4 * NN' - 64)) (gS cy qS keys' tails' homes' (nI T')) (gY cy (u 2) (qG 0) (qP 0) ((u 0) 0) (nI st) tl' (nI K') (nI V)) (gC cy (u 0) (u 1) (qG 0) (qS 0) (nI st) cst' ho' (nI Z') NN' l' NN' n' NN' f' NN' o') (fun _ => rfl) (fun j hj => va_up_ne xw _ (by rw [hcl]; exact hj)) hA.2.1 ⟨YS_0 hA.2.2.2.2.2.2.2, Or.inr ⟨qS, rfl, rfl, rfl, rfl⟩⟩ (Or.inr ⟨u 2, u 0, u 1, qS 0, tl', nI K', nI V, ho', nI Z', NN', l', n', f', o', by rw [hcl]; exact va_up_self xw st _, rfl, rfl, rfl, hA.2.2.2.2.2.1.1, cst_bd (Or.inl rfl) hA.2.1, Or.inr ⟨V, Nat.le_refl _, rfl, fun _ => ⟨K', Z', ls', ln', fb', od', rfl, hA.2.2.2.1, rfl, hA.2.2.2.2.1, hA.2.2.2.2.2.1, hA.2.2.2.2.2.2.1, hA.2.2.2.2.2.2.2⟩⟩, rfl, rfl⟩)
            rw [show C - (4 + 0) + (4 + (8 + (4 * NN' - 64))) = C + (8 + (4 * NN' - 64)) by omega, show S - (98308 + 0) + (98308 + (6083 + 2 * (4 * NN' - 64))) = S + (6083 + 2 * (4 * NN' - 64)) by omega] at hO'
            exact ⟨_, Sel_trans (Sel_J3 (G := [gX cy qX (qG 0) (qP 0) (qR 0) (some (qS 0)) oB oE oN oL (va_up xw (nI st).toNatClampNeg (some ((u 2) 0))), gG cy qG (nI b) worth row' many' (nI V), gP cy qP told1 (nI (0 + r)) (nI 0) (nI r), gR cy qR (qG 0), wr, gS cy qS keys' tails' homes' (nI T'), gY cy (u 2) (qG 0) (qP 0) ((u 0) 0) (nI st) tl' (nI K') (nI V), gC cy (u 0) (u 1) (qG 0) (qS 0) (nI st) cst' ho' (nI Z') NN' l' NN' n' NN' f' NN' o']) [2, 5, 3, 0, 1, 4, 7, 6] rfl (by decide)) (Sel_last hs'), V, qX, qG, qP, qR, (some (qS 0)), oB, oE, oN, oL, (va_up xw (nI st).toNatClampNeg (some ((u 2) 0))), worth, row', many', told1, (nI (0 + r)), (nI 0), (nI r), w', rfl, rfl, hb, hw, by omega, hO'⟩
        · rcases hSl with ⟨hT0, ⟨rfl, _⟩ | ⟨qS, hqS, rfl, rfl, rfl⟩⟩
          · cases hoS
          · rw [hqS] at hoS
            injection hoS with hoS
            subst hoS
            subst hqS
            have hN16 := NN_16 hNN
            obtain ⟨pl, NN', Z', T', K', cst', row', many', keys', tails', homes', tl', ho', ls', ln', fb', od', l', n', f', o', eW, hA⟩ := w_Y (F := F) (b := b) (st := st) (M := M) (T := T) (V := V) (worth := worth) (by omega) hb hw hst (by omega) (by omega) (by omega) hT0 hNN hver row1 many1
            have hNN' := NN_16 hA.2.2.2.2.2.1.1
            have hle := hA.1
            obtain ⟨M', G', t', r', e1⟩ := come_yes (F := F) (M := M) (w := 0) (by omega) hb hf hst hM3 (by omega) hL d1 hr hcl0 m_many m_tail m_round m_figures
            rw [if_pos nI_0] at e1
            have e2 : f_X10_come_Y F (4 * NN') pl (nI st) (nI M) (lN L) (nI 0) (nI b) worth row many (nI V) told sz pt pr keys tails homes (nI T) (nI st) tl known yv (nI st) c ho size NN leasts NN lengths NN firstBy NN order = some (nI (cntN (crB (stepN b tb st) L) (M + 1) 0), row', many', told1, nI (0 + r), nI 0, nI r, keys', tails', homes', nI T', tl', nI K', nI V, cst', ho', nI Z', NN', l', NN', n', NN', f', NN', o') := by
              unfold f_X10_come_Y
              rw [isRound_1 hst, Option.bind_some, if_neg n10, p_within, Option.bind_some, if_neg i2, p_isNumber, Option.bind_some, if_neg i4, p_within, Option.bind_some, if_neg i5, d2, Option.bind_some]
              dsimp only
              rw [eR, Option.bind_some, if_neg n10, if_neg (show ¬ nI 0 = (1 : Int32) by decide), eW, Option.bind_some]
              dsimp only
              rw [comers_cls (by omega) hb (tbB_of hw) hst hM3 hA.2.2.1 hL hcl0 hA.2.2.2.2.1 hA.2.2.2.2.2.1 hA.2.2.2.2.2.2.1, Option.bind_some]
            refine ⟨_, b, tb, mkO_i (A := [gX cy qX (qG 0) (qP 0) (qR 0) (some (qS 0)) oB oE oN oL xw, gP cy qP told sz pt pr, gY cy q (qG 0) (qP 0) (qC 0) (nI st) tl known yv, gC cy qC uC (qG 0) (qS 0) (nI st) c ho size NN leasts NN lengths NN firstBy NN order, gS cy qS keys tails homes (nI T), gG cy qG (nI b) worth row many (nI V)]) (B := [gR cy qR (qG 0), wr]) (A1 := fun u : Nat → Nat → Nat => [gX cy qX (qG 0) (qP 0) (qR 0) (some (qS 0)) oB oE oN oL xw, gP cy qP told1 (nI (0 + r)) (nI 0) (nI r), gY cy q (qG 0) (qP 0) (qC 0) (nI st) tl' (nI K') (nI V), gC cy qC (u 0) (qG 0) (qS 0) (nI st) cst' ho' (nI Z') NN' l' NN' n' NN' f' NN' o', gS cy qS keys' tails' homes' (nI T'), gG cy qG (nI b) worth row' many' (nI V)]) (GL := [gX cy qX (qG 0) (qP 0) (qR 0) (some (qS 0)) oB oE oN oL xw, gG cy qG (nI b) worth row many (nI V), gP cy qP told sz pt pr, gR cy qR (qG 0), gS cy qS keys tails homes (nI T), gY cy q (qG 0) (qP 0) (qC 0) (nI st) tl known yv, gC cy qC uC (qG 0) (qS 0) (nI st) c ho size NN leasts NN lengths NN firstBy NN order, wr]) [0, 2, 5, 6, 4, 1, 3, 7] (Sel_last hsel) rfl (by decide) (c_X10_come_Y e2 (pot0 := NN + NN + NN + NN) rfl (by rw [hcl]; exact hxs)) ⟨0, _, rfl⟩ ⟨Nat.le_of_ble_eq_true rfl, Nat.le_of_ble_eq_true rfl⟩ (by show C + (0 + (4 * NN' - (NN + NN + NN + NN))) ≤ 500000; omega) (by show S + (0 + 2 * (4 * NN' - (NN + NN + NN + NN))) ≤ 7000000; omega) (fun u => ?_), mkM_i (c_X11_come e1) ⟨0, _, rfl⟩ ⟨by decide, by decide, rfl, rfl⟩ (Post := MS' cy b tb (qM 0)) ⟨qM, _, _, _, _, _, _, _, _, _, _, _, _, _, _, _, _, _, _, _, _, _, _, _, rfl, rfl, hf⟩⟩
            obtain ⟨w', hs', hO'⟩ := put (some (qS 0)) xw T' keys' tails' homes' cst' 4 98308 (8 + (4 * NN' - 64)) (6083 + 2 * (4 * NN' - 64)) (gS cy qS keys' tails' homes' (nI T')) (gY cy q (qG 0) (qP 0) (qC 0) (nI st) tl' (nI K') (nI V)) (gC cy qC (u 0) (qG 0) (qS 0) (nI st) cst' ho' (nI Z') NN' l' NN' n' NN' f' NN' o') (fun _ => rfl) (fun j hj => rfl) hA.2.1 ⟨YS_0 hA.2.2.2.2.2.2.2, Or.inr ⟨qS, rfl, rfl, rfl, rfl⟩⟩ (Or.inr ⟨q, qC, u 0, qS 0, tl', nI K', nI V, ho', nI Z', NN', l', n', f', o', hxs, rfl, rfl, rfl, hA.2.2.2.2.2.1.1, cst_bd hcb hA.2.1, Or.inr ⟨V, Nat.le_refl _, rfl, fun _ => ⟨K', Z', ls', ln', fb', od', rfl, hA.2.2.2.1, rfl, hA.2.2.2.2.1, hA.2.2.2.2.2.1, hA.2.2.2.2.2.2.1, hA.2.2.2.2.2.2.2⟩⟩, rfl, rfl⟩)
            rw [show C - (4 + (8 + (4 * NN - 64))) + (4 + (8 + (4 * NN' - 64))) = C + (0 + (4 * NN' - (NN + NN + NN + NN))) by omega, show S - (98308 + (6083 + 2 * (4 * NN - 64))) + (98308 + (6083 + 2 * (4 * NN' - 64))) = S + (0 + 2 * (4 * NN' - (NN + NN + NN + NN))) by omega] at hO'
            exact ⟨_, Sel_trans (Sel_J3 (G := [gX cy qX (qG 0) (qP 0) (qR 0) (some (qS 0)) oB oE oN oL xw, gG cy qG (nI b) worth row' many' (nI V), gP cy qP told1 (nI (0 + r)) (nI 0) (nI r), gR cy qR (qG 0), wr, gS cy qS keys' tails' homes' (nI T'), gY cy q (qG 0) (qP 0) (qC 0) (nI st) tl' (nI K') (nI V), gC cy qC (u 0) (qG 0) (qS 0) (nI st) cst' ho' (nI Z') NN' l' NN' n' NN' f' NN' o']) [2, 7, 3, 0, 1, 6, 4, 5] rfl (by decide)) (Sel_last hs'), V, qX, qG, qP, qR, (some (qS 0)), oB, oE, oN, oL, xw, worth, row', many', told1, (nI (0 + r)), (nI 0), (nI r), w', rfl, rfl, hb, hw, by omega, hO'⟩
      · have y1 : wh = 1 := by omega
        subst y1
        obtain ⟨M', G', t', r', e1⟩ := come_yes (F := F) (M := M) (w := 1) (by omega) hb hf hst hM3 (by omega) hL d1 hr hcl0 m_many m_tail m_round m_figures
        rw [if_neg (show ¬ nI 1 = 0 by decide)] at e1
        have e2 : f_X10_come_B F (nI st) (nI M) (lN L) (nI 1) (nI b) worth row many told sz pt pr = some (nI r, row1, many1, told1, nI (0 + r), nI 0, nI r) := by
          unfold f_X10_come_B
          rw [isRound_1 hst, Option.bind_some, if_neg n10, p_within, Option.bind_some, if_neg i2, p_isNumber, Option.bind_some, if_neg i4, p_within, Option.bind_some, if_neg i5, d2, Option.bind_some]
          dsimp only
          rw [eR, Option.bind_some, if_neg n10, if_pos (show nI 1 = (1 : Int32) from rfl)]
        refine ⟨_, b, tb, mkO_i (A := [gX cy qX (qG 0) (qP 0) (qR 0) oS oB oE oN oL xw, gP cy qP told sz pt pr, gG cy qG (nI b) worth row many (nI V)]) (B := [gR cy qR (qG 0), wO]) (A1 := fun _ : Nat → Nat → Nat => [gX cy qX (qG 0) (qP 0) (qR 0) oS oB oE oN oL xw, gP cy qP told1 (nI (0 + r)) (nI 0) (nI r), gG cy qG (nI b) worth row1 many1 (nI V)]) (GL := [gX cy qX (qG 0) (qP 0) (qR 0) oS oB oE oN oL xw, gG cy qG (nI b) worth row many (nI V), gP cy qP told sz pt pr, gR cy qR (qG 0), wO]) [0, 2, 1, 3, 4] (Sel_refl _) rfl (by decide) (c_X10_come_B e2) ⟨0, _, rfl⟩ ⟨Nat.le_of_ble_eq_true rfl, Nat.le_of_ble_eq_true rfl⟩ (by show C + 0 ≤ 500000; omega) (by show S + 0 ≤ 7000000; omega) (fun _ => ⟨_, Sel_J3 (G := [gX cy qX (qG 0) (qP 0) (qR 0) oS oB oE oN oL xw, gG cy qG (nI b) worth row1 many1 (nI V), gP cy qP told1 (nI (0 + r)) (nI 0) (nI r), gR cy qR (qG 0), wO]) [2, 4, 3, 0, 1] rfl (by decide), V, qX, qG, qP, qR, oS, oB, oE, oN, oL, xw, worth, row1, many1, told1, (nI (0 + r)), (nI 0), (nI r), wO, rfl, rfl, hb, hw, by omega, OP_mo hO (by omega)⟩), mkM_i (c_X11_come e1) ⟨0, _, rfl⟩ ⟨by decide, by decide, rfl, rfl⟩ (Post := MS' cy b tb (qM 0)) ⟨qM, _, _, _, _, _, _, _, _, _, _, _, _, _, _, _, _, _, _, _, _, _, _, _, rfl, rfl, hf⟩⟩
    · obtain ⟨M', G', t', r', e1⟩ := come_no (F := F) (M := M) (w := wh) (by omega) hb hf hst hM3 hwh hL d1 hno m_many m_tail m_round m_figures
      have e2 : f_X10_come_B F (nI st) (nI M) (lN L) (nI wh) (nI b) worth row many told sz pt pr = some ((-4 : Int32), row1, many1, told1, nI (t + r), nI t, nI r) := by
        unfold f_X10_come_B
        rw [isRound_1 hst, Option.bind_some, if_neg n10, p_within, Option.bind_some, if_neg i2, p_isNumber, Option.bind_some, if_neg i4, p_within, Option.bind_some, if_neg i5, d2, Option.bind_some]
        dsimp only
        rw [eR, Option.bind_some, if_pos z00]
      refine ⟨_, b, tb, mkO_i (A := [gX cy qX (qG 0) (qP 0) (qR 0) oS oB oE oN oL xw, gP cy qP told sz pt pr, gG cy qG (nI b) worth row many (nI V)]) (B := [gR cy qR (qG 0), wO]) (A1 := fun _ : Nat → Nat → Nat => [gX cy qX (qG 0) (qP 0) (qR 0) oS oB oE oN oL xw, gP cy qP told1 (nI (t + r)) (nI t) (nI r), gG cy qG (nI b) worth row1 many1 (nI V)]) (GL := [gX cy qX (qG 0) (qP 0) (qR 0) oS oB oE oN oL xw, gG cy qG (nI b) worth row many (nI V), gP cy qP told sz pt pr, gR cy qR (qG 0), wO]) [0, 2, 1, 3, 4] (Sel_refl _) rfl (by decide) (c_X10_come_B e2) ⟨0, _, rfl⟩ ⟨Nat.le_of_ble_eq_true rfl, Nat.le_of_ble_eq_true rfl⟩ (by show C + 0 ≤ 500000; omega) (by show S + 0 ≤ 7000000; omega) (fun _ => ⟨_, Sel_J3 (G := [gX cy qX (qG 0) (qP 0) (qR 0) oS oB oE oN oL xw, gG cy qG (nI b) worth row1 many1 (nI V), gP cy qP told1 (nI (t + r)) (nI t) (nI r), gR cy qR (qG 0), wO]) [2, 4, 3, 0, 1] rfl (by decide), V, qX, qG, qP, qR, oS, oB, oE, oN, oL, xw, worth, row1, many1, told1, (nI (t + r)), (nI t), (nI r), wO, rfl, rfl, hb, hw, by omega, OP_mo hO (by omega)⟩), mkM_i (c_X11_come e1) ⟨0, _, rfl⟩ ⟨by decide, by decide, rfl, rfl⟩ (Post := MS' cy b tb (qM 0)) ⟨qM, _, _, _, _, _, _, _, _, _, _, _, _, _, _, _, _, _, _, _, _, _, _, _, rfl, rfl, hf⟩⟩
  · have e1 : f_X11_come F a1 a2 a3 a5 (nI b) m_f m_many m_figures m_tail m_round = some ((-1 : Int32), m_many, m_figures, m_tail, m_round) := by
      unfold f_X11_come f_X11_come_J9 f_X11_come_J43
      rw [p_inI F a2 0 3000 (a' := 0) (c' := 3000) rfl rfl, Option.bind_some, p_in, Option.bind_some, p_inI F a5 0 1 (a' := 0) (c' := 1) rfl rfl, Option.bind_some]
      by_cases z0 : a1 = 0 ∨ a1 = (3 : Int32)
      · have hb2 : ∀ x y : Option (Int32 × Int32 × (Nat → Int32) × Int32 × Int32), (if a1 = 0 then x else if a1 = (3 : Int32) then x else y) = x := fun x y => by
          rcases z0 with z | z
          · rw [if_pos z]
          · by_cases z' : a1 = 0
            · rw [if_pos z']
            · rw [if_neg z', if_pos z]
        rw [hb2]
        by_cases z2 : wi a2 0 3000 = 0
        · rw [if_pos z2]
        · rw [if_neg z2]
          by_cases z3 : wl a3 0 1000000000000000 = 0
          · rw [if_pos z3]
          · rw [if_neg z3]
            by_cases z4 : wi a5 0 1 = 0
            · rw [if_pos z4]
            · exact absurd ⟨z0, z2, z3, z4⟩ hin
      · rw [if_neg (fun q => z0 (Or.inl q)), if_neg (fun q => z0 (Or.inr q))]
    have e2 : f_X10_come_B F a1 a2 a3 a5 (nI b) worth row many told sz pt pr = some ((-1 : Int32), row, many, told, sz, pt, pr) := by
      unfold f_X10_come_B
      rw [p_isRS, Option.bind_some, p_within, Option.bind_some, p_isNumber, Option.bind_some, p_within, Option.bind_some]
      by_cases z0 : a1 = 0 ∨ a1 = (3 : Int32)
      · have hb2 : (if a1 = 0 then (1 : Int32) else if a1 = (3 : Int32) then 1 else 0) = 1 := by
          rcases z0 with z | z
          · rw [if_pos z]
          · by_cases z' : a1 = 0
            · rw [if_pos z']
            · rw [if_neg z', if_pos z]
        rw [hb2, if_neg n10]
        by_cases z2 : wi a2 0 3000 = 0
        · rw [if_pos z2]
        · rw [if_neg z2]
          by_cases z3 : wl a3 0 1000000000000000 = 0
          · rw [if_pos z3]
          · rw [if_neg z3]
            by_cases z4 : wi a5 0 1 = 0
            · rw [if_pos z4]
            · exact absurd ⟨z0, z2, z3, z4⟩ hin
      · rw [if_neg (fun q => z0 (Or.inl q)), if_neg (fun q => z0 (Or.inr q)), if_pos z00]
    refine ⟨_, b, tb, mkO_i (A := [gX cy qX (qG 0) (qP 0) (qR 0) oS oB oE oN oL xw, gP cy qP told sz pt pr, gG cy qG (nI b) worth row many (nI V)]) (B := [gR cy qR (qG 0), wO]) (A1 := fun _ : Nat → Nat → Nat => [gX cy qX (qG 0) (qP 0) (qR 0) oS oB oE oN oL xw, gP cy qP told sz pt pr, gG cy qG (nI b) worth row many (nI V)]) (GL := [gX cy qX (qG 0) (qP 0) (qR 0) oS oB oE oN oL xw, gG cy qG (nI b) worth row many (nI V), gP cy qP told sz pt pr, gR cy qR (qG 0), wO]) [0, 2, 1, 3, 4] (Sel_refl _) rfl (by decide) (c_X10_come_B e2) ⟨0, _, rfl⟩ ⟨Nat.le_of_ble_eq_true rfl, Nat.le_of_ble_eq_true rfl⟩ (by show C + 0 ≤ 500000; omega) (by show S + 0 ≤ 7000000; omega) (fun _ => ⟨_, Sel_J3 (G := [gX cy qX (qG 0) (qP 0) (qR 0) oS oB oE oN oL xw, gG cy qG (nI b) worth row many (nI V), gP cy qP told sz pt pr, gR cy qR (qG 0), wO]) [2, 4, 3, 0, 1] rfl (by decide), V, qX, qG, qP, qR, oS, oB, oE, oN, oL, xw, worth, row, many, told, sz, pt, pr, wO, rfl, rfl, hb, hw, by omega, OP_mo hO (by omega)⟩), mkM_i (c_X11_come e1) ⟨0, _, rfl⟩ ⟨by decide, by decide, rfl, rfl⟩ (Post := MS' cy b tb (qM 0)) ⟨qM, _, _, _, _, _, _, _, _, _, _, _, _, _, _, _, _, _, _, _, _, _, _, _, rfl, rfl, hf⟩⟩
