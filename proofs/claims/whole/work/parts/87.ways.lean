/-! the ways to M: there, or made now -/
theorem isRound_0 {F st : Nat} (hst : st ≤ 5) (h0 : st ≠ 0) (h3 : st ≠ 3) : f_X10_isRoundStep F (nI st) = some (0 : Int32) := by
  have hc : st = 1 ∨ st = 2 ∨ st = 4 ∨ st = 5 := by omega
  rcases hc with rfl | rfl | rfl | rfl <;> rfl
theorem isRound_1 {F st : Nat} (hst : st = 0 ∨ st = 3) : f_X10_isRoundStep F (nI st) = some (1 : Int32) := by
  rcases hst with rfl | rfl <;> rfl
theorem in6 {st : Nat} (h : st ≤ 5) : ¬ (nI st < 0 ∨ 6 ≤ (nI st).toNatClampNeg) := in_ok (by omega) (by omega)
theorem w_Z {F b st M V : Nat} {tb : Nat → Nat} {worth tails : Nat → Int32} {told : Nat → Int64} {sz pt pr zk zv : Int32} (hF : 5000 ≤ F) (hb : bOK b) (hw : tbOK worth tb) (hst : st ≤ 5) (hM : M ≤ 3000) (hV : V < 100000) (h : verOK zv V (ZK (stepN b tb st) zk tails)) (row many : Nat → Int32) : ∃ row' many' told' sz' pt' pr' tails' K', f_X10_waysTo_Z F (nI st) (nI M) (nI b) worth row many (nI V) told sz pt pr (nI st) tails zk zv = some (row', many', told', sz', pt', pr', tails', nI K', nI V) ∧ M < K' ∧ K' ≤ 3001 ∧ ∀ j, j < K' → TL (stepN b tb st) j (tails' j) := by
  obtain ⟨r1, r2, r3, r4, r5, r6, r7, K', e, g⟩ := p_reachZ (F := F) (told := told) (sz := sz) (pt := pt) (pr := pr) hF hb hw hst hM hV h row many
  refine ⟨r1, r2, r3, r4, r5, r6, r7, K', ?_, g⟩
  unfold f_X10_waysTo_Z
  rw [ck_pos (in6 hst), e, Option.bind_some]
theorem w_ZN {F b st M V : Nat} {tb : Nat → Nat} {worth : Nat → Int32} {told : Nat → Int64} {sz pt pr : Int32} (hF : 5000 ≤ F) (hb : bOK b) (hw : tbOK worth tb) (hst : st ≤ 5) (h0 : st ≠ 0) (h3 : st ≠ 3) (hM : M ≤ 3000) (hV : V < 100000) (row many : Nat → Int32) : ∃ row' many' told' sz' pt' pr' tails' K', f_X10_waysTo_ZN F (nI st) (nI M) (nI b) worth row many (nI V) told sz pt pr = some (row', many', told', sz', pt', pr', nI st, tails', nI K', nI V) ∧ M < K' ∧ K' ≤ 3001 ∧ ∀ j, j < K' → TL (stepN b tb st) j (tails' j) := by
  obtain ⟨r1, r2, r3, r4, r5, r6, r7, K', e, g⟩ := p_reachZ (F := F) (told := told) (sz := sz) (pt := pt) (pr := pr) (tails := fun _ => 0) (zk := 0) (zv := (-1 : Int32)) hF hb hw hst hM hV (Or.inl rfl) row many
  refine ⟨r1, r2, r3, r4, r5, r6, r7, K', ?_, g⟩
  unfold f_X10_waysTo_ZN
  rw [ck_pos (in6 hst), isRound_0 hst h0 h3, Option.bind_some, ck_pos z00, ck_pos (in6 hst), e, Option.bind_some]
/-- what the ways with rounds are behind a call -/
def wyR (s : Nat → Nat) (B : Nat) (D : List Nat) (M T NN : Nat) (cst : Int32) (keys : Nat → Int64) (tails homes : Nat → Int32) (NN' Z' T' K' : Nat) (cst' : Int32) (keys' : Nat → Int64) (tails' homes' tl' ho' : Nat → Int32) (ls' ln' fb' od' : Nat → Nat) (leasts' : Nat → Int64) (lengths' firstBy' order' : Nat → Int32) : Prop := NN ≤ NN' ∧ ((cst' = nI T' ∧ ((cst = nI T ∧ T' = T) ∨ T' = T + 1)) ∨ (T' = T ∧ keys' = keys ∧ tails' = tails ∧ homes' = homes ∧ (cst' = cst ∨ cst' = (-1 : Int32)))) ∧ M < K' ∧ K' ≤ 20001 ∧ CS s B Z' ls' ln' fb' od' ∧ CA Z' NN' ls' ln' fb' od' leasts' lengths' firstBy' order' ∧ KN s K' Z' ls' fb' tl' ho' ∧ YS s B D T' Z' ls' ln' keys' tails' homes' cst'
theorem ver_WY {s : Nat → Nat} {B : Nat} {D : List Nat} {T V : Nat} {tl : Nat → Int32} {known yv cst : Int32} {ho : Nat → Int32} {size : Int32} {NN : Nat} {leasts : Nat → Int64} {lengths firstBy order : Nat → Int32} {keys : Nat → Int64} {tails homes : Nat → Int32} (hV : V < 100000) (hN : ∃ j, j ≤ 11 ∧ NN = 16 * 2 ^ j) (h : verOK yv V (YG s B D T tl known cst ho size NN leasts lengths firstBy order keys tails homes)) : WY s B D T V tl known yv cst ho size NN leasts lengths firstBy order keys tails homes := by
  refine ⟨hN, fun q => ?_⟩
  rcases h with z | ⟨k, z1, z2, z3⟩
  · rw [z] at q; exact absurd q (m1_nI (by omega))
  · exact z3 ((nI_eq (by omega) (by omega)).mp (by rw [← z2, q]))
theorem w_Y {F b st M T V NN : Nat} {tb : Nat → Nat} {worth : Nat → Int32} {known yv cst size : Int32} {tl ho : Nat → Int32} {leasts : Nat → Int64} {lengths firstBy order : Nat → Int32} {keys : Nat → Int64} {tails homes : Nat → Int32} (hF : 70000 ≤ F) (hb : bOK b) (hw : tbOK worth tb) (hst : st = 0 ∨ st = 3) (hM : M ≤ 20000) (hT : T + 2 < 2 ^ 20) (hV : V < 100000) (hT0 : TAB0 T keys) (hN : ∃ j, j ≤ 11 ∧ NN = 16 * 2 ^ j) (h : verOK yv V (YG (stepN b tb st) (BB b) (DB b tb st) T tl known cst ho size NN leasts lengths firstBy order keys tails homes)) (row many : Nat → Int32) : ∃ (pl : List Nat) (NN' Z' T' K' : Nat) (cst' : Int32) (row' many' : Nat → Int32) (keys' : Nat → Int64) (tails' homes' tl' ho' : Nat → Int32) (ls' ln' fb' od' : Nat → Nat) (leasts' : Nat → Int64) (lengths' firstBy' order' : Nat → Int32), f_X10_waysTo_Y F (4 * NN') pl (nI st) (nI M) (nI b) worth row many (nI V) keys tails homes (nI T) (nI st) tl known yv (nI st) cst ho size NN leasts NN lengths NN firstBy NN order = some (row', many', keys', tails', homes', nI T', tl', nI K', nI V, cst', ho', nI Z', NN', leasts', NN', lengths', NN', firstBy', NN', order') ∧ wyR (stepN b tb st) (BB b) (DB b tb st) M T NN cst keys tails homes NN' Z' T' K' cst' keys' tails' homes' tl' ho' ls' ln' fb' od' leasts' lengths' firstBy' order' := by
  obtain ⟨pl, NN', Z', T', K', cst', row', many', keys', tails', homes', tl', ho', ls', ln', fb', od', l', n', f', o', e, g⟩ := p_reachY (F := F) hF hb hw hst hM hT hT0 (ver_WY hV hN h) row many
  refine ⟨pl, NN', Z', T', K', cst', row', many', keys', tails', homes', tl', ho', ls', ln', fb', od', l', n', f', o', ?_, g⟩
  have := g.1
  dsimp only at e
  unfold f_X10_waysTo_Y
  rw [ck_pos (in6 (by omega)), ck_pos ⟨by omega, Nat.le_refl _⟩, e, Option.bind_some]
  dsimp only
  rw [ck_pos (by omega)]
theorem WY_new (s : Nat → Nat) (B : Nat) (D : List Nat) (T V : Nat) (hV : V < 100000) (keys : Nat → Int64) (tails homes : Nat → Int32) : WY s B D T V (fun _ => 0) (0 : Int32) (-1 : Int32) (-1 : Int32) (fun _ => 0) (0 : Int32) 16 (fun _ => 0) (fun _ => 0) (fun _ => 0) (fun _ => 0) keys tails homes := ⟨⟨0, by omega, rfl⟩, fun q => absurd q (m1_nI (by omega))⟩
theorem w_YS {F b st M T V : Nat} {tb : Nat → Nat} {worth : Nat → Int32} {keys : Nat → Int64} {tails homes : Nat → Int32} (hF : 70000 ≤ F) (hb : bOK b) (hw : tbOK worth tb) (hst : st = 0 ∨ st = 3) (hM : M ≤ 20000) (hT : T + 2 < 2 ^ 20) (hV : V < 100000) (hT0 : TAB0 T keys) (row many : Nat → Int32) : ∃ (pl : List Nat) (NN' Z' T' K' : Nat) (cst' : Int32) (row' many' : Nat → Int32) (keys' : Nat → Int64) (tails' homes' tl' ho' : Nat → Int32) (ls' ln' fb' od' : Nat → Nat) (leasts' : Nat → Int64) (lengths' firstBy' order' : Nat → Int32), f_X10_waysTo_YS F (4 * NN') pl (nI st) (nI M) (nI b) worth row many (nI V) keys tails homes (nI T) = some (row', many', keys', tails', homes', nI T', nI st, tl', nI K', nI V, nI st, cst', ho', nI Z', NN', leasts', NN', lengths', NN', firstBy', NN', order') ∧ wyR (stepN b tb st) (BB b) (DB b tb st) M T 16 (-1 : Int32) keys tails homes NN' Z' T' K' cst' keys' tails' homes' tl' ho' ls' ln' fb' od' leasts' lengths' firstBy' order' := by
  obtain ⟨pl, NN', Z', T', K', cst', row', many', keys', tails', homes', tl', ho', ls', ln', fb', od', l', n', f', o', e, g⟩ := p_reachY (F := F) hF hb hw hst hM hT hT0 (WY_new (stepN b tb st) (BB b) (DB b tb st) T V hV keys tails homes) row many
  refine ⟨pl, NN', Z', T', K', cst', row', many', keys', tails', homes', tl', ho', ls', ln', fb', od', l', n', f', o', ?_, g⟩
  have := g.1
  dsimp only at e
  unfold f_X10_waysTo_YS f_X10_slotsOnce_P
  rw [ck_pos (in6 (by omega)), isRound_1 hst, Option.bind_some, ck_pos n10, Option.bind_some, ck_pos (in6 (by omega)), ck_pos ⟨by omega, Nat.le_refl _⟩, e, Option.bind_some]
  dsimp only
  rw [ck_pos (by omega)]
theorem w_YN {F b st M V : Nat} {tb : Nat → Nat} {worth : Nat → Int32} (hF : 70000 ≤ F) (hb : bOK b) (hw : tbOK worth tb) (hst : st = 0 ∨ st = 3) (hM : M ≤ 20000) (hV : V < 100000) (row many : Nat → Int32) : ∃ (pl : List Nat) (NN' Z' T' K' : Nat) (cst' : Int32) (row' many' : Nat → Int32) (keys' : Nat → Int64) (tails' homes' tl' ho' : Nat → Int32) (ls' ln' fb' od' : Nat → Nat) (leasts' : Nat → Int64) (lengths' firstBy' order' : Nat → Int32), f_X10_waysTo_YN F (4 * NN') pl (nI st) (nI M) (nI b) worth row many (nI V) = some (row', many', keys', tails', homes', nI T', nI st, tl', nI K', nI V, nI st, cst', ho', nI Z', NN', leasts', NN', lengths', NN', firstBy', NN', order') ∧ wyR (stepN b tb st) (BB b) (DB b tb st) M 0 16 (-1 : Int32) (fun _ => 0) (fun _ => 0) (fun _ => 0) NN' Z' T' K' cst' keys' tails' homes' tl' ho' ls' ln' fb' od' leasts' lengths' firstBy' order' := by
  obtain ⟨pl, NN', Z', T', K', cst', row', many', keys', tails', homes', tl', ho', ls', ln', fb', od', l', n', f', o', e, g⟩ := p_reachY (F := F) (T := 0) hF hb hw hst hM (by omega) TAB0_new (WY_new (stepN b tb st) (BB b) (DB b tb st) 0 V hV (fun _ => 0) (fun _ => 0) (fun _ => 0)) row many
  refine ⟨pl, NN', Z', T', K', cst', row', many', keys', tails', homes', tl', ho', ls', ln', fb', od', l', n', f', o', ?_, g⟩
  have := g.1
  dsimp only at e
  have e' : f_X9_reach_Y F (4 * NN') pl (nI M) (nI b) worth row many (nI V) (fun _ => 0) (fun _ => 0) (fun _ => 0) (0 : Int32) (nI st) (fun _ => 0) (0 : Int32) (-1 : Int32) (nI st) (-1 : Int32) (fun _ => 0) (0 : Int32) 16 (fun _ => 0) 16 (fun _ => 0) 16 (fun _ => 0) 16 (fun _ => 0) = some (row', many', keys', tails', homes', nI T', tl', nI K', nI V, cst', ho', nI Z', NN', l', NN', n', NN', f', NN', o') := e
  unfold f_X10_waysTo_YN f_X10_slotsOnce_N
  rw [ck_pos (in6 (by omega)), isRound_1 hst, Option.bind_some, ck_pos n10, Option.bind_some, ck_pos (in6 (by omega)), ck_pos ⟨by omega, Nat.le_refl _⟩]
  dsimp only
  rw [e', Option.bind_some]
  dsimp only
  rw [ck_pos (by omega)]
