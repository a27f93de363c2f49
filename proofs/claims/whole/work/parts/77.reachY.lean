/-! the tails from 0 on, for SUM and SORTED -/
def KN (s : Nat → Nat) (K Z : Nat) (ls fb : Nat → Nat) (tl ho : Nat → Int32) : Prop := (∀ n, n < K → ∃ t r h, CY s n t r ∧ h < Z ∧ CM s n (ls h) ∧ (n < 3001 → tl n = rtT t r ∧ ho n = rtH t r h) ∧ (t + r ≤ 300 → fb h ≤ n)) ∧ ∀ h, h < Z → fb h = 20001 ∨ (fb h < K ∧ ∃ t r, CY s (fb h) t r ∧ t + r ≤ 300 ∧ CM s (fb h) (ls h))
theorem KN_0 {s : Nat → Nat} {ls fb : Nat → Nat} {tl ho : Nat → Int32} : KN s 0 0 ls fb tl ho := ⟨fun n hn => absurd hn (Nat.not_lt_zero _), fun h hh => absurd hh (Nat.not_lt_zero _)⟩
theorem hoU_s {ho : Nat → Int32} {n : Nat} {v : Int32} (h : n < 3001) : hoU ho n v n = v := by unfold hoU; rw [if_pos h, pk_us]
theorem hoU_n {ho : Nat → Int32} {n i : Nat} {v : Int32} (h : i ≠ n) : hoU ho n v i = ho i := by
  unfold hoU
  split
  · exact pk_un h
  · rfl
theorem KN_step {s : Nat → Nat} {K Z Z' t r h : Nat} {ls ln fb ls' ln' fb' : Nat → Nat} {tl ho : Nat → Int32} (hK : KN s K Z ls fb tl ho) (hK2 : K ≤ 20000) (hE : EXT Z Z' ls ln fb ls' ln' fb') (hc : CY s K t r) (hh : h < Z') (hm : CM s K (ls' h)) : KN s (K + 1) Z' ls' (fbU fb' t r h K) (hoU tl K (rtT t r)) (hoU ho K (rtH t r h)) := by
  obtain ⟨k1, k2⟩ := hK
  obtain ⟨e1, e2, e3⟩ := hE
  have old : ∀ i, i < Z' → fb' i = 20001 ∨ (fb' i < K + 1 ∧ ∃ t r, CY s (fb' i) t r ∧ t + r ≤ 300 ∧ CM s (fb' i) (ls' i)) := by
    intro i hi
    rcases Nat.lt_or_ge i Z with z | z
    · obtain ⟨q1, q2, q3⟩ := e2 i z
      rw [q3, q1]
      rcases k2 i z with v | ⟨v1, v2⟩
      · exact Or.inl v
      · exact Or.inr ⟨by omega, v2⟩
    · exact Or.inl (e3 i z hi)
  refine ⟨fun n hn => ?_, fun i hi => ?_⟩
  · by_cases z : n = K
    · subst z
      refine ⟨t, r, h, hc, hh, hm, fun q => ⟨hoU_s q, hoU_s q⟩, fun q => ?_⟩
      unfold fbU
      rw [if_pos q, upN_s]
      split <;> omega
    · obtain ⟨t0, r0, h0, q1, q2, q3, q4, q5⟩ := k1 n (by omega)
      obtain ⟨w1, w2, w3⟩ := e2 h0 q2
      refine ⟨t0, r0, h0, q1, by omega, by rw [w1]; exact q3, fun q => ?_, fun q => ?_⟩
      · rw [hoU_n z, hoU_n z]; exact q4 q
      · have u1 := q5 q
        have u2 : fbU fb' t r h K h0 ≤ fb' h0 := fbU_le
        omega
  · unfold fbU
    by_cases z : t + r ≤ 300
    · rw [if_pos z]
      by_cases y : i = h
      · subst y
        rw [upN_s]
        by_cases v : K < fb' i
        · rw [if_pos v]
          exact Or.inr ⟨by omega, t, r, hc, z, hm⟩
        · rw [if_neg v]
          exact old i hi
      · rw [upN_n y]
        exact old i hi
    · rw [if_neg z]
      exact old i hi
abbrev R18 : Type := (Nat → Int32) × (Nat → Int32) × (Nat → Int64) × (Nat → Int32) × (Nat → Int32) × Int32 × (Nat → Int32) × Int32 × (Nat → Int32) × Int32 × Nat × (Nat → Int64) × Nat × (Nat → Int32) × Nat × (Nat → Int32) × Nat × (Nat → Int32)
/-- what the loop of reach gives -/
def rlR (f : List Nat → Nat → Option R18) (s : Nat → Nat) (B : Nat) (D : List Nat) (M T : Nat) (cst : Int32) (NN : Nat) (keys : Nat → Int64) (tails homes : Nat → Int32) : Prop := ∃ (pl : List Nat) (NN' Z' T' : Nat) (cst' : Int32) (row' many' : Nat → Int32) (keys' : Nat → Int64) (tails' homes' tl' ho' : Nat → Int32) (ls' ln' fb' od' : Nat → Nat) (leasts' : Nat → Int64) (lengths' firstBy' order' : Nat → Int32), (∀ pm, 4 * NN' ≤ pm → f pl pm = some (row', many', keys', tails', homes', nI T', tl', cst', ho', nI Z', NN', leasts', NN', lengths', NN', firstBy', NN', order')) ∧ NN ≤ NN' ∧ ((cst' = nI T' ∧ ((cst = nI T ∧ T' = T) ∨ (cst ≠ nI T ∧ T' = T + 1))) ∨ (T' = T ∧ keys' = keys ∧ tails' = tails ∧ homes' = homes ∧ cst' = cst)) ∧ CS s B Z' ls' ln' fb' od' ∧ CA Z' NN' ls' ln' fb' od' leasts' lengths' firstBy' order' ∧ KN s (M + 1) Z' ls' fb' tl' ho' ∧ YS s B D T' Z' ls' ln' keys' tails' homes' cst'
theorem reach_loop {F b st M : Nat} {B : Nat} {D : List Nat} {tb : Nat → Nat} {worth : Nat → Int32} {yk yv : Int32} (hF : 70000 ≤ F) (hb : bOK b) (hw : tbOK worth tb) (hst : st = 0 ∨ st = 3) (hM : M ≤ 20000) (hA : AM (stepN b tb st) B D) : ∀ (d K G T Z NN : Nat) (row many : Nat → Int32) (keys : Nat → Int64) (tails homes tl ho : Nat → Int32) (cst : Int32) (ls ln fb od : Nat → Nat) (leasts : Nat → Int64) (lengths firstBy order : Nat → Int32), K + d = M + 1 → d < G → (T + 2 < 2 ^ 20 ∨ (cst = nI T ∧ T + 1 < 2 ^ 20)) → CS (stepN b tb st) B Z ls ln fb od → CA Z NN ls ln fb od leasts lengths firstBy order → KN (stepN b tb st) K Z ls fb tl ho → YS (stepN b tb st) B D T Z ls ln keys tails homes cst → rlR (fun pl pm => lp (f_X9_reach_Y_B49 F (nI M) (nI st) (nI st) (nI b) worth pm yk yv) G (nI K, row, many, keys, tails, homes, nI T, tl, cst, ho, nI Z, NN, leasts, NN, lengths, NN, firstBy, NN, order, pl)) (stepN b tb st) B D M T cst NN keys tails homes
  | _, _, 0, _, _, _, _, _, _, _, _, _, _, _, _, _, _, _, _, _, _, _, _, h, _, _, _, _, _ => absurd h (Nat.not_lt_zero _)
  | 0, K, G + 1, T, Z, NN, row, many, keys, tails, homes, tl, ho, cst, ls, ln, fb, od, leasts, lengths, firstBy, order, hK, _, hT, hS, hC, hN, hY => by
    have e0 : K = M + 1 := by omega
    subst e0
    refine ⟨[], NN, Z, T, cst, row, many, keys, tails, homes, tl, ho, ls, ln, fb, od, leasts, lengths, firstBy, order, fun pm _ => ?_, Nat.le_refl _, Or.inr ⟨rfl, rfl, rfl, rfl, rfl⟩, hS, hC, hN, hY⟩
    dsimp only
    rw [lp_succ]
    unfold f_X9_reach_Y_B49
    dsimp only
    rw [if_pos (nI_lt (by omega) (by omega))]
  | d + 1, K, G + 1, T, Z, NN, row, many, keys, tails, homes, tl, ho, cst, ls, ln, fb, od, leasts, lengths, firstBy, order, hK, hG, hT, hS, hC, hN, hY => by
    have hT1 : T + 1 < 2 ^ 20 := by
      rcases hT with q | q
      · omega
      · exact q.2
    obtain ⟨T1, t3, NN1, Z1, row1, many1, keys1, tails1, homes1, ls1, ln1, fb1, od1, l1, n1, f1, o1, m1, t, r, h, e1, g1, g2, g3, g4, g5, g6, g7, g8, g9, g10⟩ := p_tailFrom (F := F) (n := K) (cho := ho) hF hb hw (by omega) hT1 (by omega) hA hY hS hC row many
    dsimp only at e1
    obtain ⟨hN1, hN2⟩ := CA_N hC
    have hN' := KN_step hN (by omega) g2 g7 g8 g10
    have hY1 : YS (stepN b tb st) B D T1 Z1 ls1 ln1 keys1 tails1 homes1 (nI T1) := Or.inl ⟨rfl, m1, g5, g6⟩
    obtain ⟨pl, NN', Z', T', cst', row', many', keys', tails', homes', tl', ho', ls', ln', fb', od', l', n', f', o', e2, k1, k5, k6⟩ := reach_loop (yk := yk) (yv := yv) hF hb hw hst hM hA d (K + 1) G T1 Z1 NN1 row1 many1 keys1 tails1 homes1 (hoU tl K (rtT t r)) (hoU ho K (rtH t r h)) (nI T1) ls1 ln1 _ od1 l1 n1 f1 o1 (by omega) (by omega) (Or.inr ⟨rfl, by
      rcases hT with q | ⟨q1, q2⟩
      · rcases t3 with v | v <;> omega
      · rcases t3 with v | v
        · omega
        · exact absurd q1 v.1⟩) g3 g4 hN' hY1
    have hT' : T' = T1 ∧ cst' = nI T1 := by
      rcases k5 with ⟨q1, ⟨_, q2⟩ | ⟨q2, _⟩⟩ | ⟨q1, _, _, _, q2⟩
      · exact ⟨q2, by rw [q1, q2]⟩
      · exact absurd rfl q2
      · exact ⟨q1, q2⟩
    obtain ⟨rfl, hcst'⟩ := hT'
    refine ⟨4 * NN1 :: pl, NN', Z', T', cst', row', many', keys', tails', homes', tl', ho', ls', ln', fb', od', l', n', f', o', fun pm hpm => ?_, by omega, Or.inl ⟨hcst', t3⟩, k6⟩
    have e2 := e2 pm hpm
    dsimp only at e2 ⊢
    rw [lp_succ]
    generalize lp (f_X9_reach_Y_B49 F (nI M) (nI st) (nI st) (nI b) worth pm yk yv) G = rec at e2 ⊢
    unfold f_X9_reach_Y_B49 f_X9_reach_Y_J74 f_X9_reach_Y_J118
    dsimp only
    rw [if_neg (nI_nlt (by omega) (by omega)), if_neg (show ¬ nI st = (4 : Int32) from fun q => by
      have := (nI_eq (a := st) (b := 4) (by omega) (by omega)).mp q
      omega)]
    show ck (NN + NN + NN + NN ≤ 4 * NN1 ∧ 4 * NN1 ≤ pm) _ = _
    rw [ck_pos ⟨by omega, by omega⟩, e1, Option.bind_some]
    dsimp only
    rw [ck_pos (by omega), nI_1]
    unfold hoU at e2
    by_cases z : K < 3001
    · rw [if_neg (show ¬ (3001 : Int32) ≤ nI K from nI_ge (a := K) (b := 3001) z (by omega)), ck_pos (in_ok z (by omega)), nI_clamp (by omega)]
      unfold hoU
      rw [if_pos z] at e2 ⊢
      rw [if_pos z] at e2
      exact e2
    · rw [if_pos (show (3001 : Int32) ≤ nI K from nI_le (a := 3001) (b := K) (by omega) (by omega))]
      unfold hoU
      rw [if_neg z] at e2 ⊢
      rw [if_neg z] at e2
      exact e2
/-- what stands in the ways of SUM or SORTED -/
def WY (s : Nat → Nat) (B : Nat) (D : List Nat) (T V : Nat) (tl : Nat → Int32) (known yver cst : Int32) (ho : Nat → Int32) (size : Int32) (NN : Nat) (leasts : Nat → Int64) (lengths firstBy order : Nat → Int32) (keys : Nat → Int64) (tails homes : Nat → Int32) : Prop := (∃ k, k ≤ 11 ∧ NN = 16 * 2 ^ k) ∧ (yver = nI V → ∃ K Z ls ln fb od, known = nI K ∧ K ≤ 20001 ∧ size = nI Z ∧ CS s B Z ls ln fb od ∧ CA Z NN ls ln fb od leasts lengths firstBy order ∧ KN s K Z ls fb tl ho ∧ YS s B D T Z ls ln keys tails homes cst)
theorem m1_nI {T : Nat} (h : T < 2 ^ 31) : (-1 : Int32) ≠ nI T := fun q => nI_m1 h q.symm
abbrev R20 : Type := (Nat → Int32) × (Nat → Int32) × (Nat → Int64) × (Nat → Int32) × (Nat → Int32) × Int32 × (Nat → Int32) × Int32 × Int32 × Int32 × (Nat → Int32) × Int32 × Nat × (Nat → Int64) × Nat × (Nat → Int32) × Nat × (Nat → Int32) × Nat × (Nat → Int32)
/-- what reach gives -/
def ryR (f : Nat → List Nat → Option R20) (s : Nat → Nat) (B : Nat) (D : List Nat) (M T V : Nat) (cst : Int32) (NN : Nat) (keys : Nat → Int64) (tails homes : Nat → Int32) : Prop := ∃ (pl : List Nat) (NN' Z' T' K' : Nat) (cst' : Int32) (row' many' : Nat → Int32) (keys' : Nat → Int64) (tails' homes' tl' ho' : Nat → Int32) (ls' ln' fb' od' : Nat → Nat) (leasts' : Nat → Int64) (lengths' firstBy' order' : Nat → Int32), f (4 * NN') pl = some (row', many', keys', tails', homes', nI T', tl', nI K', nI V, cst', ho', nI Z', NN', leasts', NN', lengths', NN', firstBy', NN', order') ∧ NN ≤ NN' ∧ ((cst' = nI T' ∧ ((cst = nI T ∧ T' = T) ∨ T' = T + 1)) ∨ (T' = T ∧ keys' = keys ∧ tails' = tails ∧ homes' = homes ∧ (cst' = cst ∨ cst' = (-1 : Int32)))) ∧ M < K' ∧ K' ≤ 20001 ∧ CS s B Z' ls' ln' fb' od' ∧ CA Z' NN' ls' ln' fb' od' leasts' lengths' firstBy' order' ∧ KN s K' Z' ls' fb' tl' ho' ∧ YS s B D T' Z' ls' ln' keys' tails' homes' cst'
theorem p_reachY {F b st M T V NN : Nat} {tb : Nat → Nat} {worth : Nat → Int32} {known yver cst size : Int32} {tl ho : Nat → Int32} {leasts : Nat → Int64} {lengths firstBy order : Nat → Int32} {keys : Nat → Int64} {tails homes : Nat → Int32} (hF : 70000 ≤ F) (hb : bOK b) (hw : tbOK worth tb) (hst : st = 0 ∨ st = 3) (hM : M ≤ 20000) (hT : T + 2 < 2 ^ 20) (hT0 : TAB0 T keys) (hW : WY (stepN b tb st) (BB b) (DB b tb st) T V tl known yver cst ho size NN leasts lengths firstBy order keys tails homes) (row many : Nat → Int32) : ryR (fun pm pl => f_X9_reach_Y F pm pl (nI M) (nI b) worth row many (nI V) keys tails homes (nI T) (nI st) tl known yver (nI st) cst ho size NN leasts NN lengths NN firstBy NN order) (stepN b tb st) (BB b) (DB b tb st) M T V cst NN keys tails homes := by
  have hA := AM_of (st := st) hb (tbB_of hw) hst
  obtain ⟨hNN, hW⟩ := hW
  by_cases hv : yver = nI V
  · obtain ⟨K, Z, ls, ln, fb, od, rfl, hK, rfl, hS, hC, hN, hY⟩ := hW hv
    subst hv
    rcases Nat.lt_or_ge M K with z | z
    · -- all is known
      refine ⟨[], NN, Z, T, K, cst, row, many, keys, tails, homes, tl, ho, ls, ln, fb, od, leasts, lengths, firstBy, order, ?_, Nat.le_refl _, Or.inr ⟨rfl, rfl, rfl, rfl, Or.inl rfl⟩, z, hK, hS, hC, hN, hY⟩
      dsimp only
      unfold f_X9_reach_Y f_X9_reach_Y_J44
      obtain ⟨G, rfl⟩ : ∃ G, F = G + 1 := ⟨F - 1, by omega⟩
      rw [ck_pos (by omega), if_pos rfl, lp_succ]
      generalize lp (f_X9_reach_Y_B49 (G + 1) (nI M) (nI st) (nI st) (nI b) worth (4 * NN) (nI K) (nI V)) G = rec
      unfold f_X9_reach_Y_B49
      dsimp only
      rw [if_pos (nI_lt z (by omega)), Option.bind_some]
      dsimp only
      rw [ck_pos (by omega), nI_1, if_neg (nI_nlt (by omega) (by omega))]
    · obtain ⟨pl, NN', Z', T', cst', row', many', keys', tails', homes', tl', ho', ls', ln', fb', od', l', n', f', o', e2, k1, k5, k6, k7, k8, k9⟩ := reach_loop (yk := nI K) (yv := nI V) hF hb hw hst hM hA (M + 1 - K) K F T Z NN row many keys tails homes tl ho cst ls ln fb od leasts lengths firstBy order (by omega) (by omega) (Or.inl hT) hS hC hN hY
      refine ⟨pl, NN', Z', T', M + 1, cst', row', many', keys', tails', homes', tl', ho', ls', ln', fb', od', l', n', f', o', ?_, k1, k5.imp (fun q => ⟨q.1, q.2.imp id (fun q => q.2)⟩) (fun q => ⟨q.1, q.2.1, q.2.2.1, q.2.2.2.1, Or.inl q.2.2.2.2⟩), by omega, by omega, k6, k7, k8, k9⟩
      have e2 := e2 (4 * NN') (Nat.le_refl _)
      dsimp only at e2 ⊢
      unfold f_X9_reach_Y f_X9_reach_Y_J44
      rw [ck_pos (by omega), if_pos rfl, e2, Option.bind_some]
      dsimp only
      rw [ck_pos (by omega), nI_1, if_pos (nI_lt (by omega) (by omega))]
  · -- what was known is of another base or table
    have hC0 : CA 0 NN (fun _ => 0) (fun _ => 0) (fun _ => 0) (fun _ => 0) leasts lengths firstBy order := ⟨hNN, Nat.zero_le _, fun i hi => absurd hi (Nat.not_lt_zero _)⟩
    have hS0 : CS (stepN b tb st) (BB b) 0 (fun _ => 0) (fun _ => 0) (fun _ => 0) (fun _ => 0) := ⟨fun h hh => absurd hh (Nat.not_lt_zero _), fun h hh => absurd hh (Nat.not_lt_zero _), fun i j _ hh => absurd hh (Nat.not_lt_zero _), fun h hh => absurd hh (Nat.not_lt_zero _)⟩
    obtain ⟨pl, NN', Z', T', cst', row', many', keys', tails', homes', tl', ho', ls', ln', fb', od', l', n', f', o', e2, k1, k5, k6, k7, k8, k9⟩ := reach_loop (yk := (0 : Int32)) (yv := nI V) hF hb hw hst hM hA (M + 1) 0 F T 0 NN row many keys tails homes tl ho (-1 : Int32) _ _ _ _ leasts lengths firstBy order (by omega) (by omega) (Or.inl hT) hS0 hC0 KN_0 (Or.inr ⟨m1_nI (by omega), hT0⟩)
    refine ⟨pl, NN', Z', T', M + 1, cst', row', many', keys', tails', homes', tl', ho', ls', ln', fb', od', l', n', f', o', ?_, k1, k5.imp (fun q => ⟨q.1, Or.inr (q.2.elim (fun v => absurd v.1 (m1_nI (by omega))) (fun v => v.2))⟩) (fun q => ⟨q.1, q.2.1, q.2.2.1, q.2.2.2.1, Or.inr q.2.2.2.2⟩), by omega, by omega, k6, k7, k8, k9⟩
    have e2 := e2 (4 * NN') (Nat.le_refl _)
    dsimp only at e2 ⊢
    unfold f_X9_reach_Y f_X9_reach_Y_J44 f_X0_forget
    rw [ck_pos (by omega), if_neg hv, Option.bind_some]
    have e2' : lp (f_X9_reach_Y_B49 F (nI M) (nI st) (nI st) (nI b) worth (4 * NN') (0 : Int32) (nI V)) F ((0 : Int32), row, many, keys, tails, homes, nI T, tl, (-1 : Int32), ho, (0 : Int32), NN, leasts, NN, lengths, NN, firstBy, NN, order, pl) = some (row', many', keys', tails', homes', nI T', tl', cst', ho', nI Z', NN', l', NN', n', NN', f', NN', o') := e2
    dsimp only
    rw [e2', Option.bind_some]
    dsimp only
    rw [ck_pos (by omega), nI_1, if_pos (show (0 : Int32) < nI (M + 1) from nI_lt (a := 0) (b := M + 1) (by omega) (by omega))]
