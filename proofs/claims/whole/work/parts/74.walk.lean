/-! a round's least number and place; numbers that were walked get their tails -/
theorem CY_D {s : Nat → Nat} {B : Nat} {D : List Nat} (hA : AM s B D) {y r : Nat} (hy : y < B) (h : CY s y 0 r) : y ∈ D := by
  have e := h.2.1
  rw [Nat.zero_add] at e
  have h1 := (AM_it hA hy (r - 1)).2
  rw [show r - 1 + 1 = r by have := h.1; omega, e] at h1
  exact h1
def EXT (Z Z' : Nat) (ls ln fb ls' ln' fb' : Nat → Nat) : Prop := Z ≤ Z' ∧ (∀ i, i < Z → ls' i = ls i ∧ ln' i = ln i ∧ fb' i = fb i) ∧ ∀ i, Z ≤ i → i < Z' → fb' i = 20001
theorem EXT_rfl {Z : Nat} {ls ln fb : Nat → Nat} : EXT Z Z ls ln fb ls ln fb := ⟨Nat.le_refl _, fun _ _ => ⟨rfl, rfl, rfl⟩, fun i h1 h2 => by omega⟩
theorem rt_loop {F b st y r Z NN : Nat} {B : Nat} {D : List Nat} {tb : Nat → Nat} {worth : Nat → Int32} {leasts : Nat → Int64} {lengths firstBy order : Nat → Int32} (hF : 70000 ≤ F) (hb : bOK b) (hw : tbOK worth tb) (hst : st ≤ 5) (hA : AM (stepN b tb st) B D) (hy : y < B) (hr : 0 < r) (hr2 : r < 32768) (row many : Nat → Int32) : ∃ L row' many', lp (f_X0_roundThrough_B9 F (nI r) (nI st) (nI b) worth (nI Z) NN leasts NN lengths NN firstBy NN order) F (lN y, lN y, (1 : Int32), row, many) = some (lN L, row', many') ∧ (∃ i, i < r ∧ it (stepN b tb st) i y = L) ∧ ∀ j, j < r → L ≤ it (stepN b tb st) j y := by
  have hB := hA.2.2.2
  obtain ⟨e, h1, L, row', many', rfl, h2, h3⟩ := lp_ex (B := f_X0_roundThrough_B9 F (nI r) (nI st) (nI b) worth (nI Z) NN leasts NN lengths NN firstBy NN order) (fun q x => ∃ i L row many, x = (lN L, lN (it (stepN b tb st) i y), nI (i + 1), row, many) ∧ i + 1 ≤ r ∧ (∃ j, j < i + 1 ∧ it (stepN b tb st) j y = L) ∧ (∀ j, j < i + 1 → L ≤ it (stepN b tb st) j y) ∧ q = r - (i + 1)) (fun _ e => ∃ L row' many', e = (lN L, row', many') ∧ (∃ i, i < r ∧ it (stepN b tb st) i y = L) ∧ ∀ j, j < r → L ≤ it (stepN b tb st) j y) (by
    rintro rec q x ⟨i, L, row, many, rfl, hi, hj, hmin, rfl⟩ hrec
    unfold f_X0_roundThrough_B9
    dsimp only
    rcases Nat.lt_or_ge (i + 1) r with z | z
    · have q1 := (AM_it hA hy i).1
      have q2 : it (stepN b tb st) (i + 1) y < B := (AM_it hA hy (i + 1)).1
      obtain ⟨m', hm⟩ := p_make (F := F) (row := row) (many := many) (by omega) hb hw (n := it (stepN b tb st) i y) (by omega) hst
      have hL : L < B := by
        obtain ⟨j, _, rfl⟩ := hj
        exact (AM_it hA hy j).1
      rw [if_neg (nI_ge z (by omega)), hm, Option.bind_some, nI_1]
      dsimp only
      have e1 : stepN b tb st (it (stepN b tb st) i y) = it (stepN b tb st) (i + 1) y := rfl
      rw [e1]
      have e2 : (if lN (it (stepN b tb st) (i + 1) y) < lN L then lN (it (stepN b tb st) (i + 1) y) else lN L) = lN (if it (stepN b tb st) (i + 1) y < L then it (stepN b tb st) (i + 1) y else L) := by
        by_cases v : it (stepN b tb st) (i + 1) y < L
        · rw [if_pos v, if_pos ((pk_lLT (by omega) (by omega)).mpr v)]
        · rw [if_neg v, if_neg (fun q => v ((pk_lLT (by omega) (by omega)).mp q))]
      rw [e2]
      refine hrec (r - (i + 1 + 1)) _ (by omega) ⟨i + 1, _, _, _, rfl, z, ?_, fun j hj2 => ?_, rfl⟩
      · by_cases v : it (stepN b tb st) (i + 1) y < L
        · rw [if_pos v]; exact ⟨i + 1, by omega, rfl⟩
        · rw [if_neg v]
          obtain ⟨j, j1, j2⟩ := hj
          exact ⟨j, by omega, j2⟩
      · rcases Nat.lt_or_ge j (i + 1) with u | u
        · have := hmin j u
          split <;> omega
        · have : j = i + 1 := by omega
          subst this
          split <;> omega
    · have e0 : i + 1 = r := by omega
      subst e0
      rw [if_pos (nI_le (Nat.le_refl _) (by omega))]
      exact ⟨_, rfl, L, row, many, rfl, hj, hmin⟩) F (r - 1) (lN y, lN y, (1 : Int32), row, many) ⟨0, y, row, many, rfl, hr, ⟨0, by omega, rfl⟩, fun j hj => by
        have : j = 0 := by omega
        subst this
        exact Nat.le_refl _, rfl⟩ (by omega)
  exact ⟨L, row', many', h1, h2, h3⟩
theorem p_round {F b st Z NN y r : Nat} {B : Nat} {D : List Nat} {tb : Nat → Nat} {worth : Nat → Int32} {ls ln fb od : Nat → Nat} {leasts : Nat → Int64} {lengths firstBy order : Nat → Int32} (hF : 70000 ≤ F) (hb : bOK b) (hw : tbOK worth tb) (hst : st ≤ 5) (hA : AM (stepN b tb st) B D) (hS : CS (stepN b tb st) B Z ls ln fb od) (hC : CA Z NN ls ln fb od leasts lengths firstBy order) (hy : y < B) (hc : CY (stepN b tb st) y 0 r) (row many : Nat → Int32) : ∃ (NN' Z' h : Nat) (row' many' : Nat → Int32) (ls' ln' fb' od' : Nat → Nat) (leasts' : Nat → Int64) (lengths' firstBy' order' : Nat → Int32), f_X0_roundThrough F (4 * NN') (lN y) (nI r) (nI b) worth row many (nI st) (nI Z) NN leasts NN lengths NN firstBy NN order = some (nI h, row', many', nI Z', NN', leasts', NN', lengths', NN', firstBy', NN', order') ∧ NN ≤ NN' ∧ EXT Z Z' ls ln fb ls' ln' fb' ∧ CS (stepN b tb st) B Z' ls' ln' fb' od' ∧ CA Z' NN' ls' ln' fb' od' leasts' lengths' firstBy' order' ∧ h < Z' ∧ ln' h = r ∧ CM (stepN b tb st) y (ls' h) := by
  have hB := hA.2.2.2
  have hDl := hA.2.1
  have hZ := CS_Z hA hS
  have hZN := hC.2.1
  obtain ⟨hN1, hN2⟩ := CA_N hC
  have hrD : r ≤ D.length := by
    have := dis_bd hA hy (CY_D hA hy hc) hc.2.2
    omega
  obtain ⟨L, row', many', e1, ⟨i, hi, hiL⟩, hmin⟩ := rt_loop (F := F) (Z := Z) (NN := NN) (leasts := leasts) (lengths := lengths) (firstBy := firstBy) (order := order) hF hb hw hst hA hy hc.1 (by omega) row many
  have hLB : L < B := by rw [← hiL]; exact (AM_it hA hy i).1
  obtain ⟨hcl, hcm⟩ := CL_new (L := L) hc hi (by rw [Nat.zero_add]; exact hiL) (fun j hj => by rw [Nat.zero_add]; exact hmin j hj)
  obtain ⟨k, k1, k2, k3, k4⟩ := p_rankOf (F := F) (L := L) (by omega) hB hS hC (by omega)
  have new : (∀ j, k ≤ j → j < Z → L < ls (od j)) → ∃ (NN' Z' h : Nat) (ls' ln' fb' od' : Nat → Nat) (leasts' : Nat → Int64) (lengths' firstBy' order' : Nat → Int32), f_X0_roundThrough_J88 F (nI r) (4 * NN') (lN L) (nI k) row' many' (nI Z) NN leasts NN lengths NN firstBy NN order = some (nI h, row', many', nI Z', NN', leasts', NN', lengths', NN', firstBy', NN', order') ∧ NN ≤ NN' ∧ EXT Z Z' ls ln fb ls' ln' fb' ∧ CS (stepN b tb st) B Z' ls' ln' fb' od' ∧ CA Z' NN' ls' ln' fb' od' leasts' lengths' firstBy' order' ∧ h < Z' ∧ ln' h = r ∧ CM (stepN b tb st) y (ls' h) := by
    intro hgt
    obtain ⟨NN', l', n', f', o', e3, h3, h4⟩ := p_insC (F := F) (k := k) (L := L) (r := r) hF hC (by omega) k1
    refine ⟨NN', Z + 1, Z, _, _, _, _, l', n', f', o', ?_, h3, ⟨by omega, fun i hi => ⟨upN_n (by omega), upN_n (by omega), upN_n (by omega)⟩, fun i h1 h2 => ?_⟩, CS_ins hS hcl hLB k1 k3 hgt, h4, by omega, upN_s, by rw [upN_s]; exact hcm⟩
    · unfold f_X0_roundThrough_J88
      rw [ck_pos ⟨by omega, Nat.le_refl _⟩, e3, Option.bind_some]
      dsimp only
      rw [ck_pos (by omega), ck_pos (by omega), nI_pred]
    · have : i = Z := by omega
      subst this
      exact upN_s
  rcases Nat.lt_or_ge k Z with z | z
  · have hod := hS.2.1 k z
    obtain ⟨c1, c2, c3, c4⟩ := hC.2.2 k z
    obtain ⟨d1, d2, d3, d4⟩ := hC.2.2 (od k) hod
    have hls := (hS.1 (od k) hod).2.1
    by_cases v : ls (od k) = L
    · refine ⟨NN, Z, od k, row', many', ls, ln, fb, od, leasts, lengths, firstBy, order, ?_, Nat.le_refl _, EXT_rfl, hS, hC, hod, ?_, by rw [v]; exact hcm⟩
      · unfold f_X0_roundThrough
        rw [ck_pos (by omega), e1, Option.bind_some]
        dsimp only
        rw [k2, Option.bind_some, if_neg (nI_ge z (by omega)), ck_pos (in_ok (by omega) (by omega)), nI_clamp (n := k) (by omega), c4, ck_pos (in_ok (by omega) (by omega)), nI_clamp (n := od k) (by omega), d1, if_pos (by rw [v]), ck_pos (show ¬ (nI k < 0 ∨ NN ≤ k) from fun q => q.elim (nI_pos (by omega)) (by omega)), ck_pos (by omega)]
      · exact (CY_rnd hc (hS.1 (od k) hod).1 (by rw [v]; exact hcm)).symm
    · obtain ⟨NN', Z', h, ls', ln', fb', od', l', n', f', o', e3, h3⟩ := new (fun j hj hj2 => by
        have q := k4 z
        rcases Nat.lt_or_ge k j with u | u
        · have := hS.2.2.1 k j u hj2; omega
        · have : j = k := by omega
          subst this; omega)
      refine ⟨NN', Z', h, row', many', ls', ln', fb', od', l', n', f', o', ?_, h3⟩
      have hNN := h3.1
      unfold f_X0_roundThrough
      rw [ck_pos (by omega), e1, Option.bind_some]
      dsimp only
      rw [k2, Option.bind_some, if_neg (nI_ge z (by omega)), ck_pos (in_ok (by omega) (by omega)), nI_clamp (n := k) (by omega), c4, ck_pos (in_ok (by omega) (by omega)), nI_clamp (n := od k) (by omega), d1, if_neg (fun q => v ((pk_lEQ (by omega) (by omega)).mp q))]
      exact e3
  · obtain ⟨NN', Z', h, ls', ln', fb', od', l', n', f', o', e3, h3⟩ := new (fun j hj hj2 => by omega)
    refine ⟨NN', Z', h, row', many', ls', ln', fb', od', l', n', f', o', ?_, h3⟩
    have hNN := h3.1
    unfold f_X0_roundThrough
    rw [ck_pos (by omega), e1, Option.bind_some]
    dsimp only
    rw [k2, Option.bind_some, if_pos (nI_le z (by omega))]
    exact e3
theorem max_ok {a k : Nat} (ha : a < 2 ^ 30) (hk : k < 2 ^ 30) : (if nI a - nI k < (0 : Int32) then (0 : Int32) else nI a - nI k) = nI (a - k) := by
  rcases Nat.lt_or_ge a k with z | z
  · rw [if_pos (pk_sneg hk z), show a - k = 0 by omega]
    rfl
  · rw [pk_sub z, if_neg (nI_pos (by omega))]
theorem p_settle {F b st T x0 w bf ad : Nat} {B : Nat} {D : List Nat} {tb : Nat → Nat} {worth : Nat → Int32} {keys : Nat → Int64} {tails homes : Nat → Int32} {m : SM} (home : Int32) (hF : 70000 ≤ F) (hb : bOK b) (hw : tbOK worth tb) (hst : st ≤ 5) (hT : T < 2 ^ 20) (hA : AM (stepN b tb st) B D) (hx : x0 < B) (hxD : x0 ∈ D) (hdis : ∀ i j, i < j → j < w → it (stepN b tb st) i x0 ≠ it (stepN b tb st) j x0) (hbf : bf < 2 ^ 29) (hm : TAB T keys tails homes m) (hmD : ∀ y, m y ≠ none → y ∈ D) (row many : Nat → Int32) : ∃ row' many' keys' tails' homes' m', f_X0_settle F (lN x0) (nI w) (nI bf) (nI ad) home (nI b) worth row many keys tails homes (nI T) (nI st) = some (row', many', keys', tails', homes') ∧ TAB T keys' tails' homes' m' ∧ (∀ j, j < w → m' (it (stepN b tb st) j x0) = some (nI (bf - j + ad), home)) ∧ (∀ y, (∀ j, j < w → y ≠ it (stepN b tb st) j x0) → m' y = m y) := by
  have hB := hA.2.2.2
  have hDl := hA.2.1
  have hwD := dis_bd hA hx hxD hdis
  have hitD : ∀ j, it (stepN b tb st) j x0 ∈ D := fun j => by
    cases j with
    | zero => exact hxD
    | succ j => exact (AM_it hA hx j).2
  obtain ⟨e, h1, row', many', keys', tails', homes', m', rfl, h2, h3, h4⟩ := lp_ex (B := f_X0_settle_B6 F (nI w) (nI bf) (nI ad) home (nI st) (nI T) (nI b) worth) (fun q x => ∃ k row many keys tails homes mk, x = (lN (it (stepN b tb st) k x0), nI k, row, many, keys, tails, homes) ∧ k ≤ w ∧ TAB T keys tails homes mk ∧ (∀ j, j < k → mk (it (stepN b tb st) j x0) = some (nI (bf - j + ad), home)) ∧ (∀ y, (∀ j, j < k → y ≠ it (stepN b tb st) j x0) → mk y = m y) ∧ q = w - k) (fun _ e => ∃ row' many' keys' tails' homes' m', e = (row', many', keys', tails', homes') ∧ TAB T keys' tails' homes' m' ∧ (∀ j, j < w → m' (it (stepN b tb st) j x0) = some (nI (bf - j + ad), home)) ∧ (∀ y, (∀ j, j < w → y ≠ it (stepN b tb st) j x0) → m' y = m y)) (by
    rintro rec q x ⟨k, row, many, keys, tails, homes, mk, rfl, hk, hT2, h1, h2, rfl⟩ hrec
    unfold f_X0_settle_B6
    dsimp only
    rcases Nat.lt_or_ge k w with z | z
    · have q1 := (AM_it hA hx k).1
      obtain ⟨m', hm'⟩ := p_make (F := F) (row := row) (many := many) (by omega) hb hw (n := it (stepN b tb st) k x0) (by omega) hst
      obtain ⟨ks, ts, hs, e1, h3⟩ := p_put (F := F) (x := it (stepN b tb st) k x0) (D := D) (nI (bf - k + ad)) home (by omega) hT (by omega) hT2 (fun y hy => by
        by_cases v : ∃ j, j < k ∧ y = it (stepN b tb st) j x0
        · obtain ⟨j, _, rfl⟩ := v
          exact hitD j
        · refine hmD y ?_
          rw [← h2 y (fun j hj q => v ⟨j, hj, q⟩)]
          exact hy) hDl
      rw [if_neg (nI_ge z (by omega)), max_ok (by omega) (by omega), nI_add, e1, Option.bind_some, hm', Option.bind_some, nI_1]
      dsimp only
      refine hrec (w - (k + 1)) _ (by omega) ⟨k + 1, _, _, _, _, _, _, rfl, z, h3, fun j hj => ?_, fun y hy => ?_, rfl⟩
      · unfold mput
        rcases Nat.lt_or_ge j k with v | v
        · rw [if_neg (hdis j k v z)]; exact h1 j v
        · have : j = k := by omega
          subst this
          rw [if_pos rfl]
      · unfold mput
        rw [if_neg (hy k (by omega))]
        exact h2 y (fun j hj => hy j (by omega))
    · have : k = w := by omega
      subst this
      rw [if_pos (nI_le (Nat.le_refl _) (by omega))]
      exact ⟨_, rfl, _, _, _, _, _, mk, rfl, hT2, h1, h2⟩) F w (lN x0, (0 : Int32), row, many, keys, tails, homes) ⟨0, row, many, keys, tails, homes, m, rfl, Nat.zero_le _, hm, fun j hj => absurd hj (Nat.not_lt_zero _), fun y _ => rfl, rfl⟩ (by omega)
  refine ⟨row', many', keys', tails', homes', m', ?_, h2, h3, h4⟩
  unfold f_X0_settle
  rw [h1, Option.bind_some]
