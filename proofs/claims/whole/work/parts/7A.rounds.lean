/-! rounds: the reference's sorted row of least numbers, the class's rounds by their order -/
theorem CH_CY {s : Nat → Nat} {n t r : Nat} (h : CH s n t r) (hr : 0 < r) : CY s n t r ∧ t + r ≤ 300 := by
  rcases h with ⟨h1, h2, h3, h4, h5⟩ | ⟨h1, _⟩
  · exact ⟨⟨h1, h3, h4⟩, h2⟩
  · omega
theorem p_leastOf {F b st n t r : Nat} {f figs : Nat → Int32} {many : Int32} {tb : Nat → Nat} (hF : 1000 ≤ F) (hb : bOK b) (hf : tbOK f tb) (hst : st ≤ 5) (hn : n ≤ TOP) (h : CH (stepN b tb st) n t r) (hr : 0 < r) : ∃ L many' figs', f_X11_leastOf F (nI st) (lN n) (nI b) f many figs (nI t) (nI r) = some (lN L, many', figs') ∧ CL (stepN b tb st) L r ∧ CM (stepN b tb st) n L ∧ L ≤ TOP := by
  obtain ⟨hcy, h300⟩ := CH_CY h hr
  have htop := CH_top h
  obtain ⟨m1, g1, e1⟩ := p_behind (F := F) (st := st) (n := n) (k := t) (figs := figs) (many := many) hF hb hf hst hn (by omega) (fun i hi => htop i (by omega))
  obtain ⟨e, h1, L, many', figs', rfl, h2, h3⟩ := lp_ex (B := f_X11_leastOf_B19 F (nI st) (nI b) f (nI r)) (fun q x => ∃ i L many figs, x = (lN (it (stepN b tb st) (t + i) n), lN L, nI (i + 1), many, figs) ∧ i + 1 ≤ r ∧ (∃ j, j < i + 1 ∧ it (stepN b tb st) (t + j) n = L) ∧ (∀ j, j < i + 1 → L ≤ it (stepN b tb st) (t + j) n) ∧ q = r - (i + 1)) (fun _ e => ∃ L many figs, e = (lN L, many, figs) ∧ (∃ i, i < r ∧ it (stepN b tb st) (t + i) n = L) ∧ ∀ j, j < r → L ≤ it (stepN b tb st) (t + j) n) (by
    rintro rec q x ⟨i, L, many, figs, rfl, hi, hj, hmin, rfl⟩ hrec
    unfold f_X11_leastOf_B19 f_X11_leastOf_J52
    dsimp only
    rcases Nat.lt_or_ge (i + 1) r with z | z
    · have q1 := htop (t + i) (by omega)
      have q2 := htop (t + (i + 1)) (by omega)
      have hL : L ≤ TOP := by
        obtain ⟨j, j1, rfl⟩ := hj
        exact htop (t + j) (by omega)
      unfold TOP at q1 q2 hL
      rw [if_neg (nI_ge z (by omega)), p_stepOf (by omega) hb hf (by omega) hst, Option.bind_some, nI_1]
      dsimp only
      have e1 : stepN b tb st (it (stepN b tb st) (t + i) n) = it (stepN b tb st) (t + (i + 1)) n := rfl
      rw [e1]
      by_cases v : L ≤ it (stepN b tb st) (t + (i + 1)) n
      · rw [if_pos ((pk_lLE (by omega) (by omega)).mpr v)]
        refine hrec (r - (i + 1 + 1)) _ (by omega) ⟨i + 1, L, _, _, rfl, z, ?_, fun j hj2 => ?_, rfl⟩
        · obtain ⟨j, j1, j2⟩ := hj
          exact ⟨j, by omega, j2⟩
        · rcases Nat.lt_or_ge j (i + 1) with u | u
          · exact hmin j u
          · have : j = i + 1 := by omega
            subst this; exact v
      · rw [if_neg (fun q => v ((pk_lLE (by omega) (by omega)).mp q))]
        refine hrec (r - (i + 1 + 1)) _ (by omega) ⟨i + 1, _, _, _, rfl, z, ⟨i + 1, by omega, rfl⟩, fun j hj2 => ?_, rfl⟩
        rcases Nat.lt_or_ge j (i + 1) with u | u
        · have := hmin j u; omega
        · have : j = i + 1 := by omega
          subst this; exact Nat.le_refl _
    · have e0 : i + 1 = r := by omega
      subst e0
      rw [if_pos (nI_le (Nat.le_refl _) (by omega))]
      exact ⟨_, rfl, L, _, _, rfl, hj, hmin⟩) F (r - 1) (lN (it (stepN b tb st) t n), lN (it (stepN b tb st) t n), (1 : Int32), m1, g1) ⟨0, it (stepN b tb st) t n, m1, g1, rfl, hr, ⟨0, by omega, rfl⟩, fun j hj => by
        have : j = 0 := by omega
        subst this
        exact Nat.le_refl _, rfl⟩ (by omega)
  obtain ⟨i, hi, hiL⟩ := h2
  obtain ⟨c1, c2⟩ := CL_new hcy hi hiL h3
  refine ⟨L, many', figs', ?_, c1, c2, by rw [← hiL]; exact htop (t + i) (by omega)⟩
  unfold f_X11_leastOf
  rw [e1, Option.bind_some]
  dsimp only
  rw [h1, Option.bind_some]
theorem insR_loop {F m k : Nat} {a : Nat → Nat} {mm : Int32} (hm : m < 20001) : ∀ (i G : Nat) (arr : Nat → Int64), k ≤ i → i ≤ m → i < G → (∀ j, j < i → arr j = lN (a j)) → (∀ j, i < j → j ≤ m → arr j = lN (a (j - 1))) → ∃ arr', lp (f_X11_addRound_B74 F (nI k) mm) G (nI i, arr) = some arr' ∧ (∀ j, j < k → arr' j = lN (a j)) ∧ (∀ j, k < j → j ≤ m → arr' j = lN (a (j - 1)))
  | _, 0, _, _, _, h, _, _ => absurd h (Nat.not_lt_zero _)
  | 0, G + 1, arr, hk, hi, _, h1, h2 => by
    have : k = 0 := by omega
    subst this
    refine ⟨arr, ?_, h1, h2⟩
    rw [lp_succ]
    unfold f_X11_addRound_B74
    dsimp only
    rw [if_pos (nI_le (Nat.le_refl _) (by omega))]
  | i + 1, G + 1, arr, hk, hi, hG, h1, h2 => by
    rcases Nat.lt_or_ge k (i + 1) with z | z
    · have ih := insR_loop (F := F) (k := k) (a := a) (mm := mm) hm i G (vp_updL arr (i + 1) (lN (a i))) (by omega) (by omega) (by omega)
      rw [lp_succ]
      generalize lp (f_X11_addRound_B74 F (nI k) mm) G = rec at ih ⊢
      unfold f_X11_addRound_B74
      dsimp only
      rw [if_neg (nI_ge z (by omega)), nI_pred, ck_pos (in_ok (by omega) (by omega)), ck_pos (in_ok (by omega) (by omega)), nI_clamp (n := i) (by omega), nI_clamp (n := i + 1) (by omega), h1 i (by omega), pk_m1]
      refine ih (fun j hj => ?_) (fun j hj hj2 => ?_)
      · rw [pk_uLn (by omega)]; exact h1 j (by omega)
      · by_cases e : j = i + 1
        · subst e; rw [pk_uLs, Nat.add_sub_cancel]
        · rw [pk_uLn e]; exact h2 j (by omega) hj2
    · have : k = i + 1 := by omega
      subst this
      refine ⟨arr, ?_, h1, h2⟩
      rw [lp_succ]
      unfold f_X11_addRound_B74
      dsimp only
      rw [if_pos (nI_le (Nat.le_refl _) (by omega))]
theorem bin_loop {F m v : Nat} {a : Nat → Nat} {arr : Nat → Int64} {S : Nat → Prop} (hF : 30000 ≤ F) (hm : m ≤ 20000) (hv : v < 2 ^ 62) (ha : ∀ i, i < m → a i < 2 ^ 62) (harr : ∀ i, i < m → arr i = lN (a i)) (h : SA a m S) : ∃ k, k ≤ m ∧ lp (f_X11_addRound_B8 F (lN v) (nI m) arr) F ((0 : Int32), nI m) = some (nI k) ∧ (∀ i, i < k → a i < v) ∧ ∀ i, k ≤ i → i < m → v ≤ a i := by
  obtain ⟨e, h1, k, hk, rfl, h2, h3⟩ := lp_ex (B := f_X11_addRound_B8 F (lN v) (nI m) arr) (fun q x => ∃ lo hi, x = (nI lo, nI hi) ∧ lo ≤ hi ∧ hi ≤ m ∧ (∀ i, i < lo → a i < v) ∧ (∀ i, hi ≤ i → i < m → v ≤ a i) ∧ q = hi - lo) (fun _ e => ∃ k, k ≤ m ∧ e = nI k ∧ (∀ i, i < k → a i < v) ∧ ∀ i, k ≤ i → i < m → v ≤ a i) (by
    rintro rec q x ⟨lo, hi, rfl, hlh, hhm, hl, hh, rfl⟩ hrec
    unfold f_X11_addRound_B8 f_X11_addRound_J46
    dsimp only
    rcases Nat.lt_or_ge lo hi with z | z
    · have e1 : (nI lo + nI hi) / (2 : Int32) = nI ((lo + hi) / 2) := by
        rw [nI_add]
        exact pk_div (d := 2) (by omega) (by omega) (by omega)
      have hmid := ha ((lo + hi) / 2) (by omega)
      rw [if_neg (nI_ge z (by omega)), ck_pos (by decide), e1, ck_pos (in_ok (by omega) (by omega)), nI_clamp (by omega), harr ((lo + hi) / 2) (by omega)]
      by_cases y : v ≤ a ((lo + hi) / 2)
      · rw [if_pos ((pk_lLE (by omega) (by omega)).mpr y)]
        refine hrec ((lo + hi) / 2 - lo) _ (by omega) ⟨lo, (lo + hi) / 2, rfl, by omega, by omega, hl, fun i h1 h2 => ?_, rfl⟩
        rcases Nat.lt_or_ge ((lo + hi) / 2) i with u | u
        · have := h.1 _ i u h2; omega
        · have : i = (lo + hi) / 2 := by omega
          subst this; exact y
      · rw [if_neg (fun q => y ((pk_lLE (by omega) (by omega)).mp q)), nI_1]
        refine hrec (hi - ((lo + hi) / 2 + 1)) _ (by omega) ⟨(lo + hi) / 2 + 1, hi, rfl, by omega, by omega, fun i h1 => ?_, hh, rfl⟩
        rcases Nat.lt_or_ge i ((lo + hi) / 2) with u | u
        · have := h.1 i _ u (by omega); omega
        · have : i = (lo + hi) / 2 := by omega
          subst this; omega
    · have e0 : lo = hi := by omega
      subst e0
      rw [if_pos (nI_le (Nat.le_refl _) (by omega))]
      exact ⟨_, rfl, lo, hhm, rfl, hl, hh⟩) F m (nI 0, nI m) ⟨0, m, rfl, Nat.zero_le _, Nat.le_refl _, fun i hi => absurd hi (Nat.not_lt_zero _), fun i h1 h2 => by omega, by omega⟩ (by omega)
  exact ⟨k, hk, h1, h2, h3⟩
theorem p_addRound {F m v : Nat} {a : Nat → Nat} {arr : Nat → Int64} {S : Nat → Prop} (hF : 30000 ≤ F) (hm : m ≤ 20000) (hv : v < 2 ^ 62) (ha : ∀ i, i < m → a i < 2 ^ 62) (harr : ∀ i, i < m → arr i = lN (a i)) (h : SA a m S) : ∃ m' a' arr', f_X11_addRound F (lN v) (nI m) arr = some (nI m', arr') ∧ m' ≤ m + 1 ∧ (∀ i, i < m' → a' i < 2 ^ 62) ∧ (∀ i, i < m' → arr' i = lN (a' i)) ∧ SA a' m' (fun n => S n ∨ n = v) := by
  obtain ⟨k, hk, e1, h1, h2⟩ := bin_loop (F := F) hF hm hv ha harr h
  have new : (∀ i, k ≤ i → i < m → v < a i) → ∃ m' a' arr', f_X11_addRound_J68 F (lN v) (nI k) (nI m) arr = some (nI m', arr') ∧ m' ≤ m + 1 ∧ (∀ i, i < m' → a' i < 2 ^ 62) ∧ (∀ i, i < m' → arr' i = lN (a' i)) ∧ SA a' m' (fun n => S n ∨ n = v) := by
    intro hgt
    obtain ⟨arr', e2, g1, g2⟩ := insR_loop (F := F) (k := k) (a := a) (mm := nI m) (show m < 20001 by omega) m F arr hk (Nat.le_refl _) (by omega) harr (fun j h1 h2 => by omega)
    refine ⟨m + 1, insF a k v, vp_updL arr' k (lN v), ?_, Nat.le_refl _, fun i hi => ?_, fun i hi => ?_, SA_ins h hk h1 hgt⟩
    · unfold f_X11_addRound_J68 f_X11_addRound_J119
      rw [e2, Option.bind_some, ck_pos (in_ok (by omega) (by omega)), nI_clamp (by omega), nI_1]
    · unfold insF
      by_cases z1 : i < k
      · rw [if_pos z1]; exact ha i (by omega)
      · rw [if_neg z1]
        by_cases z2 : i = k
        · rw [if_pos z2]; exact hv
        · rw [if_neg z2]; exact ha (i - 1) (by omega)
    · unfold insF
      by_cases z1 : i < k
      · rw [if_pos z1, pk_uLn (by omega)]; exact g1 i z1
      · rw [if_neg z1]
        by_cases z2 : i = k
        · rw [if_pos z2, z2]; exact pk_uLs
        · rw [if_neg z2, pk_uLn z2]; exact g2 i (by omega) (by omega)
  unfold f_X11_addRound
  rw [e1, Option.bind_some]
  by_cases z : k = m
  · rw [if_pos (by rw [z])]
    exact new (fun i h1 h2 => by omega)
  · rw [if_neg (fun q => z ((nI_eq (by omega) (by omega)).mp q)), ck_pos (in_ok (by omega) (by omega)), nI_clamp (by omega), harr k (by omega)]
    have hak := ha k (by omega)
    by_cases y : a k = v
    · rw [if_pos (by rw [y])]
      unfold f_X11_addRound_J119
      exact ⟨m, a, arr, rfl, by omega, ha, harr, SA_ext h (fun n => ⟨Or.inl, fun q => q.elim id (fun q => by rw [q]; exact (h.2 v).mpr ⟨k, by omega, y⟩)⟩)⟩
    · rw [if_neg (fun q => y ((pk_lEQ (by omega) (by omega)).mp q))]
      refine new (fun i h3 h4 => ?_)
      rcases Nat.lt_or_ge k i with u | u
      · have := h.1 k i u h4
        have := h2 k (Nat.le_refl _) (by omega)
        omega
      · have : i = k := by omega
        subst this
        have := h2 i (Nat.le_refl _) h4
        omega
/-- the least numbers of the rounds of chains from below M -/
def RLs (s : Nat → Nat) (M L : Nat) : Prop := ∃ n, n < M ∧ ∃ t r, CH s n t r ∧ 0 < r ∧ CL s L r ∧ CM s n L
theorem rounds_loop {F b st M : Nat} {f : Nat → Int32} {tb : Nat → Nat} (hF : 30000 ≤ F) (hb : bOK b) (hf : tbOK f tb) (hst : st ≤ 5) (hM : M ≤ 20000) (many mt mr : Int32) (figs : Nat → Int32) (arr : Nat → Int64) : ∃ many' figs' mt' mr' m a arr', lp (f_X11_rounds_B38 F (nI st) (nI M) (nI b) f) F ((0 : Int32), many, figs, mt, mr, (0 : Int32), arr) = some (many', figs', mt', mr', nI m, arr') ∧ m ≤ 20001 ∧ (∀ i, i < m → arr' i = lN (a i)) ∧ SA a m (RLs (stepN b tb st) (M + 1)) := by
  obtain ⟨e, h1, many', figs', mt', mr', m, a, arr', rfl, h2⟩ := lp_ex (B := f_X11_rounds_B38 F (nI st) (nI M) (nI b) f) (fun q x => ∃ j many figs mt mr m a arr, x = (nI j, many, figs, mt, mr, nI m, arr) ∧ j ≤ M + 1 ∧ m ≤ j ∧ (∀ i, i < m → a i < 2 ^ 62) ∧ (∀ i, i < m → arr i = lN (a i)) ∧ SA a m (RLs (stepN b tb st) j) ∧ q = M + 1 - j) (fun _ e => ∃ many figs mt mr m a arr, e = (many, figs, mt, mr, nI m, arr) ∧ m ≤ 20001 ∧ (∀ i, i < m → arr i = lN (a i)) ∧ SA a m (RLs (stepN b tb st) (M + 1))) (by
    rintro rec q x ⟨j, many, figs, mt, mr, m, a, arr, rfl, hj, hm, ha, harr, hS, rfl⟩ hrec
    unfold f_X11_rounds_B38 f_X11_rounds_J71
    dsimp only
    rcases Nat.lt_or_ge M j with z | z
    · rw [if_pos (nI_lt z (by omega))]
      have e0 : j = M + 1 := by omega
      subst e0
      exact ⟨_, rfl, _, _, _, _, m, a, arr, rfl, by omega, harr, hS⟩
    · obtain ⟨M', G', t, r, c1, c2⟩ := p_layChain (F := F) (many := many) (figs := figs) (tail := mt) (round := mr) (by omega) hb hf hst (n := j) (by unfold TOP; omega)
      obtain ⟨b1, b2, b3, b4⟩ := CH_bd c1
      rw [if_neg (nI_nlt z (by omega)), nI_l (by omega), c2, Option.bind_some]
      dsimp only
      by_cases y : r = 0
      · rw [if_pos (show nI r ≤ 0 by rw [y]; decide), nI_1]
        refine hrec (M + 1 - (j + 1)) _ (by omega) ⟨j + 1, _, _, _, _, m, a, arr, rfl, by omega, by omega, ha, harr, SA_ext hS (fun L => ⟨?_, ?_⟩), rfl⟩
        · rintro ⟨n, hn, q⟩; exact ⟨n, by omega, q⟩
        · rintro ⟨n, hn, t', r', q1, q2, q3⟩
          rcases Nat.lt_or_ge n j with u | u
          · exact ⟨n, u, t', r', q1, q2, q3⟩
          · have : n = j := by omega
            subst this
            have := (CH_one c1 q1).2
            omega
      · rw [if_neg (nI_nle (by omega) (by omega))]
        obtain ⟨L, M2, G2, e3, l1, l2, l3⟩ := p_leastOf (F := F) (n := j) (many := M') (figs := G') (by omega) hb hf hst (by unfold TOP; omega) c1 (by omega)
        unfold TOP at l3
        obtain ⟨m', a', arr', e4, g1, g2, g3, g4⟩ := p_addRound (F := F) (v := L) hF (show m ≤ 20000 by omega) (by omega) ha harr hS
        rw [e3, Option.bind_some]
        dsimp only
        rw [e4, Option.bind_some, nI_1]
        refine hrec (M + 1 - (j + 1)) _ (by omega) ⟨j + 1, _, _, _, _, m', a', arr', rfl, by omega, by omega, g2, g3, SA_ext g4 (fun L' => ⟨?_, ?_⟩), rfl⟩
        · rintro (⟨n, hn, q⟩ | q)
          · exact ⟨n, by omega, q⟩
          · rw [q]; exact ⟨j, by omega, t, r, c1, by omega, l1, l2⟩
        · rintro ⟨n, hn, t', r', q1, q2, q3, q4⟩
          rcases Nat.lt_or_ge n j with u | u
          · exact Or.inl ⟨n, u, t', r', q1, q2, q3, q4⟩
          · have : n = j := by omega
            subst this
            exact Or.inr (CM_one q3 l1 q4 l2)) F (M + 1) ((0 : Int32), many, figs, mt, mr, (0 : Int32), arr) ⟨0, many, figs, mt, mr, 0, fun _ => 0, arr, rfl, by omega, Nat.le_refl _, fun i hi => absurd hi (Nat.not_lt_zero _), fun i hi => absurd hi (Nat.not_lt_zero _), ⟨fun i j _ hj => absurd hj (Nat.not_lt_zero _), fun n => ⟨fun q => by
        obtain ⟨i, hi, _⟩ := q
        exact absurd hi (Nat.not_lt_zero _), fun q => by
        obtain ⟨i, hi, _⟩ := q
        exact absurd hi (Nat.not_lt_zero _)⟩⟩, rfl⟩ (by omega)
  exact ⟨many', figs', mt', mr', m, a, arr', h1, h2⟩
/-- a scan over a rising row, and the row of what it passes -/
theorem scn_SA {P : Nat → Bool} {g : Nat → Nat} {Z : Nat} {i : Int32} (hg : ∀ j k, j < k → k < Z → g j < g k) : ∀ (r x t : Nat) (a : Nat → Nat), x + r = Z → SA a t (fun L => ∃ k, k < x ∧ P k = true ∧ g k = L) → ∃ (m : Nat) (a' : Nat → Nat), SA a' m (fun L => ∃ k, k < Z ∧ P k = true ∧ g k = L) ∧ t ≤ m ∧ (∀ j, j < t → a' j = a j) ∧ ((∃ k j, scn P i r x t = .inl k ∧ k < Z ∧ i = nI j ∧ j < m ∧ a' j = g k) ∨ (scn P i r x t = .inr m ∧ ∀ j, t ≤ j → j < m → i ≠ nI j))
  | 0, x, t, a, hx, h => by
    have : x = Z := by omega
    subst this
    exact ⟨t, a, h, Nat.le_refl _, fun _ _ => rfl, Or.inr ⟨rfl, fun j h1 h2 => by omega⟩⟩
  | r + 1, x, t, a, hx, h => by
    by_cases hp : P x = true
    · have h' : SA (insF a t (g x)) (t + 1) (fun L => ∃ k, k < x + 1 ∧ P k = true ∧ g k = L) := by
        refine SA_ext (SA_ins h (Nat.le_refl _) (fun j hj => ?_) (fun j h1 h2 => by omega)) (fun L => ⟨?_, ?_⟩)
        · obtain ⟨k, k1, _, k3⟩ := (h.2 (a j)).mpr ⟨j, hj, rfl⟩
          rw [← k3]
          exact hg k x k1 (by omega)
        · rintro (⟨k, k1, k2, k3⟩ | q)
          · exact ⟨k, by omega, k2, k3⟩
          · exact ⟨x, by omega, hp, q.symm⟩
        · rintro ⟨k, k1, k2, k3⟩
          rcases Nat.lt_or_ge k x with u | u
          · exact Or.inl ⟨k, u, k2, k3⟩
          · have : k = x := by omega
            subst this
            exact Or.inr k3.symm
      obtain ⟨m, a', s1, s2, s3, s4⟩ := scn_SA (i := i) hg r (x + 1) (t + 1) (insF a t (g x)) (by omega) h'
      have hat : a' t = g x := by
        rw [s3 t (by omega)]
        unfold insF
        rw [if_neg (Nat.lt_irrefl _), if_pos rfl]
      refine ⟨m, a', s1, by omega, fun j hj => ?_, ?_⟩
      · rw [s3 j (by omega)]
        unfold insF
        rw [if_pos hj]
      · unfold scn
        rw [if_pos hp]
        by_cases hi : nI t = i
        · rw [if_pos hi]
          exact Or.inl ⟨x, t, rfl, by omega, hi.symm, by omega, hat⟩
        · rw [if_neg hi]
          rcases s4 with q | ⟨q1, q2⟩
          · exact Or.inl q
          · refine Or.inr ⟨q1, fun j h1 h2 => ?_⟩
            rcases Nat.lt_or_ge t j with u | u
            · exact q2 j u h2
            · have : j = t := by omega
              subst this
              exact fun v => hi v.symm
    · have h' : SA a t (fun L => ∃ k, k < x + 1 ∧ P k = true ∧ g k = L) := by
        refine SA_ext h (fun L => ⟨?_, ?_⟩)
        · rintro ⟨k, k1, k2, k3⟩
          exact ⟨k, by omega, k2, k3⟩
        · rintro ⟨k, k1, k2, k3⟩
          rcases Nat.lt_or_ge k x with u | u
          · exact ⟨k, u, k2, k3⟩
          · have : k = x := by omega
            subst this
            exact absurd k2 hp
      obtain ⟨m, a', s1, s2, s3, s4⟩ := scn_SA (i := i) hg r (x + 1) t a (by omega) h'
      refine ⟨m, a', s1, s2, s3, ?_⟩
      unfold scn
      rw [if_neg hp]
      exact s4
