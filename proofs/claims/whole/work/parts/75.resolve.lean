/-! a walk from a number without a slot, till one that has a slot -/
theorem lp_exF {ι σ ε : Type} {B : ι → (σ → Option ε) → σ → Option ε} (I : Nat → σ → Prop) (P : ε → Prop) (step : ∀ (rec : ι → σ → Option ε) (k : Nat) (x : σ), I k x → (∀ (j : Nat) (y : σ), j < k → I j y → ∃ e, (∀ i, rec i y = some e) ∧ P e) → ∃ e, (∀ i, B i (rec i) x = some e) ∧ P e) : ∀ (F k : Nat) (x : σ), I k x → k < F → ∃ e, (∀ i, lp (B i) F x = some e) ∧ P e := by
  intro F
  induction F with
  | zero => intro k x _ h; exact absurd h (Nat.not_lt_zero _)
  | succ F ih => intro k x hT hk; exact step (fun i => lp (B i) F) k x hT (fun j y hj hT' => ih j y hT' (by omega))
def MT (s : Nat → Nat) (B : Nat) (D : List Nat) (Z : Nat) (ls ln : Nat → Nat) (m : SM) : Prop := (∀ x t h, m x = some (t, h) → ∃ t' h', t = nI t' ∧ h = nI h' ∧ h' < Z ∧ CY s x t' (ln h') ∧ CM s x (ls h')) ∧ ∀ x, m x ≠ none → x < B ∧ x ∈ D ∧ m (s x) ≠ none
theorem MT_orb {s : Nat → Nat} {B Z : Nat} {D : List Nat} {ls ln : Nat → Nat} {m : SM} (h : MT s B D Z ls ln m) {x : Nat} (hx : m x ≠ none) : ∀ i, m (it s i x) ≠ none
  | 0 => hx
  | i + 1 => (h.2 _ (MT_orb h hx i)).2.2
theorem MT_none {s : Nat → Nat} {B : Nat} {D : List Nat} {ls ln : Nat → Nat} {Z : Nat} : MT s B D Z ls ln (fun _ => none) := ⟨(fun x t h q => by cases q), fun x q => absurd rfl q⟩
theorem walk_loop {F b st T x0 Z NN : Nat} {B : Nat} {D : List Nat} {tb : Nat → Nat} {worth : Nat → Int32} {keys : Nat → Int64} {tails homes : Nat → Int32} {m : SM} {leasts : Nat → Int64} {lengths firstBy order : Nat → Int32} (hF : 70000 ≤ F) (hb : bOK b) (hw : tbOK worth tb) (hst : st ≤ 5) (hT : T < 2 ^ 20) (hA : AM (stepN b tb st) B D) (hx : x0 < B) (hxD : x0 ∈ D) (hm : TAB T keys tails homes m) (hmD : ∀ y, m y ≠ none → y ∈ D) (hm0 : m x0 = none) (row many : Nat → Int32) : ∃ (k a : Nat) (row' many' : Nat → Int32) (keys' : Nat → Int64) (tails' homes' : Nat → Int32) (mk : SM), (∀ pm, lp (f_X0_resolve_B8 F (nI st) (nI T) (nI b) worth pm (nI Z) NN leasts NN lengths NN firstBy NN order) F ((0 : Int32), lN x0, (-1 : Int32), row, many, keys, tails, homes) = some (.inr (nI k, lN (it (stepN b tb st) k x0), nI a, row', many', keys', tails', homes'))) ∧ a < 32768 ∧ 0 < k ∧ (∀ i j, i < j → j < k → it (stepN b tb st) i x0 ≠ it (stepN b tb st) j x0) ∧ TAB T keys' tails' homes' mk ∧ (∀ j, j < k → m (it (stepN b tb st) j x0) = none) ∧ (∀ j, j < k → mk (it (stepN b tb st) j x0) = some (nI j, (-1 : Int32))) ∧ (∀ y, (∀ j, j < k → y ≠ it (stepN b tb st) j x0) → mk y = m y) ∧ mk (it (stepN b tb st) k x0) = some (tails' a, homes' a) := by
  have hB := hA.2.2.2
  have hDl := hA.2.1
  have hitD : ∀ j, it (stepN b tb st) j x0 ∈ D := fun j => by
    cases j with
    | zero => exact hxD
    | succ j => exact (AM_it hA hx j).2
  obtain ⟨e, h1, k, a, row', many', keys', tails', homes', mk, rfl, h2⟩ := lp_exF (B := fun pm => f_X0_resolve_B8 F (nI st) (nI T) (nI b) worth pm (nI Z) NN leasts NN lengths NN firstBy NN order) (fun q x => ∃ (k : Nat) (at' : Int32) (row many : Nat → Int32) (keys : Nat → Int64) (tails homes : Nat → Int32) (mk : SM), x = (nI k, lN (it (stepN b tb st) k x0), at', row, many, keys, tails, homes) ∧ (∀ i j, i < j → j < k → it (stepN b tb st) i x0 ≠ it (stepN b tb st) j x0) ∧ TAB T keys tails homes mk ∧ (∀ j, j < k → m (it (stepN b tb st) j x0) = none) ∧ (∀ j, j < k → mk (it (stepN b tb st) j x0) = some (nI j, (-1 : Int32))) ∧ (∀ y, (∀ j, j < k → y ≠ it (stepN b tb st) j x0) → mk y = m y) ∧ ((at' = (-1 : Int32) ∧ mk (it (stepN b tb st) k x0) = none) ∨ ∃ a, a < 32768 ∧ 0 < k ∧ at' = nI a ∧ mk (it (stepN b tb st) k x0) = some (tails a, homes a)) ∧ q = 32768 - k) (fun e => ∃ (k a : Nat) (row' many' : Nat → Int32) (keys' : Nat → Int64) (tails' homes' : Nat → Int32) (mk : SM), e = .inr (nI k, lN (it (stepN b tb st) k x0), nI a, row', many', keys', tails', homes') ∧ a < 32768 ∧ 0 < k ∧ (∀ i j, i < j → j < k → it (stepN b tb st) i x0 ≠ it (stepN b tb st) j x0) ∧ TAB T keys' tails' homes' mk ∧ (∀ j, j < k → m (it (stepN b tb st) j x0) = none) ∧ (∀ j, j < k → mk (it (stepN b tb st) j x0) = some (nI j, (-1 : Int32))) ∧ (∀ y, (∀ j, j < k → y ≠ it (stepN b tb st) j x0) → mk y = m y) ∧ mk (it (stepN b tb st) k x0) = some (tails' a, homes' a)) (by
    rintro rec q x ⟨k, at', row, many, keys, tails, homes, mk, rfl, hdis, hTk, hno, hk1, hk2, hat, rfl⟩ hrec
    rcases hat with ⟨rfl, hat⟩ | ⟨a, ha, hk0, rfl, hat⟩
    · have hnew : ∀ j, j < k → it (stepN b tb st) k x0 ≠ it (stepN b tb st) j x0 := fun j hj q => by
        rw [q, hk1 j hj] at hat
        cases hat
      have hdis' : ∀ i j, i < j → j < k + 1 → it (stepN b tb st) i x0 ≠ it (stepN b tb st) j x0 := fun i j hij hj => by
        rcases Nat.lt_or_ge j k with v | v
        · exact hdis i j hij v
        · have : j = k := by omega
          subst this
          exact (hnew i hij).symm
      have hkD := dis_bd hA hx hxD hdis'
      have q1 := (AM_it hA hx k).1
      have q2 : it (stepN b tb st) (k + 1) x0 < B := (AM_it hA hx (k + 1)).1
      obtain ⟨m', hm'⟩ := p_make (F := F) (row := row) (many := many) (by omega) hb hw (n := it (stepN b tb st) k x0) (by omega) hst
      obtain ⟨ks, ts, hs, e1, h3⟩ := p_put (F := F) (x := it (stepN b tb st) k x0) (D := D) (nI k) (-1 : Int32) (by omega) hT (by omega) hTk (fun y hy => by
        by_cases v : ∃ j, j < k ∧ y = it (stepN b tb st) j x0
        · obtain ⟨j, _, rfl⟩ := v
          exact hitD j
        · refine hmD y ?_
          rw [← hk2 y (fun j hj q => v ⟨j, hj, q⟩)]
          exact hy) hDl
      have hfind : ∃ at2, f_X8_find F (lN (it (stepN b tb st) (k + 1) x0)) ks (nI T) = some at2 ∧ ((at2 = (-1 : Int32) ∧ mput mk (it (stepN b tb st) k x0) (nI k) (-1) (it (stepN b tb st) (k + 1) x0) = none) ∨ ∃ a, a < 32768 ∧ 0 < k + 1 ∧ at2 = nI a ∧ mput mk (it (stepN b tb st) k x0) (nI k) (-1) (it (stepN b tb st) (k + 1) x0) = some (ts a, hs a)) := by
        cases hc : mput mk (it (stepN b tb st) k x0) (nI k) (-1) (it (stepN b tb st) (k + 1) x0) with
        | none => exact ⟨_, find_none (by omega) hT (by omega) h3 hc, Or.inl ⟨rfl, rfl⟩⟩
        | some p =>
          obtain ⟨t, ho⟩ := p
          obtain ⟨a, a1, a2, a3, a4⟩ := find_some (F := F) (by omega) hT h3 hc
          exact ⟨_, a2, Or.inr ⟨a, a1, by omega, rfl, by rw [a3, a4]⟩⟩
      obtain ⟨at2, f1, f2⟩ := hfind
      obtain ⟨e, g1, g2⟩ := hrec (32768 - (k + 1)) (nI (k + 1), lN (it (stepN b tb st) (k + 1) x0), at2, putL row 0 (dg b (it (stepN b tb st) k x0)), m', ks, ts, hs) (by omega) ⟨k + 1, at2, _, _, ks, ts, hs, mput mk (it (stepN b tb st) k x0) (nI k) (-1), rfl, hdis', h3, fun j hj => by
        rcases Nat.lt_or_ge j k with v | v
        · exact hno j v
        · have : j = k := by omega
          subst this
          rw [← hk2 _ hnew]
          exact hat, fun j hj => by
        unfold mput
        rcases Nat.lt_or_ge j k with v | v
        · rw [if_neg (hnew j v).symm]; exact hk1 j v
        · have : j = k := by omega
          subst this
          rw [if_pos rfl], fun y hy => by
        unfold mput
        rw [if_neg (hy k (by omega))]
        exact hk2 y (fun j hj => hy j (by omega)), f2, rfl⟩
      refine ⟨e, fun pm => ?_, g2⟩
      unfold f_X0_resolve_B8
      dsimp only
      have e2 : stepN b tb st (it (stepN b tb st) k x0) = it (stepN b tb st) (k + 1) x0 := rfl
      rw [if_neg (by decide), if_neg (show ¬ (32768 : Int32) ≤ nI k from nI_ge (a := k) (b := 32768) (by omega) (by omega)), e1, Option.bind_some, if_neg n10, hm', Option.bind_some, e2]
      dsimp only
      rw [f1, Option.bind_some, nI_1]
      exact g1 pm
    · refine ⟨_, fun pm => ?_, k, a, row, many, keys, tails, homes, mk, rfl, ha, hk0, hdis, hTk, hno, hk1, hk2, hat⟩
      unfold f_X0_resolve_B8
      dsimp only
      rw [if_pos (nI_pos' (by omega))]) F 32768 ((0 : Int32), lN x0, (-1 : Int32), row, many, keys, tails, homes) ⟨0, (-1 : Int32), row, many, keys, tails, homes, m, rfl, fun i j _ hj => absurd hj (Nat.not_lt_zero _), hm, fun j hj => absurd hj (Nat.not_lt_zero _), fun j hj => absurd hj (Nat.not_lt_zero _), fun y _ => rfl, Or.inl ⟨rfl, hm0⟩, rfl⟩ (by omega)
  exact ⟨k, a, row', many', keys', tails', homes', mk, h1, h2⟩
theorem nI_m1 {h : Nat} (hh : h < 2 ^ 31) : ¬ nI h = (-1 : Int32) := fun q => by
  have := nI_pos' hh
  rw [q] at this
  exact absurd this (by decide)
theorem p_resolve {F b st T x0 Z NN : Nat} {B : Nat} {D : List Nat} {tb : Nat → Nat} {worth : Nat → Int32} {keys : Nat → Int64} {tails homes : Nat → Int32} {m : SM} {ls ln fb od : Nat → Nat} {leasts : Nat → Int64} {lengths firstBy order : Nat → Int32} (hF : 70000 ≤ F) (hb : bOK b) (hw : tbOK worth tb) (hst : st ≤ 5) (hT : T < 2 ^ 20) (hA : AM (stepN b tb st) B D) (hx : x0 < B) (hxD : x0 ∈ D) (hm : TAB T keys tails homes m) (hM : MT (stepN b tb st) B D Z ls ln m) (hm0 : m x0 = none) (hS : CS (stepN b tb st) B Z ls ln fb od) (hC : CA Z NN ls ln fb od leasts lengths firstBy order) (row many : Nat → Int32) : ∃ (NN' Z' : Nat) (row' many' : Nat → Int32) (keys' : Nat → Int64) (tails' homes' : Nat → Int32) (ls' ln' fb' od' : Nat → Nat) (leasts' : Nat → Int64) (lengths' firstBy' order' : Nat → Int32) (m' : SM), f_X0_resolve F (4 * NN') (lN x0) (nI b) worth row many keys tails homes (nI T) (nI st) (nI Z) NN leasts NN lengths NN firstBy NN order = some (row', many', keys', tails', homes', nI Z', NN', leasts', NN', lengths', NN', firstBy', NN', order') ∧ NN ≤ NN' ∧ EXT Z Z' ls ln fb ls' ln' fb' ∧ CS (stepN b tb st) B Z' ls' ln' fb' od' ∧ CA Z' NN' ls' ln' fb' od' leasts' lengths' firstBy' order' ∧ TAB T keys' tails' homes' m' ∧ MT (stepN b tb st) B D Z' ls' ln' m' ∧ m' x0 ≠ none := by
  have hB := hA.2.2.2
  have hDl := hA.2.1
  have hitB : ∀ j, it (stepN b tb st) j x0 < B := fun j => (AM_it hA hx j).1
  have hitD : ∀ j, it (stepN b tb st) j x0 ∈ D := fun j => by
    cases j with
    | zero => exact hxD
    | succ j => exact (AM_it hA hx j).2
  obtain ⟨k, a, row1, many1, keys1, tails1, homes1, mk, e1, ha, hk0, hdis, hTk, hno, hk1, hk2, hat⟩ := walk_loop (F := F) (Z := Z) (NN := NN) (leasts := leasts) (lengths := lengths) (firstBy := firstBy) (order := order) hF hb hw hst hT hA hx hxD hm (fun y hy => (hM.2 y hy).2.1) hm0 row many
  have hkD := dis_bd hA hx hxD hdis
  have hmkD : ∀ y, mk y ≠ none → y ∈ D := fun y hy => by
    by_cases v : ∃ j, j < k ∧ y = it (stepN b tb st) j x0
    · obtain ⟨j, _, rfl⟩ := v
      exact hitD j
    · refine (hM.2 y ?_).2.1
      rw [← hk2 y (fun j hj q => v ⟨j, hj, q⟩)]
      exact hy
  have hin : ¬ (nI a < 0 ∨ 32768 ≤ a) := fun q => q.elim (nI_pos (by omega)) (by omega)
  by_cases v : ∃ j, j < k ∧ it (stepN b tb st) k x0 = it (stepN b tb st) j x0
  · -- a new round
    obtain ⟨j, hj, hjk⟩ := v
    rw [hjk, hk1 j hj] at hat
    injection hat with hat
    injection hat with ht1 ht2
    have hcy : CY (stepN b tb st) x0 j (k - j) := ⟨by omega, by rw [show j + (k - j) = k by omega]; exact hjk, fun i i' h1 h2 => hdis i i' h1 (by omega)⟩
    have hcy2 := CY_at hcy k
    rw [show j - k = 0 by omega] at hcy2
    obtain ⟨NN', Z', h, row2, many2, ls', ln', fb', od', l', n', f', o', e2, g1, g2, g3, g4, g5, g6, g7⟩ := p_round (F := F) hF hb hw hst hA hS hC (hitB k) hcy2 row1 many1
    obtain ⟨row3, many3, keys3, tails3, homes3, m', e3, h1, h2, h3⟩ := p_settle (F := F) (w := k) (bf := j) (ad := 0) (nI h) hF hb hw hst hT hA hx hxD hdis (by omega) hTk hmkD row2 many2
    refine ⟨NN', Z', row3, many3, keys3, tails3, homes3, ls', ln', fb', od', l', n', f', o', m', ?_, g1, g2, g3, g4, h1, ⟨?_, ?_⟩, ?_⟩
    · unfold f_X0_resolve
      rw [ck_pos (by omega), e1, Option.bind_some]
      dsimp only [Sum.elim_inr]
      show (if 0 ≤ nI a then _ else _) = _
      rw [if_pos (nI_pos' (by omega)), ck_pos (in_ok ha (by omega)), nI_clamp (n := a) (by omega), ← ht1, if_pos ht2.symm, ck_pos hin, ck_pos ⟨by omega, Nat.le_refl _⟩, pk_sub (by omega), e2, Option.bind_some]
      dsimp only
      have e3' : f_X0_settle F (lN x0) (nI k) (nI j) (0 : Int32) (nI h) (nI b) worth row2 many2 keys1 tails1 homes1 (nI T) (nI st) = some (row3, many3, keys3, tails3, homes3) := e3
      rw [ck_pos (by omega), e3', Option.bind_some]
      unfold f_X0_resolve_J147
      rw [ck_pos (by omega)]
    · intro x t ho q
      by_cases u : ∃ i, i < k ∧ x = it (stepN b tb st) i x0
      · obtain ⟨i, hi, rfl⟩ := u
        rw [h2 i hi] at q
        injection q with q
        injection q with q1 q2
        refine ⟨j - i + 0, h, q1.symm, q2.symm, g5, ?_, ?_⟩
        · rw [g6]; exact CY_at hcy i
        · refine CM_back (i := k - i) ?_
          rw [← it_add, show i + (k - i) = k by omega]
          exact g7
      · rw [h3 x (fun i hi q => u ⟨i, hi, q⟩), hk2 x (fun i hi q => u ⟨i, hi, q⟩)] at q
        obtain ⟨t', h', r1, r2, r3, r4, r5⟩ := hM.1 x t ho q
        obtain ⟨w1, w2, w3⟩ := g2.2.1 h' r3
        have := g2.1
        exact ⟨t', h', r1, r2, by omega, by rw [w2]; exact r4, by rw [w1]; exact r5⟩
    · intro x q
      have hs : ∀ y, (m y ≠ none ∨ ∃ i, i < k ∧ y = it (stepN b tb st) i x0) → m' y ≠ none := by
        intro y hy
        by_cases u : ∃ i, i < k ∧ y = it (stepN b tb st) i x0
        · obtain ⟨i, hi, rfl⟩ := u
          rw [h2 i hi]
          exact fun q => by cases q
        · rw [h3 y (fun i hi q => u ⟨i, hi, q⟩), hk2 y (fun i hi q => u ⟨i, hi, q⟩)]
          exact hy.elim id (fun q => absurd q u)
      by_cases u : ∃ i, i < k ∧ x = it (stepN b tb st) i x0
      · obtain ⟨i, hi, rfl⟩ := u
        refine ⟨hitB i, hitD i, hs _ (Or.inr ?_)⟩
        rcases Nat.lt_or_ge (i + 1) k with w | w
        · exact ⟨i + 1, w, rfl⟩
        · have ek : i + 1 = k := by omega
          refine ⟨j, hj, ?_⟩
          show it (stepN b tb st) (i + 1) x0 = _
          rw [ek]; exact hjk
      · rw [h3 x (fun i hi q => u ⟨i, hi, q⟩), hk2 x (fun i hi q => u ⟨i, hi, q⟩)] at q
        obtain ⟨r1, r2, r3⟩ := hM.2 x q
        exact ⟨r1, r2, hs _ (Or.inl r3)⟩
    · rw [show x0 = it (stepN b tb st) 0 x0 from rfl, h2 0 hk0]
      exact fun q => by cases q
  · -- it comes to what is known
    have hmk : m (it (stepN b tb st) k x0) = some (tails1 a, homes1 a) := by
      rw [← hk2 _ (fun j hj q => v ⟨j, hj, q⟩)]
      exact hat
    obtain ⟨t0, h0, r1, r2, r3, r4, r5⟩ := hM.1 _ _ _ hmk
    have hZ := CS_Z hA hS
    obtain ⟨hN1, hN2⟩ := CA_N hC
    have hcl := (hS.1 h0 r3).1
    have horb : ∀ i, m (it (stepN b tb st) i (it (stepN b tb st) k x0)) ≠ none := MT_orb hM (by rw [hmk]; exact fun q => by cases q)
    have hcy : ∀ i, i < k → CY (stepN b tb st) (it (stepN b tb st) i x0) (k - i + t0) (ln h0) := by
      intro i hi
      obtain ⟨c1, c2, c3⟩ := r4
      have sh : ∀ d, it (stepN b tb st) (k - i + d) (it (stepN b tb st) i x0) = it (stepN b tb st) d (it (stepN b tb st) k x0) := fun d => by
        rw [← it_add, ← it_add, show i + (k - i + d) = k + d by omega]
      refine ⟨c1, ?_, fun p q hpq hq => ?_⟩
      · rw [show k - i + t0 + ln h0 = k - i + (t0 + ln h0) by omega, sh, sh]
        exact c2
      · rcases Nat.lt_or_ge q (k - i) with w | w
        · rw [← it_add, ← it_add]
          exact hdis (i + p) (i + q) (by omega) (by omega)
        · obtain ⟨q', rfl⟩ : ∃ q', q = k - i + q' := ⟨q - (k - i), by omega⟩
          rw [sh]
          rcases Nat.lt_or_ge p (k - i) with u | u
          · rw [← it_add]
            intro z
            have := horb q'
            rw [← z] at this
            exact this (hno (i + p) (by omega))
          · obtain ⟨p', rfl⟩ : ∃ p', p = k - i + p' := ⟨p - (k - i), by omega⟩
            rw [sh]
            exact c3 p' q' (by omega) (by omega)
    obtain ⟨row3, many3, keys3, tails3, homes3, m', e3, h1, h2, h3⟩ := p_settle (F := F) (w := k) (bf := k) (ad := t0) (nI h0) hF hb hw hst hT hA hx hxD hdis (by omega) hTk hmkD row1 many1
    refine ⟨NN, Z, row3, many3, keys3, tails3, homes3, ls, ln, fb, od, leasts, lengths, firstBy, order, m', ?_, Nat.le_refl _, EXT_rfl, hS, hC, h1, ⟨?_, ?_⟩, ?_⟩
    · unfold f_X0_resolve
      rw [ck_pos (by omega), e1, Option.bind_some]
      show (if 0 ≤ nI a then _ else _) = _
      dsimp only
      rw [if_pos (nI_pos' (by omega)), ck_pos (in_ok ha (by omega)), nI_clamp (n := a) (by omega), if_neg (by rw [r2]; exact nI_m1 (by omega)), ck_pos hin, ck_pos hin, r1, r2, e3, Option.bind_some]
      unfold f_X0_resolve_J147
      rw [ck_pos (by omega)]
    · intro x t ho q
      by_cases u : ∃ i, i < k ∧ x = it (stepN b tb st) i x0
      · obtain ⟨i, hi, rfl⟩ := u
        rw [h2 i hi] at q
        injection q with q
        injection q with q1 q2
        refine ⟨k - i + t0, h0, q1.symm, q2.symm, r3, hcy i hi, ?_⟩
        refine CM_back (i := k - i) ?_
        rw [← it_add, show i + (k - i) = k by omega]
        exact r5
      · rw [h3 x (fun i hi q => u ⟨i, hi, q⟩), hk2 x (fun i hi q => u ⟨i, hi, q⟩)] at q
        exact hM.1 x t ho q
    · intro x q
      have hs : ∀ y, (m y ≠ none ∨ ∃ i, i < k ∧ y = it (stepN b tb st) i x0) → m' y ≠ none := by
        intro y hy
        by_cases u : ∃ i, i < k ∧ y = it (stepN b tb st) i x0
        · obtain ⟨i, hi, rfl⟩ := u
          rw [h2 i hi]
          exact fun q => by cases q
        · rw [h3 y (fun i hi q => u ⟨i, hi, q⟩), hk2 y (fun i hi q => u ⟨i, hi, q⟩)]
          exact hy.elim id (fun q => absurd q u)
      by_cases u : ∃ i, i < k ∧ x = it (stepN b tb st) i x0
      · obtain ⟨i, hi, rfl⟩ := u
        refine ⟨hitB i, hitD i, hs _ ?_⟩
        rcases Nat.lt_or_ge (i + 1) k with w | w
        · exact Or.inr ⟨i + 1, w, rfl⟩
        · have ek : i + 1 = k := by omega
          refine Or.inl ?_
          show m (it (stepN b tb st) (i + 1) x0) ≠ none
          rw [ek, hmk]
          exact fun q => by cases q
      · rw [h3 x (fun i hi q => u ⟨i, hi, q⟩), hk2 x (fun i hi q => u ⟨i, hi, q⟩)] at q
        obtain ⟨r1, r2, r3⟩ := hM.2 x q
        exact ⟨r1, r2, hs _ (Or.inl r3)⟩
    · rw [show x0 = it (stepN b tb st) 0 x0 from rfl, h2 0 hk0]
      exact fun q => by cases q
