/-! the tail from one number on -/
def rtT (t r : Nat) : Int32 := if t + r ≤ 300 then nI t else (-1 : Int32)
def rtH (t r h : Nat) : Int32 := if t + r ≤ 300 then nI h else (-1 : Int32)
def fbU (fb : Nat → Nat) (t r h n : Nat) : Nat → Nat := if t + r ≤ 300 then upN fb h (if n < fb h then n else fb h) else fb
def hoU (ho : Nat → Int32) (n : Nat) (v : Int32) : Nat → Int32 := if n < 3001 then upd ho n v else ho
theorem fbU_le {fb : Nat → Nat} {t r h n i : Nat} : fbU fb t r h n i ≤ fb i := by
  unfold fbU
  by_cases z : t + r ≤ 300
  · rw [if_pos z]
    by_cases y : i = h
    · subst y
      rw [upN_s]
      split <;> omega
    · rw [upN_n y]; exact Nat.le_refl _
  · rw [if_neg z]; exact Nat.le_refl _
theorem CS_fb {s : Nat → Nat} {B Z t r h n : Nat} {ls ln fb od : Nat → Nat} (hS : CS s B Z ls ln fb od) : CS s B Z ls ln (fbU fb t r h n) od :=
  ⟨fun i hi => ⟨(hS.1 i hi).1, (hS.1 i hi).2.1, Nat.le_trans fbU_le (hS.1 i hi).2.2⟩, hS.2⟩
theorem p_J100 {F n a i t0 h T Z NN : Nat} {row many : Nat → Int32} {keys : Nat → Int64} {tails homes cho : Nat → Int32} {cst : Int32} {ls ln fb od : Nat → Nat} {leasts : Nat → Int64} {lengths firstBy order : Nat → Int32} (hn : n ≤ 20000) (hi : i < 32768) (ht : tails i = nI t0) (hh : homes i = nI h) (hZ : h < Z) (hbd : t0 + a + ln h < 2 ^ 30) (hC : CA Z NN ls ln fb od leasts lengths firstBy order) (hfb : fb h ≤ 20001) : ∃ firstBy', f_X0_tailFrom_J100 F (nI n) (4 * NN) (nI a) (nI i) row many keys tails homes (nI T) cst cho (nI Z) NN leasts NN lengths NN firstBy NN order = some (rtT (t0 + a) (ln h), row, many, keys, tails, homes, nI T, cst, hoU cho n (rtH (t0 + a) (ln h) h), nI Z, NN, leasts, NN, lengths, NN, firstBy', NN, order) ∧ CA Z NN ls ln (fbU fb (t0 + a) (ln h) h n) od leasts lengths firstBy' order := by
  obtain ⟨hN1, hN2⟩ := CA_N hC
  have hZN := hC.2.1
  obtain ⟨c1, c2, c3, c4⟩ := hC.2.2 h hZ
  have hin : ¬ (nI i < 0 ∨ 32768 ≤ i) := fun q => q.elim (nI_pos (by omega)) (by omega)
  have h0i : (0 : Int32) ≤ nI i := nI_pos' (by omega)
  -- the end: where the number's home is kept
  have fin : ∀ (x4 x5 : Int32) (f' : Nat → Int32), f_X0_tailFrom_J197 F (nI n) (4 * NN) x4 x5 row many keys tails homes (nI T) cst cho (nI Z) NN leasts NN lengths NN f' NN order = some (x5, row, many, keys, tails, homes, nI T, cst, hoU cho n x4, nI Z, NN, leasts, NN, lengths, NN, f', NN, order) := by
    intro x4 x5 f'
    unfold f_X0_tailFrom_J197 f_X0_tailFrom_J214 hoU
    by_cases z : n < 3001
    · rw [if_neg (show ¬ (3001 : Int32) ≤ nI n from nI_ge (a := n) (b := 3001) z (by omega)), ck_pos (in_ok z (by omega)), nI_clamp (by omega), if_pos z, ck_pos (by omega)]
    · rw [if_pos (show (3001 : Int32) ≤ nI n from nI_le (a := 3001) (b := n) (by omega) (by omega)), if_neg z, ck_pos (by omega)]
  have start : f_X0_tailFrom_J100 F (nI n) (4 * NN) (nI a) (nI i) row many keys tails homes (nI T) cst cho (nI Z) NN leasts NN lengths NN firstBy NN order = f_X0_tailFrom_J138 F (nI n) (4 * NN) (nI h) (nI (t0 + a)) row many keys tails homes (nI T) cst cho (nI Z) NN leasts NN lengths NN firstBy NN order := by
    unfold f_X0_tailFrom_J100 f_X0_tailFrom_J117
    rw [if_pos h0i, ck_pos (in_ok hi (by omega)), nI_clamp (by omega), hh, if_pos h0i, ck_pos hin, ht, nI_add]
  rw [start]
  unfold f_X0_tailFrom_J138 f_X0_tailFrom_J170
  rw [if_neg (nI_pos (by omega)), if_neg (nI_ge hZ (by omega)), ck_pos (in_ok (by omega) (by omega)), nI_clamp (n := h) (by omega), c2, nI_add]
  by_cases z : t0 + a + ln h ≤ 300
  · have hin2 : ¬ (nI h < 0 ∨ NN ≤ h) := fun q => q.elim (nI_pos (by omega)) (by omega)
    rw [if_pos (show nI (t0 + a + ln h) ≤ (300 : Int32) from nI_le (a := t0 + a + ln h) (b := 300) z (by omega)), ck_pos hin2, ck_pos hin2, fin, c3]
    have e1 : (if nI n < nI (fb h) then nI n else nI (fb h)) = nI (if n < fb h then n else fb h) := by
      by_cases y : n < fb h
      · rw [if_pos y, if_pos (nI_lt y (by omega))]
      · rw [if_neg y, if_neg (nI_nlt (by omega) (by omega))]
    rw [e1]
    unfold rtT rtH fbU
    rw [if_pos z, if_pos z, if_pos z]
    refine ⟨_, rfl, hC.1, hC.2.1, fun j hj => ?_⟩
    obtain ⟨d1, d2, d3, d4⟩ := hC.2.2 j hj
    refine ⟨d1, d2, ?_, d4⟩
    by_cases y : j = h
    · rw [y, pk_us, upN_s]
    · rw [pk_un y, upN_n y]; exact d3
  · rw [if_neg (show ¬ nI (t0 + a + ln h) ≤ (300 : Int32) from nI_ge (a := 300) (b := t0 + a + ln h) (by omega) (by omega)), fin]
    unfold rtT rtH fbU
    rw [if_neg z, if_neg z, if_neg z]
    exact ⟨_, rfl, hC⟩
theorem CY_succ {s : Nat → Nat} {n t r : Nat} (h : CY s (s n) t r) (hn : ∀ i, it s i (s n) ≠ n) : CY s n (t + 1) r := by
  obtain ⟨h1, h2, h3⟩ := h
  refine ⟨h1, ?_, fun i j hij hj => ?_⟩
  · rw [show t + 1 + r = (t + r) + 1 by omega, it_s1, it_s1]
    exact h2
  · obtain ⟨j', rfl⟩ : ∃ j', j = j' + 1 := ⟨j - 1, by omega⟩
    rw [it_s1]
    cases i with
    | zero => exact fun q => hn j' q.symm
    | succ i =>
      rw [it_s1]
      exact h3 i j' (by omega) (by omega)
abbrev T18 : Type := Int32 × (Nat → Int32) × (Nat → Int32) × (Nat → Int64) × (Nat → Int32) × (Nat → Int32) × Int32 × Int32 × (Nat → Int32) × Int32 × Nat × (Nat → Int64) × Nat × (Nat → Int32) × Nat × (Nat → Int32) × Nat × (Nat → Int32)
/-- what tailFrom gives: f by the lengths of the rows at its end -/
def tfR (f : Nat → Option T18) (s : Nat → Nat) (B : Nat) (D : List Nat) (n T : Nat) (cst : Int32) (cho : Nat → Int32) (Z NN : Nat) (ls ln fb : Nat → Nat) : Prop := ∃ (NN' Z' : Nat) (row' many' : Nat → Int32) (keys' : Nat → Int64) (tails' homes' : Nat → Int32) (ls' ln' fb' od' : Nat → Nat) (leasts' : Nat → Int64) (lengths' firstBy' order' : Nat → Int32) (m' : SM) (t r h : Nat), f (4 * NN') = some (rtT t r, row', many', keys', tails', homes', nI T, cst, hoU cho n (rtH t r h), nI Z', NN', leasts', NN', lengths', NN', firstBy', NN', order') ∧ NN ≤ NN' ∧ EXT Z Z' ls ln fb ls' ln' fb' ∧ CS s B Z' ls' ln' (fbU fb' t r h n) od' ∧ CA Z' NN' ls' ln' (fbU fb' t r h n) od' leasts' lengths' firstBy' order' ∧ TAB T keys' tails' homes' m' ∧ MT s B D Z' ls' ln' m' ∧ CY s n t r ∧ h < Z' ∧ ln' h = r ∧ CM s n (ls' h)
theorem p_J25 {F b st T n Z NN : Nat} {B : Nat} {D : List Nat} {tb : Nat → Nat} {worth : Nat → Int32} {keys : Nat → Int64} {tails homes cho : Nat → Int32} {cst : Int32} {m : SM} {ls ln fb od : Nat → Nat} {leasts : Nat → Int64} {lengths firstBy order : Nat → Int32} (hF : 70000 ≤ F) (hb : bOK b) (hw : tbOK worth tb) (hst : st ≤ 5) (hT : T < 2 ^ 20) (hn : n ≤ 20000) (hA : AM (stepN b tb st) B D) (hm : TAB T keys tails homes m) (hM : MT (stepN b tb st) B D Z ls ln m) (hS : CS (stepN b tb st) B Z ls ln fb od) (hC : CA Z NN ls ln fb od leasts lengths firstBy order) (row many : Nat → Int32) : tfR (fun pm => f_X0_tailFrom_J25 F (nI n) (nI st) (nI b) worth pm row many keys tails homes (nI T) cst cho (nI Z) NN leasts NN lengths NN firstBy NN order) (stepN b tb st) B D n T cst cho Z NN ls ln fb := by
  have hB := hA.2.2.2
  have hB2 := hA.2.2.1
  have hDl := hA.2.1
  have en : (nI n).toInt64 = lN n := nI_l (by omega)
  -- n has a slot
  have one : ∀ (Z NN : Nat) (row many : Nat → Int32) (keys : Nat → Int64) (tails homes : Nat → Int32) (m : SM) (ls ln fb od : Nat → Nat) (leasts : Nat → Int64) (lengths firstBy order : Nat → Int32) (t ho : Int32), m n = some (t, ho) → TAB T keys tails homes m → MT (stepN b tb st) B D Z ls ln m → CS (stepN b tb st) B Z ls ln fb od → CA Z NN ls ln fb od leasts lengths firstBy order → ∃ i firstBy' t' h', f_X8_find F (lN n) keys (nI T) = some (nI i) ∧ i < 32768 ∧ f_X0_tailFrom_J100 F (nI n) (4 * NN) (0 : Int32) (nI i) row many keys tails homes (nI T) cst cho (nI Z) NN leasts NN lengths NN firstBy NN order = some (rtT t' (ln h'), row, many, keys, tails, homes, nI T, cst, hoU cho n (rtH t' (ln h') h'), nI Z, NN, leasts, NN, lengths, NN, firstBy', NN, order) ∧ CA Z NN ls ln (fbU fb t' (ln h') h' n) od leasts lengths firstBy' order ∧ CY (stepN b tb st) n t' (ln h') ∧ h' < Z ∧ CM (stepN b tb st) n (ls h') := by
    intro Z NN row many keys tails homes m ls ln fb od leasts lengths firstBy order t ho hmn hm hM hS hC
    obtain ⟨t', h', r1, r2, r3, r4, r5⟩ := hM.1 _ _ _ hmn
    obtain ⟨i, i1, i2, i3, i4⟩ := find_some (F := F) (by omega) hT hm hmn
    have hq := hM.2 n (by rw [hmn]; exact fun q => by cases q)
    have hbd := dis_bd hA hq.1 hq.2.1 r4.2.2
    obtain ⟨f', e1, h1⟩ := p_J100 (F := F) (n := n) (a := 0) (i := i) (t0 := t') (h := h') (T := T) (row := row) (many := many) (keys := keys) (cho := cho) (cst := cst) hn i1 (i3.trans r1) (i4.trans r2) r3 (by omega) hC (hS.1 h' r3).2.2
    exact ⟨i, f', t', h', i2, i1, e1, h1, r4, r3, r5⟩
  -- what follows n has a slot, n has none
  have two : ∀ (Z NN : Nat) (row many : Nat → Int32) (keys : Nat → Int64) (tails homes : Nat → Int32) (m : SM) (ls ln fb od : Nat → Nat) (leasts : Nat → Int64) (lengths firstBy order : Nat → Int32), m (stepN b tb st n) ≠ none → TAB T keys tails homes m → MT (stepN b tb st) B D Z ls ln m → CS (stepN b tb st) B Z ls ln fb od → CA Z NN ls ln fb od leasts lengths firstBy order → ∃ firstBy' t' h', f_X0_tailFrom_J74 F (nI n) (4 * NN) (0 : Int32) (lN (stepN b tb st n)) row many keys tails homes (nI T) cst cho (nI Z) NN leasts NN lengths NN firstBy NN order = some (rtT t' (ln h'), row, many, keys, tails, homes, nI T, cst, hoU cho n (rtH t' (ln h') h'), nI Z, NN, leasts, NN, lengths, NN, firstBy', NN, order) ∧ CA Z NN ls ln (fbU fb t' (ln h') h' n) od leasts lengths firstBy' order ∧ CY (stepN b tb st) n t' (ln h') ∧ h' < Z ∧ CM (stepN b tb st) n (ls h') := by
    intro Z NN row many keys tails homes m ls ln fb od leasts lengths firstBy order hx hm hM hS hC
    unfold f_X0_tailFrom_J74
    rw [en]
    cases hmn : m n with
    | some p =>
      obtain ⟨t, ho⟩ := p
      obtain ⟨i, f', t', h', k1, k2, k3, k4⟩ := one Z NN row many keys tails homes m ls ln fb od leasts lengths firstBy order t ho hmn hm hM hS hC
      refine ⟨f', t', h', ?_, k4⟩
      rw [k1, Option.bind_some, if_pos (nI_pos' (by omega))]
      exact k3
    | none =>
      cases hmx : m (stepN b tb st n) with
      | none => exact absurd hmx hx
      | some p =>
        obtain ⟨t, ho⟩ := p
        obtain ⟨t', h', r1, r2, r3, r4, r5⟩ := hM.1 _ _ _ hmx
        obtain ⟨i, i1, i2, i3, i4⟩ := find_some (F := F) (by omega) hT hm hmx
        have hq := hM.2 _ hx
        have hbd := dis_bd hA hq.1 hq.2.1 r4.2.2
        obtain ⟨f', e1, h1⟩ := p_J100 (F := F) (n := n) (a := 1) (i := i) (t0 := t') (h := h') (T := T) (row := row) (many := many) (keys := keys) (cho := cho) (cst := cst) hn i1 (i3.trans r1) (i4.trans r2) r3 (by omega) hC (hS.1 h' r3).2.2
        refine ⟨f', t' + 1, h', ?_, h1, CY_succ r4 (fun j q => ?_), r3, CM_back (i := 1) r5⟩
        · rw [find_none (by omega) hT (by omega) hm hmn, Option.bind_some, if_neg (by decide), i2, Option.bind_some]
          exact e1
        · have := MT_orb hM hx j
          rw [q] at this
          exact this hmn
  cases hmn : m n with
  | some p =>
    obtain ⟨t, ho⟩ := p
    obtain ⟨i, f', t', h', k1, k2, k3, k4, k5, k6, k7⟩ := one Z NN row many keys tails homes m ls ln fb od leasts lengths firstBy order t ho hmn hm hM hS hC
    refine ⟨NN, Z, row, many, keys, tails, homes, ls, ln, fb, od, leasts, lengths, f', order, m, t', ln h', h', ?_, Nat.le_refl _, EXT_rfl, CS_fb hS, k4, hm, hM, k5, k6, rfl, k7⟩
    dsimp only
    unfold f_X0_tailFrom_J25
    rw [en, k1, Option.bind_some, if_pos (nI_pos' (by omega))]
    exact k3
  | none =>
    obtain ⟨c', hmk⟩ := p_make (F := F) (row := row) (many := many) (by omega) hb hw (n := n) (by omega) hst
    have hx := hA.1 n (by omega)
    have hfn := find_none (F := F) (by omega) hT (show n < 2 ^ 32 by omega) hm hmn
    cases hmx : m (stepN b tb st n) with
    | some p =>
      obtain ⟨t, ho⟩ := p
      obtain ⟨i, i1, i2, i3, i4⟩ := find_some (F := F) (by omega) hT hm hmx
      obtain ⟨f', t', h', k3, k4, k5, k6, k7⟩ := two Z NN (putL row 0 (dg b n)) c' keys tails homes m ls ln fb od leasts lengths firstBy order (by rw [hmx]; exact fun q => by cases q) hm hM hS hC
      refine ⟨NN, Z, putL row 0 (dg b n), c', keys, tails, homes, ls, ln, fb, od, leasts, lengths, f', order, m, t', ln h', h', ?_, Nat.le_refl _, EXT_rfl, CS_fb hS, k4, hm, hM, k5, k6, rfl, k7⟩
      dsimp only
      unfold f_X0_tailFrom_J25
      rw [en, hfn, Option.bind_some, if_neg (by decide), hmk, Option.bind_some]
      dsimp only
      rw [i2, Option.bind_some, if_pos (nI_pos' (by omega))]
      exact k3
    | none =>
      have hfx := find_none (F := F) (by omega) hT (show stepN b tb st n < 2 ^ 32 by omega) hm hmx
      obtain ⟨NN', Z', row2, many2, keys2, tails2, homes2, ls', ln', fb', od', l', n', f', o', m', e2, g1, g2, g3, g4, g5, g6, g7⟩ := p_resolve (F := F) hF hb hw hst hT hA hx.1 hx.2 hm hM hmx hS hC (putL row 0 (dg b n)) c'
      obtain ⟨f2, t', h', k3, k4, k5, k6, k7⟩ := two Z' NN' row2 many2 keys2 tails2 homes2 m' ls' ln' fb' od' l' n' f' o' g7 g5 g6 g3 g4
      refine ⟨NN', Z', row2, many2, keys2, tails2, homes2, ls', ln', fb', od', l', n', f2, o', m', t', ln' h', h', ?_, g1, g2, CS_fb g3, k4, g5, g6, k5, k6, rfl, k7⟩
      dsimp only
      unfold f_X0_tailFrom_J25
      rw [en, hfn, Option.bind_some, if_neg (by decide), hmk, Option.bind_some]
      dsimp only
      rw [hfx, Option.bind_some, if_neg (by decide), ck_pos ⟨by omega, Nat.le_refl _⟩, e2, Option.bind_some]
      dsimp only
      rw [ck_pos (by omega)]
      exact k3
/-- the slots, as a step's rounds may use them -/
def YS (s : Nat → Nat) (B : Nat) (D : List Nat) (T Z : Nat) (ls ln : Nat → Nat) (keys : Nat → Int64) (tails homes : Nat → Int32) (cst : Int32) : Prop := (cst = nI T ∧ ∃ m, TAB T keys tails homes m ∧ MT s B D Z ls ln m) ∨ (cst ≠ nI T ∧ TAB0 T keys)
theorem p_tailFrom {F b st T n Z NN : Nat} {B : Nat} {D : List Nat} {tb : Nat → Nat} {worth : Nat → Int32} {keys : Nat → Int64} {tails homes cho : Nat → Int32} {cst : Int32} {ls ln fb od : Nat → Nat} {leasts : Nat → Int64} {lengths firstBy order : Nat → Int32} (hF : 70000 ≤ F) (hb : bOK b) (hw : tbOK worth tb) (hst : st ≤ 5) (hT : T + 1 < 2 ^ 20) (hn : n ≤ 20000) (hA : AM (stepN b tb st) B D) (hY : YS (stepN b tb st) B D T Z ls ln keys tails homes cst) (hS : CS (stepN b tb st) B Z ls ln fb od) (hC : CA Z NN ls ln fb od leasts lengths firstBy order) (row many : Nat → Int32) : ∃ T', ((cst = nI T ∧ T' = T) ∨ (cst ≠ nI T ∧ T' = T + 1)) ∧ tfR (fun pm => f_X0_tailFrom F pm (nI n) (nI b) worth row many keys tails homes (nI T) (nI st) cst cho (nI Z) NN leasts NN lengths NN firstBy NN order) (stepN b tb st) B D n T' (nI T') cho Z NN ls ln fb := by
  rcases hY with ⟨rfl, m, h1, h2⟩ | ⟨hne, h0⟩
  · obtain ⟨NN', Z', r', c', k', t', h', a1, a2, a3, a4, a5, a6, a7, a8, m', tt, rr, hh, e, g1, g2⟩ := p_J25 (F := F) (cst := nI T) (cho := cho) hF hb hw hst (by omega) hn hA h1 h2 hS hC row many
    refine ⟨T, Or.inl ⟨rfl, rfl⟩, NN', Z', r', c', k', t', h', a1, a2, a3, a4, a5, a6, a7, a8, m', tt, rr, hh, ?_, g1, g2⟩
    dsimp only at e ⊢
    unfold f_X0_tailFrom
    rw [ck_pos (by omega), if_pos rfl]
    exact e
  · have h1 := TAB_renew tails homes h0
    obtain ⟨NN', Z', r', c', k', t', h', a1, a2, a3, a4, a5, a6, a7, a8, m', tt, rr, hh, e, g1, g2⟩ := p_J25 (F := F) (cst := nI (T + 1)) (cho := cho) hF hb hw hst (by omega) hn hA h1 MT_none hS hC row many
    refine ⟨T + 1, Or.inr ⟨hne, rfl⟩, NN', Z', r', c', k', t', h', a1, a2, a3, a4, a5, a6, a7, a8, m', tt, rr, hh, ?_, g1, g2⟩
    dsimp only at e ⊢
    unfold f_X0_tailFrom f_X8_renew
    rw [ck_pos (by omega), if_neg hne, Option.bind_some]
    dsimp only
    rw [nI_1]
    exact e
