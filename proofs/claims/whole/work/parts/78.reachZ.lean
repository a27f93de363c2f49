/-! the tails from 0 on, for the other steps -/
def TL (s : Nat → Nat) (n : Nat) (v : Int32) : Prop := ∃ t r, CH s n t r ∧ v = if r = 0 then (-1 : Int32) else nI t
theorem CH_ex {b st n : Nat} {tb : Nat → Nat} (hb : bOK b) (ht : tbB tb) (hst : st ≤ 5) (hn : n ≤ TOP) : ∃ t r, CH (stepN b tb st) n t r := by
  obtain ⟨_, _, t, r, h, _⟩ := p_layChain (F := 1000) (f := fun d => nI (tb d)) (figs := fun _ => 0) (many := 0) (tail := 0) (round := 0) (Nat.le_refl _) hb (fun d hd => ⟨rfl, ht d hd⟩) hst hn
  exact ⟨t, r, h⟩
theorem dl_allz {b : Nat} (hb : 2 ≤ b) : ∀ (k n : Nat), n < 2 ^ k → (∀ d ∈ dl b k n, d = 0) → n = 0
  | 0, n, h, _ => by simpa using h
  | k + 1, n, h, hz => by
    unfold dl at hz
    by_cases h0 : n = 0
    · exact h0
    · rw [if_neg h0] at hz
      have h1 := hz (n % b) List.mem_cons_self
      have h2 := dl_allz hb k (n / b) (div_half hb h) (fun d hd => hz d (List.mem_cons_of_mem _ hd))
      have h3 := Nat.div_add_mod n b
      rw [h1, h2, Nat.mul_zero] at h3
      exact h3.symm
theorem dg_nz {b n : Nat} (hb : 2 ≤ b) (h0 : n ≠ 0) (h : n < 2 ^ 64) : ∃ d, d ∈ dg b n ∧ d ≠ 0 := by
  rw [dg_eq hb h0 h]
  refine Classical.byContradiction (fun q => h0 (dl_allz hb 64 n h (fun d hd => ?_)))
  exact Classical.byContradiction (fun z => q ⟨d, hd, z⟩)
theorem vl_pos {b : Nat} (hb : 1 ≤ b) : ∀ (l : List Nat) (a : Nat), (0 < a ∨ ∃ d, d ∈ l ∧ d ≠ 0) → 0 < vl b l a
  | [], a, h => by
    rcases h with h | ⟨d, hd, _⟩
    · exact h
    · cases hd
  | x :: l, a, h => by
    show 0 < vl b l (a * b + x)
    refine vl_pos hb l _ ?_
    rcases h with h | ⟨d, hd, hz⟩
    · left
      have := Nat.mul_pos h (show 0 < b by omega)
      omega
    · rcases List.mem_cons.mp hd with q | q
      · left; omega
      · exact Or.inr ⟨d, q, hz⟩
theorem fold_pos {tb : Nat → Nat} : ∀ (l : List Nat) (a : Nat), (0 < a ∨ ∃ d, d ∈ l ∧ tb d ≠ 0) → 0 < l.foldl (fun a d => a + tb d) a
  | [], a, h => by
    rcases h with h | ⟨d, hd, _⟩
    · exact h
    · cases hd
  | x :: l, a, h => by
    show 0 < l.foldl (fun a d => a + tb d) (a + tb x)
    refine fold_pos l _ ?_
    rcases h with h | ⟨d, hd, hz⟩
    · left; omega
    · rcases List.mem_cons.mp hd with q | q
      · left; rw [q] at hz; omega
      · exact Or.inr ⟨d, q, hz⟩
theorem grow_st {b st : Nat} {tb : Nat → Nat} (hb : bOK b) (h : st = 2 ∨ (st = 4 ∧ ∀ d, 1 ≤ d → d < b → tb d ≠ 0)) {x : Nat} (hx : 0 < x) (hx2 : x ≤ TOP) : x < stepN b tb st x := by
  unfold TOP at hx2
  obtain ⟨d, hd, hz⟩ := dg_nz (n := x) hb.1 (by omega) (by omega)
  rcases h with rfl | ⟨rfl, h⟩
  · have : 0 < trnN b x := vl_pos (by have := hb.1; omega) (dg b x) 0 (Or.inr ⟨d, hd, hz⟩)
    show x < x + trnN b x
    omega
  · have : 0 < sumN b tb x := fold_pos (dg b x) 0 (Or.inr ⟨d, hd, h d (by omega) (dg_b hb d hd)⟩)
    show x < x + sumN b tb x
    omega
theorem it_mono {s : Nat → Nat} {n N : Nat} (hs : ∀ i, i < N → it s i n ≤ s (it s i n)) : ∀ j i, i ≤ j → j ≤ N → it s i n ≤ it s j n
  | 0, i, hi, _ => by
    have : i = 0 := by omega
    subst this; exact Nat.le_refl _
  | j + 1, i, hi, hj => by
    by_cases z : i = j + 1
    · subst z; exact Nat.le_refl _
    · have h1 := it_mono hs j i (by omega) (by omega)
      have h2 : it s j n ≤ it s (j + 1) n := hs j (by omega)
      omega
/-- a chain that grows is lost -/
theorem grow_lost {b st n : Nat} {tb : Nat → Nat} (hb : bOK b) (ht : tbB tb) (hst : st ≤ 5) (h : st = 2 ∨ (st = 4 ∧ ∀ d, 1 ≤ d → d < b → tb d ≠ 0)) (hn : 0 < n) (hn2 : n ≤ TOP) : TL (stepN b tb st) n (-1 : Int32) := by
  obtain ⟨t, r, hc⟩ := CH_ex (n := n) hb ht hst hn2
  refine ⟨t, r, hc, ?_⟩
  rcases hc with ⟨h1, h2, h3, h4, h5⟩ | ⟨h1, _⟩
  · exfalso
    have pos : ∀ i, i ≤ t + r → 0 < it (stepN b tb st) i n := by
      intro i
      induction i with
      | zero => intro _; exact hn
      | succ i ih =>
        intro hi
        have q1 := ih (by omega)
        have q2 := grow_st hb h q1 (h5 i (by omega))
        show 0 < stepN b tb st (it (stepN b tb st) i n)
        omega
    have up : ∀ i, i < t + r → it (stepN b tb st) i n < it (stepN b tb st) (i + 1) n := fun i hi => grow_st hb h (pos i (by omega)) (h5 i (by omega))
    have mono := it_mono (s := stepN b tb st) (n := n) (N := t + r) (fun i hi => Nat.le_of_lt (up i hi)) (t + r) (t + 1) (by omega) (Nat.le_refl _)
    have := up t (by omega)
    omega
  · rw [if_pos h1]
theorem p_idle {F b : Nat} {tb : Nat → Nat} {worth : Nat → Int32} (hF : 100 < F) (hb : bOK b) (hw : tbOK worth tb) : (f_X1_hasIdleFigure F (nI b) worth = some (1 : Int32)) ∨ (f_X1_hasIdleFigure F (nI b) worth = some (0 : Int32) ∧ ∀ d, 1 ≤ d → d < b → tb d ≠ 0) := by
  have hb1 := hb.1
  have hb2 := hb.2
  obtain ⟨e, h1, h2⟩ := lp_ex (B := f_X1_hasIdleFigure_B2 F (nI b) worth) (fun q x => ∃ i, x = nI i ∧ 1 ≤ i ∧ i ≤ b ∧ (∀ d, 1 ≤ d → d < i → tb d ≠ 0) ∧ q = b - i) (fun _ e => e = .inl (1 : Int32) ∨ (e = .inr () ∧ ∀ d, 1 ≤ d → d < b → tb d ≠ 0)) (by
    rintro rec q x ⟨i, rfl, hi1, hi, hz, rfl⟩ hrec
    unfold f_X1_hasIdleFigure_B2
    rcases Nat.lt_or_ge i b with z | z
    · obtain ⟨w1, w2⟩ := hw i (by omega)
      rw [if_neg (nI_ge z (by omega)), ck_pos (in_ok (by omega) (by omega)), nI_clamp (by omega)]
      by_cases y : tb i = 0
      · rw [if_pos (by rw [w1, y]; exact nI_0)]
        exact ⟨_, rfl, Or.inl rfl⟩
      · rw [if_neg (by rw [w1]; exact nI_ne0 (by omega) (by omega)), nI_1]
        refine hrec (b - (i + 1)) _ (by omega) ⟨i + 1, rfl, by omega, z, fun d h1 h2 => ?_, rfl⟩
        by_cases v : d = i
        · subst v; exact y
        · exact hz d h1 (by omega)
    · have : i = b := by omega
      subst this
      rw [if_pos (nI_le (Nat.le_refl _) (by omega))]
      exact ⟨_, rfl, Or.inr ⟨rfl, hz⟩⟩) F (b - 1) (nI 1) ⟨1, rfl, Nat.le_refl _, by omega, fun d h1 h2 => by omega, rfl⟩ (by omega)
  have h1' : lp (f_X1_hasIdleFigure_B2 F (nI b) worth) F (1 : Int32) = some e := h1
  unfold f_X1_hasIdleFigure
  rw [h1', Option.bind_some]
  rcases h2 with rfl | ⟨rfl, h2⟩
  · exact Or.inl rfl
  · exact Or.inr ⟨rfl, h2⟩
theorem p_grows {F b st n : Nat} {tb : Nat → Nat} {worth : Nat → Int32} (hF : 100 < F) (hb : bOK b) (hw : tbOK worth tb) (hst : st ≤ 5) (hn : n ≤ TOP) : (f_X1_growsForEver F (nI st) (lN n) (nI b) worth = some (1 : Int32) ∧ TL (stepN b tb st) n (-1 : Int32)) ∨ f_X1_growsForEver F (nI st) (lN n) (nI b) worth = some (0 : Int32) := by
  have hn2 : n ≤ 1000000000000000 := hn
  unfold f_X1_growsForEver f_X1_growsForEver_J23 f_X1_growsForEver_J27 f_X1_growsForEver_J28
  by_cases z : n = 0
  · subst z
    rw [if_pos (by decide)]
    exact Or.inr rfl
  · rw [if_neg (show ¬ lN n ≤ (0 : Int64) from fun q => by
      have := (pk_lLE (a := n) (b := 0) (by omega) (by omega)).mp q
      omega)]
    by_cases z2 : st = 2
    · rw [if_pos (show nI st = (2 : Int32) by rw [z2]; rfl)]
      exact Or.inl ⟨rfl, grow_lost hb (tbB_of hw) hst (Or.inl z2) (by omega) hn⟩
    · rw [if_neg (show ¬ nI st = (2 : Int32) from fun q => z2 ((nI_eq (a := st) (b := 2) (by omega) (by omega)).mp q))]
      by_cases z4 : st = 4
      · rw [if_pos (show nI st = (4 : Int32) by rw [z4]; rfl)]
        rcases p_idle (F := F) hF hb hw with h | ⟨h, hz⟩
        · rw [h, Option.bind_some, if_neg n10]
          exact Or.inr rfl
        · rw [h, Option.bind_some, if_pos z00]
          exact Or.inl ⟨rfl, grow_lost hb (tbB_of hw) hst (Or.inr ⟨z4, hz⟩) (by omega) hn⟩
      · rw [if_neg (show ¬ nI st = (4 : Int32) from fun q => z4 ((nI_eq (a := st) (b := 4) (by omega) (by omega)).mp q))]
        exact Or.inr rfl
/-- one more ahead of a raised chain -/
theorem ahead_ok {F b n : Nat} {tb : Nat → Nat} {v : Int32} (hb : bOK b) (ht : tbB tb) (hn : n < stepN b tb 4 n) (ha : stepN b tb 4 n ≤ TOP) (h : TL (stepN b tb 4) (stepN b tb 4 n) v) : ∃ v', f_X9_tailAheadOf F v = some v' ∧ TL (stepN b tb 4) n v' := by
  have sle : ∀ x, x ≤ stepN b tb 4 x := fun x => by show x ≤ x + sumN b tb x; omega
  obtain ⟨t, r, hc, rfl⟩ := h
  have sh : ∀ i, it (stepN b tb 4) (i + 1) n = it (stepN b tb 4) i (stepN b tb 4 n) := fun i => it_s1 _ i n
  have low : ∀ i, n < it (stepN b tb 4) i (stepN b tb 4 n) := fun i => by
    have := it_mono (s := stepN b tb 4) (n := stepN b tb 4 n) (N := i) (fun j _ => sle _) i 0 (Nat.zero_le _) (Nat.le_refl _)
    have e : it (stepN b tb 4) 0 (stepN b tb 4 n) = stepN b tb 4 n := rfl
    omega
  unfold f_X9_tailAheadOf f_X9_tailAheadOf_J14 f_X9_tailAheadOf_J21
  by_cases hr : r = 0
  · rw [if_pos hr, if_pos rfl]
    refine ⟨_, rfl, ?_⟩
    obtain ⟨t', r', hc'⟩ := CH_ex (n := n) (st := 4) hb ht (by omega) (by omega)
    refine ⟨t', r', hc', ?_⟩
    rcases hc' with ⟨h1, h2, h3, h4, h5⟩ | ⟨h1, _⟩
    · exfalso
      cases t' with
      | zero =>
        rw [Nat.zero_add] at h3
        obtain ⟨r'', rfl⟩ : ∃ r'', r' = r'' + 1 := ⟨r' - 1, by omega⟩
        rw [sh] at h3
        have := low r''
        have e : it (stepN b tb 4) 0 n = n := rfl
        omega
      | succ t' =>
        have hc2 : CH (stepN b tb 4) (stepN b tb 4 n) t' r' := by
          refine Or.inl ⟨h1, by omega, ?_, fun i j hij hj => ?_, fun i hi => ?_⟩
          · rw [← sh, ← sh, show t' + r' + 1 = t' + 1 + r' by omega]; exact h3
          · rw [← sh, ← sh]; exact h4 (i + 1) (j + 1) (by omega) (by omega)
          · rw [← sh]; exact h5 (i + 1) (by omega)
        have := (CH_one hc hc2).2
        omega
    · rw [if_pos h1]
  · rcases hc with ⟨h1, h2, h3, h4, h5⟩ | ⟨h1, _⟩
    · have hr1 : r = 1 := by
        rcases Nat.lt_or_ge 1 r with z | z
        · exfalso
          have m1 := it_mono (s := stepN b tb 4) (n := stepN b tb 4 n) (N := t + r) (fun j _ => sle _) (t + r) (t + 1) (by omega) (Nat.le_refl _)
          have m2 := it_mono (s := stepN b tb 4) (n := stepN b tb 4 n) (N := t + r) (fun j _ => sle _) (t + 1) t (by omega) (by omega)
          exact h4 t (t + 1) (by omega) (by omega) (by omega)
        · omega
      subst hr1
      rw [if_neg hr, if_neg (nI_m1 (by omega))]
      have e2 : nI t + (2 : Int32) = nI (t + 2) := nI_add t 2
      have hdis : ∀ i j, i < j → j < t + 2 → it (stepN b tb 4) i n ≠ it (stepN b tb 4) j n := by
        intro i j hij hj
        obtain ⟨j', rfl⟩ : ∃ j', j = j' + 1 := ⟨j - 1, by omega⟩
        rw [sh]
        cases i with
        | zero =>
          have := low j'
          have e : it (stepN b tb 4) 0 n = n := rfl
          omega
        | succ i => rw [sh]; exact h4 i j' (by omega) (by omega)
      have htop : ∀ i, i ≤ t + 2 → it (stepN b tb 4) i n ≤ TOP := by
        intro i hi
        cases i with
        | zero =>
          have e : it (stepN b tb 4) 0 n = n := rfl
          omega
        | succ i => rw [sh]; exact h5 i (by omega)
      rw [e2]
      by_cases z : t + 2 ≤ 300
      · rw [if_pos (show nI (t + 2) ≤ (300 : Int32) from nI_le (a := t + 2) (b := 300) z (by omega)), nI_1]
        refine ⟨_, rfl, t + 1, 1, Or.inl ⟨by omega, by omega, ?_, fun i j hij hj => hdis i j hij (by omega), fun i hi => htop i (by omega)⟩, by rw [if_neg (by omega)]⟩
        rw [show t + 1 + 1 = (t + 1) + 1 by omega, sh, sh]
        exact h3
      · rw [if_neg (show ¬ nI (t + 2) ≤ (300 : Int32) from nI_ge (a := 300) (b := t + 2) (by omega) (by omega))]
        exact ⟨_, rfl, 301, 0, Or.inr ⟨rfl, Nat.le_refl _, fun i j hij hj => hdis i j hij (by omega), fun i hi => htop i (by omega), Or.inl rfl⟩, by rw [if_pos rfl]⟩
    · exact absurd h1 hr
theorem p_tailZ {F b st n M : Nat} {tb : Nat → Nat} {worth tails : Nat → Int32} {told : Nat → Int64} {sz pt pr : Int32} (hF : 1000 ≤ F) (hb : bOK b) (hw : tbOK worth tb) (hst : st ≤ 5) (hn : n ≤ M) (hM : M ≤ 3000) (htl : st = 4 → ∀ j, n < j → j ≤ M → TL (stepN b tb st) j (tails j)) (row many : Nat → Int32) : ∃ v row' many' told' sz' pt' pr', f_X9_tailFrom_Z F (nI n) (nI M) (nI b) worth row many told sz pt pr (nI st) tails = some (v, row', many', told', sz', pt', pr') ∧ TL (stepN b tb st) n v := by
  have hnT : n ≤ TOP := by unfold TOP; omega
  have walk : ∀ row many : Nat → Int32, ∃ v row' many' told' sz' pt' pr', f_X9_tailFrom_Z_J73 F (nI n) (nI st) (nI b) worth row many told sz pt pr = some (v, row', many', told', sz', pt', pr') ∧ TL (stepN b tb st) n v := by
    intro row many
    obtain ⟨R, C, T, z, t, r, d1, d2, d3, d4⟩ := p_follow (F := F) (row := row) (many := many) (told := told) (z0 := sz) (t0 := pt) (r0 := pr) hF hb hw hst hnT
    obtain ⟨b1, b2, b3, b4⟩ := CH_bd d1
    unfold f_X9_tailFrom_Z_J73 f_X9_tailFrom_Z_J111
    rw [nI_l (by omega), d2, Option.bind_some]
    dsimp only
    by_cases y : r = 0
    · rw [if_pos (by rw [y]; exact nI_0)]
      exact ⟨_, _, _, _, _, _, _, rfl, t, r, d1, by rw [if_pos y]⟩
    · rw [if_neg (nI_ne0 (by omega) (by omega))]
      exact ⟨_, _, _, _, _, _, _, rfl, t, r, d1, by rw [if_neg y]⟩
  unfold f_X9_tailFrom_Z
  rw [nI_l (by omega)]
  rcases p_grows (F := F) (n := n) (by omega) hb hw hst hnT with ⟨g1, g2⟩ | g1
  · rw [g1, Option.bind_some, if_neg n10]
    exact ⟨_, _, _, _, _, _, _, rfl, g2⟩
  · rw [g1, Option.bind_some, if_pos z00]
    by_cases z4 : st = 4
    · subst z4
      rw [if_pos (show nI 4 = (4 : Int32) from rfl)]
      obtain ⟨c', hm⟩ := p_make (F := F) (row := row) (many := many) (by omega) hb hw (n := n) (by omega) hst
      have hm' : f_X1_make F (4 : Int32) (lN n) (nI b) worth row many = some (lN (stepN b tb 4 n), putL row 0 (dg b n), c') := hm
      have hlt := stepN_lt (st := 4) (n := n) hb (tbB_of hw) hnT
      rw [hm', Option.bind_some]
      dsimp only
      by_cases y1 : stepN b tb 4 n ≤ n
      · rw [if_pos ((pk_lLE (by omega) (by omega)).mpr y1)]
        exact walk _ _
      · rw [if_neg (fun q => y1 ((pk_lLE (by omega) (by omega)).mp q)), nI_l (by omega)]
        by_cases y2 : M < stepN b tb 4 n
        · rw [if_pos ((pk_lLT (by omega) (by omega)).mpr y2)]
          exact walk _ _
        · have e1 : (3001 : Int32).toInt64 = lN 3001 := rfl
          rw [if_neg (fun q => y2 ((pk_lLT (by omega) (by omega)).mp q)), e1, if_neg (fun q => by
            have := (pk_lLE (a := 3001) (b := stepN b tb 4 n) (by omega) (by omega)).mp q
            omega), lN_i, ck_pos (in_ok (by omega) (by omega)), nI_clamp (by omega)]
          obtain ⟨v', f1, f2⟩ := ahead_ok (F := F) hb (tbB_of hw) (show n < stepN b tb 4 n by omega) (by unfold TOP; omega) (htl rfl (stepN b tb 4 n) (by omega) (by omega))
          rw [f1, Option.bind_some]
          exact ⟨_, _, _, _, _, _, _, rfl, f2⟩
    · rw [if_neg (show ¬ nI st = (4 : Int32) from fun q => z4 ((nI_eq (a := st) (b := 4) (by omega) (by omega)).mp q))]
      exact walk _ _
/-- what is known of the tails -/
def ZK (s : Nat → Nat) (known : Int32) (tails : Nat → Int32) : Prop := ∃ K, K ≤ 3001 ∧ known = nI K ∧ ∀ j, j < K → TL s j (tails j)
theorem reachZ_loop {F b st M K : Nat} {tb : Nat → Nat} {worth tails : Nat → Int32} {told : Nat → Int64} {sz pt pr zk zv : Int32} (hF : 5000 ≤ F) (hb : bOK b) (hw : tbOK worth tb) (hst : st ≤ 5) (hM : M ≤ 3000) (hK : K ≤ M + 1) (hzk : zk = nI K) (h : ∀ j, j < K → TL (stepN b tb st) j (tails j)) (row many : Nat → Int32) : ∃ row' many' told' sz' pt' pr' tails', lp (f_X9_reach_Z_B49 F (nI M) (nI st) (nI b) worth zk zv) F (nI K, row, many, told, sz, pt, pr, tails) = some (row', many', told', sz', pt', pr', tails') ∧ ∀ j, j ≤ M → TL (stepN b tb st) j (tails' j) := by
  subst hzk
  obtain ⟨e, h1, row', many', told', sz', pt', pr', tails', rfl, h2⟩ := lp_ex (B := f_X9_reach_Z_B49 F (nI M) (nI st) (nI b) worth (nI K) zv) (fun q x => ∃ k row many told sz pt pr tails, x = (nI k, row, many, told, sz, pt, pr, tails) ∧ K ≤ k ∧ k ≤ M + 1 ∧ (∀ j, (j < K ∨ (st = 4 ∧ M + K < j + k ∧ j ≤ M) ∨ (st ≠ 4 ∧ j < k)) → TL (stepN b tb st) j (tails j)) ∧ q = M + 1 - k) (fun _ e => ∃ row' many' told' sz' pt' pr' tails', e = (row', many', told', sz', pt', pr', tails') ∧ ∀ j, j ≤ M → TL (stepN b tb st) j (tails' j)) (by
    rintro rec q x ⟨k, row, many, told, sz, pt, pr, tails, rfl, hk1, hk2, hj, rfl⟩ hrec
    unfold f_X9_reach_Z_B49 f_X9_reach_Z_J74 f_X9_reach_Z_J118
    dsimp only
    rcases Nat.lt_or_ge M k with z | z
    · rw [if_pos (nI_lt z (by omega))]
      refine ⟨_, rfl, _, _, _, _, _, _, tails, rfl, fun j hj2 => hj j ?_⟩
      by_cases z4 : st = 4
      · rcases Nat.lt_or_ge j K with v | v
        · exact Or.inl v
        · exact Or.inr (Or.inl ⟨z4, by omega, hj2⟩)
      · exact Or.inr (Or.inr ⟨z4, by omega⟩)
    · rw [if_neg (nI_nlt z (by omega))]
      by_cases z4 : st = 4
      · rw [if_pos (show nI st = (4 : Int32) by rw [z4]; rfl), pk_sub hk1, pk_sub (by omega)]
        obtain ⟨v, r1, r2, r3, r4, r5, r6, e1, g1⟩ := p_tailZ (F := F) (n := M - (k - K)) (M := M) (tails := tails) (told := told) (sz := sz) (pt := pt) (pr := pr) (by omega) hb hw hst (by omega) hM (fun _ j h1 h2 => hj j (Or.inr (Or.inl ⟨z4, by omega, h2⟩))) row many
        rw [e1, Option.bind_some]
        dsimp only
        rw [if_neg (show ¬ (3001 : Int32) ≤ nI (M - (k - K)) from nI_ge (a := M - (k - K)) (b := 3001) (by omega) (by omega)), ck_pos (in_ok (by omega) (by omega)), nI_clamp (by omega), nI_1]
        refine hrec (M + 1 - (k + 1)) _ (by omega) ⟨k + 1, _, _, _, _, _, _, _, rfl, by omega, by omega, fun j hj2 => ?_, rfl⟩
        by_cases y : j = M - (k - K)
        · rw [y, pk_us]; exact g1
        · rw [pk_un y]
          refine hj j ?_
          rcases hj2 with u | u | u
          · exact Or.inl u
          · exact Or.inr (Or.inl ⟨u.1, by omega, u.2.2⟩)
          · exact absurd z4 u.1
      · rw [if_neg (show ¬ nI st = (4 : Int32) from fun q => z4 ((nI_eq (a := st) (b := 4) (by omega) (by omega)).mp q))]
        obtain ⟨v, r1, r2, r3, r4, r5, r6, e1, g1⟩ := p_tailZ (F := F) (n := k) (M := M) (tails := tails) (told := told) (sz := sz) (pt := pt) (pr := pr) (by omega) hb hw hst z hM (fun q => absurd q z4) row many
        rw [e1, Option.bind_some]
        dsimp only
        rw [if_neg (show ¬ (3001 : Int32) ≤ nI k from nI_ge (a := k) (b := 3001) (by omega) (by omega)), ck_pos (in_ok (by omega) (by omega)), nI_clamp (by omega), nI_1]
        refine hrec (M + 1 - (k + 1)) _ (by omega) ⟨k + 1, _, _, _, _, _, _, _, rfl, by omega, by omega, fun j hj2 => ?_, rfl⟩
        by_cases y : j = k
        · rw [y, pk_us]; exact g1
        · rw [pk_un y]
          refine hj j ?_
          rcases hj2 with u | u | u
          · exact Or.inl u
          · exact absurd u.1 z4
          · exact Or.inr (Or.inr ⟨z4, by omega⟩)) F (M + 1 - K) (nI K, row, many, told, sz, pt, pr, tails) ⟨K, row, many, told, sz, pt, pr, tails, rfl, Nat.le_refl _, hK, fun j hj => by
        rcases hj with u | u | u
        · exact h j u
        · omega
        · exact h j u.2, rfl⟩ (by omega)
  exact ⟨row', many', told', sz', pt', pr', tails', h1, h2⟩
theorem p_reachZ {F b st M V : Nat} {tb : Nat → Nat} {worth tails : Nat → Int32} {told : Nat → Int64} {sz pt pr zk zv : Int32} (hF : 5000 ≤ F) (hb : bOK b) (hw : tbOK worth tb) (hst : st ≤ 5) (hM : M ≤ 3000) (hV : V < 100000) (h : verOK zv V (ZK (stepN b tb st) zk tails)) (row many : Nat → Int32) : ∃ row' many' told' sz' pt' pr' tails' K', f_X9_reach_Z F (nI M) (nI b) worth row many (nI V) told sz pt pr (nI st) tails zk zv = some (row', many', told', sz', pt', pr', tails', nI K', nI V) ∧ M < K' ∧ K' ≤ 3001 ∧ ∀ j, j < K' → TL (stepN b tb st) j (tails' j) := by
  unfold f_X9_reach_Z
  have old : zv = nI V → ZK (stepN b tb st) zk tails := fun q => by
    rcases h with v | ⟨k, hk, v1, v2⟩
    · rw [v] at q; exact absurd q.symm (nI_m1 (by omega))
    · exact v2 ((nI_eq (by omega) (by omega)).mp (by rw [← v1, q]))
  unfold f_X9_reach_Z_J44
  by_cases hv : zv = nI V
  · obtain ⟨K, hK, rfl, hj⟩ := old hv
    rw [if_pos hv]
    rcases Nat.lt_or_ge M K with z | z
    · obtain ⟨G, rfl⟩ : ∃ G, F = G + 1 := ⟨F - 1, by omega⟩
      rw [lp_succ]
      generalize lp (f_X9_reach_Z_B49 (G + 1) (nI M) (nI st) (nI b) worth (nI K) zv) G = rec
      unfold f_X9_reach_Z_B49
      dsimp only
      rw [if_pos (nI_lt z (by omega)), Option.bind_some, nI_1, if_neg (nI_nlt (by omega) (by omega)), hv]
      exact ⟨_, _, _, _, _, _, _, K, rfl, z, hK, hj⟩
    · obtain ⟨r1, r2, r3, r4, r5, r6, tl', e1, g1⟩ := reachZ_loop (F := F) (st := st) (M := M) (tails := tails) (told := told) (sz := sz) (pt := pt) (pr := pr) (zv := zv) hF hb hw hst hM (show K ≤ M + 1 by omega) rfl hj row many
      rw [e1, Option.bind_some, nI_1, if_pos (nI_lt (by omega) (by omega)), hv]
      exact ⟨_, _, _, _, _, _, _, M + 1, rfl, by omega, by omega, fun j hj2 => g1 j (by omega)⟩
  · rw [if_neg hv]
    obtain ⟨r1, r2, r3, r4, r5, r6, tl', e1, g1⟩ := reachZ_loop (F := F) (st := st) (M := M) (K := 0) (tails := tails) (told := told) (sz := sz) (pt := pt) (pr := pr) (zk := (0 : Int32)) (zv := nI V) hF hb hw hst hM (by omega) rfl (fun j hj => absurd hj (Nat.not_lt_zero _)) row many
    have e1' : lp (f_X9_reach_Z_B49 F (nI M) (nI st) (nI b) worth (0 : Int32) (nI V)) F ((0 : Int32), row, many, told, sz, pt, pr, tails) = some (r1, r2, r3, r4, r5, r6, tl') := e1
    rw [e1', Option.bind_some, nI_1, if_pos (show (0 : Int32) < nI (M + 1) from nI_lt (a := 0) (b := M + 1) (by omega) (by omega))]
    exact ⟨_, _, _, _, _, _, _, M + 1, rfl, by omega, by omega, fun j hj2 => g1 j (by omega)⟩
