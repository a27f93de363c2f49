/-! who is first, tallest, lost: the reference over the right tails, the class over its row of them -/
theorem TL_v {s : Nat → Nat} {n t r : Nat} {v : Int32} (h : TL s n v) (hc : CH s n t r) : v = if r = 0 then (-1 : Int32) else nI t := by
  obtain ⟨t', r', h1, h2⟩ := h
  obtain ⟨rfl, rfl⟩ := CH_one h1 hc
  exact h2
theorem p_isTo (F : Nat) (a c : Int32) : f_X11_isTo F a c = some (if wi a 0 5 = 0 then 0 else if wi c 0 3000 = 0 then 0 else 1) := by
  unfold f_X11_isTo f_X11_isTo_J28 f_X11_isTo_J29
  rw [p_inI F a 0 5 (a' := 0) (c' := 5) rfl rfl, Option.bind_some]
  split
  · rfl
  · rw [p_inI F c 0 3000 (a' := 0) (c' := 3000) rfl rfl, Option.bind_some]
    split <;> rfl
theorem wi_in {k c : Nat} (h : k ≤ c) (hc : c < 2 ^ 31) : wi (nI k) 0 (nI c) = 1 := by
  unfold wi
  rw [if_neg (nI_pos (by omega)), if_neg (nI_nlt (by omega) (by omega))]
def goF (v : Nat → Int32) (k : Int32) : Nat → Nat → Int32
  | 0, _ => (-4 : Int32)
  | d + 1, n => if v n = k then nI n else goF v k d (n + 1)
theorem first_ref {F b st M k : Nat} {tb : Nat → Nat} {f v : Nat → Int32} (hF : 5000 ≤ F) (hb : bOK b) (hf : tbOK f tb) (hst : st ≤ 5) (hM : M ≤ 3000) (hk : k ≤ 300) (hv : ∀ n, n ≤ M → TL (stepN b tb st) n (v n)) (many mt mr : Int32) (figs : Nat → Int32) : ∃ many' figs' mt' mr', f_X11_first F (nI st) (nI k) (nI M) (nI b) f many figs mt mr = some (goF v (nI k) (M + 1) 0, many', figs', mt', mr') := by
  obtain ⟨RES, hRES⟩ : ∃ z, z = goF v (nI k) (M + 1) 0 := ⟨_, rfl⟩
  obtain ⟨e, h1, many', figs', mt', mr', h2⟩ := lp_ex (B := f_X11_first_B25 F (nI st) (nI k) (nI M) (nI b) f) (fun q x => ∃ j many figs mt mr, x = (nI j, many, figs, mt, mr) ∧ j ≤ M + 1 ∧ goF v (nI k) (M + 1 - j) j = RES ∧ q = M + 1 - j) (fun _ e => ∃ many figs mt mr, e = .inl (RES, many, figs, mt, mr) ∨ (e = .inr (many, figs, mt, mr) ∧ RES = (-4 : Int32))) (by
    rintro rec q x ⟨j, many, figs, mt, mr, rfl, hj, hr, rfl⟩ hrec
    unfold f_X11_first_B25 f_X11_first_J57
    dsimp only
    rcases Nat.lt_or_ge M j with z | z
    · rw [if_pos (nI_lt z (by omega))]
      rw [show M + 1 - j = 0 by omega] at hr
      exact ⟨_, rfl, _, _, _, _, Or.inr ⟨rfl, hr.symm⟩⟩
    · obtain ⟨M', G', t, r, c1, c2⟩ := p_layChain (F := F) (many := many) (figs := figs) (tail := mt) (round := mr) (by omega) hb hf hst (n := j) (by unfold TOP; omega)
      have hvj := TL_v (hv j z) c1
      obtain ⟨b1, b2, b3, b4⟩ := CH_bd c1
      rw [show M + 1 - j = (M + 1 - (j + 1)) + 1 by omega] at hr
      unfold goF at hr
      rw [if_neg (nI_nlt z (by omega)), nI_l (by omega), c2, Option.bind_some]
      dsimp only
      have next : goF v (nI k) (M + 1 - (j + 1)) (j + 1) = RES → ∃ e, rec (nI j + (1 : Int32), M', G', nI t, nI r) = some e ∧ ∃ many figs mt mr, e = .inl (RES, many, figs, mt, mr) ∨ (e = .inr (many, figs, mt, mr) ∧ RES = (-4 : Int32)) := by
        intro q
        rw [nI_1]
        exact hrec (M + 1 - (j + 1)) _ (by omega) ⟨j + 1, _, _, _, _, rfl, by omega, q, rfl⟩
      by_cases y : r = 0
      · rw [if_pos (show nI r ≤ 0 by rw [y]; decide)]
        rw [if_pos y] at hvj
        rw [if_neg (by rw [hvj]; exact fun q => nI_m1 (by omega) q.symm)] at hr
        exact next hr
      · rw [if_neg (nI_nle (by omega) (by omega))]
        rw [if_neg y] at hvj
        by_cases u : t = k
        · rw [if_pos (by rw [u])]
          rw [if_pos (by rw [hvj, u])] at hr
          exact ⟨_, rfl, _, _, _, _, Or.inl (by rw [← hr])⟩
        · rw [if_neg (fun q => u ((nI_eq (by omega) (by omega)).mp q))]
          rw [if_neg (fun q => u ((nI_eq (by omega) (by omega)).mp (by rw [← hvj]; exact q)))] at hr
          exact next hr) F (M + 1) (nI 0, many, figs, mt, mr) ⟨0, many, figs, mt, mr, rfl, by omega, hRES.symm, rfl⟩ (by omega)
  have h1' : lp (f_X11_first_B25 F (nI st) (nI k) (nI M) (nI b) f) F ((0 : Int32), many, figs, mt, mr) = some e := h1
  unfold f_X11_first f_X11_first_J20
  have w1 : wi (nI st) 0 5 = 1 := wi_in (c := 5) hst (by omega)
  have w2 : wi (nI M) 0 3000 = 1 := wi_in (c := 3000) hM (by omega)
  have w3 : wi (nI k) 0 300 = 1 := wi_in (c := 300) hk (by omega)
  rw [p_isTo, Option.bind_some, w1, w2, if_neg n10, if_neg n10, if_neg n10, p_inI F (nI k) 0 300 (a' := 0) (c' := 300) rfl rfl, Option.bind_some, w3, if_neg n10, h1', Option.bind_some, ← hRES]
  rcases h2 with rfl | ⟨rfl, h2⟩
  · exact ⟨_, _, _, _, rfl⟩
  · exact ⟨_, _, _, _, by rw [h2]; rfl⟩
theorem first_cls {F M : Nat} {k : Int32} {v : Nat → Int32} (hF : 5000 ≤ F) (hM : M ≤ 3000) : f_X9_leastWithTail_Z F k (nI M) v = some (goF v k (M + 1) 0) := by
  obtain ⟨RES, hRES⟩ : ∃ z, z = goF v k (M + 1) 0 := ⟨_, rfl⟩
  obtain ⟨e, h1, h2⟩ := lp_ex (B := f_X9_leastWithTail_Z_B2 F k (nI M) v) (fun q x => ∃ j, x = nI j ∧ j ≤ M + 1 ∧ goF v k (M + 1 - j) j = RES ∧ q = M + 1 - j) (fun _ e => e = .inl RES ∨ (e = .inr () ∧ RES = (-4 : Int32))) (by
    rintro rec q x ⟨j, rfl, hj, hr, rfl⟩ hrec
    unfold f_X9_leastWithTail_Z_B2
    rcases Nat.lt_or_ge M j with z | z
    · rw [if_pos (nI_lt z (by omega))]
      rw [show M + 1 - j = 0 by omega] at hr
      exact ⟨_, rfl, Or.inr ⟨rfl, hr.symm⟩⟩
    · rw [show M + 1 - j = (M + 1 - (j + 1)) + 1 by omega] at hr
      unfold goF at hr
      rw [if_neg (nI_nlt z (by omega)), if_neg (show ¬ (3001 : Int32) ≤ nI j from nI_ge (a := j) (b := 3001) (by omega) (by omega)), ck_pos (in_ok (by omega) (by omega)), nI_clamp (by omega), nI_1]
      by_cases y : v j = k
      · rw [if_pos y]
        rw [if_pos y] at hr
        exact ⟨_, rfl, Or.inl (by rw [← hr])⟩
      · rw [if_neg y]
        rw [if_neg y] at hr
        exact hrec (M + 1 - (j + 1)) _ (by omega) ⟨j + 1, rfl, by omega, hr, rfl⟩) F (M + 1) (nI 0) ⟨0, rfl, by omega, hRES.symm, rfl⟩ (by omega)
  have h1' : lp (f_X9_leastWithTail_Z_B2 F k (nI M) v) F (0 : Int32) = some e := h1
  unfold f_X9_leastWithTail_Z
  rw [h1', Option.bind_some, ← hRES]
  rcases h2 with rfl | ⟨rfl, h2⟩
  · rfl
  · rw [h2]; rfl
theorem first_YZ : f_X9_leastWithTail_Y = f_X9_leastWithTail_Z := rfl
theorem long_YZ : f_X9_withLongestTail_Y = f_X9_withLongestTail_Z := rfl
theorem lost_YZ : f_X9_lostAt_Y = f_X9_lostAt_Z := rfl
/-! lost -/
theorem lost_cls {F M : Nat} {i : Int32} {v : Nat → Int32} (hF : 5000 ≤ F) (hM : M ≤ 3000) : f_X9_lostAt_Z F (nI M) i v = some (scA i (scn (fun x => decide (v x = (-1 : Int32))) i (M + 1) 0 0)) := by
  obtain ⟨s', -, A⟩ := scan_lp (B := f_X9_lostAt_Z_B5 F (nI M) i v) (fun x => decide (v x = (-1 : Int32))) i (M + 1) 0 (fun _ : Unit => True) (fun _ t j => (nI t, nI j)) (fun _ x => .inl (nI x)) (fun _ t => .inr (nI t)) (by
    intro rec s t _
    unfold f_X9_lostAt_Z_B5
    dsimp only
    rw [if_pos (nI_lt (by omega) (by omega))]) (by
    intro rec s t j _ _ hj
    refine ⟨(), trivial, ?_⟩
    unfold f_X9_lostAt_Z_B5 f_X9_lostAt_Z_J43
    dsimp only
    rw [if_neg (nI_nlt (by omega) (by omega)), if_neg (show ¬ (3001 : Int32) ≤ nI j from nI_ge (b := 3001) (by omega) (by omega)), ck_pos (in_ok (by omega) (by omega)), nI_clamp (by omega), nI_1, nI_1]
    by_cases z : v j = (-1 : Int32)
    · rw [if_pos z, if_pos (decide_eq_true z)]
    · rw [if_neg z, if_neg (fun q => z (of_decide_eq_true q))]) (F := F) (by omega) (by omega) () trivial
  have A' : lp (f_X9_lostAt_Z_B5 F (nI M) i v) F ((0 : Int32), (0 : Int32)) = _ := A
  unfold f_X9_lostAt_Z
  rw [A', Nat.sub_zero, Option.bind_some]
  cases scn (fun x => decide (v x = (-1 : Int32))) i (M + 1) 0 0 with
  | inl x => rfl
  | inr t =>
    dsimp only [Sum.elim_inr]
    rw [p_count]
    rfl
theorem lost_ref {F b st M : Nat} {tb : Nat → Nat} {f v : Nat → Int32} {i : Int32} (hF : 5000 ≤ F) (hb : bOK b) (hf : tbOK f tb) (hst : st ≤ 5) (hM : M ≤ 3000) (hi : (-1 : Int32) ≤ i) (hv : ∀ n, n ≤ M → TL (stepN b tb st) n (v n)) (many mt mr : Int32) (figs : Nat → Int32) : ∃ many' figs' mt' mr', f_X11_lost F (nI st) (nI M) i (nI b) f many figs mt mr = some (scA i (scn (fun x => decide (v x = (-1 : Int32))) i (M + 1) 0 0), many', figs', mt', mr') := by
  have w1 : wi (nI st) 0 5 = 1 := wi_in (c := 5) hst (by omega)
  have w2 : wi (nI M) 0 3000 = 1 := wi_in (c := 3000) hM (by omega)
  unfold f_X11_lost f_X11_lost_J86
  rw [p_isTo, Option.bind_some, w1, w2, if_neg n10, if_neg n10, if_neg n10, if_pos hi]
  obtain ⟨s', -, A⟩ := scan_lp (B := f_X11_lost_B21 F (nI st) (nI M) i (nI b) f) (fun x => decide (v x = (-1 : Int32))) i (M + 1) 0 (fun _ : Int32 × (Nat → Int32) × Int32 × Int32 => True) (fun s t j => (nI t, nI j, s.1, s.2.1, s.2.2.1, s.2.2.2)) (fun s x => .inl (nI x, s.1, s.2.1, s.2.2.1, s.2.2.2)) (fun s t => .inr (nI t, s.1, s.2.1, s.2.2.1, s.2.2.2)) (by
    intro rec s t _
    unfold f_X11_lost_B21
    dsimp only
    rw [if_pos (nI_lt (by omega) (by omega))]) (by
    intro rec s t j _ _ hj
    obtain ⟨M', G', tt, r, c1, c2⟩ := p_layChain (F := F) (many := s.1) (figs := s.2.1) (tail := s.2.2.1) (round := s.2.2.2) (by omega) hb hf hst (n := j) (by unfold TOP; omega)
    have hvj := TL_v (hv j (by omega)) c1
    obtain ⟨b1, b2, b3, b4⟩ := CH_bd c1
    refine ⟨(M', G', nI tt, nI r), trivial, ?_⟩
    unfold f_X11_lost_B21 f_X11_lost_J51 f_X11_lost_J65
    dsimp only
    have e0 : nI t + (0 : Int32) = nI t := nI_add t 0
    rw [if_neg (nI_nlt (by omega) (by omega)), nI_l (by omega), c2, Option.bind_some]
    dsimp only
    rw [e0, nI_1, nI_1]
    by_cases y : r = 0
    · have y2 : nI r = 0 := by rw [y]; exact nI_0
      rw [if_pos y] at hvj
      rw [if_pos y2, if_pos y2, if_pos (decide_eq_true hvj)]
    · have y2 : ¬ nI r = 0 := nI_ne0 (by omega) (by omega)
      rw [if_neg y] at hvj
      rw [if_neg y2, if_neg y2, if_neg (fun q => nI_m1 (h := tt) (by omega) (by rw [← hvj]; exact of_decide_eq_true q))]) (F := F) (by omega) (by omega) (many, figs, mt, mr) trivial
  have A' : lp (f_X11_lost_B21 F (nI st) (nI M) i (nI b) f) F ((0 : Int32), (0 : Int32), many, figs, mt, mr) = _ := A
  rw [A', Nat.sub_zero, Option.bind_some]
  refine ⟨s'.1, s'.2.1, s'.2.2.1, s'.2.2.2, ?_⟩
  cases scn (fun x => decide (v x = (-1 : Int32))) i (M + 1) 0 0 with
  | inl x => rfl
  | inr t =>
    dsimp only [Sum.elim_inr, scA]
    split <;> rfl
/-! tallest -/
def tlF (v : Nat → Int32) : Nat → Nat → Int32 → Int32 → Int32
  | 0, _, bst, _ => bst
  | d + 1, n, bst, lg => if v n ≤ lg then tlF v d (n + 1) bst lg else tlF v d (n + 1) (nI n) (v n)
theorem tall_cls {F M : Nat} {v : Nat → Int32} (hF : 5000 ≤ F) (hM : M ≤ 3000) : f_X9_withLongestTail_Z F (nI M) v = some (tlF v (M + 1) 0 (-1) (-1)) := by
  have h1 : lp (f_X9_withLongestTail_Z_B7 F (nI M) v) F ((-1 : Int32), (-1 : Int32), (0 : Int32)) = some (tlF v (M + 1) 0 (-1) (-1)) := by
    refine lp_by (B := f_X9_withLongestTail_Z_B7 F (nI M) v) (fun q x e => ∃ j bst lg, x = (bst, lg, nI j) ∧ j ≤ M + 1 ∧ e = tlF v (M + 1 - j) j bst lg ∧ q = M + 1 - j) ?_ F (M + 1) _ _ ⟨0, _, _, rfl, by omega, rfl, rfl⟩ (by omega)
    rintro rec q x e ⟨j, bst, lg, rfl, hj, rfl, rfl⟩ hrec
    unfold f_X9_withLongestTail_Z_B7 f_X9_withLongestTail_Z_J45
    dsimp only
    rcases Nat.lt_or_ge M j with z | z
    · rw [if_pos (nI_lt z (by omega)), show M + 1 - j = 0 by omega]
      rfl
    · have hin : ¬ (nI j < 0 ∨ 3001 ≤ j) := fun q => q.elim (nI_pos (by omega)) (by omega)
      rw [if_neg (nI_nlt z (by omega)), if_neg (show ¬ (3001 : Int32) ≤ nI j from nI_ge (b := 3001) (by omega) (by omega)), ck_pos (in_ok (by omega) (by omega)), nI_clamp (by omega), nI_1, show M + 1 - j = (M + 1 - (j + 1)) + 1 by omega]
      unfold tlF
      by_cases y : v j ≤ lg
      · rw [if_pos y, if_pos y]
        exact hrec (M + 1 - (j + 1)) _ _ (by omega) ⟨j + 1, _, _, rfl, by omega, rfl, by omega⟩
      · rw [if_neg y, if_neg y, ck_pos hin]
        exact hrec (M + 1 - (j + 1)) _ _ (by omega) ⟨j + 1, _, _, rfl, by omega, rfl, by omega⟩
  unfold f_X9_withLongestTail_Z
  rw [h1, Option.bind_some]
/-- the reference's best beside the class's -/
def tlB (v : Nat → Int32) (M : Nat) (bst lg rb rm : Int32) : Prop := (bst = (-1 : Int32) ∧ lg = (-1 : Int32) ∧ rb = (-4 : Int32) ∧ rm = (-4 : Int32)) ∨ ∃ n0 t0, n0 ≤ M ∧ t0 ≤ 301 ∧ bst = nI n0 ∧ lg = nI t0 ∧ rb = nI n0 ∧ rm = nI t0 ∧ v n0 = nI t0
theorem tall_ref {F b st M w : Nat} {tb : Nat → Nat} {f v : Nat → Int32} (hF : 5000 ≤ F) (hb : bOK b) (hf : tbOK f tb) (hst : st ≤ 5) (hM : M ≤ 3000) (hw : w ≤ 1) (hv : ∀ n, n ≤ M → TL (stepN b tb st) n (v n)) (many mt mr : Int32) (figs : Nat → Int32) : ∃ rb rm lg many' figs' mt' mr', f_X11_tallest F (nI st) (nI M) (nI w) (nI b) f many figs mt mr = some (if nI w = 0 then rb else rm, many', figs', mt', mr') ∧ tlB v M (tlF v (M + 1) 0 (-1) (-1)) lg rb rm := by
  have w1 : wi (nI st) 0 5 = 1 := wi_in (c := 5) hst (by omega)
  have w2 : wi (nI M) 0 3000 = 1 := wi_in (c := 3000) hM (by omega)
  have w3 : wi (nI w) 0 1 = 1 := wi_in (c := 1) hw (by omega)
  obtain ⟨RES, hRES⟩ : ∃ z, z = tlF v (M + 1) 0 (-1) (-1) := ⟨_, rfl⟩
  obtain ⟨e, h1, rb, rm, lg, many', figs', mt', mr', rfl, h2⟩ := lp_ex (B := f_X11_tallest_B31 F (nI st) (nI M) (nI b) f) (fun q x => ∃ j bst lg rb rm many figs mt mr, x = (rb, rm, nI j, many, figs, mt, mr) ∧ j ≤ M + 1 ∧ tlF v (M + 1 - j) j bst lg = RES ∧ tlB v M bst lg rb rm ∧ q = M + 1 - j) (fun _ e => ∃ rb rm lg many figs mt mr, e = (rb, rm, many, figs, mt, mr) ∧ tlB v M RES lg rb rm) (by
    rintro rec q x ⟨j, bst, lg, rb, rm, many, figs, mt, mr, rfl, hj, hr, hB, rfl⟩ hrec
    unfold f_X11_tallest_B31 f_X11_tallest_J71
    dsimp only
    rcases Nat.lt_or_ge M j with z | z
    · rw [if_pos (nI_lt z (by omega))]
      rw [show M + 1 - j = 0 by omega] at hr
      have hr' : bst = RES := hr
      subst hr'
      exact ⟨_, rfl, _, _, _, _, _, _, _, rfl, hB⟩
    · obtain ⟨M', G', t, r, c1, c2⟩ := p_layChain (F := F) (many := many) (figs := figs) (tail := mt) (round := mr) (by omega) hb hf hst (n := j) (by unfold TOP; omega)
      have hvj := TL_v (hv j z) c1
      obtain ⟨b1, b2, b3, b4⟩ := CH_bd c1
      rw [show M + 1 - j = (M + 1 - (j + 1)) + 1 by omega] at hr
      unfold tlF at hr
      rw [if_neg (nI_nlt z (by omega)), nI_l (by omega), c2, Option.bind_some]
      dsimp only
      rw [nI_1]
      by_cases y : r = 0
      · rw [if_pos (show nI r ≤ 0 by rw [y]; decide)]
        rw [if_pos y] at hvj
        have hle : v j ≤ lg := by
          rw [hvj]
          rcases hB with ⟨_, q, _⟩ | ⟨n0, t0, _, q1, _, q2, _⟩
          · rw [q]; decide
          · rw [q2]
            have : (-1 : Int32) < nI t0 := by
              rw [Int32.lt_iff_toInt_lt, nI_toInt (by omega)]
              have : (-1 : Int32).toInt = -1 := rfl
              omega
            exact Int32.le_of_lt this
        rw [if_pos hle] at hr
        exact hrec (M + 1 - (j + 1)) _ (by omega) ⟨j + 1, bst, lg, _, _, _, _, _, _, rfl, by omega, hr, hB, rfl⟩
      · rw [if_neg (nI_nle (by omega) (by omega))]
        rw [if_neg y] at hvj
        have new : tlB v M (nI j) (v j) (nI j) (nI t) := Or.inr ⟨j, t, z, by omega, rfl, hvj, rfl, rfl, hvj⟩
        rcases hB with ⟨p1, p2, p3, p4⟩ | ⟨n0, t0, p0, p1, p2, p3, p4, p5, p6⟩
        · have hnl : ¬ v j ≤ lg := by
            rw [hvj, p2, Int32.le_iff_toInt_le, nI_toInt (by omega)]
            have : (-1 : Int32).toInt = -1 := rfl
            omega
          have hnr : ¬ nI t ≤ rm := by
            rw [p4, Int32.le_iff_toInt_le, nI_toInt (by omega)]
            have : (-4 : Int32).toInt = -4 := rfl
            omega
          rw [if_neg hnl] at hr
          rw [if_neg hnr]
          exact hrec (M + 1 - (j + 1)) _ (by omega) ⟨j + 1, nI j, v j, _, _, _, _, _, _, rfl, by omega, hr, new, rfl⟩
        · by_cases u : t ≤ t0
          · rw [if_pos (by rw [hvj, p3]; exact nI_le u (by omega))] at hr
            rw [if_pos (by rw [p5]; exact nI_le u (by omega))]
            exact hrec (M + 1 - (j + 1)) _ (by omega) ⟨j + 1, bst, lg, _, _, _, _, _, _, rfl, by omega, hr, Or.inr ⟨n0, t0, p0, p1, p2, p3, p4, p5, p6⟩, rfl⟩
          · rw [if_neg (by rw [hvj, p3]; exact nI_ge (by omega) (by omega))] at hr
            rw [if_neg (by rw [p5]; exact nI_ge (by omega) (by omega))]
            exact hrec (M + 1 - (j + 1)) _ (by omega) ⟨j + 1, nI j, v j, _, _, _, _, _, _, rfl, by omega, hr, new, rfl⟩) F (M + 1) ((-4 : Int32), (-4 : Int32), nI 0, many, figs, mt, mr) ⟨0, (-1 : Int32), (-1 : Int32), _, _, many, figs, mt, mr, rfl, by omega, hRES.symm, Or.inl ⟨rfl, rfl, rfl, rfl⟩, rfl⟩ (by omega)
  have h1' : lp (f_X11_tallest_B31 F (nI st) (nI M) (nI b) f) F ((-4 : Int32), (-4 : Int32), (0 : Int32), many, figs, mt, mr) = some (rb, rm, many', figs', mt', mr') := h1
  refine ⟨rb, rm, lg, many', figs', mt', mr', ?_, by rw [← hRES]; exact h2⟩
  unfold f_X11_tallest f_X11_tallest_J88
  rw [p_isTo, Option.bind_some, w1, w2, if_neg n10, if_neg n10, if_neg n10, p_inI F (nI w) 0 1 (a' := 0) (c' := 1) rfl rfl, Option.bind_some, w3, if_neg n10, h1', Option.bind_some]
  split <;> rfl
