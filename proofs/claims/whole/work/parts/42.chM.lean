/-! the reference's chains -/
theorem it_lt {b st n i : Nat} {tb : Nat → Nat} (hb : bOK b) (ht : tbB tb) (hn : n ≤ TOP) (h : ∀ j, j < i → it (stepN b tb st) j n ≤ TOP) : it (stepN b tb st) i n < 2 ^ 55 := by
  cases i with
  | zero => show n < _; unfold TOP at hn; omega
  | succ i => exact stepN_lt hb ht (h i (Nat.lt_succ_self i))
theorem p_behind {F b st n k : Nat} {f figs : Nat → Int32} {many : Int32} {tb : Nat → Nat} (hF : 1000 ≤ F) (hb : bOK b) (hf : tbOK f tb) (hst : st ≤ 5) (hn : n ≤ TOP) (hk : k ≤ 900) (htop : ∀ i, i < k → it (stepN b tb st) i n ≤ TOP) : ∃ many' figs', f_X11_behind F (nI st) (lN n) (nI k) (nI b) f many figs = some (lN (it (stepN b tb st) k n), many', figs') := by
  obtain ⟨e, h1, m', g', h2⟩ := lp_ex (B := f_X11_behind_B6 F (nI st) (nI k) (nI b) f) (fun q x => ∃ i many figs, x = (lN (it (stepN b tb st) i n), nI i, many, figs) ∧ i ≤ k ∧ q = k - i) (fun _ e => ∃ m' g', e = (lN (it (stepN b tb st) k n), m', g')) (by
    rintro rec q x ⟨i, many, figs, rfl, hi, rfl⟩ hrec
    unfold f_X11_behind_B6
    dsimp only
    rcases Nat.lt_or_ge i k with h | h
    · have h1 := htop i h
      unfold TOP at h1
      rw [if_neg (nI_ge h (by omega)), if_neg (show ¬ (1000000000000000 : Int64) < lN (it (stepN b tb st) i n) from fun z => by
        have := (pk_lLT (a := 1000000000000000) (b := it (stepN b tb st) i n) (by omega) (by omega)).mp z
        omega), p_stepOf (by omega) hb hf (by omega) hst, Option.bind_some, nI_1]
      exact hrec (k - (i + 1)) _ (by omega) ⟨i + 1, _, _, rfl, h, rfl⟩
    · have e1 : i = k := by omega
      subst e1
      rw [if_pos (nI_le (Nat.le_refl _) (by omega))]
      exact ⟨_, rfl, _, _, rfl⟩) F k (lN n, (0 : Int32), many, figs) ⟨0, many, figs, rfl, Nat.zero_le _, rfl⟩ (by omega)
  refine ⟨m', g', ?_⟩
  unfold f_X11_behind
  rw [h1, Option.bind_some, h2]
theorem p_J60 {F b st n p g P l : Nat} {f figs : Nat → Int32} {many : Int32} {tb : Nat → Nat} {rec : (Int64 × Int64 × Int32 × Int32 × Int32 × Int32 × Int32 × (Nat → Int32)) → Option (Int64 × Int32 × Int32 × Int32 × Int32 × (Nat → Int32))} (hF : 1000 ≤ F) (hb : bOK b) (hf : tbOK f tb) (hst : st ≤ 5) (hg : it (stepN b tb st) g n ≤ TOP) (hp : it (stepN b tb st) p n < 2 ^ 55) : ∃ many' figs', f_X11_layChain_J60 F (nI st) (nI b) f rec (lN (it (stepN b tb st) p n)) (lN (it (stepN b tb st) g n)) (nI P) (nI g) (nI l) many figs = rec (lN (it (stepN b tb st) p n), lN (it (stepN b tb st) (g + 1) n), nI P, nI (g + 1), nI (l + 1), (if it (stepN b tb st) (g + 1) n = it (stepN b tb st) p n then (1 : Int32) else 0), many', figs') := by
  unfold f_X11_layChain_J60 f_X11_layChain_J88
  have h2 : it (stepN b tb st) (g + 1) n < 2 ^ 55 := stepN_lt hb (tbB_of hf) hg
  unfold TOP at hg
  rw [p_stepOf (by omega) hb hf (by omega) hst]
  simp only [Option.bind_some, nI_1]
  refine ⟨nI (dg b (it (stepN b tb st) g n)).length, putL figs 0 (dg b (it (stepN b tb st) g n)), ?_⟩
  have e : stepN b tb st (it (stepN b tb st) g n) = it (stepN b tb st) (g + 1) n := rfl
  rw [e]
  by_cases h : it (stepN b tb st) (g + 1) n = it (stepN b tb st) p n
  · rw [if_pos (by rw [h]), if_pos h]
  · rw [if_neg (fun z => h ((pk_lEQ (by omega) (by omega)).mp z)), if_neg h]
/-- how the first loop ends -/
def chEnd (s : Nat → Nat) (n : Nat) (e : Int64 × Int32 × Int32 × Int32 × Int32 × (Nat → Int32)) : Prop :=
  (∃ p m, 0 < m ∧ p + m ≤ 900 ∧ it s (p + m) n = it s p n ∧ (∀ q, 0 < q → q < m → it s (p + q) n ≠ it s p n) ∧ (∀ i, i ≤ p + m → it s i n ≤ TOP) ∧ e.2.2.1 = nI m ∧ e.2.2.2.1 = 1) ∨
  (∃ g, g ≤ 900 ∧ (∀ i, i < g → it s i n ≤ TOP) ∧ TOP < it s g n ∧ it s g n < 2 ^ 55 ∧ e.1 = lN (it s g n) ∧ e.2.1 = nI g ∧ e.2.2.2.1 = 0) ∨
  (CH s n 301 0 ∧ it s 900 n ≤ TOP ∧ e.1 = lN (it s 900 n) ∧ e.2.2.2.1 = 0)
theorem p_loop1 {F b st n : Nat} {f figs : Nat → Int32} {many tail round : Int32} {tb : Nat → Nat} (hF : 1000 ≤ F) (hb : bOK b) (hf : tbOK f tb) (hst : st ≤ 5) (hn : n ≤ TOP) : ∃ e, lp (f_X11_layChain_B18 F (nI st) (nI b) f tail round) F (lN n, lN n, (1 : Int32), (0 : Int32), (0 : Int32), (0 : Int32), many, figs) = some e ∧ chEnd (stepN b tb st) n e := by
  refine lp_ex (B := f_X11_layChain_B18 F (nI st) (nI b) f tail round) (fun q x =>
    (∃ g e many figs, x = (lN (it (stepN b tb st) (2 ^ e - 1) n), lN (it (stepN b tb st) g n), nI (2 ^ e), nI g, nI (g - (2 ^ e - 1)), (0 : Int32), many, figs) ∧ 2 ^ e - 1 ≤ g ∧ g ≤ 2 ^ e - 1 + 2 ^ e ∧ g ≤ 900 ∧ (∀ i, i < g → it (stepN b tb st) i n ≤ TOP) ∧ (∀ m, 0 < m → m ≤ g - (2 ^ e - 1) → it (stepN b tb st) (2 ^ e - 1 + m) n ≠ it (stepN b tb st) (2 ^ e - 1) n) ∧ q = 902 - g) ∨
    (∃ p m, 0 < m ∧ p + m ≤ 900 ∧ it (stepN b tb st) (p + m) n = it (stepN b tb st) p n ∧ (∀ q, 0 < q → q < m → it (stepN b tb st) (p + q) n ≠ it (stepN b tb st) p n) ∧ (∀ i, i ≤ p + m → it (stepN b tb st) i n ≤ TOP) ∧ x.2.2.2.2.1 = nI m ∧ x.2.2.2.2.2.1 = 1 ∧ q = 0)) (fun _ e => chEnd (stepN b tb st) n e) ?_ F 902 _ (Or.inl ⟨0, 0, many, figs, rfl, by omega, by omega, by omega, fun i hi => by omega, fun m h1 h2 => by omega, rfl⟩) (by omega)
  rintro rec q x (⟨g, e, many, figs, rfl, h1, h2, h3, h4, h5, rfl⟩ | ⟨p, m, g1, g2, g3, g4, g5, g6, g7, rfl⟩) hrec
  · unfold f_X11_layChain_B18
    dsimp only
    have hlt := it_lt (st := st) hb (tbB_of hf) hn h4
    rw [if_pos rfl]
    by_cases h9 : g = 900
    · subst h9
      rw [if_pos (show (900 : Int32) ≤ nI 900 by decide)]
      refine ⟨_, rfl, ?_⟩
      by_cases ht : it (stepN b tb st) 900 n ≤ TOP
      · refine Or.inr (Or.inr ⟨CH_long (fun i hi => h4 i hi) ?_, ht, rfl, rfl⟩)
        have hp := pow_9 h1 h2
        intro m hm1 hm2
        have := h5 m hm1 (by rw [hp]; omega)
        rw [hp] at this
        exact this
      · exact Or.inr (Or.inl ⟨900, by omega, h4, by omega, hlt, rfl, rfl, rfl⟩)
    · rw [if_neg (show ¬ (900 : Int32) ≤ nI g from nI_ge (a := g) (b := 900) (by omega) (by omega))]
      by_cases ht : it (stepN b tb st) g n ≤ TOP
      · have ht' : it (stepN b tb st) g n ≤ 1000000000000000 := ht
        rw [if_neg (show ¬ (1000000000000000 : Int64) < lN (it (stepN b tb st) g n) from fun z => by
          have := (pk_lLT (a := 1000000000000000) (b := it (stepN b tb st) g n) (by omega) (by omega)).mp z
          omega)]
        have hpos := Nat.two_pow_pos e
        have hP : 2 ^ e ≤ 901 := by omega
        -- one step from the place p
        have go : ∀ (p P l : Nat) (M : Int32) (G : Nat → Int32), p ≤ g → l = g - p → (∀ m, 0 < m → m ≤ l → it (stepN b tb st) (p + m) n ≠ it (stepN b tb st) p n) → (∃ e2, p = 2 ^ e2 - 1 ∧ P = 2 ^ e2 ∧ g < p + P) → ∃ e', f_X11_layChain_J60 F (nI st) (nI b) f rec (lN (it (stepN b tb st) p n)) (lN (it (stepN b tb st) g n)) (nI P) (nI g) (nI l) M G = some e' ∧ chEnd (stepN b tb st) n e' := by
          intro p P l M G hp hl hno hpp
          obtain ⟨e2, rfl, rfl, hgp⟩ := hpp
          have hpt : it (stepN b tb st) (2 ^ e2 - 1) n < 2 ^ 55 := by
            rcases Nat.lt_or_ge (2 ^ e2 - 1) g with z | z
            · have := h4 _ z; unfold TOP at this; omega
            · have : 2 ^ e2 - 1 = g := by omega
              rw [this]; omega
          obtain ⟨M', G', hJ⟩ := p_J60 (rec := rec) (many := M) (figs := G) (P := 2 ^ e2) (l := l) hF hb hf hst ht hpt
          rw [hJ]
          have htop : ∀ i, i < g + 1 → it (stepN b tb st) i n ≤ TOP := by
            intro i hi
            rcases Nat.lt_or_ge i g with z | z
            · exact h4 i z
            · have : i = g := by omega
              rw [this]; exact ht
          by_cases hm : it (stepN b tb st) (g + 1) n = it (stepN b tb st) (2 ^ e2 - 1) n
          · rw [if_pos hm]
            refine hrec 0 _ (by omega) (Or.inr ⟨2 ^ e2 - 1, l + 1, by omega, by omega, ?_, ?_, ?_, rfl, rfl, rfl⟩)
            · rw [show 2 ^ e2 - 1 + (l + 1) = g + 1 by omega]; exact hm
            · intro q q1 q2; exact hno q q1 (by omega)
            · intro i hi
              rcases Nat.lt_or_ge i (g + 1) with z | z
              · exact htop i z
              · have : i = g + 1 := by omega
                rw [this, hm]
                exact htop _ (by omega)
          · rw [if_neg hm]
            refine hrec (902 - (g + 1)) _ (by omega) (Or.inl ⟨g + 1, e2, M', G', ?_, by omega, by omega, by omega, htop, ?_, rfl⟩)
            · rw [show g + 1 - (2 ^ e2 - 1) = l + 1 by omega]
            · intro m m1 m2
              rcases Nat.lt_or_ge m (l + 1) with z | z
              · exact hno m m1 (by omega)
              · have : m = l + 1 := by omega
                rw [this, show 2 ^ e2 - 1 + (l + 1) = g + 1 by omega]
                exact hm
        by_cases hl : g - (2 ^ e - 1) = 2 ^ e
        · rw [if_pos (by rw [hl])]
          have e2 : nI (2 ^ e) * (2 : Int32) = nI (2 ^ (e + 1)) := by
            rw [Nat.pow_succ]; exact pk_mul _ _
          rw [e2]
          exact go g (2 ^ (e + 1)) 0 many figs (Nat.le_refl _) (by omega) (fun m a b => by omega) ⟨e + 1, by rw [Nat.pow_succ]; omega, rfl, by rw [Nat.pow_succ]; omega⟩
        · rw [if_neg (fun z => hl ((nI_eq (by omega) (by omega)).mp z))]
          exact go (2 ^ e - 1) (2 ^ e) (g - (2 ^ e - 1)) many figs h1 rfl h5 ⟨e, rfl, rfl, by omega⟩
      · have ht' : ¬ it (stepN b tb st) g n ≤ 1000000000000000 := ht
        rw [if_pos (show (1000000000000000 : Int64) < lN (it (stepN b tb st) g n) from (pk_lLT (a := 1000000000000000) (b := it (stepN b tb st) g n) (by omega) (by omega)).mpr (by omega))]
        exact ⟨_, rfl, Or.inr (Or.inl ⟨g, h3, h4, by omega, hlt, rfl, rfl, rfl⟩)⟩
  · unfold f_X11_layChain_B18
    rw [if_neg (by rw [g7]; decide)]
    exact ⟨_, rfl, Or.inl ⟨p, m, g1, g2, g3, g4, g5, g6, g7⟩⟩
theorem p_loop2 {F b st n m t p : Nat} {f figs : Nat → Int32} {many rd : Int32} {tb : Nat → Nat} (hF : 1000 ≤ F) (hb : bOK b) (hf : tbOK f tb) (hst : st ≤ 5) (htp : t ≤ p) (hpm : p + m ≤ 900) (htop : ∀ i, i ≤ p + m → it (stepN b tb st) i n ≤ TOP) (ht : it (stepN b tb st) t n = it (stepN b tb st) (t + m) n) (htmin : ∀ e, e < t → it (stepN b tb st) e n ≠ it (stepN b tb st) (e + m) n) : ∃ many' figs', lp (f_X11_layChain_B133 F (nI st) (nI b) f rd) F (lN n, lN (it (stepN b tb st) m n), many, figs, (0 : Int32)) = some (many', figs', nI t) := by
  obtain ⟨e, h1, m', g', h2⟩ := lp_ex (B := f_X11_layChain_B133 F (nI st) (nI b) f rd) (fun q x => ∃ i many figs, x = (lN (it (stepN b tb st) i n), lN (it (stepN b tb st) (i + m) n), many, figs, nI i) ∧ i ≤ t ∧ q = t - i) (fun _ e => ∃ m' g', e = (m', g', nI t)) (by
    rintro rec q x ⟨i, many, figs, rfl, hi, rfl⟩ hrec
    unfold f_X11_layChain_B133
    dsimp only
    have a1 := htop i (by omega)
    have a2 := htop (i + m) (by omega)
    unfold TOP at a1 a2
    rcases Nat.lt_or_ge i t with h | h
    · rw [if_neg (fun z => htmin i h ((pk_lEQ (by omega) (by omega)).mp z)), p_stepOf (by omega) hb hf (by omega) hst, Option.bind_some]
      dsimp only
      rw [p_stepOf (by omega) hb hf (by omega) hst, Option.bind_some, nI_1]
      have e9 : stepN b tb st (it (stepN b tb st) (i + m) n) = it (stepN b tb st) (i + 1 + m) n := by
        rw [show i + 1 + m = (i + m) + 1 by omega]
        rfl
      rw [e9]
      exact hrec (t - (i + 1)) _ (by omega) ⟨i + 1, _, _, rfl, h, rfl⟩
    · have e1 : i = t := by omega
      subst e1
      rw [if_pos (by rw [ht])]
      exact ⟨_, rfl, _, _, rfl⟩) F t (lN n, lN (it (stepN b tb st) m n), many, figs, (0 : Int32)) ⟨0, many, figs, by rw [Nat.zero_add]; rfl, Nat.zero_le _, rfl⟩ (by omega)
  exact ⟨m', g', by rw [h1, h2]⟩
theorem p_J200 {F t r : Nat} {many : Int32} {figs : Nat → Int32} (ht : t ≤ 900) (hr : r ≤ 900) : f_X11_layChain_J200 F many figs (nI t) (nI r) = some (many, figs, nI (if 0 < r then (if t + r ≤ 300 then t else 301) else (if t ≤ 301 then t else 301)), nI (if 0 < r then (if t + r ≤ 300 then r else 0) else 0)) := by
  unfold f_X11_layChain_J200 f_X11_layChain_J222 f_X11_layChain_J232 f_X11_layChain_J244
  rw [nI_add]
  by_cases h1 : t + r ≤ 300
  · rw [if_pos (show nI (t + r) ≤ (300 : Int32) from nI_le (a := t + r) (b := 300) h1 (by omega)), if_pos (show nI t ≤ (301 : Int32) from nI_le (a := t) (b := 301) (by omega) (by omega)), if_pos h1, if_pos h1, if_pos (show t ≤ 301 by omega)]
    by_cases h0 : 0 < r
    · rw [if_pos h0, if_pos h0]
    · rw [if_neg h0, if_neg h0]
      have : r = 0 := by omega
      rw [this]
  · rw [if_neg (show ¬ nI (t + r) ≤ (300 : Int32) from nI_ge (a := 300) (b := t + r) (by omega) (by omega)), if_neg h1, if_neg h1]
    by_cases h0 : 0 < r
    · rw [if_pos (show (0 : Int32) < nI r from nI_lt (a := 0) (b := r) h0 (by omega)), if_pos h0, if_pos h0]
      rfl
    · have : r = 0 := by omega
      subst this
      rw [if_neg (show ¬ (0 : Int32) < nI 0 by decide), if_neg h0, if_neg h0]
      by_cases h2 : t ≤ 301
      · rw [if_pos (show nI t ≤ (301 : Int32) from nI_le (a := t) (b := 301) h2 (by omega)), if_pos h2]
      · rw [if_neg (show ¬ nI t ≤ (301 : Int32) from nI_ge (a := 301) (b := t) (by omega) (by omega)), if_neg h2]
        rfl
theorem p_layChain {F b st n : Nat} {f figs : Nat → Int32} {many tail round : Int32} {tb : Nat → Nat} (hF : 1000 ≤ F) (hb : bOK b) (hf : tbOK f tb) (hst : st ≤ 5) (hn : n ≤ TOP) : ∃ many' figs' t r, CH (stepN b tb st) n t r ∧ f_X11_layChain F (nI st) (lN n) (nI b) f many figs tail round = some (many', figs', nI t, nI r) := by
  obtain ⟨e, h1, h2⟩ := p_loop1 (F := F) (st := st) (figs := figs) (many := many) (tail := tail) (round := round) hF hb hf hst hn
  unfold f_X11_layChain
  rw [h1, Option.bind_some]
  obtain ⟨e1, e2, e3, e4, e5, e6⟩ := e
  dsimp only
  rcases h2 with ⟨p, m, g1, g2, g3, g4, g5, g6, g7⟩ | ⟨g, g1, g2, g3, g4, g5, g6, g7⟩ | ⟨g1, g2, g3, g4⟩
  · dsimp only at g6 g7
    subst g6; subst g7
    rw [if_neg n10]
    unfold f_X11_layChain_J105
    rw [if_neg n10]
    obtain ⟨t, ht, htmin⟩ := pk_least (fun k => it (stepN b tb st) k n = it (stepN b tb st) (k + m) n) ⟨p, g3.symm⟩
    obtain ⟨q1, -⟩ := brent g1 g3 g4 ht htmin
    obtain ⟨M1, G1, hbe⟩ := p_behind (k := m) (n := n) (figs := e6) (many := e5) hF hb hf hst hn (by omega) (fun i hi => g5 i (by omega))
    rw [hbe, Option.bind_some]
    dsimp only
    obtain ⟨M2, G2, hl2⟩ := p_loop2 (F := F) (figs := G1) (many := M1) (rd := nI m) hF hb hf hst q1 g2 g5 ht htmin
    rw [hl2, Option.bind_some]
    dsimp only
    rw [p_J200 (by omega) (by omega), if_pos g1, if_pos g1]
    exact ⟨M2, G2, _, _, CH_met g1 g3 g4 ht htmin g5, rfl⟩
  · dsimp only at g5 g6 g7
    subst g5; subst g6; subst g7
    rw [if_pos rfl]
    unfold f_X11_layChain_J105
    have g3' : 1000000000000000 < it (stepN b tb st) g n := g3
    rw [if_pos rfl, if_neg (show ¬ lN (it (stepN b tb st) g n) ≤ (1000000000000000 : Int64) from fun z => by
      have := (pk_lLE (a := it (stepN b tb st) g n) (b := 1000000000000000) (by omega) (by omega)).mp z
      omega), show (0 : Int32) = nI 0 from rfl, p_J200 (by omega) (by omega), if_neg (Nat.lt_irrefl 0), if_neg (Nat.lt_irrefl 0)]
    exact ⟨_, _, _, _, CH_above g2 g3, rfl⟩
  · dsimp only at g3 g4
    subst g3; subst g4
    rw [if_pos rfl]
    unfold f_X11_layChain_J105
    have g2' : it (stepN b tb st) 900 n ≤ 1000000000000000 := g2
    rw [if_pos rfl, if_pos (show lN (it (stepN b tb st) 900 n) ≤ (1000000000000000 : Int64) from (pk_lLE (a := it (stepN b tb st) 900 n) (b := 1000000000000000) (by omega) (by omega)).mpr g2'), show (0 : Int32) = nI 0 from rfl, show (301 : Int32) = nI 301 from rfl, p_J200 (by omega) (by omega)]
    exact ⟨_, _, _, _, g1, rfl⟩
