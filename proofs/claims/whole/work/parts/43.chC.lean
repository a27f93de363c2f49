/-! the class's chains -/
def xk (k : Nat) : Int32 := if k = 0 then -1 else nI (k - 1)
theorem xk_0 : xk 0 = -1 := rfl
theorem xk_s (k : Nat) : xk (k + 1) = nI k := by unfold xk; rw [if_neg (by omega), Nat.add_sub_cancel]
theorem xk_dec (k : Nat) : nI k + (-1 : Int32) = xk k := by
  cases k with
  | zero => rfl
  | succ k => rw [xk_s]; exact pk_m1 k
theorem xk_sub (k : Nat) : nI k - (1 : Int32) = xk k := by
  cases k with
  | zero => rfl
  | succ k => rw [xk_s]; exact nI_pred k
theorem place_loop {F : Nat} {v : Int64} {told : Nat → Int64} : ∀ (k G : Nat), k < G → k ≤ 301 → (∃ i, i < k ∧ told i = v ∧ lp (f_X6_placeOf_B7 F v told) G (xk k) = some (.inl (nI i))) ∨ ((∀ i, i < k → told i ≠ v) ∧ lp (f_X6_placeOf_B7 F v told) G (xk k) = some (.inr ())) := by
  intro k
  induction k with
  | zero =>
    intro G hG _
    obtain ⟨G', rfl⟩ : ∃ G', G = G' + 1 := ⟨G - 1, by omega⟩
    refine Or.inr ⟨fun i hi => absurd hi (Nat.not_lt_zero _), ?_⟩
    rw [lp_succ]
    generalize lp (f_X6_placeOf_B7 F v told) G' = rec
    unfold f_X6_placeOf_B7
    rw [if_pos (by decide)]
  | succ k ih =>
    intro G hG hk
    obtain ⟨G', rfl⟩ : ∃ G', G = G' + 1 := ⟨G - 1, by omega⟩
    have ih := ih G' (by omega) (by omega)
    rw [lp_succ]
    generalize lp (f_X6_placeOf_B7 F v told) G' = rec at ih ⊢
    unfold f_X6_placeOf_B7
    rw [xk_s, if_neg (nI_pos (by omega)), ck_pos (in_ok (by omega) (by omega)), nI_clamp (by omega), xk_dec]
    by_cases h : told k = v
    · rw [if_pos h]
      exact Or.inl ⟨k, by omega, h, rfl⟩
    · rw [if_neg h]
      rcases ih with ⟨i, i1, i2, i3⟩ | ⟨i1, i2⟩
      · exact Or.inl ⟨i, by omega, i2, i3⟩
      · refine Or.inr ⟨fun i hi => ?_, i2⟩
        rcases Nat.lt_or_ge i k with z | z
        · exact i1 i z
        · have : i = k := by omega
          rw [this]; exact h
theorem p_place {F k : Nat} {v : Int64} {told : Nat → Int64} (hF : 1000 ≤ F) (hk : k ≤ 301) : (∃ i, i < k ∧ told i = v ∧ f_X6_placeOf F v told (nI k) = some (nI i)) ∨ ((∀ i, i < k → told i ≠ v) ∧ f_X6_placeOf F v told (nI k) = some (-1)) := by
  unfold f_X6_placeOf
  rw [xk_sub]
  rcases place_loop (F := F) (v := v) (told := told) k F (by omega) hk with ⟨i, i1, i2, i3⟩ | ⟨i1, i2⟩
  · rw [i3]; exact Or.inl ⟨i, i1, i2, rfl⟩
  · rw [i2]; exact Or.inr ⟨i1, rfl⟩
/-- how the loop of follow ends: a return, or an exit -/
def foEnd (s : Nat → Nat) (n : Nat) (e : ((Nat → Int32) × (Nat → Int32) × (Nat → Int64) × Int32 × Int32 × Int32) ⊕ ((Nat → Int32) × (Nat → Int32) × (Nat → Int64) × Int32 × Int32 × Int32)) : Prop :=
  (∃ row many told z t r, e = .inl (row, many, told, nI z, nI t, nI r) ∧ CH s n t r ∧ 0 < r ∧ z = t + r ∧ ∀ i, i < z → told i = lN (it s i n)) ∨
  (∃ row many told z t2 r2, e = .inr (row, many, told, nI z, t2, r2) ∧ CH s n z 0 ∧ ∀ i, i < z → told i = lN (it s i n))
theorem p_followL {F b st n : Nat} {f row many : Nat → Int32} {told : Nat → Int64} {t0 r0 : Int32} {tb : Nat → Nat} (hF : 1000 ≤ F) (hb : bOK b) (hf : tbOK f tb) (hst : st ≤ 5) (hn : n ≤ TOP) : ∃ e, lp (f_X6_follow_B13 F (nI st) (nI b) f) F (lN n, (-1 : Int64), row, many, told, (0 : Int32), t0, r0) = some e ∧ foEnd (stepN b tb st) n e := by
  refine lp_ex (B := f_X6_follow_B13 F (nI st) (nI b) f) (fun q x => ∃ j G row many told t2 r2, x = (lN (it (stepN b tb st) j n), G, row, many, told, nI j, t2, r2) ∧ j ≤ 301 ∧ (∀ i, i < j → told i = lN (it (stepN b tb st) i n)) ∧ (∀ i, i < j → lN (it (stepN b tb st) i n) ≤ G) ∧ (∀ i, i < j → it (stepN b tb st) i n ≤ TOP) ∧ (∀ i k, i < k → k < j → it (stepN b tb st) i n ≠ it (stepN b tb st) k n) ∧ q = 301 - j) (fun _ e => foEnd (stepN b tb st) n e) ?_ F 301 _ ⟨0, -1, row, many, told, t0, r0, rfl, by omega, fun i hi => by omega, fun i hi => by omega, fun i hi => by omega, fun i k h1 h2 => by omega, rfl⟩ (by omega)
  rintro rec q x ⟨j, G, row, many, told, t2, r2, rfl, h1, h2, h3, h4, h5, rfl⟩ hrec
  unfold f_X6_follow_B13
  dsimp only
  have hlt := it_lt (st := st) hb (tbB_of hf) hn h4
  rcases Nat.lt_or_ge j 301 with hj | hj
  · rw [if_neg (show ¬ (301 : Int32) ≤ nI j from nI_ge (a := j) (b := 301) hj (by omega))]
    by_cases ht : it (stepN b tb st) j n ≤ TOP
    · have ht' : it (stepN b tb st) j n ≤ 1000000000000000 := ht
      rw [if_neg (show ¬ (1000000000000000 : Int64) < lN (it (stepN b tb st) j n) from fun z => by
        have := (pk_lLT (a := 1000000000000000) (b := it (stepN b tb st) j n) (by omega) (by omega)).mp z
        omega)]
      -- it is new: on
      have new : (∀ i, i < j → it (stepN b tb st) i n ≠ it (stepN b tb st) j n) → ∃ e, f_X6_follow_J52 F (nI st) (nI b) f rec (lN (it (stepN b tb st) j n)) G (-1 : Int32) row many told (nI j) t2 r2 = some e ∧ foEnd (stepN b tb st) n e := by
        intro hne
        unfold f_X6_follow_J52
        obtain ⟨m', hm⟩ := p_make (F := F) (row := row) (many := many) (by omega) hb hf (n := it (stepN b tb st) j n) (by omega) hst
        rw [if_pos (by decide), ck_pos (in_ok (by omega) (by omega)), hm, Option.bind_some, nI_clamp (by omega), nI_1]
        dsimp only
        refine hrec (301 - (j + 1)) _ (by omega) ⟨j + 1, _, _, _, _, _, _, rfl, by omega, ?_, ?_, ?_, ?_, rfl⟩
        · intro i hi
          rcases Nat.lt_or_ge i j with z | z
          · rw [pk_uLn (by omega)]; exact h2 i z
          · have : i = j := by omega
            rw [this]; exact pk_uLs
        · intro i hi
          rcases Nat.lt_or_ge i j with z | z
          · have q1 := h3 i z
            by_cases c : lN (it (stepN b tb st) j n) < G
            · rw [if_pos c]; exact q1
            · rw [if_neg c]
              exact Int64.le_trans q1 (Int64.not_lt.mp c)
          · have : i = j := by omega
            rw [this]
            by_cases c : lN (it (stepN b tb st) j n) < G
            · rw [if_pos c]; exact Int64.le_of_lt c
            · rw [if_neg c]; exact Int64.le_refl _
        · intro i hi
          rcases Nat.lt_or_ge i j with z | z
          · exact h4 i z
          · have : i = j := by omega
            rw [this]; exact ht
        · intro i k hik hk
          rcases Nat.lt_or_ge k j with z | z
          · exact h5 i k hik z
          · have : k = j := by omega
            rw [this]; exact hne i (by omega)
      by_cases hg : lN (it (stepN b tb st) j n) ≤ G
      · rw [if_pos hg]
        rcases p_place (F := F) (v := lN (it (stepN b tb st) j n)) (told := told) (k := j) hF h1 with ⟨i, i1, i2, i3⟩ | ⟨i1, i2⟩
        · rw [i3, Option.bind_some]
          have hi4 := h4 i i1
          unfold TOP at hi4
          have e1 : it (stepN b tb st) i n = it (stepN b tb st) j n := by
            have q1 := h2 i i1
            rw [i2] at q1
            exact ((pk_lEQ (by omega) (by omega)).mp q1).symm
          unfold f_X6_follow_J52
          rw [if_neg (nI_pos (by omega)), pk_sub (by omega)]
          refine ⟨_, rfl, Or.inl ⟨_, _, _, j, i, j - i, rfl, Or.inl ⟨by omega, by omega, ?_, ?_, ?_⟩, by omega, by omega, h2⟩⟩
          · rw [show i + (j - i) = j by omega]; exact e1.symm
          · intro x y hxy hy; exact h5 x y hxy (by omega)
          · intro x hx
            rcases Nat.lt_or_ge x j with z | z
            · exact h4 x z
            · have : x = j := by omega
              rw [this]; exact ht
        · rw [i2, Option.bind_some]
          refine new (fun i hi he => i1 i hi ?_)
          rw [h2 i hi, he]
      · rw [if_neg hg]
        refine new (fun i hi he => hg ?_)
        rw [← he]; exact h3 i hi
    · have ht' : ¬ it (stepN b tb st) j n ≤ 1000000000000000 := ht
      rw [if_pos (show (1000000000000000 : Int64) < lN (it (stepN b tb st) j n) from (pk_lLT (a := 1000000000000000) (b := it (stepN b tb st) j n) (by omega) (by omega)).mpr (by omega))]
      exact ⟨_, rfl, Or.inr ⟨_, _, _, j, _, _, rfl, Or.inr ⟨rfl, h1, h5, h4, Or.inr (by omega)⟩, h2⟩⟩
  · have : j = 301 := by omega
    subst this
    rw [if_pos (show (301 : Int32) ≤ nI 301 by decide)]
    exact ⟨_, rfl, Or.inr ⟨_, _, _, 301, _, _, rfl, Or.inr ⟨rfl, Nat.le_refl _, h5, h4, Or.inl rfl⟩, h2⟩⟩
theorem p_follow {F b st n : Nat} {f row many : Nat → Int32} {told : Nat → Int64} {z0 t0 r0 : Int32} {tb : Nat → Nat} (hF : 1000 ≤ F) (hb : bOK b) (hf : tbOK f tb) (hst : st ≤ 5) (hn : n ≤ TOP) : ∃ row' many' told' z t r, CH (stepN b tb st) n t r ∧ f_X6_follow F (nI st) (lN n) (nI b) f row many told z0 t0 r0 = some (row', many', told', nI z, nI t, nI r) ∧ z = t + r ∧ ∀ i, i < z → told' i = lN (it (stepN b tb st) i n) := by
  obtain ⟨e, h1, h2⟩ := p_followL (F := F) (st := st) (row := row) (many := many) (told := told) (t0 := t0) (r0 := r0) hF hb hf hst hn
  unfold f_X6_follow
  rw [h1, Option.bind_some]
  rcases h2 with ⟨row', many', told', z, t, r, rfl, g1, g2, g3, g4⟩ | ⟨row', many', told', z, t2, r2, rfl, g1, g2⟩
  · exact ⟨row', many', told', z, t, r, g1, rfl, g3, g4⟩
  · exact ⟨row', many', told', z, z, 0, g1, rfl, rfl, g2⟩
