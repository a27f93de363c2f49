/-! narrow: the reference's sorted row, and its walk over all rows -/
theorem add_loop {F m v : Nat} {a : Nat → Nat} {nn : Int32} (hm : m < 200) (hv : v < 2 ^ 62) (ha : ∀ i, i < m → a i < 2 ^ 62) : ∀ (k G : Nat) (arr : Nat → Int64), k ≤ m → k < G → (∀ i, i < k → arr i = lN (a i)) → (∀ i, k < i → i ≤ m → arr i = lN (a (i - 1))) → (∀ i, k ≤ i → i < m → v < a i) → ∃ k' arr', k' ≤ m ∧ lp (f_X11_addNarrow_B5 F (lN v) nn) G (nI k, arr) = some (nI k', arr') ∧ (∀ i, i < k' → arr' i = lN (a i)) ∧ (∀ i, k' < i → i ≤ m → arr' i = lN (a (i - 1))) ∧ (∀ i, k' ≤ i → i < m → v < a i) ∧ (k' = 0 ∨ a (k' - 1) ≤ v)
  | _, 0, _, _, h, _, _, _ => absurd h (Nat.not_lt_zero _)
  | 0, G + 1, arr, hk, _, h1, h2, h3 => by
    refine ⟨0, arr, Nat.zero_le _, ?_, h1, h2, h3, Or.inl rfl⟩
    rw [lp_succ]
    unfold f_X11_addNarrow_B5
    dsimp only
    rw [if_pos (by decide)]
  | k + 1, G + 1, arr, hk, hG, h1, h2, h3 => by
    have hak := ha k (by omega)
    have ih := add_loop (F := F) (nn := nn) hm hv ha k G (vp_updL arr (k + 1) (lN (a k))) (by omega) (by omega)
    rw [lp_succ]
    generalize lp (f_X11_addNarrow_B5 F (lN v) nn) G = rec at ih ⊢
    unfold f_X11_addNarrow_B5
    dsimp only
    rw [if_neg (show ¬ nI (k + 1) ≤ 0 from nI_nle (by omega) (by omega)), nI_pred, ck_pos (in_ok (by omega) (by omega)), nI_clamp (n := k) (by omega)]
    have hk1 := h1 k (by omega)
    by_cases z : a k ≤ v
    · rw [if_pos (show arr k ≤ lN v by rw [hk1]; exact (pk_lLE (by omega) (by omega)).mpr z)]
      exact ⟨k + 1, arr, hk, rfl, h1, h2, h3, Or.inr (by rw [Nat.add_sub_cancel]; exact z)⟩
    · rw [if_neg (show ¬ arr k ≤ lN v from fun q => z (by rw [hk1] at q; exact (pk_lLE (by omega) (by omega)).mp q)), hk1, ck_pos (show ¬ (nI k < 0 ∨ 200 ≤ k) from fun q => q.elim (nI_pos (by omega)) (by omega)), ck_pos (in_ok (by omega) (by omega)), nI_clamp (n := k + 1) (by omega), pk_m1]
      refine ih (fun i hi => ?_) (fun i hi hi2 => ?_) (fun i hi hi2 => ?_)
      · rw [pk_uLn (by omega)]; exact h1 i (by omega)
      · by_cases e : i = k + 1
        · subst e; rw [pk_uLs, Nat.add_sub_cancel]
        · rw [pk_uLn e]; exact h2 i (by omega) hi2
      · by_cases e : i = k
        · subst e; omega
        · exact h3 i (by omega) hi2
theorem p_addNarrow {F m v : Nat} {a : Nat → Nat} {S : Nat → Prop} {arr : Nat → Int64} (hF : 300 ≤ F) (hm : m < 200) (hv : v < 2 ^ 62) (ha : ∀ i, i < m → a i < 2 ^ 62) (harr : ∀ i, i < m → arr i = lN (a i)) (h : SA a m S) (hS : ¬ S v) : ∃ arr' a', f_X11_addNarrow F (lN v) (nI m) arr = some (nI (m + 1), arr') ∧ (∀ i, i < m + 1 → arr' i = lN (a' i)) ∧ SA a' (m + 1) (fun n => S n ∨ n = v) := by
  obtain ⟨k, arr', h1, h2, h3, h4, h5, h6⟩ := add_loop (F := F) (nn := nI m) hm hv ha m F arr (Nat.le_refl _) (by omega) harr (fun i h1 h2 => by omega) (fun i h1 h2 => by omega)
  have hlt : ∀ i, i < k → a i < v := by
    intro i hi
    have hne : a i ≠ v := fun q => hS ((h.2 v).mpr ⟨i, by omega, q⟩)
    rcases h6 with z | z
    · omega
    · rcases Nat.lt_or_ge i (k - 1) with y | y
      · have := h.1 i (k - 1) y (by omega); omega
      · have : i = k - 1 := by omega
        subst this; omega
  refine ⟨vp_updL arr' k (lN v), insF a k v, ?_, fun i hi => ?_, SA_ins h h1 hlt h5⟩
  · unfold f_X11_addNarrow
    rw [h2, Option.bind_some]
    dsimp only
    rw [ck_pos (in_ok (by omega) (by omega)), nI_clamp (by omega), nI_1]
  · unfold insF
    by_cases z1 : i < k
    · rw [if_pos z1, pk_uLn (by omega)]; exact h3 i z1
    · rw [if_neg z1]
      by_cases z2 : i = k
      · rw [if_pos z2, z2]; exact pk_uLs
      · rw [if_neg z2, pk_uLn z2]; exact h4 i (by omega) (by omega)
theorem last_loop {F b w : Nat} {many nn : Int32} {figs row : Nat → Int32} {u : Nat → Int64} {g : Nat → Nat} (hb : bOK b) (hw : w ≤ 6) (hr : rwOK row g w) (hg : ∀ i, i < w → g i < b) : ∀ (j G : Nat), j ≤ w → j < G → (∀ i, j ≤ i → i < w → g i = b - 1) → (∃ k, k < j ∧ g k ≠ b - 1 ∧ (∀ i, k < i → i < w → g i = b - 1) ∧ lp (f_X11_narrow_B125 F (nI b) many figs row nn u) G (xk j) = some (nI k)) ∨ ((∀ i, i < w → g i = b - 1) ∧ lp (f_X11_narrow_B125 F (nI b) many figs row nn u) G (xk j) = some (-1 : Int32))
  | _, 0, _, h, _ => absurd h (Nat.not_lt_zero _)
  | 0, G + 1, _, _, h => by
    refine Or.inr ⟨fun i hi => h i (Nat.zero_le _) hi, ?_⟩
    rw [lp_succ]
    unfold f_X11_narrow_B125
    rw [if_pos (by decide)]
    rfl
  | j + 1, G + 1, hj, hG, h => by
    have ih := last_loop (F := F) (many := many) (nn := nn) (figs := figs) (u := u) hb hw hr hg j G (by omega) (by omega)
    have hgj := hg j (by omega)
    have hb1 := hb.1
    have hb2 := hb.2
    rw [lp_succ]
    generalize lp (f_X11_narrow_B125 F (nI b) many figs row nn u) G = rec at ih ⊢
    unfold f_X11_narrow_B125
    have eb : nI b - (1 : Int32) = nI (b - 1) := one_I (by omega)
    rw [xk_s, if_neg (nI_pos (by omega)), ck_pos (in_ok (by omega) (by omega)), nI_clamp (by omega), hr j (by omega), eb, xk_dec]
    by_cases z : g j = b - 1
    · rw [if_pos (by rw [z])]
      have ih := ih (fun i hi hi2 => by
        by_cases e : i = j
        · rw [e]; exact z
        · exact h i (by omega) hi2)
      rcases ih with ⟨k, k1, k2, k3, k4⟩ | ⟨k1, k2⟩
      · exact Or.inl ⟨k, by omega, k2, k3, k4⟩
      · exact Or.inr ⟨k1, k2⟩
    · rw [if_neg (fun q => z ((nI_eq (by omega) (by omega)).mp q))]
      exact Or.inl ⟨j, by omega, z, fun i hi hi2 => h i (by omega) hi2, rfl⟩
theorem fill_loop {F w k v : Nat} {x4 many nn : Int32} {figs row : Nat → Int32} {u : Nat → Int64} (hF : 100 < F) (hw : w ≤ 6) (hk : k ≤ w) : ∃ row', lp (f_X11_narrow_B197 F (nI w) x4 (nI v) many figs nn u) F (nI k, row) = some row' ∧ ∀ i, i < w → row' i = if i < k then row i else nI v := by
  obtain ⟨s, h1, h2⟩ := up_lp (B := f_X11_narrow_B197 F (nI w) x4 (nI v) many figs nn u) w (fun i (s : Nat → Int32) => (nI i, s)) (fun s => s) (fun j s => k ≤ j ∧ (∀ i, i < k → s i = row i) ∧ ∀ i, k ≤ i → i < j → s i = nI v) (by
    intro rec i s hi hI
    obtain ⟨q1, q2, q3⟩ := hI
    refine ⟨upd s i (nI v), ⟨by omega, fun t ht => ?_, fun t ht ht2 => ?_⟩, ?_⟩
    · rw [pk_un (by omega)]; exact q2 t ht
    · by_cases e : t = i
      · subst e; exact pk_us
      · rw [pk_un e]; exact q3 t ht (by omega)
    · unfold f_X11_narrow_B197
      dsimp only
      rw [if_neg (nI_ge hi (by omega)), ck_pos (in_ok (by omega) (by omega)), nI_clamp (by omega), nI_1]) (by
    intro rec s hI
    unfold f_X11_narrow_B197
    dsimp only
    rw [if_pos (nI_le (Nat.le_refl _) (by omega))]) F k row hk ⟨Nat.le_refl _, fun _ _ => rfl, fun i h1 h2 => by omega⟩ (by omega)
  refine ⟨s, h2, fun i hi => ?_⟩
  by_cases z : i < k
  · rw [if_pos z]; exact h1.2.1 i z
  · rw [if_neg z]; exact h1.2.2 i (by omega) hi
theorem clr_loop {F w : Nat} {many nn : Int32} {figs row : Nat → Int32} {u : Nat → Int64} (hF : 100 < F) (hw : w ≤ 6) : ∃ row', lp (f_X11_narrow_B41 F (nI w) many figs nn u) F ((0 : Int32), row) = some row' ∧ ∀ i, i < w → row' i = nI 0 := by
  obtain ⟨s, h1, h2⟩ := up_lp (B := f_X11_narrow_B41 F (nI w) many figs nn u) w (fun i (s : Nat → Int32) => (nI i, s)) (fun s => s) (fun j s => ∀ i, i < j → s i = nI 0) (by
    intro rec i s hi hI
    refine ⟨upd s i (0 : Int32), fun t ht => ?_, ?_⟩
    · by_cases e : t = i
      · subst e; exact pk_us
      · rw [pk_un e]; exact hI t (by omega)
    · unfold f_X11_narrow_B41
      dsimp only
      rw [if_neg (nI_ge hi (by omega)), ck_pos (in_ok (by omega) (by omega)), nI_clamp (by omega), nI_1]) (by
    intro rec s hI
    unfold f_X11_narrow_B41
    dsimp only
    rw [if_pos (nI_le (Nat.le_refl _) (by omega))]) F 0 row (Nat.zero_le _) (fun i h => absurd h (Nat.not_lt_zero _)) (by omega)
  exact ⟨s, h2, h1⟩
