/-! narrow: the class's search -/
theorem addC_loop {F m v : Nat} {a : Nat → Nat} {nn : Int32} (hm : m < 32) (hv : v < 2 ^ 30) (ha : ∀ i, i < m → a i < 2 ^ 30) : ∀ (k G : Nat) (arr : Nat → Int32), k ≤ m → k < G → (∀ i, i < k → arr i = nI (a i)) → (∀ i, k < i → i ≤ m → arr i = nI (a (i - 1))) → (∀ i, k ≤ i → i < m → v < a i) → ∃ k' arr', k' ≤ m ∧ lp (f_X4_insert_B34 F (nI v) 32 nn) G (nI k, arr) = some (nI k', arr') ∧ (∀ i, i < k' → arr' i = nI (a i)) ∧ (∀ i, k' < i → i ≤ m → arr' i = nI (a (i - 1))) ∧ (∀ i, k' ≤ i → i < m → v < a i) ∧ (k' = 0 ∨ a (k' - 1) ≤ v)
  | _, 0, _, _, h, _, _, _ => absurd h (Nat.not_lt_zero _)
  | 0, G + 1, arr, hk, _, h1, h2, h3 => by
    refine ⟨0, arr, Nat.zero_le _, ?_, h1, h2, h3, Or.inl rfl⟩
    rw [lp_succ]
    unfold f_X4_insert_B34
    dsimp only
    rw [if_pos (by decide)]
  | k + 1, G + 1, arr, hk, hG, h1, h2, h3 => by
    have hak := ha k (by omega)
    have ih := addC_loop (F := F) (nn := nn) hm hv ha k G (upd arr (k + 1) (nI (a k))) (by omega) (by omega)
    rw [lp_succ]
    generalize lp (f_X4_insert_B34 F (nI v) 32 nn) G = rec at ih ⊢
    unfold f_X4_insert_B34
    dsimp only
    rw [if_neg (show ¬ nI (k + 1) ≤ 0 from nI_nle (by omega) (by omega)), nI_pred, ck_pos (in_ok (by omega) (by omega)), nI_clamp (n := k) (by omega)]
    have hk1 := h1 k (by omega)
    by_cases z : a k ≤ v
    · rw [if_pos (show arr k ≤ nI v by rw [hk1]; exact (nI_leI (by omega) (by omega)).mpr z)]
      exact ⟨k + 1, arr, hk, rfl, h1, h2, h3, Or.inr (by rw [Nat.add_sub_cancel]; exact z)⟩
    · rw [if_neg (show ¬ arr k ≤ nI v from fun q => z (by rw [hk1] at q; exact (nI_leI (by omega) (by omega)).mp q)), hk1, ck_pos (show ¬ (nI k < 0 ∨ 32 ≤ k) from fun q => q.elim (nI_pos (by omega)) (by omega)), ck_pos (in_ok (by omega) (by omega)), nI_clamp (n := k + 1) (by omega), pk_m1]
      refine ih (fun i hi => ?_) (fun i hi hi2 => ?_) (fun i hi hi2 => ?_)
      · rw [pk_un (by omega)]; exact h1 i (by omega)
      · by_cases e : i = k + 1
        · subst e; rw [pk_us, Nat.add_sub_cancel]
        · rw [pk_un e]; exact h2 i (by omega) hi2
      · by_cases e : i = k
        · subst e; omega
        · exact h3 i (by omega) hi2
theorem p_addC {F m v : Nat} {a : Nat → Nat} {S : Nat → Prop} {arr : Nat → Int32} (hF : 300 ≤ F) (hm : m < 32) (hv : v < 2 ^ 30) (ha : ∀ i, i < m → a i < 2 ^ 30) (harr : ∀ i, i < m → arr i = nI (a i)) (h : SA a m S) (hS : ¬ S v) : ∃ arr' a', f_X4_insert F 32 (nI v) 32 arr (nI m) = some (32, arr', nI (m + 1)) ∧ (∀ i, i < m + 1 → arr' i = nI (a' i)) ∧ SA a' (m + 1) (fun n => S n ∨ n = v) := by
  obtain ⟨k, arr', h1, h2, h3, h4, h5, h6⟩ := addC_loop (F := F) (nn := nI m) hm hv ha m F arr (Nat.le_refl _) (by omega) harr (fun i h1 h2 => by omega) (fun i h1 h2 => by omega)
  have hlt : ∀ i, i < k → a i < v := by
    intro i hi
    have hne : a i ≠ v := fun q => hS ((h.2 v).mpr ⟨i, by omega, q⟩)
    rcases h6 with z | z
    · omega
    · rcases Nat.lt_or_ge i (k - 1) with y | y
      · have := h.1 i (k - 1) y (by omega); omega
      · have : i = k - 1 := by omega
        subst this; omega
  refine ⟨upd arr' k (nI v), insF a k v, ?_, fun i hi => ?_, SA_ins h h1 hlt h5⟩
  · have hne : ¬ nI m = Int32.ofNat 32 := fun q => by
      have := (nI_eq (a := m) (b := 32) (by omega) (by omega)).mp q
      omega
    unfold f_X4_insert f_X4_insert_J29
    rw [ck_pos (Nat.le_refl 32), if_neg hne, h2, Option.bind_some]
    dsimp only
    rw [ck_pos (in_ok (by omega) (by omega)), ck_pos rfl, nI_clamp (by omega), nI_1]
  · unfold insF
    by_cases z1 : i < k
    · rw [if_pos z1, pk_un (by omega)]; exact h3 i z1
    · rw [if_neg z1]
      by_cases z2 : i = k
      · rw [if_pos z2, z2]; exact pk_us
      · rw [if_neg z2, pk_un z2]; exact h4 i (by omega) (by omega)
theorem lookB_loop {F : Nat} {taken : Nat → Int32} {nf : Nat} {found : Nat → Int32} {nn : Int32} (hF : 100 < F) (left : Nat → Int32) : ∃ left', lp (f_X4_look_B2 F taken nf found nn) F ((0 : Int32), left) = some left' ∧ ∀ d, d < 16 → left' d = taken d := by
  obtain ⟨e, h1, h2⟩ := lp_ex (B := f_X4_look_B2 F taken nf found nn) (fun q x => ∃ i left, x = (nI i, left) ∧ i ≤ 16 ∧ (∀ d, d < i → left d = taken d) ∧ q = 16 - i) (fun _ e => ∀ d, d < 16 → e d = taken d) (by
    rintro rec q x ⟨i, left, rfl, hi, h, rfl⟩ hrec
    unfold f_X4_look_B2
    dsimp only
    rcases Nat.lt_or_ge i 16 with z | z
    · rw [if_neg (show ¬ (16 : Int32) ≤ nI i from nI_ge (a := i) (b := 16) z (by omega)), ck_pos (in_ok z (by omega)), ck_pos (in_ok z (by omega)), nI_clamp (by omega), nI_1]
      refine hrec (16 - (i + 1)) _ (by omega) ⟨i + 1, _, rfl, z, fun d hd => ?_, rfl⟩
      by_cases y : d = i
      · rw [y]; exact pk_us
      · rw [pk_un y]; exact h d (by omega)
    · have : i = 16 := by omega
      subst this
      rw [if_pos (by decide)]
      exact ⟨_, rfl, h⟩) F 16 ((0 : Int32), left) ⟨0, left, rfl, by omega, fun d hd => absurd hd (Nat.not_lt_zero _), rfl⟩ (by omega)
  exact ⟨e, h1, h2⟩
theorem cnt_er {u : List Nat} {x : Nat} (hx : x ∈ u) (d : Nat) : u.count d = (u.erase x).count d + if x = d then 1 else 0 := by
  have h := (List.perm_cons_erase hx).count_eq d
  rw [List.count_cons] at h
  rw [h]
  by_cases z : x = d
  · rw [if_pos z, if_pos (by simpa using z)]
  · rw [if_neg z, if_neg (by simpa using z)]
theorem dL_app (b : Nat) : ∀ (k j n : Nat), dL b (k + j) n = dL b k n ++ dL b j (n / b ^ k)
  | 0, j, n => by rw [Nat.zero_add, Nat.pow_zero, Nat.div_one]; rfl
  | k + 1, j, n => by
    have ih := dL_app b k j (n / b)
    rw [show k + 1 + j = (k + j) + 1 by omega]
    show n % b :: dL b (k + j) (n / b) = n % b :: (dL b k (n / b) ++ dL b j (n / b ^ (k + 1)))
    rw [ih, Nat.div_div_eq_div_mul, Nat.pow_succ, Nat.mul_comm b]
theorem lookC_loop {F b w s : Nat} {l : List Nat} {found left : Nat → Int32} {nn : Int32} (hF : 100 < F) (hb : bOK b) (hw : w ≤ 6) (hs : s < 2 ^ 30) (hlen : l.length = w) (hleft : ∀ d, d < 16 → left d = nI (l.count d)) : ∃ e left', lp (f_X4_look_B33 F (nI b) (nI w) 32 32 found nn) F (nI s, (0 : Int32), left) = some e ∧ ((e = .inr left' ∧ (dL b w s).Perm l) ∨ (e = .inl (left', 32, found, nn) ∧ ¬ (dL b w s).Perm l)) := by
  have hb1 := hb.1
  have hb2 := hb.2
  obtain ⟨e, h1, left', h2⟩ := lp_ex (B := f_X4_look_B33 F (nI b) (nI w) 32 32 found nn) (fun q x => ∃ k u left, x = (nI (s / b ^ k), nI k, left) ∧ k ≤ w ∧ l.Perm (dL b k s ++ u) ∧ (∀ d, d < 16 → left d = nI (u.count d)) ∧ q = w - k) (fun _ e => ∃ left', ((e = .inr left' ∧ (dL b w s).Perm l) ∨ (e = .inl (left', 32, found, nn) ∧ ¬ (dL b w s).Perm l))) (by
    rintro rec q x ⟨k, u, left, rfl, hk, hp, hl, rfl⟩ hrec
    unfold f_X4_look_B33
    dsimp only
    rcases Nat.lt_or_ge k w with z | z
    · have hq : s / b ^ k ≤ s := Nat.div_le_self _ _
      have hx : s / b ^ k % b < b := Nat.mod_lt _ (by omega)
      have hul : u.length ≤ w := by
        have := hp.length_eq
        rw [List.length_append, dL_len, hlen] at this
        omega
      have hcu : u.count (s / b ^ k % b) ≤ u.length := List.count_le_length
      rw [if_neg (nI_ge z (by omega)), ck_pos (nI_ne0 (by omega) (by omega)), pk_rem (by omega) (by omega) (by omega), ck_pos (in_ok (by omega) (by omega)), nI_clamp (by omega)]
      have hlx := hl (s / b ^ k % b) (by omega)
      by_cases y : u.count (s / b ^ k % b) = 0
      · rw [if_pos (by rw [hlx, y]; exact nI_0), ck_pos rfl]
        refine ⟨_, rfl, left, Or.inr ⟨rfl, fun hq2 => ?_⟩⟩
        have h3 : dL b w s = dL b k s ++ (s / b ^ k % b :: dL b (w - k - 1) (s / b ^ k / b)) := by
          have := dL_app b k (w - k) s
          rw [show k + (w - k) = w by omega] at this
          rw [this]
          obtain ⟨j, hj⟩ : ∃ j, w - k = j + 1 := ⟨w - k - 1, by omega⟩
          rw [hj, Nat.add_sub_cancel]
          rfl
        have h4 := hq2.trans hp
        rw [h3] at h4
        have h5 := (List.perm_append_left_iff (dL b k s)).mp h4
        have h6 : s / b ^ k % b ∈ u := h5.subset List.mem_cons_self
        have := List.count_pos_iff.mpr h6
        omega
      · have hxu : s / b ^ k % b ∈ u := List.count_pos_iff.mp (by omega)
        have hc := cnt_er hxu
        have hcx := hc (s / b ^ k % b)
        rw [if_pos rfl] at hcx
        rw [if_neg (by rw [hlx]; exact nI_ne0 (by omega) (by omega)), ck_pos (show ¬ (nI (s / b ^ k % b) < 0 ∨ 16 ≤ s / b ^ k % b) from fun q => q.elim (nI_pos (by omega)) (by omega)), ck_pos (show ¬ (nI (s / b ^ k % b) < 0 ∨ 16 ≤ s / b ^ k % b) from fun q => q.elim (nI_pos (by omega)) (by omega)), ck_pos (nI_ne0 (by omega) (by omega)), pk_div (by omega) (by omega) (by omega), nI_1, hlx, one_I (by omega)]
        refine hrec (w - (k + 1)) _ (by omega) ⟨k + 1, u.erase (s / b ^ k % b), upd left (s / b ^ k % b) (nI (u.count (s / b ^ k % b) - 1)), ?_, z, ?_, fun d hd => ?_, rfl⟩
        · rw [Nat.div_div_eq_div_mul, Nat.pow_succ]
        · rw [dL_snoc, List.append_assoc]
          exact hp.trans (List.Perm.append_left _ (List.perm_cons_erase hxu))
        · by_cases v : d = s / b ^ k % b
          · rw [v, pk_us]
            congr 1
            omega
          · rw [pk_un v, hl d hd, hc d, if_neg (fun q => v q.symm)]
            rfl
    · have e0 : k = w := by omega
      subst e0
      rw [if_pos (nI_le (Nat.le_refl _) (by omega))]
      refine ⟨_, rfl, left, Or.inl ⟨rfl, ?_⟩⟩
      have hu : u = [] := by
        have := hp.length_eq
        rw [List.length_append, dL_len, hlen] at this
        exact List.length_eq_zero_iff.mp (by omega)
      rw [hu, List.append_nil] at hp
      exact hp.symm) F w (nI s, (0 : Int32), left) ⟨0, l, left, by rw [Nat.pow_zero, Nat.div_one]; rfl, Nat.zero_le _, List.Perm.refl _, hleft, rfl⟩ (by omega)
  exact ⟨e, left', h1, h2⟩
/-- what is found when the open figures are below t -/
def VV (b w e : Nat) (l : List Nat) (o t n : Nat) : Prop := NW b w e n ∧ ∃ r : List Nat, r.length = o ∧ (∀ x ∈ r, x < t) ∧ (dL b w n).Perm (l ++ r)
theorem VV_step {b w e o t n : Nat} {l : List Nat} : VV b w e l (o + 1) (t + 1) n ↔ VV b w e (t :: l) o (t + 1) n ∨ VV b w e l (o + 1) t n := by
  constructor
  · rintro ⟨h0, r, h1, h2, h3⟩
    by_cases z : t ∈ r
    · refine Or.inl ⟨h0, r.erase t, ?_, fun x hx => h2 x (List.mem_of_mem_erase hx), ?_⟩
      · rw [List.length_erase_of_mem z, h1, Nat.add_sub_cancel]
      · refine h3.trans ((List.Perm.append_left l (List.perm_cons_erase z)).trans ?_)
        exact List.perm_middle
    · refine Or.inr ⟨h0, r, h1, fun x hx => ?_, h3⟩
      have := h2 x hx
      have : x ≠ t := fun q => z (q ▸ hx)
      omega
  · rintro (⟨h0, r, h1, h2, h3⟩ | ⟨h0, r, h1, h2, h3⟩)
    · refine ⟨h0, t :: r, by rw [List.length_cons, h1], fun x hx => ?_, h3.trans (List.perm_middle (l₁ := l) (a := t) (l₂ := r)).symm⟩
      rcases List.mem_cons.mp hx with q | q
      · omega
      · exact h2 x q
    · exact ⟨h0, r, h1, fun x hx => by have := h2 x hx; omega, h3⟩
theorem VV_dis {b w e o o' t n : Nat} {l : List Nat} (h : VV b w e (t :: l) o (t + 1) n) (g : VV b w e l o' t n) : False := by
  obtain ⟨_, r, _, _, h3⟩ := h
  obtain ⟨_, r', _, g2, g3⟩ := g
  have h4 : (l ++ (t :: r)).Perm (l ++ r') := ((List.perm_middle (l₁ := l) (a := t) (l₂ := r)).trans h3.symm).trans g3
  have h5 := (List.perm_append_left_iff l).mp h4
  have := g2 t (h5.subset List.mem_cons_self)
  omega
theorem VV_zero {b w e o n : Nat} {l : List Nat} : ¬ VV b w e l (o + 1) 0 n := by
  rintro ⟨_, r, h1, h2, _⟩
  cases r with
  | nil => rw [List.length_nil] at h1; omega
  | cons x r => have := h2 x List.mem_cons_self; omega
theorem VV_sum {b w e n : Nat} {l r : List Nat} (h0 : NW b w e n) (h3 : (dL b w n).Perm (l ++ r)) : n = ps e l + ps e r := by
  have h := h0.2.2
  rw [ps_perm h3, ps_app] at h
  exact h.symm
theorem VV_low {b w e o t n : Nat} {l : List Nat} (hlo : ps e l + o * t ^ e < (if w = 1 then 0 else b ^ (w - 1))) : ¬ VV b w e l o (t + 1) n := by
  rintro ⟨h0, r, h1, h2, h3⟩
  have h4 := VV_sum h0 h3
  have h5 := ps_le (e := e) (d := t) r (fun x hx => by have := h2 x hx; omega)
  rw [h1] at h5
  by_cases z : w = 1
  · rw [if_pos z] at hlo; omega
  · rw [if_neg z] at hlo
    rcases h0.1 with q | q
    · exact z q
    · omega
theorem VV_high {b w e o t n : Nat} {l : List Nat} (hhi : b ^ w ≤ ps e l + t ^ e) : ¬ VV b w e (t :: l) o (t + 1) n := by
  rintro ⟨h0, r, h1, h2, h3⟩
  have h4 := VV_sum h0 h3
  have h5 := h0.2.1
  have h6 : ps e (t :: l) = t ^ e + ps e l := rfl
  omega
theorem p_lookC {F b w e t m : Nat} {l : List Nat} {a : Nat → Nat} {S : Nat → Prop} {taken left found : Nat → Int32} (hF : 300 ≤ F) (hb : bOK b) (hw1 : 1 ≤ w) (hw : w ≤ 6) (he : e ≤ 6) (hlen : l.length = w) (ht : ∀ d, d < 16 → taken d = nI (l.count d)) (hhi : ps e l < b ^ w) (hlo : (if w = 1 then 0 else b ^ (w - 1)) ≤ ps e l) (h : SA a m S) (hf : ∀ i, i < m → found i = nI (a i)) (hS : ∀ n, S n → NW b w e n) (hD : ∀ n, S n → ¬ VV b w e l 0 t n) : ∃ left' found' m' a', f_X4_look F 32 (nI (ps e l)) taken left 32 found (nI m) (nI b) (nI w) = some (left', 32, found', nI m') ∧ (∀ i, i < m' → found' i = nI (a' i)) ∧ SA a' m' (fun n => S n ∨ VV b w e l 0 t n) := by
  have hm := SA_bd hb hw1 hw he h hS
  have hpow : b ^ w ≤ 16 ^ 6 := Nat.le_trans (Nat.pow_le_pow_left hb.2 w) (Nat.pow_le_pow_right (by omega) hw)
  have h166 : (16 : Nat) ^ 6 = 16777216 := by decide
  obtain ⟨left1, e1, h1⟩ := lookB_loop (F := F) (taken := taken) (nf := 32) (found := found) (nn := nI m) (by omega) left
  obtain ⟨ee, left2, e2, h2⟩ := lookC_loop (F := F) (s := ps e l) (l := l) (found := found) (nn := nI m) (left := left1) (by omega) hb hw (by omega) hlen (fun d hd => by rw [h1 d hd, ht d hd])
  have hnw : (dL b w (ps e l)).Perm l → NW b w e (ps e l) := fun q => ⟨by
    by_cases z : w = 1
    · exact Or.inl z
    · rw [if_neg z] at hlo; exact Or.inr hlo, hhi, ps_perm q⟩
  have hvv : ∀ n, VV b w e l 0 t n ↔ n = ps e l ∧ (dL b w (ps e l)).Perm l := by
    intro n
    constructor
    · rintro ⟨g0, r, g1, g2, g3⟩
      have e0 : r = [] := List.length_eq_zero_iff.mp g1
      subst e0
      have g4 := VV_sum g0 g3
      have g5 : n = ps e l := g4
      rw [List.append_nil, g5] at g3
      exact ⟨g5, g3⟩
    · rintro ⟨rfl, g⟩
      exact ⟨hnw g, [], rfl, fun x hx => absurd hx List.not_mem_nil, by rw [List.append_nil]; exact g⟩
  unfold f_X4_look
  rw [ck_pos (Nat.le_refl 32), e1, Option.bind_some, e2, Option.bind_some]
  rcases h2 with ⟨rfl, g⟩ | ⟨rfl, g⟩
  · obtain ⟨arr', a', e3, h3, h4⟩ := p_addC (F := F) hF (show m < 32 by omega) (show ps e l < 2 ^ 30 by omega) (fun i hi => by have := (hS (a i) ((h.2 _).mpr ⟨i, hi, rfl⟩)).2.1; omega) hf h (fun q => hD _ q ((hvv _).mpr ⟨rfl, g⟩))
    refine ⟨left2, arr', m + 1, a', ?_, h3, SA_ext h4 (fun n => ?_)⟩
    · show ck (32 ≤ 32 ∧ 32 ≤ 32) _ = _
      rw [ck_pos ⟨Nat.le_refl _, Nat.le_refl _⟩, e3, Option.bind_some, ck_pos rfl, ck_pos rfl]
    · rw [hvv]
      exact ⟨fun q => q.imp id (fun q => ⟨q, g⟩), fun q => q.imp id (fun q => q.1)⟩
  · refine ⟨left2, found, m, a, rfl, hf, SA_ext h (fun n => ⟨fun q => Or.inl q, ?_⟩)⟩
    rintro (q | q)
    · exact q
    · exact absurd ((hvv n).mp q).2 g
