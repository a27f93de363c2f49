/-! chains: a sequence that each time takes the step; how it comes round, or is lost -/
def it (s : Nat → Nat) : Nat → Nat → Nat
  | 0, n => n
  | k + 1, n => s (it s k n)
theorem it_add (s : Nat → Nat) (i : Nat) : ∀ (j n : Nat), it s (i + j) n = it s j (it s i n)
  | 0, _ => rfl
  | j + 1, n => congrArg s (it_add s i j n)
theorem it_sh {s : Nat → Nat} {n i j : Nat} (h : it s i n = it s j n) (k : Nat) : it s (i + k) n = it s (j + k) n := by
  rw [it_add, it_add, h]
theorem it_per {s : Nat → Nat} {n i d : Nat} (h : it s (i + d) n = it s i n) : ∀ (a k : Nat), i ≤ k → it s (k + a * d) n = it s k n
  | 0, k, _ => by rw [Nat.zero_mul]; rfl
  | a + 1, k, hk => by
    have h1 := it_per h a k hk
    obtain ⟨e, rfl⟩ : ∃ e, k = i + e := ⟨k - i, by omega⟩
    have h2 := it_sh h (e + a * d)
    rw [show i + e + (a + 1) * d = i + d + (e + a * d) by rw [Nat.add_mul, Nat.one_mul]; omega, h2, ← h1]
    congr 1
    omega
/-- tail t, round r -/
def CH (s : Nat → Nat) (n t r : Nat) : Prop := (0 < r ∧ t + r ≤ 300 ∧ it s (t + r) n = it s t n ∧ (∀ i j, i < j → j < t + r → it s i n ≠ it s j n) ∧ ∀ i, i ≤ t + r → it s i n ≤ TOP) ∨ (r = 0 ∧ t ≤ 301 ∧ (∀ i j, i < j → j < t → it s i n ≠ it s j n) ∧ (∀ i, i < t → it s i n ≤ TOP) ∧ (t = 301 ∨ TOP < it s t n))
theorem CH_AB {s : Nat → Nat} {n t r t' : Nat} (h1 : 0 < r) (h2 : t + r ≤ 300) (h3 : it s (t + r) n = it s t n) (h5 : ∀ i, i ≤ t + r → it s i n ≤ TOP) (g3 : ∀ i j, i < j → j < t' → it s i n ≠ it s j n) (g5 : t' = 301 ∨ TOP < it s t' n) : False := by
  have hlt : ¬ t + r < t' := fun z => g3 t (t + r) (by omega) z h3.symm
  rcases g5 with z | z
  · omega
  · have := h5 t' (by omega)
    omega
theorem CH_one {s : Nat → Nat} {n t r t' r' : Nat} (h : CH s n t r) (g : CH s n t' r') : t = t' ∧ r = r' := by
  rcases h with ⟨h1, h2, h3, h4, h5⟩ | ⟨h1, h2, h3, h4, h5⟩
  · rcases g with ⟨g1, g2, g3, g4, g5⟩ | ⟨g1, g2, g3, g4, g5⟩
    · have e1 : ¬ t + r < t' + r' := fun z => g4 t (t + r) (by omega) z h3.symm
      have e2 : ¬ t' + r' < t + r := fun z => h4 t' (t' + r') (by omega) z g3.symm
      have e3 : t + r = t' + r' := by omega
      have e4 : it s t n = it s t' n := by rw [← h3, ← g3, e3]
      have e5 : ¬ t < t' := fun z => h4 t t' z (by omega) e4
      have e6 : ¬ t' < t := fun z => g4 t' t z (by omega) e4.symm
      omega
    · exact (CH_AB h1 h2 h3 h5 g3 g5).elim
  · rcases g with ⟨g1, g2, g3, g4, g5⟩ | ⟨g1, g2, g3, g4, g5⟩
    · exact (CH_AB g1 g2 g3 g5 h3 h5).elim
    · have e1 : ¬ t < t' := fun z => by
        rcases h5 with q | q
        · omega
        · have := g4 t z; omega
      have e2 : ¬ t' < t := fun z => by
        rcases g5 with q | q
        · omega
        · have := h4 t' z; omega
      omega
/-- a number of a sequence that has come round is among those of the round -/
theorem it_back {s : Nat → Nat} {n i j : Nat} (hij : i < j) (h : it s i n = it s j n) : ∀ k, ∃ k', k' < j ∧ it s k n = it s k' n := by
  intro k
  induction k using Nat.strongRecOn with
  | ind k ih =>
    rcases Nat.lt_or_ge k j with z | z
    · exact ⟨k, z, rfl⟩
    · obtain ⟨k', h1, h2⟩ := ih (k - (j - i)) (by omega)
      refine ⟨k', h1, ?_⟩
      rw [← h2]
      have := it_sh h (k - j)
      rw [show j + (k - j) = k by omega, show i + (k - j) = k - (j - i) by omega] at this
      exact this.symm
/-- what is found by running ahead from p, and the least place from which it comes round -/
theorem brent {s : Nat → Nat} {n p m t : Nat} (hm : 0 < m) (hp : it s (p + m) n = it s p n) (hmin : ∀ e, 0 < e → e < m → it s (p + e) n ≠ it s p n) (ht : it s t n = it s (t + m) n) (htmin : ∀ e, e < t → it s e n ≠ it s (e + m) n) : t ≤ p ∧ ∀ i j, i < j → j < t + m → it s i n ≠ it s j n := by
  have htp : t ≤ p := by
    rcases Nat.lt_or_ge p t with z | z
    · exact absurd hp.symm (htmin p z)
    · exact z
  refine ⟨htp, fun i j hij hj he => ?_⟩
  obtain ⟨d, rfl⟩ : ∃ d, j = i + d := ⟨j - i, by omega⟩
  have hd : 0 < d := by omega
  -- d is a period at p
  have q1 : it s (p + d) n = it s p n := by
    have a1 : it s (p + i * m) n = it s p n := it_per hp i p (Nat.le_refl _)
    have a2 : it s (p + d + i * m) n = it s (p + d) n := it_per hp i (p + d) (by omega)
    have a3 : i ≤ p + i * m := by
      have : i ≤ i * m := Nat.le_mul_of_pos_right i hm
      omega
    have a4 : it s (p + i * m + 1 * d) n = it s (p + i * m) n := it_per he.symm 1 (p + i * m) a3
    rw [Nat.one_mul, show p + i * m + d = p + d + i * m by omega, a2, a1] at a4
    exact a4
  have q2 : m ≤ d := by
    rcases Nat.lt_or_ge d m with z | z
    · exact absurd q1 (hmin d hd z)
    · exact z
  have hit : i < t := by omega
  -- then i would come round by m
  refine htmin i hit ?_
  have b1 : it s (i + p * d) n = it s i n := it_per he.symm p i (Nat.le_refl _)
  have b2 : it s (i + m + p * d) n = it s (i + m) n := it_per he.symm p (i + m) (by omega)
  have b3 : p ≤ i + p * d := by
    have : p ≤ p * d := Nat.le_mul_of_pos_right p hd
    omega
  have b4 : it s (i + p * d + 1 * m) n = it s (i + p * d) n := it_per hp 1 (i + p * d) b3
  rw [Nat.one_mul, show i + p * d + m = i + m + p * d by omega, b2, b1] at b4
  exact b4.symm
/-- it came round: tail t, round m, as they are told -/
theorem CH_met {s : Nat → Nat} {n p m t : Nat} (hm : 0 < m) (hp : it s (p + m) n = it s p n) (hmin : ∀ e, 0 < e → e < m → it s (p + e) n ≠ it s p n) (ht : it s t n = it s (t + m) n) (htmin : ∀ e, e < t → it s e n ≠ it s (e + m) n) (htop : ∀ i, i ≤ p + m → it s i n ≤ TOP) : CH s n (if t + m ≤ 300 then t else 301) (if t + m ≤ 300 then m else 0) := by
  obtain ⟨h1, h2⟩ := brent hm hp hmin ht htmin
  by_cases h : t + m ≤ 300
  · rw [if_pos h, if_pos h]
    exact Or.inl ⟨hm, h, ht.symm, h2, fun i hi => htop i (by omega)⟩
  · rw [if_neg h, if_neg h]
    exact Or.inr ⟨rfl, Nat.le_refl _, fun i j hij hj => h2 i j hij (by omega), fun i hi => htop i (by omega), Or.inl rfl⟩
theorem CH_above {s : Nat → Nat} {n g : Nat} (htop : ∀ i, i < g → it s i n ≤ TOP) (hg : TOP < it s g n) : CH s n (if g ≤ 301 then g else 301) 0 := by
  have dis : ∀ i j, i < j → j < g → it s i n ≠ it s j n := by
    intro i j hij hj he
    obtain ⟨k', h1, h2⟩ := it_back hij he g
    have := htop k' (by omega)
    omega
  by_cases h : g ≤ 301
  · rw [if_pos h]
    exact Or.inr ⟨rfl, h, dis, htop, Or.inr hg⟩
  · rw [if_neg h]
    exact Or.inr ⟨rfl, Nat.le_refl _, fun i j hij hj => dis i j hij (by omega), fun i hi => htop i (by omega), Or.inl rfl⟩
theorem CH_long {s : Nat → Nat} {n : Nat} (htop : ∀ i, i < 900 → it s i n ≤ TOP) (hno : ∀ e, 0 < e → e ≤ 389 → it s (511 + e) n ≠ it s 511 n) : CH s n 301 0 := by
  refine Or.inr ⟨rfl, Nat.le_refl _, fun i j hij hj he => ?_, fun i hi => htop i (by omega), Or.inl rfl⟩
  have := it_sh he (511 - i)
  rw [show i + (511 - i) = 511 by omega, show j + (511 - i) = 511 + (j - i) by omega] at this
  exact hno (j - i) (by omega) (by omega) this.symm
theorem pow_9 {e : Nat} (h1 : 2 ^ e - 1 ≤ 900) (h2 : 900 ≤ 2 ^ e - 1 + 2 ^ e) : 2 ^ e = 512 := by
  have h3 : e < 10 := by
    rcases Nat.lt_or_ge e 10 with z | z
    · exact z
    · have : 2 ^ 10 ≤ 2 ^ e := Nat.pow_le_pow_right (by omega) z
      omega
  have h4 : 9 ≤ e := by
    rcases Nat.lt_or_ge e 9 with z | z
    · have : 2 ^ e ≤ 2 ^ 8 := Nat.pow_le_pow_right (by omega) (by omega)
      omega
    · exact z
  have : e = 9 := by omega
  subst this
  rfl
