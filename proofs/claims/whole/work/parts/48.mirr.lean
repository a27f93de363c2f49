/-! numbers alike both ways, by their front halves -/
def mirL (b : Nat) : Nat → Nat → Nat → Nat
  | 0, v, _ => v
  | k + 1, v, l => mirL b k (v * b + l % b) (l / b)
theorem pw_pos {b : Nat} (hb : 0 < b) (k : Nat) : 0 < b ^ k := Nat.pos_of_ne_zero (by intro z; have := Nat.pow_eq_zero.mp z; omega)
theorem mirL_bd {b : Nat} (hb : 0 < b) : ∀ (k v l : Nat), v * b ^ k ≤ mirL b k v l ∧ mirL b k v l < (v + 1) * b ^ k
  | 0, v, l => by
    show v * b ^ 0 ≤ v ∧ v < (v + 1) * b ^ 0
    rw [Nat.pow_zero]; omega
  | k + 1, v, l => by
    obtain ⟨h1, h2⟩ := mirL_bd hb k (v * b + l % b) (l / b)
    have h3 := Nat.mod_lt l hb
    show v * b ^ (k + 1) ≤ mirL b k (v * b + l % b) (l / b) ∧ mirL b k (v * b + l % b) (l / b) < (v + 1) * b ^ (k + 1)
    rw [Nat.pow_succ, Nat.mul_comm (b ^ k) b, ← Nat.mul_assoc, ← Nat.mul_assoc]
    refine ⟨Nat.le_trans (Nat.mul_le_mul_right _ (Nat.le_add_right _ _)) h1, Nat.lt_of_lt_of_le h2 (Nat.mul_le_mul_right _ ?_)⟩
    rw [Nat.add_mul, Nat.one_mul]; omega
theorem nines {b : Nat} (hb : 0 < b) (k : Nat) : (b ^ (k + 1) - 1) % b = b - 1 ∧ (b ^ (k + 1) - 1) / b = b ^ k - 1 := by
  have hp := pw_pos hb k
  have e : b ^ (k + 1) - 1 = b * (b ^ k - 1) + (b - 1) := by
    rw [Nat.pow_succ, Nat.mul_comm (b ^ k) b, Nat.mul_sub, Nat.mul_one]
    have : b * 1 ≤ b * b ^ k := Nat.mul_le_mul_left b hp
    omega
  rw [e]
  constructor
  · rw [Nat.mul_add_mod, Nat.mod_eq_of_lt (by omega)]
  · rw [Nat.mul_add_div hb, Nat.div_eq_of_lt (by omega), Nat.add_zero]
theorem mirL_nines {b : Nat} (hb : 0 < b) : ∀ (k v : Nat), mirL b k v (b ^ k - 1) + 1 = (v + 1) * b ^ k
  | 0, v => by
    show v + 1 = (v + 1) * b ^ 0
    rw [Nat.pow_zero, Nat.mul_one]
  | k + 1, v => by
    obtain ⟨e1, e2⟩ := nines hb k
    show mirL b k (v * b + (b ^ (k + 1) - 1) % b) ((b ^ (k + 1) - 1) / b) + 1 = _
    rw [e1, e2, mirL_nines hb k, Nat.pow_succ, Nat.mul_comm (b ^ k) b, ← Nat.mul_assoc]
    congr 1
    rw [Nat.add_mul, Nat.one_mul]; omega
def mirN (b h s : Nat) : Nat := mirL b (s / 2) h (if s % 2 = 0 then h else h / b)
theorem mirN_bd {b : Nat} (hb : 0 < b) (h s : Nat) : h * b ^ (s / 2) ≤ mirN b h s ∧ mirN b h s < (h + 1) * b ^ (s / 2) := mirL_bd hb _ _ _
theorem mirN_1 (b h : Nat) : mirN b h 1 = h := rfl
theorem mirN_nines {b : Nat} (hb : 0 < b) (s : Nat) : mirN b (b ^ ((s + 1) / 2) - 1) s + 1 = b ^ s := by
  unfold mirN
  have hp := pw_pos hb ((s + 1) / 2)
  have e : (if s % 2 = 0 then b ^ ((s + 1) / 2) - 1 else (b ^ ((s + 1) / 2) - 1) / b) = b ^ (s / 2) - 1 := by
    by_cases h : s % 2 = 0
    · rw [if_pos h, show (s + 1) / 2 = s / 2 by omega]
    · rw [if_neg h, show (s + 1) / 2 = s / 2 + 1 by omega, (nines hb (s / 2)).2]
  rw [e, mirL_nines hb, Nat.sub_add_cancel hp, ← Nat.pow_add, show (s + 1) / 2 + s / 2 = s by omega]
theorem dl_low {b : Nat} (hb : 2 ≤ b) : ∀ (k n : Nat), n < 2 ^ k → 0 < n → b ^ ((dl b k n).length - 1) ≤ n
  | 0, n, h, h0 => by
    have : n = 0 := by simpa using h
    omega
  | k + 1, n, h, h0 => by
    unfold dl
    rw [if_neg (by omega), List.length_cons, Nat.add_sub_cancel]
    by_cases q : n / b = 0
    · rw [q, dl_0]; exact h0
    · have ih := dl_low hb k (n / b) (div_half hb h) (Nat.pos_of_ne_zero q)
      have hp : 0 < (dl b k (n / b)).length := by
        rcases Nat.eq_zero_or_pos (dl b k (n / b)).length with z | z
        · exfalso
          have e := dl_val hb k (n / b) (div_half hb h)
          rw [List.length_eq_zero_iff.mp z] at e
          exact q e.symm
        · exact z
      obtain ⟨j, hj⟩ : ∃ j, (dl b k (n / b)).length = j + 1 := ⟨_, (Nat.sub_add_cancel hp).symm⟩
      rw [hj, Nat.add_sub_cancel] at ih
      rw [hj, Nat.pow_succ]
      exact Nat.le_trans (Nat.mul_le_mul_right b ih) (Nat.div_mul_le_self n b)
theorem dg_up {b n : Nat} (hb : bOK b) (hn : n < 2 ^ 62) : n < b ^ (dg b n).length := by
  have h := vl_lt (b := b) (by have := hb.1; omega) (dg b n).reverse 0 (fun d hd => dg_b hb d (List.mem_reverse.mp hd))
  rw [dg_val hb hn, List.length_reverse, Nat.zero_add, Nat.one_mul] at h
  exact h
theorem dg_low {b n : Nat} (hb : bOK b) (hn : n < 2 ^ 62) (h0 : 0 < n) : b ^ ((dg b n).length - 1) ≤ n := by
  rw [dg_eq hb.1 (by omega) (by omega)]
  exact dl_low hb.1 64 n (by omega) h0
theorem dg_lenE {b n s : Nat} (hb : bOK b) (hn : n < 2 ^ 62) (h0 : 0 < n) (hs : 0 < s) (h1 : b ^ (s - 1) ≤ n) (h2 : n < b ^ s) : (dg b n).length = s := by
  have g1 := dg_low hb hn h0
  have g2 := dg_up hb hn
  have hp := dg_pos b n
  have hb0 : 0 < b := by have := hb.1; omega
  rcases Nat.lt_trichotomy (dg b n).length s with z | z | z
  · have := Nat.pow_le_pow_right hb0 (show (dg b n).length ≤ s - 1 by omega)
    omega
  · exact z
  · have := Nat.pow_le_pow_right hb0 (show s ≤ (dg b n).length - 1 by omega)
    omega
theorem dg_len1 {b n : Nat} (hb : bOK b) (h : n < b) : (dg b n).length = 1 := by
  unfold dg
  rw [Nat.div_eq_of_lt h, dl_0]; rfl
/-- the least front half of a size, how many of a size, how many of lesser sizes, 0 among them -/
def lhN (b s : Nat) : Nat := b ^ ((s + 1) / 2 - 1)
def mzN (b s : Nat) : Nat := (b - 1) * lhN b s
def smN (b : Nat) : Nat → Nat
  | 0 => 1
  | s + 1 => smN b s + mzN b (s + 1)
theorem mz_1 (b : Nat) : mzN b 1 = b - 1 := by unfold mzN lhN; rw [show (1 + 1) / 2 - 1 = 0 by omega, Nat.pow_zero, Nat.mul_one]
theorem mz_eq {b s : Nat} (hb : 0 < b) (hs : 0 < s) : lhN b s + mzN b s = b ^ ((s + 1) / 2) := by
  unfold mzN lhN
  obtain ⟨k, hk⟩ : ∃ k, (s + 1) / 2 = k + 1 := ⟨(s + 1) / 2 - 1, by omega⟩
  rw [hk, Nat.add_sub_cancel, Nat.pow_succ, Nat.sub_mul, Nat.one_mul]
  have : b ^ k * 1 ≤ b ^ k * b := Nat.mul_le_mul_left _ hb
  rw [Nat.mul_comm b (b ^ k)]
  omega
/-- how many are alike from 0 to n -/
def atoN (b n : Nat) : Nat := smN b ((dg b n).length - 1) + n / b ^ ((dg b n).length / 2) - lhN b (dg b n).length + (if mirN b (n / b ^ ((dg b n).length / 2)) (dg b n).length ≤ n then 1 else 0)
theorem sm_pos (b s : Nat) : 0 < smN b s := by
  induction s with
  | zero => exact Nat.one_pos
  | succ s ih => exact Nat.lt_of_lt_of_le ih (Nat.le_add_right _ _)
theorem half_lo {b n : Nat} (hb : bOK b) (hn : n < 2 ^ 62) (h0 : 0 < n) : lhN b (dg b n).length ≤ n / b ^ ((dg b n).length / 2) := by
  have hb0 : 0 < b := by have := hb.1; omega
  have hp := dg_pos b n
  unfold lhN
  rw [Nat.le_div_iff_mul_le (pw_pos hb0 _), ← Nat.pow_add]
  rw [show ((dg b n).length + 1) / 2 - 1 + (dg b n).length / 2 = (dg b n).length - 1 by omega]
  exact dg_low hb hn h0
theorem half_up {b n : Nat} (hb : bOK b) (hn : n < 2 ^ 62) : n / b ^ ((dg b n).length / 2) < b ^ (((dg b n).length + 1) / 2) := by
  have hb0 : 0 < b := by have := hb.1; omega
  rw [Nat.div_lt_iff_lt_mul (pw_pos hb0 _), ← Nat.pow_add]
  rw [show ((dg b n).length + 1) / 2 + (dg b n).length / 2 = (dg b n).length by omega]
  exact dg_up hb hn
theorem lh_le {b n : Nat} (hb : bOK b) (hn : n < 2 ^ 62) : lhN b (dg b n).length ≤ smN b ((dg b n).length - 1) + n / b ^ ((dg b n).length / 2) := by
  rcases Nat.eq_zero_or_pos n with z | z
  · subst z
    have : (dg b 0).length = 1 := dg_len1 hb (by have := hb.1; omega)
    rw [this]
    exact Nat.le_trans (sm_pos b 0) (Nat.le_add_right _ _)
  · exact Nat.le_trans (half_lo hb hn z) (Nat.le_add_left _ _)
theorem ato_1 {b n : Nat} (hb : bOK b) (h : n < b) : atoN b n = n + 1 := by
  unfold atoN
  rw [dg_len1 hb h]
  show 1 + n / b ^ 0 - b ^ 0 + (if n / b ^ 0 ≤ n then 1 else 0) = n + 1
  rw [Nat.pow_zero, Nat.div_one, if_pos (Nat.le_refl _)]
  omega
theorem pred_div {n P : Nat} (hP : 0 < P) (h0 : 0 < n) : (n % P = 0 → (n - 1) / P = n / P - 1 ∧ 0 < n / P ∧ P * (n / P) = n) ∧ (¬ n % P = 0 → (n - 1) / P = n / P) := by
  have hdm := Nat.div_add_mod n P
  have hdl := Nat.mod_lt n hP
  generalize n / P = Q at hdm ⊢
  generalize n % P = R at hdm hdl ⊢
  constructor
  · intro r
    subst r
    have hq : 0 < Q := by
      rcases Nat.eq_zero_or_pos Q with z | z
      · rw [z, Nat.mul_zero] at hdm; omega
      · exact z
    have q3 : n - 1 = P * (Q - 1) + (P - 1) := by
      rw [Nat.mul_sub, Nat.mul_one]
      have : P * 1 ≤ P * Q := Nat.mul_le_mul_left _ hq
      omega
    refine ⟨?_, hq, hdm⟩
    rw [q3, Nat.mul_add_div hP, Nat.div_eq_of_lt (by omega), Nat.add_zero]
  · intro r
    have q3 : n - 1 = P * Q + (R - 1) := by omega
    rw [q3, Nat.mul_add_div hP, Nat.div_eq_of_lt (by omega), Nat.add_zero]
/-- how many below n -/
theorem ato_below {b n : Nat} (hb : bOK b) (hn : n < 2 ^ 62) (h0 : 0 < n) : atoN b (n - 1) = smN b ((dg b n).length - 1) + (n / b ^ ((dg b n).length / 2) - lhN b (dg b n).length) + (if mirN b (n / b ^ ((dg b n).length / 2)) (dg b n).length < n then 1 else 0) := by
  have hb0 : 0 < b := by have := hb.1; omega
  have hlo := dg_low hb hn h0
  have hup := dg_up hb hn
  have hp := dg_pos b n
  have hlh := half_lo hb hn h0
  generalize hs : (dg b n).length = s at hlo hup hp hlh ⊢
  have hpw := pw_pos hb0 (s / 2)
  rcases Nat.lt_or_ge (n - 1) (b ^ (s - 1)) with c | c
  · -- n is a power
    have en : n = b ^ (s - 1) := by omega
    rcases Nat.lt_or_ge s 2 with c2 | c2
    · have : s = 1 := by omega
      subst this
      have : n = 1 := by rw [en]; rfl
      subst this
      rw [ato_1 hb (by omega)]
      show 1 - 1 + 1 = 1 + (1 / b ^ 0 - b ^ 0) + (if 1 / b ^ 0 < 1 then 1 else 0)
      rw [Nat.pow_zero]; rfl
    · have hps := pw_pos hb0 (s - 2)
      have e1 : b ^ (s - 1) = b ^ (s - 2) * b := by rw [← Nat.pow_succ]; congr 1; omega
      have h2 : b ^ (s - 2) * 2 ≤ b ^ (s - 2) * b := Nat.mul_le_mul_left _ hb.1
      have l1 : (dg b (n - 1)).length = s - 1 := by
        refine dg_lenE hb (by omega) (by omega) (by omega) ?_ (by omega)
        rw [show s - 1 - 1 = s - 2 by omega]; omega
      have eh : n / b ^ (s / 2) = lhN b s := by
        unfold lhN
        rw [en, show s - 1 = ((s + 1) / 2 - 1) + s / 2 by omega, Nat.pow_add, Nat.mul_div_cancel _ hpw]
      have ew : n ≤ mirN b (n / b ^ (s / 2)) s := by
        refine Nat.le_trans ?_ (mirN_bd hb0 _ _).1
        rw [eh]
        unfold lhN
        rw [← Nat.pow_add, en]
        exact Nat.pow_le_pow_right hb0 (by omega)
      rw [if_neg (by omega), eh, Nat.sub_self, Nat.add_zero]
      unfold atoN
      rw [l1]
      have eh2 : (n - 1) / b ^ ((s - 1) / 2) = b ^ (s / 2) - 1 := by
        have q1 : b ^ (s - 1) = b ^ (s / 2) * b ^ ((s - 1) / 2) := by rw [← Nat.pow_add]; congr 1; omega
        have q2 := pw_pos hb0 ((s - 1) / 2)
        have q3 : n % b ^ ((s - 1) / 2) = 0 := by rw [en, q1, Nat.mul_mod_left]
        have q4 : n / b ^ ((s - 1) / 2) = b ^ (s / 2) := by rw [en, q1, Nat.mul_div_cancel _ q2]
        rw [((pred_div q2 h0).1 q3).1, q4]
      have ew2 : mirN b (b ^ (s / 2) - 1) (s - 1) + 1 = b ^ (s - 1) := by
        have := mirN_nines hb0 (s - 1)
        rwa [show (s - 1 + 1) / 2 = s / 2 by omega] at this
      rw [eh2, if_pos (by omega)]
      have e3 := mz_eq (b := b) (s := s - 1) hb0 (by omega)
      rw [show (s - 1 + 1) / 2 = s / 2 by omega] at e3
      have e4 : smN b (s - 1) = smN b (s - 1 - 1) + mzN b (s - 1) := by
        obtain ⟨k, hk⟩ : ∃ k, s - 1 = k + 1 := ⟨s - 2, by omega⟩
        rw [hk]; rfl
      rw [e4]
      have e5 := sm_pos b (s - 1 - 1)
      generalize b ^ (s / 2) = B at *
      omega
  · -- the same size
    have hn1 : 0 < n - 1 := Nat.lt_of_lt_of_le (pw_pos hb0 (s - 1)) c
    have l1 : (dg b (n - 1)).length = s := dg_lenE hb (by omega) hn1 hp c (by omega)
    have hlo1 := half_lo hb (n := n - 1) (by omega) hn1
    unfold atoN
    rw [l1] at hlo1 ⊢
    obtain ⟨d1, d2⟩ := pred_div hpw h0
    by_cases r : n % b ^ (s / 2) = 0
    · -- the half is one less
      obtain ⟨eh, hq, hdm⟩ := d1 r
      have b1 := (mirN_bd hb0 (n / b ^ (s / 2) - 1) s).2
      have b2 := (mirN_bd hb0 (n / b ^ (s / 2)) s).1
      rw [Nat.mul_comm, hdm] at b2
      rw [Nat.sub_add_cancel hq, Nat.mul_comm, hdm] at b1
      rw [eh] at hlo1 ⊢
      rw [if_pos (by omega), if_neg (by omega)]
      generalize n / b ^ (s / 2) = Q at *
      omega
    · rw [d2 r]
      have ei : (if mirN b (n / b ^ (s / 2)) s ≤ n - 1 then 1 else 0) = (if mirN b (n / b ^ (s / 2)) s < n then 1 else 0) := by
        by_cases z : mirN b (n / b ^ (s / 2)) s < n
        · rw [if_pos z, if_pos (by omega)]
        · rw [if_neg z, if_neg (by omega)]
      rw [ei]
      generalize n / b ^ (s / 2) = Q at *
      omega
