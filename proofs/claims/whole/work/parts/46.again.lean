/-! powers; again -/
theorem pow_loop {F b e : Nat} (hb : b ≤ 16) (he : e ≤ 900) {G : Nat} (hG : e < G) : lp (f_X1_power_B5 F (nI e) (nI b)) G ((1 : Int64), (0 : Int32)) = some (lN (b ^ e)) := by
  refine lp_by (fun k x r => ∃ i, x = (lN (b ^ i), nI i) ∧ i ≤ e ∧ k = e - i ∧ r = lN (b ^ e)) ?_ G e _ _ ⟨0, rfl, Nat.zero_le _, rfl, rfl⟩ hG
  rintro rec k x r ⟨i, rfl, hi, rfl, rfl⟩ hrec
  unfold f_X1_power_B5
  dsimp only
  rcases Nat.lt_or_ge i e with h | h
  · rw [if_neg (nI_ge h (by omega)), nI_l (by omega), lN_mul, nI_1]
    exact hrec (e - (i + 1)) _ _ (by omega) ⟨i + 1, rfl, h, rfl, rfl⟩
  · have : i = e := by omega
    subst this
    rw [if_pos (nI_le (Nat.le_refl _) (by omega))]
theorem p_power {F b e : Nat} (hF : 1000 ≤ F) (hb : b ≤ 16) (he : e ≤ 900) : f_X1_power F (nI e) (nI b) = some (lN (b ^ e)) := by
  unfold f_X1_power
  rw [pow_loop hb he (by omega)]
  rfl
theorem p_powerM {F b e : Nat} (hF : 1000 ≤ F) (hb : b ≤ 16) (he : e ≤ 900) : f_X11_power F (nI e) (nI b) = some (lN (b ^ e)) := p_power (F := F) hF hb he
/-- r times at most, from the k-th on: the first at which nothing is left -/
def agS (n t a : Nat) : Nat → Nat → Nat → Option Nat
  | 0, _, _ => none
  | r + 1, k, x => if (x * t + a) % n = 0 then some k else agS n t a r (k + 1) ((x * t + a) % n)
theorem agS_mod (n t a : Nat) : ∀ (r k x : Nat), agS n t (a % n) r k x = agS n t a r k x
  | 0, _, _ => rfl
  | r + 1, k, x => by
    have e : (x * t + a % n) % n = (x * t + a) % n := by rw [Nat.add_mod, Nat.mod_mod, ← Nat.add_mod]
    unfold agS
    rw [e, agS_mod n t a r (k + 1)]
theorem turn_loop {F b n L : Nat} {many : Int32} {figs : Nat → Int32} (hb : b ≤ 16) (hn : 0 < n) (hn2 : n ≤ 20000) (hL : L ≤ 63) (hm : many = nI L) {G : Nat} (hG : L < G) : lp (f_X11_again_B37 F (nI n) (nI b) many figs) G ((1 : Int64), (0 : Int32)) = some (lN (if L = 0 then 1 else b ^ L % n)) := by
  subst hm
  refine lp_by (fun k x r => ∃ i, x = (lN (if i = 0 then 1 else b ^ i % n), nI i) ∧ i ≤ L ∧ k = L - i ∧ r = lN (if L = 0 then 1 else b ^ L % n)) ?_ G L _ _ ⟨0, rfl, Nat.zero_le _, rfl, rfl⟩ hG
  rintro rec k x r ⟨i, rfl, hi, rfl, rfl⟩ hrec
  unfold f_X11_again_B37
  dsimp only
  rcases Nat.lt_or_ge i L with h | h
  · have en : (nI n).toInt64 = lN n := nI_l (by omega)
    have bd : (if i = 0 then 1 else b ^ i % n) ≤ 20000 := by
      split
      · omega
      · have := Nat.mod_lt (b ^ i) hn; omega
    have bm : (if i = 0 then 1 else b ^ i % n) * b ≤ 20000 * 16 := Nat.mul_le_mul bd hb
    have e1 : ((if i = 0 then 1 else b ^ i % n) * b) % n = (if i + 1 = 0 then 1 else b ^ (i + 1) % n) := by
      rw [if_neg (show ¬ i + 1 = 0 by omega)]
      by_cases z : i = 0
      · rw [if_pos z, z, Nat.one_mul, Nat.zero_add, Nat.pow_one]
      · rw [if_neg z, Nat.pow_succ, Nat.mul_mod, Nat.mod_mod, ← Nat.mul_mod]
    rw [if_neg (nI_ge h (by omega)), en, ck_pos (lN_ne0 hn (by omega)), nI_l (by omega), lN_mul, pk_lRem (by omega) hn (by omega), nI_1, e1]
    exact hrec (L - (i + 1)) _ _ (by omega) ⟨i + 1, rfl, h, rfl, rfl⟩
  · have : i = L := by omega
    subst this
    rw [if_pos (nI_le (Nat.le_refl _) (by omega))]
theorem s_again {F b : Nat} (hF : 30000 ≤ F) (hb : bOK b) (a n many : Int32) (figs row : Nat → Int32) : ∃ r many' figs' row', f_X11_again F a n (nI b) many figs = some (r, many', figs') ∧ f_X10_again F a n (nI b) row = some (r, row') := by
  unfold f_X11_again f_X11_again_J24 f_X10_again f_X10_again_J21
  rw [p_inI F a 1 100000 (a' := 1) (c' := 100000) rfl rfl, p_inI F n 1 20000 (a' := 1) (c' := 20000) rfl rfl, p_within, p_within]
  simp only [Option.bind_some]
  rcases wi_2 (x := a) (a := 1) (c := 100000) (by omega) (by omega) with h | ⟨A, h1, h2, rfl, h⟩
  · have h' : wi a 1 100000 = 0 := h
    simp only [h', if_pos z00]; exact ⟨_, _, _, _, rfl, rfl⟩
  · have h' : wi (nI A) 1 100000 = 1 := h
    simp only [h', if_neg n10]
    rcases wi_2 (x := n) (a := 1) (c := 20000) (by omega) (by omega) with q | ⟨N, q1, q2, rfl, q⟩
    · have q' : wi n 1 20000 = 0 := q
      simp only [q', if_pos z00]; exact ⟨_, _, _, _, rfl, rfl⟩
    · have q' : wi (nI N) 1 20000 = 1 := q
      simp only [q', if_neg n10]
      have hl := dg_63 (n := A) hb (by omega)
      have hp := dg_pos b A
      have eN : (nI N).toInt64 = lN N := nI_l (by omega)
      have eA : (nI A).toInt64 = lN A := nI_l (by omega)
      rw [eA, eN, p_lay (by omega) hb.1 hb.2 (by omega), p_split (by omega) hb (by omega)]
      simp only [Option.bind_some]
      have hpw : b ^ (dg b A).length < 2 ^ 62 := by
        have h3 := dg_pow (n := A) hb.1 (by omega)
        have h4 : b * (A + 1) ≤ 16 * (100000 + 1) := Nat.mul_le_mul hb.2 (by omega)
        omega
      have c1 : ¬ lN N = 0 := lN_ne0 (by omega) (by omega)
      have c2 : ¬ nI N = 0 := nI_ne0 (by omega) (by omega)
      have hlt : b ^ (dg b A).length % N < N := Nat.mod_lt _ (by omega)
      have hlt2 : A % N < N := Nat.mod_lt _ (by omega)
      rw [turn_loop hb.2 (by omega) q2 (by omega) rfl (by omega), p_power (by omega) hb.2 (by omega)]
      simp only [Option.bind_some]
      rw [if_neg (show ¬ (dg b A).length = 0 by omega), ck_pos c1, ck_pos c2, pk_lRem (by omega) (by omega) (by omega), pk_rem (by omega) (by omega) (by omega), nI_l (by omega)]
      generalize hT : b ^ (dg b A).length % N = T at hlt ⊢
      obtain ⟨RES, hRES⟩ : ∃ z, z = agS N T A N 1 0 := ⟨_, rfl⟩
      have MA : ∃ e, lp (f_X11_again_B69 F (nI A) (nI N) (lN T) (nI (dg b A).length) (putL figs 0 (dg b A))) F ((0 : Int64), (1 : Int32)) = some e ∧ ((∃ k, RES = some k ∧ e = .inl (nI k, nI (dg b A).length, putL figs 0 (dg b A))) ∨ (RES = none ∧ e = .inr ())) := by
        refine lp_ex (B := f_X11_again_B69 F (nI A) (nI N) (lN T) (nI (dg b A).length) (putL figs 0 (dg b A))) (fun q x => ∃ k y, x = (lN y, nI k) ∧ y < N ∧ 1 ≤ k ∧ k ≤ N + 1 ∧ agS N T A (N + 1 - k) k y = RES ∧ q = N + 1 - k) (fun _ e => (∃ k, RES = some k ∧ e = .inl (nI k, nI (dg b A).length, putL figs 0 (dg b A))) ∨ (RES = none ∧ e = .inr ())) ?_ F N _ ⟨1, 0, rfl, by omega, by omega, by omega, hRES.symm, rfl⟩ (by omega)
        rintro rec q x ⟨k, y, rfl, hy, hk1, hk2, hs, rfl⟩ hrec
        unfold f_X11_again_B69
        dsimp only
        rcases Nat.lt_or_ge N k with z | z
        · have : N + 1 - k = 0 := by omega
          rw [this] at hs
          rw [if_pos (nI_lt z (by omega))]
          exact ⟨_, rfl, Or.inr ⟨hs.symm, rfl⟩⟩
        · have hyT : y * T ≤ 20000 * 20000 := Nat.mul_le_mul (by omega) (by omega)
          rw [show N + 1 - k = (N + 1 - (k + 1)) + 1 by omega] at hs
          unfold agS at hs
          rw [if_neg (nI_nlt z (by omega)), eN, eA, ck_pos c1, lN_mul, lN_add, pk_lRem (by omega) (by omega) (by omega)]
          have hm : (y * T + A) % N < N := Nat.mod_lt _ (by omega)
          by_cases h0 : (y * T + A) % N = 0
          · rw [if_pos h0] at hs
            rw [if_pos (by rw [h0]; rfl)]
            exact ⟨_, rfl, Or.inl ⟨k, hs.symm, rfl⟩⟩
          · rw [if_neg h0] at hs
            rw [if_neg (lN_ne0 (by omega) (by omega)), nI_1]
            exact hrec (N + 1 - (k + 1)) _ (by omega) ⟨k + 1, _, rfl, hm, by omega, by omega, hs, rfl⟩
      have MB : ∃ e, lp (f_X10_again_B55 F (nI N) (lN T) (lN (A % N)) (putL row 0 (dg b A))) F ((0 : Int64), (1 : Int32)) = some e ∧ ((∃ k, RES = some k ∧ e = .inl (nI k, putL row 0 (dg b A))) ∨ (RES = none ∧ e = .inr ())) := by
        refine lp_ex (B := f_X10_again_B55 F (nI N) (lN T) (lN (A % N)) (putL row 0 (dg b A))) (fun q x => ∃ k y, x = (lN y, nI k) ∧ y < N ∧ 1 ≤ k ∧ k ≤ N + 1 ∧ agS N T (A % N) (N + 1 - k) k y = RES ∧ q = N + 1 - k) (fun _ e => (∃ k, RES = some k ∧ e = .inl (nI k, putL row 0 (dg b A))) ∨ (RES = none ∧ e = .inr ())) ?_ F N _ ⟨1, 0, rfl, by omega, by omega, by omega, by rw [agS_mod]; exact hRES.symm, rfl⟩ (by omega)
        rintro rec q x ⟨k, y, rfl, hy, hk1, hk2, hs, rfl⟩ hrec
        unfold f_X10_again_B55
        dsimp only
        rcases Nat.lt_or_ge N k with z | z
        · have : N + 1 - k = 0 := by omega
          rw [this] at hs
          rw [if_pos (nI_lt z (by omega))]
          exact ⟨_, rfl, Or.inr ⟨hs.symm, rfl⟩⟩
        · have hyT : y * T ≤ 20000 * 20000 := Nat.mul_le_mul (by omega) (by omega)
          rw [show N + 1 - k = (N + 1 - (k + 1)) + 1 by omega] at hs
          unfold agS at hs
          rw [if_neg (nI_nlt z (by omega)), eN, ck_pos c1, lN_mul, lN_add, pk_lRem (by omega) (by omega) (by omega)]
          have hm : (y * T + A % N) % N < N := Nat.mod_lt _ (by omega)
          by_cases h0 : (y * T + A % N) % N = 0
          · rw [if_pos h0] at hs
            rw [if_pos (by rw [h0]; rfl)]
            exact ⟨_, rfl, Or.inl ⟨k, hs.symm, rfl⟩⟩
          · rw [if_neg h0] at hs
            rw [if_neg (lN_ne0 (by omega) (by omega)), nI_1]
            exact hrec (N + 1 - (k + 1)) _ (by omega) ⟨k + 1, _, rfl, hm, by omega, by omega, hs, rfl⟩
      obtain ⟨e1, a1, a2⟩ := MA
      obtain ⟨e2, b1, b2⟩ := MB
      rw [a1, b1]
      simp only [Option.bind_some]
      rcases a2 with ⟨k, r1, rfl⟩ | ⟨r1, rfl⟩
      · rcases b2 with ⟨k', r2, rfl⟩ | ⟨r2, rfl⟩
        · have : k = k' := by rw [r1] at r2; exact Option.some.inj r2
          subst this
          exact ⟨_, _, _, _, rfl, rfl⟩
        · rw [r1] at r2; cases r2
      · rcases b2 with ⟨k', r2, rfl⟩ | ⟨r2, rfl⟩
        · rw [r1] at r2; cases r2
        · exact ⟨_, _, _, _, rfl, rfl⟩
