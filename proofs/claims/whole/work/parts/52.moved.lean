/-! a scan that counts, once for all; moved -/
theorem scan_lp {σ ε S : Type} {B : (σ → Option ε) → σ → Option ε} (P : Nat → Bool) (i : Int32) (w j0 : Nat) (I : S → Prop) (st : S → Nat → Nat → σ) (inl inr : S → Nat → ε)
    (hend : ∀ rec s t, I s → B rec (st s t w) = some (inr s t))
    (hstep : ∀ rec s t j, I s → j0 ≤ j → j < w → ∃ s', I s' ∧ B rec (st s t j) = if P j = true then (if nI t = i then some (inl s' j) else rec (st s' (t + 1) (j + 1))) else rec (st s' t (j + 1)))
    {F : Nat} (hF : w < F) (hj0 : j0 ≤ w) (s : S) (hs : I s) : ∃ s', I s' ∧ lp B F (st s 0 j0) = some (Sum.elim (inl s') (inr s') (scn P i (w - j0) j0 0)) := by
  obtain ⟨RES, hRES⟩ : ∃ z, z = scn P i (w - j0) j0 0 := ⟨_, rfl⟩
  obtain ⟨e, h1, s', h3, h2⟩ := lp_ex (B := B) (fun q x => ∃ s t j, x = st s t j ∧ I s ∧ j0 ≤ j ∧ j ≤ w ∧ scn P i (w - j) j t = RES ∧ q = w - j) (fun _ e => ∃ s', I s' ∧ e = Sum.elim (inl s') (inr s') RES) (by
    rintro rec q x ⟨s, t, j, rfl, hs, hj1, hj, hr, rfl⟩ hrec
    rcases Nat.lt_or_ge j w with z | z
    · obtain ⟨s', hs', e⟩ := hstep rec s t j hs hj1 z
      rw [show w - j = (w - (j + 1)) + 1 by omega] at hr
      unfold scn at hr
      rw [e]
      by_cases hp : P j = true
      · rw [if_pos hp] at hr ⊢
        by_cases ht : nI t = i
        · rw [if_pos ht] at hr ⊢
          exact ⟨_, rfl, s', hs', by rw [← hr]; rfl⟩
        · rw [if_neg ht] at hr ⊢
          exact hrec (w - (j + 1)) _ (by omega) ⟨s', t + 1, j + 1, rfl, hs', by omega, by omega, hr, rfl⟩
      · rw [if_neg hp] at hr ⊢
        exact hrec (w - (j + 1)) _ (by omega) ⟨s', t, j + 1, rfl, hs', by omega, by omega, hr, rfl⟩
    · have : j = w := by omega
      subst this
      rw [Nat.sub_self] at hr
      exact ⟨_, hend rec s t hs, s, hs, by rw [← hr]; rfl⟩) F (w - j0) _ ⟨s, 0, j0, rfl, hs, Nat.le_refl _, hj0, hRES.symm, rfl⟩ (by omega)
  rw [hRES] at h2
  exact ⟨s', h3, by rw [h1, h2]⟩
theorem neg_ti {n : Nat} (h : n < 2 ^ 62) : (-(lN n)).toInt = -(n : Int) := by
  rw [Int64.toInt_neg, pk_lT (by omega)]
  exact Int.bmod_eq_of_le_mul_two (by omega) (by omega)
theorem neg_l {a c : Nat} (h : a ≤ c) : lN a - lN c = -(lN (c - a)) := by
  rw [← lN_sub h]
  exact (Int64.neg_sub).symm
/-- a quotient of two that differ in sign -/
theorem div_np {X Y : Int64} {x y : Nat} (hx : x < 2 ^ 62) (hy0 : 0 < y) (hy : y < 2 ^ 62) (h : (X.toInt = -(x : Int) ∧ Y.toInt = (y : Int)) ∨ (X.toInt = (x : Int) ∧ Y.toInt = -(y : Int))) : (X / Y).toInt ≤ 0 := by
  have key : X.toInt.tdiv Y.toInt = -((x / y : Nat) : Int) := by
    rcases h with ⟨h1, h2⟩ | ⟨h1, h2⟩
    · rw [h1, h2, Int.neg_tdiv, ← Int.ofNat_tdiv]
    · rw [h1, h2, Int.tdiv_neg, ← Int.ofNat_tdiv]
  have hq : x / y ≤ x := Nat.div_le_self x y
  generalize x / y = z at key hq
  rw [Int64.toInt_div, key, Int.bmod_eq_of_le_mul_two (by omega) (by omega)]
  omega
def mvF (b w p q j : Nat) : Nat := j * (q * b ^ (w - 1) - p) / (p * b - q)
def mvP (b w p q j : Nat) : Bool := decide (q < p * b ∧ p < q * b ^ (w - 1) ∧ j * (q * b ^ (w - 1) - p) % (p * b - q) = 0 ∧ b ^ (w - 2) ≤ mvF b w p q j ∧ mvF b w p q j < b ^ (w - 1))
theorem mv_A {b w : Nat} (hb : bOK b) (hw : 2 ≤ w) (hw2 : w ≤ 12) : b ^ (w - 1) ≤ 2 ^ 44 ∧ b ^ (w - 1) / b = b ^ (w - 2) ∧ 1 ≤ b ^ (w - 2) ∧ 2 ≤ b ^ (w - 1) := by
  have hb0 : 0 < b := by have := hb.1; omega
  have h1 : b ^ (w - 1) ≤ 16 ^ (w - 1) := Nat.pow_le_pow_left hb.2 _
  have h2 : 16 ^ (w - 1) ≤ 16 ^ 11 := Nat.pow_le_pow_right (by omega) (by omega)
  have e : b ^ (w - 1) = b ^ (w - 2) * b := by rw [← Nat.pow_succ]; congr 1; omega
  have hp := pw_pos hb0 (w - 2)
  refine ⟨by omega, by rw [e, Nat.mul_div_cancel _ hb0], hp, ?_⟩
  rw [e]
  exact Nat.le_trans (show 2 ≤ 1 * b by have := hb.1; omega) (Nat.mul_le_mul_right b hp)
theorem wl_neg {X : Int64} {c : Nat} {d : Int64} (h : X.toInt ≤ 0) (hc : 1 ≤ c) (hc2 : c < 2 ^ 62) : wl X (lN c) d = 0 := by
  unfold wl
  rw [if_pos]
  rw [Int64.lt_iff_toInt_lt, pk_lT (by omega)]
  omega
theorem lN_nz {y : Nat} {Y : Int64} (hy0 : 0 < y) (h : Y.toInt = -(y : Int)) : ¬ Y = 0 := by
  intro z
  rw [z] at h
  have : (0 : Int64).toInt = 0 := rfl
  omega
theorem mv_M {α : Type} {F b w p q j : Nat} (J0 J1 : Option α) (hb : bOK b) (hw : 2 ≤ w) (hw2 : w ≤ 12) (hp : 1 ≤ p) (hp2 : p ≤ 15) (hq : 1 ≤ q) (hq2 : q ≤ 15) (hj2 : j < b) :
    (if lN p * lN b - lN q = (0 : Int64) then J0 else ck (¬ lN p * lN b - lN q = 0) (if (lN j * (lN q * lN (b ^ (w - 1)) - lN p)) - (lN j * (lN q * lN (b ^ (w - 1)) - lN p)) / (lN p * lN b - lN q) * (lN p * lN b - lN q) = (0 : Int64) then ck (¬ lN p * lN b - lN q = 0) (ck (¬ lN b = 0) ((f_X11_in F ((lN j * (lN q * lN (b ^ (w - 1)) - lN p)) / (lN p * lN b - lN q)) (lN (b ^ (w - 1)) / lN b) (lN (b ^ (w - 1)) - (1 : Int64))).bind (fun r => if r = 0 then J0 else J1))) else J0)) = if mvP b w p q j = true then J1 else J0 := by
  obtain ⟨hA, hAb, hA2, hA1⟩ := mv_A hb hw hw2
  have hb1 := hb.1
  have hb2 := hb.2
  have hpb : p * b ≤ 15 * 16 := Nat.mul_le_mul hp2 hb2
  have hqA : q * b ^ (w - 1) ≤ 15 * 2 ^ 44 := Nat.mul_le_mul hq2 hA
  have hqA1 : 1 * b ^ (w - 1) ≤ q * b ^ (w - 1) := Nat.mul_le_mul_right _ hq
  have hqA3 : q * 2 ≤ q * b ^ (w - 1) := Nat.mul_le_mul_left _ hA1
  have hpb1 : p * 2 ≤ p * b := Nat.mul_le_mul_left _ hb1
  have hA4 : b ^ (w - 2) ≤ b ^ (w - 1) := Nat.pow_le_pow_right (by omega) (by omega)
  have h0 : ¬ lN b = 0 := lN_ne0 (by omega) (by omega)
  have eAb : lN (b ^ (w - 1)) / lN b = lN (b ^ (w - 2)) := by rw [pk_lDiv (by omega) (by omega) (by omega), hAb]
  have eA1 : lN (b ^ (w - 1)) - (1 : Int64) = lN (b ^ (w - 1) - 1) := lN_sub (b := 1) (by omega)
  rw [lN_mul p b, lN_mul q, eAb, eA1, ck_pos h0]
  unfold mvP
  rcases Nat.lt_trichotomy (p * b) q with c | c | c
  · -- the divisor below 0
    have hX : p < q * b ^ (w - 1) := by omega
    have hX2 : j * (q * b ^ (w - 1) - p) ≤ 16 * (15 * 2 ^ 44) := Nat.mul_le_mul (by omega) (by omega)
    have tY : (lN (p * b) - lN q).toInt = -((q - p * b : Nat) : Int) := by rw [neg_l (by omega)]; exact neg_ti (by omega)
    have nY := lN_nz (show 0 < q - p * b by omega) tY
    rw [if_neg nY, ck_pos nY, ck_pos nY, lN_sub (Nat.le_of_lt hX), lN_mul, p_in, Option.bind_some, wl_neg (div_np (X := lN (j * (q * b ^ (w - 1) - p))) (x := j * (q * b ^ (w - 1) - p)) (y := q - p * b) (by omega) (by omega) (by omega) (Or.inr ⟨pk_lT (by omega), tY⟩)) hA2 (by omega), if_pos z00]
    rw [if_neg (show ¬ decide (q < p * b ∧ _) = true from fun z => by have := of_decide_eq_true z; omega)]
    split <;> rfl
  · have tY : lN (p * b) - lN q = 0 := by rw [lN_sub (by omega), show p * b - q = 0 by omega]; rfl
    rw [if_pos tY, if_neg (show ¬ decide (q < p * b ∧ _) = true from fun z => by have := of_decide_eq_true z; omega)]
  · have eY : lN (p * b) - lN q = lN (p * b - q) := lN_sub (by omega)
    have nY : ¬ lN (p * b - q) = 0 := lN_ne0 (by omega) (by omega)
    rw [eY, if_neg nY, ck_pos nY, ck_pos nY]
    rcases Nat.lt_or_ge p (q * b ^ (w - 1)) with d | d
    · have hX2 : j * (q * b ^ (w - 1) - p) ≤ 16 * (15 * 2 ^ 44) := Nat.mul_le_mul (by omega) (by omega)
      have hF2 : j * (q * b ^ (w - 1) - p) / (p * b - q) ≤ j * (q * b ^ (w - 1) - p) := Nat.div_le_self _ _
      have hM2 : j * (q * b ^ (w - 1) - p) % (p * b - q) < p * b - q := Nat.mod_lt _ (by omega)
      rw [lN_sub (Nat.le_of_lt d), lN_mul, pk_lRem (by omega) (by omega) (by omega), pk_lDiv (by omega) (by omega) (by omega), p_in, Option.bind_some]
      unfold mvF
      generalize j * (q * b ^ (w - 1) - p) / (p * b - q) = fr at *
      generalize j * (q * b ^ (w - 1) - p) % (p * b - q) = rm at *
      by_cases z : rm = 0
      · rw [if_pos (by rw [z]; rfl)]
        unfold wl
        rcases Nat.lt_or_ge fr (b ^ (w - 2)) with y | y
        · rw [if_pos ((pk_lLT (by omega) (by omega)).mpr y), if_pos z00, if_neg (fun t => by have := of_decide_eq_true t; omega)]
        · rw [if_neg (show ¬ lN fr < lN (b ^ (w - 2)) from fun t => by have := (pk_lLT (by omega) (by omega)).mp t; omega)]
          rcases Nat.lt_or_ge (b ^ (w - 1) - 1) fr with v | v
          · rw [if_pos (show lN (b ^ (w - 1) - 1) < lN fr from (pk_lLT (by omega) (by omega)).mpr v), if_pos z00, if_neg (fun t => by have := of_decide_eq_true t; omega)]
          · rw [if_neg (show ¬ lN (b ^ (w - 1) - 1) < lN fr from fun t => by have := (pk_lLT (by omega) (by omega)).mp t; omega), if_neg n10, if_pos (decide_eq_true ⟨c, d, z, y, by omega⟩)]
      · rw [if_neg (show ¬ lN rm = (0 : Int64) from lN_ne0 (by omega) (by omega)), if_neg (fun t => by have := of_decide_eq_true t; omega)]
    · -- what is to be divided is not above 0
      have hX2 : j * (p - q * b ^ (w - 1)) ≤ 16 * 15 := Nat.mul_le_mul (by omega) (by omega)
      have tX : (lN j * (lN (q * b ^ (w - 1)) - lN p)).toInt = -((j * (p - q * b ^ (w - 1)) : Nat) : Int) := by
        rw [neg_l d, Int64.mul_neg, lN_mul]; exact neg_ti (by omega)
      rw [p_in, Option.bind_some, wl_neg (div_np (X := lN j * (lN (q * b ^ (w - 1)) - lN p)) (x := j * (p - q * b ^ (w - 1))) (y := p * b - q) (by omega) (by omega) (by omega) (Or.inl ⟨tX, pk_lT (by omega)⟩)) hA2 (by omega), if_pos z00]
      rw [if_neg (show ¬ decide (q < p * b ∧ _) = true from fun z => by have := of_decide_eq_true z; omega)]
      split <;> rfl
theorem mv_C {F b w p q j : Nat} (hF : 1000 ≤ F) (hb : bOK b) (hw : 2 ≤ w) (hw2 : w ≤ 12) (hp : 1 ≤ p) (hp2 : p ≤ 15) (hq : 1 ≤ q) (hq2 : q ≤ 15) (hj : 1 ≤ j) (hj2 : j < b) : f_X10_frontOfMoved F (nI w) (nI p) (nI q) (nI j) (nI b) = some (if mvP b w p q j = true then lN (mvF b w p q j) else 0) := by
  obtain ⟨hA, hAb, hA2, hA1⟩ := mv_A hb hw hw2
  have hb1 := hb.1
  have hb2 := hb.2
  have hpb : p * b ≤ 15 * 16 := Nat.mul_le_mul hp2 hb2
  have hqA : q * b ^ (w - 1) ≤ 15 * 2 ^ 44 := Nat.mul_le_mul hq2 hA
  have hA4 : b ^ (w - 2) ≤ b ^ (w - 1) := Nat.pow_le_pow_right (by omega) (by omega)
  have e1 : nI w - (1 : Int32) = nI (w - 1) := one_I (by omega)
  have e2 : nI w - (2 : Int32) = nI (w - 2) := pk_sub (b := 2) hw
  unfold f_X10_frontOfMoved f_X10_frontOfMoved_J64 f_X10_frontOfMoved_J110 f_X10_frontOfMoved_J111
  rw [nI_l (n := p) (by omega), nI_l (n := q) (by omega), nI_l (n := j) (by omega), nI_l (n := b) (by omega), e1, e2, p_power hF hb2 (by omega), p_power hF hb2 (by omega), Option.bind_some, Option.bind_some, Option.bind_some, lN_mul p b, lN_mul q]
  unfold mvP
  rcases Nat.lt_or_ge q (p * b) with c | c
  · have eY : lN (p * b) - lN q = lN (p * b - q) := lN_sub (by omega)
    have nY : ¬ lN (p * b - q) = 0 := lN_ne0 (by omega) (by omega)
    rw [eY, if_pos ((lN_pos (by omega)).mpr (by omega)), ck_pos nY, ck_pos nY]
    rcases Nat.lt_or_ge p (q * b ^ (w - 1)) with d | d
    · have hX2 : j * (q * b ^ (w - 1) - p) ≤ 16 * (15 * 2 ^ 44) := Nat.mul_le_mul (by omega) (by omega)
      have hX1 : 1 * 1 ≤ j * (q * b ^ (w - 1) - p) := Nat.mul_le_mul hj (by omega)
      have hF2 : j * (q * b ^ (w - 1) - p) / (p * b - q) ≤ j * (q * b ^ (w - 1) - p) := Nat.div_le_self _ _
      have hM2 : j * (q * b ^ (w - 1) - p) % (p * b - q) < p * b - q := Nat.mod_lt _ (by omega)
      rw [lN_sub (Nat.le_of_lt d), lN_mul, if_neg (show ¬ lN (j * (q * b ^ (w - 1) - p)) ≤ (0 : Int64) from fun t => by have := (pk_lLE (b := 0) (by omega) (by omega)).mp t; omega), pk_lRem (by omega) (by omega) (by omega), pk_lDiv (by omega) (by omega) (by omega)]
      unfold mvF
      generalize j * (q * b ^ (w - 1) - p) / (p * b - q) = fr at *
      generalize j * (q * b ^ (w - 1) - p) % (p * b - q) = rm at *
      by_cases z : rm = 0
      · rw [if_pos (by rw [z]; rfl)]
        rcases Nat.lt_or_ge fr (b ^ (w - 2)) with y | y
        · rw [if_pos (show lN fr < lN (b ^ (w - 2)) from (pk_lLT (by omega) (by omega)).mpr y), if_neg (fun t => by have := of_decide_eq_true t; omega)]
        · rw [if_neg (show ¬ lN fr < lN (b ^ (w - 2)) from fun t => by have := (pk_lLT (by omega) (by omega)).mp t; omega)]
          rcases Nat.lt_or_ge fr (b ^ (w - 1)) with v | v
          · rw [if_neg (show ¬ lN (b ^ (w - 1)) ≤ lN fr from fun t => by have := (pk_lLE (by omega) (by omega)).mp t; omega), if_pos (decide_eq_true ⟨c, d, z, y, v⟩)]
          · rw [if_pos (show lN (b ^ (w - 1)) ≤ lN fr from (pk_lLE (by omega) (by omega)).mpr v), if_neg (fun t => by have := of_decide_eq_true t; omega)]
      · rw [if_neg (show ¬ lN rm = (0 : Int64) from lN_ne0 (by omega) (by omega)), if_neg (fun t => by have := of_decide_eq_true t; omega)]
    · have hX2 : j * (p - q * b ^ (w - 1)) ≤ 16 * 15 := Nat.mul_le_mul (by omega) (by omega)
      have tX : (lN j * (lN (q * b ^ (w - 1)) - lN p)).toInt = -((j * (p - q * b ^ (w - 1)) : Nat) : Int) := by
        rw [neg_l d, Int64.mul_neg, lN_mul]; exact neg_ti (by omega)
      rw [if_pos (show lN j * (lN (q * b ^ (w - 1)) - lN p) ≤ (0 : Int64) by rw [Int64.le_iff_toInt_le, tX]; have : (0 : Int64).toInt = 0 := rfl; omega), if_neg (show ¬ decide (q < p * b ∧ _) = true from fun z => by have := of_decide_eq_true z; omega)]
  · have nn : ¬ (0 : Int64) < lN (p * b) - lN q := by
      rw [neg_l c, Int64.lt_iff_toInt_lt, neg_ti (by omega)]
      have : (0 : Int64).toInt = 0 := rfl
      omega
    rw [if_neg nn, if_neg (show ¬ decide (q < p * b ∧ _) = true from fun z => by have := of_decide_eq_true z; omega)]
theorem s_moved {F b : Nat} (hF : 30000 ≤ F) (hb : bOK b) (w p q i : Int32) : ∃ r, f_X11_moved F w p q i (nI b) = some r ∧ f_X10_moved F w p q i (nI b) = some r := by
  unfold f_X11_moved f_X11_moved_J44 f_X11_moved_J210 f_X10_moved f_X10_moved_J36
  rw [p_inI F w 2 12 (a' := 2) (c' := 12) rfl rfl, p_inI F p 1 15 (a' := 1) (c' := 15) rfl rfl, p_inI F q 1 15 (a' := 1) (c' := 15) rfl rfl, p_within, p_within, p_within]
  simp only [Option.bind_some]
  rcases wi_2 (x := w) (a := 2) (c := 12) (by omega) (by omega) with h | ⟨W, w1, w2, rfl, h⟩
  · have h' : wi w 2 12 = 0 := h
    simp only [h', if_pos z00]; exact ⟨_, rfl, rfl⟩
  have h' : wi (nI W) 2 12 = 1 := h
  simp only [h', if_neg n10]
  rcases wi_2 (x := p) (a := 1) (c := 15) (by omega) (by omega) with g | ⟨P, p1, p2, rfl, g⟩
  · have g' : wi p 1 15 = 0 := g
    simp only [g', if_pos z00]; exact ⟨_, rfl, rfl⟩
  have g' : wi (nI P) 1 15 = 1 := g
  simp only [g', if_neg n10]
  rcases wi_2 (x := q) (a := 1) (c := 15) (by omega) (by omega) with f | ⟨Q, q1, q2, rfl, f⟩
  · have f' : wi q 1 15 = 0 := f
    simp only [f', if_pos z00]; exact ⟨_, rfl, rfl⟩
  have f' : wi (nI Q) 1 15 = 1 := f
  simp only [f', if_neg n10]
  by_cases hi : (-1 : Int32) ≤ i
  · simp only [if_pos hi]
    have hb1 := hb.1
    have hb2 := hb.2
    obtain ⟨hA, hAb, hA2, hA1⟩ := mv_A hb w1 w2
    have e1 : nI W - (1 : Int32) = nI (W - 1) := one_I (by omega)
    rw [e1, p_powerM (by omega) hb2 (by omega), Option.bind_some]
    obtain ⟨s', -, A⟩ := scan_lp (B := f_X11_moved_B76 F (nI P) (nI Q) i (nI b) (lN (b ^ (W - 1))) ((nI P).toInt64 * (nI b).toInt64 - (nI Q).toInt64)) (mvP b W P Q) i b 1 (fun _ : Unit => True) (fun _ t j => (nI t, nI j)) (fun _ x => .inl (lN (mvF b W P Q x * b + x))) (fun _ t => .inr (nI t)) (by
      intro rec s t _
      unfold f_X11_moved_B76
      dsimp only
      rw [if_pos (nI_le (Nat.le_refl _) (by omega))]) (by
      intro rec s t j _ hj1 hj
      refine ⟨(), trivial, ?_⟩
      unfold f_X11_moved_B76 f_X11_moved_J143
      dsimp only
      rw [if_neg (nI_ge hj (by omega)), nI_l (n := P) (by omega), nI_l (n := Q) (by omega), nI_l (n := j) (by omega), nI_l (n := b) (by omega), mv_M _ _ hb w1 w2 p1 p2 q1 q2 hj]
      unfold f_X11_moved_J144 f_X11_moved_J174 f_X11_moved_J186
      rw [if_pos z00, if_pos z00, if_neg n10, if_neg n10, nI_1, nI_1]
      have e0 : nI t + (0 : Int32) = nI t := nI_add t 0
      rw [e0]
      by_cases z : mvP b W P Q j = true
      · rw [if_pos z, if_pos z]
        obtain ⟨z1, z2, z3, z4, z5⟩ := of_decide_eq_true z
        have hqA : Q * b ^ (W - 1) ≤ 15 * 2 ^ 44 := Nat.mul_le_mul q2 hA
        have hX2 : j * (Q * b ^ (W - 1) - P) ≤ 16 * (15 * 2 ^ 44) := Nat.mul_le_mul (by omega) (by omega)
        have hpb : P * b ≤ 15 * 16 := Nat.mul_le_mul p2 hb2
        rw [lN_mul P b, lN_mul Q, lN_sub (Nat.le_of_lt z1), lN_sub (Nat.le_of_lt z2), lN_mul, ck_pos (lN_ne0 (by omega) (by omega)), pk_lDiv (by omega) (by omega) (by omega), nI_l (n := j) (by omega), nI_l (n := b) (by omega), lN_mul, lN_add]
        rfl
      · rw [if_neg z, if_neg z]) (F := F) (by omega) (by omega) () trivial
    obtain ⟨s'', -, B⟩ := scan_lp (B := f_X10_moved_B46 F (nI W) (nI P) (nI Q) i (nI b)) (mvP b W P Q) i b 1 (fun _ : Unit => True) (fun _ t j => (nI t, nI j)) (fun _ x => .inl (lN (mvF b W P Q x * b + x))) (fun _ t => .inr (nI t)) (by
      intro rec s t _
      unfold f_X10_moved_B46
      dsimp only
      rw [if_pos (nI_le (Nat.le_refl _) (by omega))]) (by
      intro rec s t j _ hj1 hj
      refine ⟨(), trivial, ?_⟩
      unfold f_X10_moved_B46 f_X10_moved_J102
      dsimp only
      rw [if_neg (nI_ge hj (by omega)), mv_C (by omega) hb w1 w2 p1 p2 q1 q2 hj1 hj, Option.bind_some, nI_1, nI_1, nI_l (n := j) (by omega), nI_l (n := b) (by omega)]
      by_cases z : mvP b W P Q j = true
      · obtain ⟨z1, z2, z3, z4, z5⟩ := of_decide_eq_true z
        rw [if_pos z, if_pos z, if_neg (show ¬ lN (mvF b W P Q j) ≤ (0 : Int64) from fun t => by have := (pk_lLE (b := 0) (by omega) (by omega)).mp t; omega), lN_mul, lN_add]
      · rw [if_neg z, if_neg z, if_pos (by decide)]) (F := F) (by omega) (by omega) () trivial
    have A' : lp (f_X11_moved_B76 F (nI P) (nI Q) i (nI b) (lN (b ^ (W - 1))) ((nI P).toInt64 * (nI b).toInt64 - (nI Q).toInt64)) F ((0 : Int32), (1 : Int32)) = _ := A
    have B' : lp (f_X10_moved_B46 F (nI W) (nI P) (nI Q) i (nI b)) F ((0 : Int32), (1 : Int32)) = _ := B
    rw [A', B']
    simp only [Option.bind_some]
    cases scn (mvP b W P Q) i (b - 1) 1 0 with
    | inl x => exact ⟨_, rfl, rfl⟩
    | inr t =>
      dsimp only [Sum.elim_inr]
      rw [p_count]
      simp only [Option.bind_some]
      by_cases c : i = (-1 : Int32)
      · simp only [if_pos c]; exact ⟨_, rfl, rfl⟩
      · simp only [if_neg c]; exact ⟨_, rfl, rfl⟩
  · simp only [if_neg hi]; exact ⟨_, rfl, rfl⟩
