/-! narrow: the class's search, all of it -/
abbrev TK : Type := (Nat → Int32) × (Nat → Int32) × Nat × (Nat → Int32) × Int32 × List Nat
def loN (b w : Nat) : Nat := if w = 1 then 0 else b ^ (w - 1)
/-- what a call of take gives -/
def tkR (f : List Nat → Option TK) (b w e : Nat) (S : Nat → Prop) (l : List Nat) (o t : Nat) : Prop := ∃ (K : Nat) (taken' left' found' : Nat → Int32) (m' : Nat) (a' : Nat → Nat), (∀ pl, f (List.replicate K 32 ++ pl) = some (taken', left', 32, found', nI m', pl)) ∧ (∀ d, d < 16 → taken' d = nI (l.count d)) ∧ (∀ i, i < m' → found' i = nI (a' i)) ∧ SA a' m' (fun n => S n ∨ VV b w e l o t n)
/-- what the loop in take gives -/
def tkL (f : List Nat → Option (TK ⊕ TK)) (b w e : Nat) (S : Nat → Prop) (l : List Nat) (o t : Nat) : Prop := ∃ (K : Nat) (taken' left' found' : Nat → Int32) (m' : Nat) (a' : Nat → Nat), ((∀ pl, f (List.replicate K 32 ++ pl) = some (.inl (taken', left', 32, found', nI m', pl))) ∨ (∀ pl, f (List.replicate K 32 ++ pl) = some (.inr (taken', left', 32, found', nI m', pl)))) ∧ (∀ d, d < 16 → taken' d = nI (l.count d)) ∧ (∀ i, i < m' → found' i = nI (a' i)) ∧ SA a' m' (fun n => S n ∨ VV b w e l o t n)
theorem rep_s (K1 K2 : Nat) (pl : List Nat) : List.replicate (K1 + K2 + 1) 32 ++ pl = 32 :: (List.replicate K1 32 ++ (List.replicate K2 32 ++ pl)) := by
  rw [List.replicate_succ, List.cons_append, ← List.replicate_append_replicate, List.append_assoc]
abbrev TKF : Type := Nat → List Nat → Int32 → Int32 → Int32 → (Nat → Int32) → (Nat → Int32) → (Nat → Int32) → Nat → (Nat → Int32) → Int32 → Int32 → Int32 → Int32 → Int32 → Option TK
theorem take_loop {F b w e o : Nat} {l : List Nat} {powers : Nat → Int32} {self : TKF} (hb : bOK b) (hw1 : 1 ≤ w) (hw : w ≤ 6) (he : e ≤ 6) (hpw : ∀ d, d < 16 → powers d = nI (d ^ e)) (hlen : l.length + (o + 1) = w) (hps : ps e l < b ^ w)
    (hself : ∀ (t : Nat) (S : Nat → Prop) (a : Nat → Nat) (m : Nat) (taken left found : Nat → Int32), t < b → (∀ d, d < 16 → taken d = nI ((t :: l).count d)) → ps e (t :: l) < b ^ w → (o = 0 → loN b w ≤ ps e (t :: l)) → SA a m S → (∀ i, i < m → found i = nI (a i)) → (∀ n, S n → NW b w e n) → (∀ n, S n → ¬ VV b w e (t :: l) o (t + 1) n) → tkR (fun pl => self 32 pl (nI o) (nI t) (nI (ps e (t :: l))) powers taken left 32 found (nI m) (nI b) (nI w) (nI (loN b w)) (nI (b ^ w - 1))) b w e S (t :: l) o (t + 1)) :
    ∀ (t G : Nat) (S : Nat → Prop) (a : Nat → Nat) (m : Nat) (taken left found : Nat → Int32), t ≤ b → t < G → (∀ d, d < 16 → taken d = nI (l.count d)) → SA a m S → (∀ i, i < m → found i = nI (a i)) → (∀ n, S n → NW b w e n) → (∀ n, S n → ¬ VV b w e l (o + 1) t n) → tkL (fun pl => lp (f_X4_take_B18 F (nI (o + 1)) (nI (ps e l)) powers (nI b) (nI w) (nI (loN b w)) (nI (b ^ w - 1)) 32 self) G (xk t, taken, left, 32, found, nI m, pl)) b w e S l (o + 1) t
  | _, 0, _, _, _, _, _, _, _, h, _, _, _, _, _ => absurd h (Nat.not_lt_zero _)
  | 0, G + 1, S, a, m, taken, left, found, _, _, ht, hS, hf, hN, hV => by
    refine ⟨0, taken, left, found, m, a, Or.inr (fun pl => ?_), ht, hf, SA_ext hS (fun n => ⟨Or.inl, fun q => q.elim id (fun q => absurd q VV_zero)⟩)⟩
    dsimp only
    rw [lp_succ]
    unfold f_X4_take_B18
    dsimp only
    rw [if_pos (show xk 0 < 0 by decide)]
    rfl
  | t + 1, G + 1, S, a, m, taken, left, found, htb, hG, ht, hS, hf, hN, hV => by
    have ih := take_loop (F := F) (self := self) hb hw1 hw he hpw hlen hps hself t G
    have hb1 := hb.1
    have hb2 := hb.2
    have hpow : b ^ w ≤ 16 ^ 6 := Nat.le_trans (Nat.pow_le_pow_left hb2 w) (Nat.pow_le_pow_right (by omega) hw)
    have h166 : (16 : Nat) ^ 6 = 16777216 := by decide
    have hte : t ^ e ≤ 15 ^ 6 := Nat.le_trans (Nat.pow_le_pow_left (by omega) e) (Nat.pow_le_pow_right (by omega) he)
    have h156 : (15 : Nat) ^ 6 = 11390625 := by decide
    have hot : (o + 1) * t ^ e ≤ 6 * 15 ^ 6 := Nat.mul_le_mul (by omega) hte
    have hlo : loN b w ≤ b ^ w := by
      unfold loN
      split
      · omega
      · exact Nat.pow_le_pow_right (by omega) (by omega)
    have hcl : ∀ d, l.count d ≤ 6 := fun d => by have := List.count_le_length (a := d) (l := l); omega
    have key : ∀ (rec : Int32 × (Nat → Int32) × (Nat → Int32) × Nat × (Nat → Int32) × Int32 × List Nat → Option (TK ⊕ TK)) (pl : List Nat), f_X4_take_B18 F (nI (o + 1)) (nI (ps e l)) powers (nI b) (nI w) (nI (loN b w)) (nI (b ^ w - 1)) 32 self rec (xk (t + 1), taken, left, 32, found, nI m, pl) = if loN b w ≤ ps e l + (o + 1) * t ^ e then (if b ^ w - 1 < ps e l + t ^ e then rec (xk t, taken, left, 32, found, nI m, pl) else (pl.head?).bind (fun pv7 => ck (32 ≤ pv7 ∧ pv7 ≤ 32) ((self pv7 pl.tail (nI o) (nI t) (nI (ps e l + t ^ e)) powers (upd taken t (nI (l.count t + 1))) left 32 found (nI m) (nI b) (nI w) (nI (loN b w)) (nI (b ^ w - 1))).bind (fun r9 => ck ((r9.2.2.1) = pv7) (rec (xk t, upd r9.1 t ((r9.1 t) - (1 : Int32)), r9.2.1, r9.2.2.1, r9.2.2.2.1, r9.2.2.2.2.1, r9.2.2.2.2.2)))))) else some (.inl (taken, left, 32, found, nI m, pl)) := by
      intro rec pl
      unfold f_X4_take_B18
      dsimp only
      have hin : ¬ (nI t < 0 ∨ 16 ≤ t) := fun q => q.elim (nI_pos (by omega)) (by omega)
      rw [xk_s, if_neg (nI_pos (by omega)), ck_pos (in_ok (by omega) (by omega)), nI_clamp (by omega), hpw t (by omega), pk_mul, nI_add, nI_add]
      by_cases z1 : loN b w ≤ ps e l + (o + 1) * t ^ e
      · rw [if_pos (nI_le z1 (by omega)), if_pos z1]
        by_cases z2 : b ^ w - 1 < ps e l + t ^ e
        · rw [if_pos (nI_lt z2 (by omega)), if_pos z2]
          unfold f_X4_take_J92
          rw [xk_dec]
        · rw [if_neg (nI_nlt (by omega) (by omega)), if_neg z2, ck_pos hin, ck_pos hin, ht t (by omega), nI_1, one_I (by omega), Nat.add_sub_cancel]
          unfold f_X4_take_J92
          rw [xk_dec]
          congr 1
          funext pv7
          congr 2
          funext r9
          rw [ck_pos hin, ck_pos hin]
      · rw [if_neg (nI_ge (by omega) (by omega)), if_neg z1, ck_pos rfl]
    by_cases z1 : loN b w ≤ ps e l + (o + 1) * t ^ e
    · by_cases z2 : b ^ w - 1 < ps e l + t ^ e
      · obtain ⟨K, t', l', f', m', a', h1, h2, h3, h4⟩ := ih S a m taken left found (by omega) (by omega) ht hS hf hN (fun n q1 q2 => hV n q1 (VV_step.mpr (Or.inr q2)))
        refine ⟨K, t', l', f', m', a', ?_, h2, h3, SA_ext h4 (fun n => ⟨fun q => q.imp id (fun q => VV_step.mpr (Or.inr q)), fun q => q.imp id (fun q => ?_)⟩)⟩
        · refine h1.imp (fun h1 pl => ?_) (fun h1 pl => ?_)
          · have := h1 pl
            dsimp only at this ⊢
            rw [lp_succ, key, if_pos z1, if_pos z2]
            exact this
          · have := h1 pl
            dsimp only at this ⊢
            rw [lp_succ, key, if_pos z1, if_pos z2]
            exact this
        · rcases VV_step.mp q with y | y
          · exact absurd y (VV_high (by omega))
          · exact y
      · have hpt : ps e (t :: l) = ps e l + t ^ e := by show t ^ e + ps e l = _; omega
        have htk : ∀ d, d < 16 → upd taken t (nI (l.count t + 1)) d = nI ((t :: l).count d) := fun d hd => by
          rw [List.count_cons]
          by_cases y : d = t
          · rw [y, pk_us, if_pos (by simp)]
          · rw [pk_un y, ht d hd, if_neg (by simpa using fun q => y q.symm)]
            rfl
        obtain ⟨K1, t1, l1, f1, m1, a1, g1, g2, g3, g4⟩ := hself t S a m (upd taken t (nI (l.count t + 1))) left found (by omega) htk (by omega) (fun h0 => by subst h0; rw [Nat.zero_add, Nat.one_mul] at z1; omega) hS hf hN (fun n q1 q2 => hV n q1 (VV_step.mpr (Or.inl q2)))
        dsimp only at g1
        obtain ⟨K2, t2, l2, f2, m2, a2, h1, h2, h3, h4⟩ := ih (fun n => S n ∨ VV b w e (t :: l) o (t + 1) n) a1 m1 (upd t1 t ((t1 t) - (1 : Int32))) l1 f1 (by omega) (by omega) (fun d hd => by
          by_cases y : d = t
          · rw [y, pk_us, g2 t (by omega), List.count_cons, if_pos (by simp), one_I (by omega), Nat.add_sub_cancel]
          · rw [pk_un y, g2 d hd, List.count_cons, if_neg (by simpa using fun q => y q.symm)]
            rfl) g4 g3 (fun n q => q.elim (hN n) (fun q => q.1)) (fun n q1 q2 => q1.elim (fun q1 => hV n q1 (VV_step.mpr (Or.inr q2))) (fun q1 => VV_dis q1 q2))
        refine ⟨K1 + K2 + 1, t2, l2, f2, m2, a2, ?_, h2, h3, SA_ext h4 (fun n => ?_)⟩
        · have go : ∀ (pl : List Nat) (r : TK ⊕ TK), lp (f_X4_take_B18 F (nI (o + 1)) (nI (ps e l)) powers (nI b) (nI w) (nI (loN b w)) (nI (b ^ w - 1)) 32 self) G (xk t, upd t1 t ((t1 t) - (1 : Int32)), l1, 32, f1, nI m1, List.replicate K2 32 ++ pl) = some r → lp (f_X4_take_B18 F (nI (o + 1)) (nI (ps e l)) powers (nI b) (nI w) (nI (loN b w)) (nI (b ^ w - 1)) 32 self) (G + 1) (xk (t + 1), taken, left, 32, found, nI m, List.replicate (K1 + K2 + 1) 32 ++ pl) = some r := by
            intro pl r hr
            rw [lp_succ, key, if_pos z1, if_neg z2, rep_s]
            show ck (32 ≤ 32 ∧ 32 ≤ 32) _ = _
            have g1' := g1 (List.replicate K2 32 ++ pl)
            rw [hpt] at g1'
            rw [ck_pos ⟨Nat.le_refl _, Nat.le_refl _⟩]
            show (self 32 (List.replicate K1 32 ++ (List.replicate K2 32 ++ pl)) _ _ _ _ _ _ _ _ _ _ _ _ _).bind _ = _
            rw [g1', Option.bind_some, ck_pos rfl]
            exact hr
          exact h1.imp (fun h1 pl => go pl _ (h1 pl)) (fun h1 pl => go pl _ (h1 pl))
        · rw [VV_step, or_assoc]
    · refine ⟨0, taken, left, found, m, a, Or.inl (fun pl => ?_), ht, hf, SA_ext hS (fun n => ⟨Or.inl, fun q => q.elim id (fun q => absurd q (VV_low (by have z := Nat.lt_of_not_le z1; unfold loN at z; exact z)))⟩)⟩
      dsimp only
      rw [lp_succ, key, if_neg z1]
      rfl
theorem p_take {F b w e : Nat} {powers : Nat → Int32} (hF : 300 ≤ F) (hb : bOK b) (hw1 : 1 ≤ w) (hw : w ≤ 6) (he : e ≤ 6) (hpw : ∀ d, d < 16 → powers d = nI (d ^ e)) : ∀ (o k t : Nat) (l : List Nat) (S : Nat → Prop) (a : Nat → Nat) (m : Nat) (taken left found : Nat → Int32), o < k → l.length + o = w → t < b → (∀ d, d < 16 → taken d = nI (l.count d)) → ps e l < b ^ w → (o = 0 → loN b w ≤ ps e l) → SA a m S → (∀ i, i < m → found i = nI (a i)) → (∀ n, S n → NW b w e n) → (∀ n, S n → ¬ VV b w e l o (t + 1) n) → tkR (fun pl => f_X4_take F k 32 pl (nI o) (nI t) (nI (ps e l)) powers taken left 32 found (nI m) (nI b) (nI w) (nI (loN b w)) (nI (b ^ w - 1))) b w e S l o (t + 1)
  | _, 0, _, _, _, _, _, _, _, _, h, _, _, _, _, _, _, _, _, _ => absurd h (Nat.not_lt_zero _)
  | 0, k + 1, t, l, S, a, m, taken, left, found, _, hlen, htb, ht, hps, hlo, hS, hf, hN, hV => by
    obtain ⟨left', found', m', a', h1, h2, h3⟩ := p_lookC (F := F) (t := t + 1) (left := left) hF hb hw1 hw he (by omega) ht hps (hlo rfl) hS hf hN hV
    refine ⟨0, taken, left', found', m', a', fun pl => ?_, ht, h2, h3⟩
    show f_X4_take_body F (f_X4_take F k) 32 _ _ _ _ _ _ _ _ _ _ _ _ _ _ = _
    unfold f_X4_take_body
    rw [ck_pos (Nat.le_refl 32), if_neg (show ¬ (0 : Int32) < nI 0 by decide), ck_pos ⟨Nat.le_refl _, Nat.le_refl _⟩, h1, Option.bind_some]
    dsimp only
    rw [ck_pos rfl, ck_pos rfl]
    rfl
  | o + 1, k + 1, t, l, S, a, m, taken, left, found, hk, hlen, htb, ht, hps, hlo, hS, hf, hN, hV => by
    have hb2 := hb.2
    obtain ⟨K, t', l', f', m', a', h1, h2, h3, h4⟩ := take_loop (F := F) (o := o) (l := l) (powers := powers) (self := f_X4_take F k) hb hw1 hw he hpw hlen hps (fun t S a m taken left found q1 q2 q3 q4 q5 q6 q7 q8 => p_take hF hb hw1 hw he hpw o k t (t :: l) S a m taken left found (by omega) (by rw [List.length_cons]; omega) q1 q2 q3 q4 q5 q6 q7 q8) (t + 1) F S a m taken left found (by omega) (by omega) ht hS hf hN hV
    refine ⟨K, t', l', f', m', a', fun pl => ?_, h2, h3, h4⟩
    show f_X4_take_body F (f_X4_take F k) 32 _ _ _ _ _ _ _ _ _ _ _ _ _ _ = _
    unfold f_X4_take_body
    rw [ck_pos (Nat.le_refl 32), if_pos (show (0 : Int32) < nI (o + 1) from nI_lt (a := 0) (b := o + 1) (by omega) (by omega)), if_neg (show ¬ (15 : Int32) < nI t from nI_nlt (a := 15) (b := t) (by omega) (by omega)), ← xk_s t]
    rcases h1 with h1 | h1
    · have h1 := h1 pl
      dsimp only at h1
      rw [h1]
      rfl
    · have h1 := h1 pl
      dsimp only at h1
      rw [h1, Option.bind_some]
      show ck (32 = 32) _ = _
      rw [ck_pos rfl]
theorem p_powC {F x e : Nat} (hF : 100 < F) (he : e ≤ 60) : f_X4_powerOf F (nI x) (nI e) = some (nI (x ^ e)) := by
  have h : lp (f_X4_powerOf_B4 F (nI x) (nI e)) F ((1 : Int32), (0 : Int32)) = some (nI (x ^ e)) := by
    refine lp_by (B := f_X4_powerOf_B4 F (nI x) (nI e)) (fun q y r => ∃ i, y = (nI (x ^ i), nI i) ∧ i ≤ e ∧ q = e - i ∧ r = nI (x ^ e)) ?_ F e _ _ ⟨0, rfl, Nat.zero_le _, rfl, rfl⟩ (by omega)
    rintro rec q y r ⟨i, rfl, hi, rfl, rfl⟩ hrec
    unfold f_X4_powerOf_B4
    dsimp only
    rcases Nat.lt_or_ge i e with z | z
    · rw [if_neg (nI_ge z (by omega)), pk_mul, nI_1]
      exact hrec (e - (i + 1)) _ _ (by omega) ⟨i + 1, rfl, z, rfl, rfl⟩
    · have : i = e := by omega
      subst this
      rw [if_pos (nI_le (Nat.le_refl _) (by omega))]
  unfold f_X4_powerOf
  rw [h]
  rfl
theorem seek_loop {F e : Nat} {left found : Nat → Int32} {nf : Nat} {x1 x2 x3 x4 x5 x6 : Int32} (hF : 100 < F) (he : e ≤ 6) (powers taken : Nat → Int32) : ∃ powers' taken', lp (f_X4_seek_B43 F (nI e) left nf found x1 x2 x3 x4 x5 x6) F ((0 : Int32), powers, taken) = some (powers', taken') ∧ (∀ d, d < 16 → powers' d = nI (d ^ e)) ∧ ∀ d, d < 16 → taken' d = nI 0 := by
  obtain ⟨r, h1, h2, h3⟩ := lp_ex (B := f_X4_seek_B43 F (nI e) left nf found x1 x2 x3 x4 x5 x6) (fun q x => ∃ i p t, x = (nI i, p, t) ∧ i ≤ 16 ∧ (∀ d, d < i → p d = nI (d ^ e)) ∧ (∀ d, d < i → t d = nI 0) ∧ q = 16 - i) (fun _ r => (∀ d, d < 16 → r.1 d = nI (d ^ e)) ∧ ∀ d, d < 16 → r.2 d = nI 0) (by
    rintro rec q x ⟨i, p, t, rfl, hi, h1, h2, rfl⟩ hrec
    unfold f_X4_seek_B43
    dsimp only
    rcases Nat.lt_or_ge i 16 with z | z
    · rw [if_neg (show ¬ (16 : Int32) ≤ nI i from nI_ge (a := i) (b := 16) z (by omega)), p_powC hF (by omega), Option.bind_some, ck_pos (in_ok z (by omega)), ck_pos (in_ok z (by omega)), nI_clamp (by omega), nI_1]
      refine hrec (16 - (i + 1)) _ (by omega) ⟨i + 1, _, _, rfl, z, fun d hd => ?_, fun d hd => ?_, rfl⟩
      · by_cases y : d = i
        · rw [y]; exact pk_us
        · rw [pk_un y]; exact h1 d (by omega)
      · by_cases y : d = i
        · rw [y]; exact pk_us
        · rw [pk_un y]; exact h2 d (by omega)
    · have : i = 16 := by omega
      subst this
      rw [if_pos (by decide)]
      exact ⟨_, rfl, h1, h2⟩) F 16 ((0 : Int32), powers, taken) ⟨0, powers, taken, rfl, by omega, fun d hd => absurd hd (Nat.not_lt_zero _), fun d hd => absurd hd (Nat.not_lt_zero _), rfl⟩ (by omega)
  exact ⟨r.1, r.2, h1, h2, h3⟩
/-- what the object of narrow numbers holds -/
def nwOK (nf : Nat) (found : Nat → Int32) (size base width exp : Int32) : Prop := nf = 32 ∧ ((base = 0 ∧ width = 0 ∧ exp = 0) ∨ ∃ b w e m a, bOK b ∧ 1 ≤ w ∧ w ≤ 6 ∧ e ≤ 6 ∧ base = nI b ∧ width = nI w ∧ exp = nI e ∧ size = nI m ∧ SA a m (NW b w e) ∧ ∀ i, i < m → found i = nI (a i))
theorem p_seekJ {F b w e : Nat} {x1 x2 x3 x4 x5 x6 : Int32} {powers taken left found : Nat → Int32} (hF : 300 ≤ F) (hb : bOK b) (hw1 : 1 ≤ w) (hw : w ≤ 6) (he : e ≤ 6) : ∃ (K : Nat) (powers' taken' left' found' : Nat → Int32) (m : Nat) (a : Nat → Nat) (y1 y2 : Int32), f_X4_seek_J25 F (nI b) (nI w) (nI e) 32 (List.replicate K 32) powers taken left 32 found x1 x2 x3 x4 x5 x6 = some (powers', taken', left', 32, found', nI m, nI b, nI w, nI e, y1, y2) ∧ SA a m (NW b w e) ∧ ∀ i, i < m → found' i = nI (a i) := by
  have hb1 := hb.1
  have hb2 := hb.2
  have hp : 1 ≤ b ^ w := Nat.le_trans (Nat.le_of_eq (Nat.one_pow w).symm) (Nat.pow_le_pow_left (by omega) w)
  obtain ⟨p', t', e1, h1, h2⟩ := seek_loop (F := F) (left := left) (found := found) (nf := 32) (x1 := x1) (x2 := nI b) (x3 := nI w) (x4 := nI e) (x5 := x5) (x6 := x6) (by omega) he powers taken
  obtain ⟨K, t2, l2, f2, m2, a2, g1, g2, g3, g4⟩ := p_take (F := F) hF hb hw1 hw he h1 w 7 (b - 1) [] (fun _ => False) (fun _ => 0) 0 t' left found (by omega) (by rw [List.length_nil]; omega) (by omega) (fun d hd => by rw [h2 d hd]; rfl) hp (fun h => by omega) ⟨fun i j _ hj => absurd hj (Nat.not_lt_zero _), fun n => ⟨fun q => q.elim, fun q => by obtain ⟨i, hi, _⟩ := q; exact absurd hi (Nat.not_lt_zero _)⟩⟩ (fun i hi => absurd hi (Nat.not_lt_zero _)) (fun n q => q.elim) (fun n q => q.elim)
  dsimp only at g1
  have g1 := g1 []
  rw [List.append_nil] at g1
  have hfin : ∀ y5 y6, f_X4_seek_J97 F (nI b) (nI w) 32 (List.replicate K 32) (nI (loN b w)) p' t' left 32 found x1 (nI b) (nI w) (nI e) y5 y6 = some (p', t2, l2, 32, f2, nI m2, nI b, nI w, nI e, nI (loN b w), nI (b ^ w - 1)) := by
    intro y5 y6
    unfold f_X4_seek_J97
    have g1' : f_X4_take F 7 32 (List.replicate K 32) (nI w) (nI (b - 1)) (0 : Int32) p' t' left 32 found (0 : Int32) (nI b) (nI w) (nI (loN b w)) (nI (b ^ w - 1)) = some (t2, l2, 32, f2, nI m2, []) := g1
    rw [p_powC (by omega) (by omega), Option.bind_some, ck_pos ⟨Nat.le_refl _, Nat.le_refl _⟩, one_I (by omega), one_I (by omega), g1', Option.bind_some]
    dsimp only
    rw [ck_pos rfl, ck_pos rfl]
  refine ⟨K, p', t2, l2, f2, m2, a2, nI (loN b w), nI (b ^ w - 1), ?_, SA_ext g4 (fun n => ⟨fun q => q.elim False.elim (fun q => q.1), fun q => Or.inr ⟨q, dL b w n, dL_len b w n, fun x hx => ?_, List.Perm.refl _⟩⟩), g3⟩
  · unfold f_X4_seek_J25
    rw [e1, Option.bind_some]
    dsimp only
    by_cases z : w = 1
    · rw [if_pos (show nI w = (1 : Int32) by rw [z]; rfl)]
      have : loN b w = 0 := by unfold loN; rw [if_pos z]
      rw [← hfin x5 x6, this]
      rfl
    · rw [if_neg (show ¬ nI w = (1 : Int32) from fun q => z ((nI_eq (a := w) (b := 1) (by omega) (by omega)).mp q)), one_I hw1, p_powC (by omega) (by omega), Option.bind_some]
      have : loN b w = b ^ (w - 1) := by unfold loN; rw [if_neg z]
      rw [← this]
      exact hfin x5 x6
  · have := dL_lt (b := b) (by omega) w n x hx
    omega
theorem p_seekN {F b w e : Nat} {size base width exp x5 x6 : Int32} {nf : Nat} {powers taken left found : Nat → Int32} (hF : 300 ≤ F) (hb : bOK b) (hw1 : 1 ≤ w) (hw : w ≤ 6) (he : e ≤ 6) (h : nwOK nf found size base width exp) : ∃ (K : Nat) (powers' taken' left' found' : Nat → Int32) (m : Nat) (a : Nat → Nat) (y1 y2 : Int32), f_X4_seek F 32 (List.replicate K 32) (nI b) (nI w) (nI e) powers taken left nf found size base width exp x5 x6 = some (powers', taken', left', 32, found', nI m, nI b, nI w, nI e, y1, y2) ∧ SA a m (NW b w e) ∧ ∀ i, i < m → found' i = nI (a i) := by
  obtain ⟨rfl, h⟩ := h
  have hb1 := hb.1
  have hb2 := hb.2
  obtain ⟨K, p', t', l', f', m, a, y1, y2, e1, h1, h2⟩ := p_seekJ (F := F) (x1 := size) (x2 := base) (x3 := width) (x4 := exp) (x5 := x5) (x6 := x6) (powers := powers) (taken := taken) (left := left) (found := found) hF hb hw1 hw he
  unfold f_X4_seek
  by_cases z1 : base = nI b
  · by_cases z2 : width = nI w
    · by_cases z3 : exp = nI e
      · rcases h with ⟨q, _, _⟩ | ⟨b', w', e', m', a', q1, q2, q3, q4, q5, q6, q7, q8, q9, q10⟩
        · rw [z1] at q
          exact absurd q (nI_ne0 (by omega) (by omega))
        · have := q1.2
          have r1 : b' = b := (nI_eq (by omega) (by omega)).mp (by rw [← q5, z1])
          have r2 : w' = w := (nI_eq (by omega) (by omega)).mp (by rw [← q6, z2])
          have r3 : e' = e := (nI_eq (by omega) (by omega)).mp (by rw [← q7, z3])
          subst r1 r2 r3
          exact ⟨0, powers, taken, left, found, m', a', x5, x6, by rw [ck_pos (Nat.le_refl 32), if_pos z1, if_pos z2, if_pos z3, ck_pos rfl, z1, z2, z3, q8], q9, q10⟩
      · exact ⟨K, p', t', l', f', m, a, y1, y2, by rw [ck_pos (Nat.le_refl 32), if_pos z1, if_pos z2, if_neg z3]; exact e1, h1, h2⟩
    · exact ⟨K, p', t', l', f', m, a, y1, y2, by rw [ck_pos (Nat.le_refl 32), if_pos z1, if_neg z2]; exact e1, h1, h2⟩
  · exact ⟨K, p', t', l', f', m, a, y1, y2, by rw [ck_pos (Nat.le_refl 32), if_neg z1]; exact e1, h1, h2⟩
