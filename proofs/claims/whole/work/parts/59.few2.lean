/-! few, withAll, summed: reference and class -/
abbrev R9 : Type := (Nat → Int32) × (Nat → Int32) × (Nat → Int32) × Int32 × Int32 × Int32 × Int32 × (Nat → Int32) × Int32
def inFew (b : Nat) (n x j : Int32) : Prop := ¬ wi n 1 2000 = 0 ∧ ¬ x.toBitVec.toNat % 2 ^ b = 0 ∧ (-1 : Int32) ≤ j
def inAll (b : Nat) (n x j : Int32) : Prop := ¬ wi n 1 200 = 0 ∧ ¬ wi (nI (Dl (alB (nI (x.toBitVec.toNat % 2 ^ b))) b).length) 1 8 = 0 ∧ (-1 : Int32) ≤ j
def inSum (n s j : Int32) : Prop := ¬ wi n 1 300 = 0 ∧ ¬ wi s 1 60 = 0 ∧ (-1 : Int32) ≤ j
theorem and3 {A B C : Prop} (h : ¬ (¬ A ∧ ¬ B ∧ C)) : A ∨ B ∨ ¬ C := by
  by_cases a : A
  · exact Or.inl a
  · by_cases b : B
    · exact Or.inr (Or.inl b)
    · exact Or.inr (Or.inr (fun c => h ⟨a, b, c⟩))
theorem wi_k {x : Int32} {a c : Nat} (ha : a < 2 ^ 31) (hc : c < 2 ^ 31) (h : ¬ wi x (nI a) (nI c) = 0) : ∃ k, a ≤ k ∧ k ≤ c ∧ x = nI k := by
  rcases wi_2 (x := x) (a := a) (c := c) hc ha with z | ⟨k, h1, h2, h3, _⟩
  · exact absurd z h
  · exact ⟨k, h1, h2, h3⟩
/-- what the answer is, by bounds and walk -/
def anFew (b : Nat) (n x j r : Int32) : Prop := (inFew b n x j ∧ ∃ k, k < 2 ^ 31 ∧ n = nI k ∧ 0 < k ∧ bfS (BQ (alB (nI (x.toBitVec.toNat % 2 ^ b))) 0 k 1 b) 1 j r) ∨ (¬ inFew b n x j ∧ r = (-1 : Int32))
def anAll (b : Nat) (n x j r : Int32) : Prop := (inAll b n x j ∧ ∃ k, k < 2 ^ 31 ∧ n = nI k ∧ 0 < k ∧ bfS (BQ (alB (nI (x.toBitVec.toNat % 2 ^ b))) 1 k (2 ^ (Dl (alB (nI (x.toBitVec.toNat % 2 ^ b))) b).length) b) (2 ^ (Dl (alB (nI (x.toBitVec.toNat % 2 ^ b))) b).length) j r) ∨ (¬ inAll b n x j ∧ r = (-1 : Int32))
def anSum (b : Nat) (n x j r : Int32) : Prop := (inSum n x j ∧ ∃ k s, k < 2 ^ 31 ∧ n = nI k ∧ 0 < k ∧ s < 2 ^ 31 ∧ x = nI s ∧ bfS (BQ (fun _ => true) 2 k (s + 1) b) (s + 1) j r) ∨ (¬ inSum n x j ∧ r = (-1 : Int32))
theorem anFew_one {b : Nat} {n x j r r' : Int32} (h : anFew b n x j r) (h' : anFew b n x j r') : r = r' := by
  rcases h with ⟨h1, k, k1, k2, k3, k4⟩ | ⟨h1, rfl⟩
  · rcases h' with ⟨g1, l, l1, l2, l3, l4⟩ | ⟨g1, rfl⟩
    · have e : k = l := (nI_eq k1 l1).mp (by rw [← k2, ← l2])
      subst e
      exact bfS_one (BQ_ok k3) k4 l4
    · exact absurd h1 g1
  · rcases h' with ⟨g1, _⟩ | ⟨g1, rfl⟩
    · exact absurd g1 h1
    · rfl
theorem anAll_one {b : Nat} {n x j r r' : Int32} (h : anAll b n x j r) (h' : anAll b n x j r') : r = r' := by
  rcases h with ⟨h1, k, k1, k2, k3, k4⟩ | ⟨h1, rfl⟩
  · rcases h' with ⟨g1, l, l1, l2, l3, l4⟩ | ⟨g1, rfl⟩
    · have e : k = l := (nI_eq k1 l1).mp (by rw [← k2, ← l2])
      subst e
      exact bfS_one (BQ_ok k3) k4 l4
    · exact absurd h1 g1
  · rcases h' with ⟨g1, _⟩ | ⟨g1, rfl⟩
    · exact absurd g1 h1
    · rfl
theorem anSum_one {b : Nat} {n x j r r' : Int32} (h : anSum b n x j r) (h' : anSum b n x j r') : r = r' := by
  rcases h with ⟨h1, k, s, k1, k2, k3, k5, k6, k4⟩ | ⟨h1, rfl⟩
  · rcases h' with ⟨g1, l, t, l1, l2, l3, l5, l6, l4⟩ | ⟨g1, rfl⟩
    · have e : k = l := (nI_eq k1 l1).mp (by rw [← k2, ← l2])
      have e2 : s = t := (nI_eq k5 l5).mp (by rw [← k6, ← l6])
      subst e e2
      exact bfS_one (BQ_ok k3) k4 l4
    · exact absurd h1 g1
  · rcases h' with ⟨g1, _⟩ | ⟨g1, rfl⟩
    · exact absurd g1 h1
    · rfl
theorem mod_b {b : Nat} (hb : bOK b) (x : Nat) : x % 2 ^ b < 2 ^ b ∧ x % 2 ^ b < 65536 := by
  have h2 : 2 ^ b ≤ 2 ^ 16 := Nat.pow_le_pow_right (by omega) hb.2
  have := Nat.mod_lt x (Nat.two_pow_pos b)
  omega
theorem wk_few {k b : Nat} (hb : bOK b) (h1 : 1 ≤ k) (h2 : k ≤ 2000) : WK 0 k 1 b := ⟨by omega, h1, by omega, by omega, by omega, by omega, hb⟩
theorem wk_all {k l b : Nat} (hb : bOK b) (h1 : 1 ≤ k) (h2 : k ≤ 200) (hl : l ≤ 8) : WK 1 k (2 ^ l) b := by
  have h3 : 2 ^ l ≤ 2 ^ 8 := Nat.pow_le_pow_right (by omega) hl
  have h4 := Nat.two_pow_pos l
  have h5 : k * 2 ^ l ≤ 200 * 2 ^ 8 := Nat.mul_le_mul h2 h3
  exact ⟨by omega, h1, by omega, by omega, by omega, by omega, hb⟩
theorem wk_sum {k s b : Nat} (hb : bOK b) (h1 : 1 ≤ k) (h2 : k ≤ 300) (hs : s ≤ 60) : WK 2 k (s + 1) b := by
  have h5 : k * (s + 1) ≤ 300 * 61 := Nat.mul_le_mul h2 (by omega)
  exact ⟨by omega, h1, by omega, by omega, by omega, by omega, hb⟩
theorem fewR {F b : Nat} (hF : 60000 ≤ F) (hb : bOK b) (n x j : Int32) (m : R9) : ∃ (r : Int32) (m' : R9), f_X11_few F n x j (nI b) m.1 m.2.1 m.2.2.1 m.2.2.2.1 m.2.2.2.2.1 m.2.2.2.2.2.1 m.2.2.2.2.2.2.1 m.2.2.2.2.2.2.2.1 m.2.2.2.2.2.2.2.2 = some (r, m') ∧ anFew b n x j r := by
  obtain ⟨ma, ma2⟩ := mod_b hb x.toBitVec.toNat
  obtain ⟨bit', e1, h1⟩ := p_layAllowed (F := F) (x := x) (A0 := m.2.2.2.2.2.2.1) (bit := m.2.2.2.2.2.2.2.1) (by omega) hb
  have hDl := Dl_le (alB (nI (x.toBitVec.toNat % 2 ^ b))) b
  have hb2 := hb.2
  unfold f_X11_few f_X11_few_J25
  rw [p_inI F n 1 2000 (a' := 1) (c' := 2000) rfl rfl, Option.bind_some]
  by_cases z1 : wi n 1 2000 = 0
  · rw [if_pos z1]
    exact ⟨_, _, rfl, Or.inr ⟨fun q => q.1 z1, rfl⟩⟩
  · rw [if_neg z1, e1, Option.bind_some]
    dsimp only
    by_cases z2 : x.toBitVec.toNat % 2 ^ b = 0
    · rw [if_pos (by rw [(Dl_zero hb ma).mpr z2]; rfl)]
      exact ⟨_, _, rfl, Or.inr ⟨fun q => q.2.1 z2, rfl⟩⟩
    · rw [if_neg (nI_ne0 (Nat.pos_of_ne_zero (fun q => z2 ((Dl_zero hb ma).mp q))) (by omega))]
      by_cases z3 : (-1 : Int32) ≤ j
      · rw [if_pos z3]
        obtain ⟨k, k1, k2, rfl⟩ := wi_k (a := 1) (c := 2000) (by omega) (by omega) z1
        obtain ⟨r, s, e2, h2⟩ := p_figureOf (F := F) (came := m.1) (by' := m.2.1) (queue := m.2.2.1) (met := m.2.2.2.2.2.2.2.2) hF (wk_few hb k1 k2) h1 z3
        have e2' : f_X11_figureOf F (nI k) j (nI b) m.1 m.2.1 m.2.2.1 (0 : Int32) (1 : Int32) (0 : Int32) (nI (x.toBitVec.toNat % 2 ^ b)) bit' m.2.2.2.2.2.2.2.2 = _ := e2
        rw [e2', Option.bind_some]
        exact ⟨r, _, rfl, Or.inl ⟨⟨z1, z2, z3⟩, k, by omega, rfl, by omega, h2⟩⟩
      · rw [if_neg z3]
        exact ⟨_, _, rfl, Or.inr ⟨fun q => z3 q.2.2, rfl⟩⟩
theorem allR {F b : Nat} (hF : 60000 ≤ F) (hb : bOK b) (n x j : Int32) (m : R9) : ∃ (r : Int32) (m' : R9), f_X11_withAll F n x j (nI b) m.1 m.2.1 m.2.2.1 m.2.2.2.1 m.2.2.2.2.1 m.2.2.2.2.2.1 m.2.2.2.2.2.2.1 m.2.2.2.2.2.2.2.1 m.2.2.2.2.2.2.2.2 = some (r, m') ∧ anAll b n x j r := by
  obtain ⟨ma, ma2⟩ := mod_b hb x.toBitVec.toNat
  obtain ⟨bit', e1, h1⟩ := p_layAllowed (F := F) (x := x) (A0 := m.2.2.2.2.2.2.1) (bit := m.2.2.2.2.2.2.2.1) (by omega) hb
  have hDl := Dl_le (alB (nI (x.toBitVec.toNat % 2 ^ b))) b
  have hb2 := hb.2
  unfold f_X11_withAll f_X11_withAll_J37
  rw [e1, Option.bind_some, p_inI F n 1 200 (a' := 1) (c' := 200) rfl rfl, Option.bind_some]
  dsimp only
  by_cases z1 : wi n 1 200 = 0
  · rw [if_pos z1]
    exact ⟨_, _, rfl, Or.inr ⟨fun q => q.1 z1, rfl⟩⟩
  · rw [if_neg z1, p_inI F _ 1 8 (a' := 1) (c' := 8) rfl rfl, Option.bind_some]
    by_cases z2 : wi (nI (Dl (alB (nI (x.toBitVec.toNat % 2 ^ b))) b).length) 1 8 = 0
    · rw [if_pos z2]
      exact ⟨_, _, rfl, Or.inr ⟨fun q => q.2.1 z2, rfl⟩⟩
    · rw [if_neg z2]
      by_cases z3 : (-1 : Int32) ≤ j
      · rw [if_pos z3]
        obtain ⟨k, k1, k2, rfl⟩ := wi_k (a := 1) (c := 200) (by omega) (by omega) z1
        obtain ⟨l, l1, l2, l3⟩ := wi_k (a := 1) (c := 8) (by omega) (by omega) z2
        have el : (Dl (alB (nI (x.toBitVec.toNat % 2 ^ b))) b).length = l := (nI_eq (by omega) (by omega)).mp l3
        have hw := wk_all (l := (Dl (alB (nI (x.toBitVec.toNat % 2 ^ b))) b).length) hb k1 k2 (by omega)
        obtain ⟨r, s, e2, h2⟩ := p_figureOf (F := F) (came := m.1) (by' := m.2.1) (queue := m.2.2.1) (met := m.2.2.2.2.2.2.2.2) hF hw h1 z3
        have eP : nI (2 ^ (Dl (alB (nI (x.toBitVec.toNat % 2 ^ b))) b).length) - (1 : Int32) = nI (2 ^ (Dl (alB (nI (x.toBitVec.toNat % 2 ^ b))) b).length - 1) := by
          have := Nat.two_pow_pos (Dl (alB (nI (x.toBitVec.toNat % 2 ^ b))) b).length
          obtain ⟨u, hu⟩ : ∃ u, 2 ^ (Dl (alB (nI (x.toBitVec.toNat % 2 ^ b))) b).length = u + 1 := ⟨2 ^ (Dl (alB (nI (x.toBitVec.toNat % 2 ^ b))) b).length - 1, by omega⟩
          rw [hu, nI_pred, Nat.add_sub_cancel]
        have e2' : f_X11_figureOf F (nI k) j (nI b) m.1 m.2.1 m.2.2.1 (1 : Int32) (nI (2 ^ (Dl (alB (nI (x.toBitVec.toNat % 2 ^ b))) b).length)) (nI (2 ^ (Dl (alB (nI (x.toBitVec.toNat % 2 ^ b))) b).length - 1)) (nI (x.toBitVec.toNat % 2 ^ b)) bit' m.2.2.2.2.2.2.2.2 = _ := e2
        rw [one_shl (by omega), eP, e2', Option.bind_some]
        exact ⟨r, _, rfl, Or.inl ⟨⟨z1, z2, z3⟩, k, by omega, rfl, by omega, h2⟩⟩
      · rw [if_neg z3]
        exact ⟨_, _, rfl, Or.inr ⟨fun q => z3 q.2.2, rfl⟩⟩
theorem all16 : ∀ b, b < 17 → ∀ d, d < b → 65535 % 2 ^ b / 2 ^ d % 2 = 1 := by decide +kernel
theorem Dl_ext {al al' : Nat → Bool} : ∀ (c : Nat), (∀ d, d < c → al d = al' d) → Dl al c = Dl al' c
  | 0, _ => rfl
  | c + 1, h => by
    have ih := Dl_ext c (fun d hd => h d (by omega))
    have e1 : Dl al (c + 1) = if al c = true then Dl al c ++ [c] else Dl al c := rfl
    have e2 : Dl al' (c + 1) = if al' c = true then Dl al' c ++ [c] else Dl al' c := rfl
    rw [e1, e2, ih, h c (by omega)]
theorem sumR {F b : Nat} (hF : 60000 ≤ F) (hb : bOK b) (n x j : Int32) (m : R9) : ∃ (r : Int32) (m' : R9), f_X11_summed F n x j (nI b) m.1 m.2.1 m.2.2.1 m.2.2.2.1 m.2.2.2.2.1 m.2.2.2.2.2.1 m.2.2.2.2.2.2.1 m.2.2.2.2.2.2.2.1 m.2.2.2.2.2.2.2.2 = some (r, m') ∧ anSum b n x j r := by
  have hb2 := hb.2
  obtain ⟨bit', e1, h1⟩ := p_layAllowed (F := F) (x := (65535 : Int32)) (A0 := m.2.2.2.2.2.2.1) (bit := m.2.2.2.2.2.2.2.1) (by omega) hb
  have e65 : (65535 : Int32).toBitVec.toNat = 65535 := by decide
  rw [e65] at e1 h1
  have ma := (mod_b hb 65535).2
  have hal : ∀ d, d < b → alB (nI (65535 % 2 ^ b)) d = true := fun d hd => (alB_iff (by omega) (by omega)).mpr (all16 b (by omega) d hd)
  have h1' : alM (fun _ => true) (nI (65535 % 2 ^ b)) bit' b := fun d hd => by
    obtain ⟨q1, q2⟩ := h1 d hd
    rw [if_pos (hal d hd)] at q1
    refine ⟨q1, ?_⟩
    rw [q2]
    unfold rk
    rw [Dl_ext (al := alB (nI (65535 % 2 ^ b))) (al' := fun _ => true) d (fun t ht => hal t (by omega))]
  unfold f_X11_summed f_X11_summed_J29
  rw [p_inI F n 1 300 (a' := 1) (c' := 300) rfl rfl, Option.bind_some]
  by_cases z1 : wi n 1 300 = 0
  · rw [if_pos z1]
    exact ⟨_, _, rfl, Or.inr ⟨fun q => q.1 z1, rfl⟩⟩
  · rw [if_neg z1, p_inI F x 1 60 (a' := 1) (c' := 60) rfl rfl, Option.bind_some]
    by_cases z2 : wi x 1 60 = 0
    · rw [if_pos z2]
      exact ⟨_, _, rfl, Or.inr ⟨fun q => q.2.1 z2, rfl⟩⟩
    · rw [if_neg z2]
      by_cases z3 : (-1 : Int32) ≤ j
      · rw [if_pos z3, e1, Option.bind_some]
        obtain ⟨k, k1, k2, rfl⟩ := wi_k (a := 1) (c := 300) (by omega) (by omega) z1
        obtain ⟨s, s1, s2, rfl⟩ := wi_k (a := 1) (c := 60) (by omega) (by omega) z2
        obtain ⟨r, t, e2, h2⟩ := p_figureOf (F := F) (came := m.1) (by' := m.2.1) (queue := m.2.2.1) (met := m.2.2.2.2.2.2.2.2) hF (wk_sum hb k1 k2 s2) h1' z3
        rw [Nat.add_sub_cancel] at e2
        have e2' : f_X11_figureOf F (nI k) j (nI b) m.1 m.2.1 m.2.2.1 (2 : Int32) (nI (s + 1)) (nI s) (nI (65535 % 2 ^ b)) bit' m.2.2.2.2.2.2.2.2 = _ := e2
        dsimp only
        rw [nI_1, e2', Option.bind_some]
        exact ⟨r, _, rfl, Or.inl ⟨⟨z1, z2, z3⟩, k, s, by omega, rfl, by omega, by omega, rfl, h2⟩⟩
      · rw [if_neg z3]
        exact ⟨_, _, rfl, Or.inr ⟨fun q => z3 q.2.2, rfl⟩⟩
/-! the class -/
theorem fewP {F b : Nat} (hF : 60000 ≤ F) (hb : bOK b) (n x j : Int32) (e : E12) (h : seOK F e) : ∃ (r : Int32) (e' : E12), f_X10_few_P F n x j (nI b) e.1 e.2.1 e.2.2.1 e.2.2.2.1 e.2.2.2.2.1 e.2.2.2.2.2.1 e.2.2.2.2.2.2.1 e.2.2.2.2.2.2.2.1 e.2.2.2.2.2.2.2.2.1 e.2.2.2.2.2.2.2.2.2.1 e.2.2.2.2.2.2.2.2.2.2.1 e.2.2.2.2.2.2.2.2.2.2.2 = some (r, e') ∧ seOK F e' ∧ anFew b n x j r := by
  obtain ⟨ma, ma2⟩ := mod_b hb x.toBitVec.toNat
  unfold f_X10_few_P f_X10_few_P_J28 f_X10_figuresOfBase
  rw [mask_b hb, Option.bind_some, p_within, Option.bind_some]
  by_cases z1 : wi n 1 2000 = 0
  · rw [if_pos z1]
    exact ⟨_, e, rfl, h, Or.inr ⟨fun q => q.1 z1, rfl⟩⟩
  · rw [if_neg z1]
    by_cases z2 : x.toBitVec.toNat % 2 ^ b = 0
    · rw [if_pos (by rw [z2]; rfl)]
      exact ⟨_, e, rfl, h, Or.inr ⟨fun q => q.2.1 z2, rfl⟩⟩
    · rw [if_neg (nI_ne0 (by omega) (by omega))]
      by_cases z3 : (-1 : Int32) ≤ j
      · rw [if_pos z3]
        obtain ⟨k, k1, k2, rfl⟩ := wi_k (a := 1) (c := 2000) (by omega) (by omega) z1
        obtain ⟨r, e', g1, g2, g3⟩ := p_searchedP (F := F) (K := 0) (n := k) (b := b) (w := nI (x.toBitVec.toNat % 2 ^ b)) hF (wk_few hb k1 k2) (fun q => by omega) z3 h
        have g1' : f_X10_searched_P F (0 : Int32) (nI k) (nI (x.toBitVec.toNat % 2 ^ b)) j (nI b) e.1 e.2.1 e.2.2.1 e.2.2.2.1 e.2.2.2.2.1 e.2.2.2.2.2.1 e.2.2.2.2.2.2.1 e.2.2.2.2.2.2.2.1 e.2.2.2.2.2.2.2.2.1 e.2.2.2.2.2.2.2.2.2.1 e.2.2.2.2.2.2.2.2.2.2.1 e.2.2.2.2.2.2.2.2.2.2.2 = _ := g1
        rw [g1', Option.bind_some]
        exact ⟨r, e', rfl, g2, Or.inl ⟨⟨z1, z2, z3⟩, k, by omega, rfl, by omega, g3⟩⟩
      · rw [if_neg z3]
        exact ⟨_, e, rfl, h, Or.inr ⟨fun q => z3 q.2.2, rfl⟩⟩
theorem fewN {F b : Nat} (hF : 60000 ≤ F) (hb : bOK b) (n x j : Int32) (h : inFew b n x j) : ∃ (r : Int32) (e' : E12), f_X10_few_N F n x j (nI b) = some (r, e') ∧ seOK F e' ∧ anFew b n x j r := by
  have hh := h
  obtain ⟨z1, z2, z3⟩ := h
  obtain ⟨ma, ma2⟩ := mod_b hb x.toBitVec.toNat
  unfold f_X10_few_N f_X10_figuresOfBase
  rw [mask_b hb, Option.bind_some, p_within, Option.bind_some, if_neg z1, if_neg (nI_ne0 (by omega) (by omega)), if_pos z3]
  obtain ⟨k, k1, k2, rfl⟩ := wi_k (a := 1) (c := 2000) (by omega) (by omega) z1
  obtain ⟨r, e', g1, g2, g3⟩ := p_searchedN (F := F) (K := 0) (n := k) (b := b) (w := nI (x.toBitVec.toNat % 2 ^ b)) hF (wk_few hb k1 k2) (fun q => by omega) z3
  have g1' : f_X10_searched_N F (0 : Int32) (nI k) (nI (x.toBitVec.toNat % 2 ^ b)) j (nI b) = _ := g1
  rw [g1', Option.bind_some]
  exact ⟨r, e', rfl, g2, Or.inl ⟨hh, k, by omega, rfl, by omega, g3⟩⟩
theorem fewB {F b : Nat} (hb : bOK b) (n x j : Int32) (h : ¬ inFew b n x j) : f_X10_few_B F n x j (nI b) = some (-1 : Int32) ∧ anFew b n x j (-1 : Int32) := by
  refine ⟨?_, Or.inr ⟨h, rfl⟩⟩
  obtain ⟨ma, ma2⟩ := mod_b hb x.toBitVec.toNat
  unfold f_X10_few_B f_X10_figuresOfBase
  rw [mask_b hb, Option.bind_some, p_within, Option.bind_some]
  by_cases z1 : wi n 1 2000 = 0
  · rw [if_pos z1]
  · rw [if_neg z1]
    by_cases z2 : x.toBitVec.toNat % 2 ^ b = 0
    · rw [if_pos (by rw [z2]; rfl)]
    · rw [if_neg (nI_ne0 (by omega) (by omega)), if_neg (fun z3 => h ⟨z1, z2, z3⟩)]
theorem bits_b {b : Nat} (hb : bOK b) (F : Nat) (x : Nat) : f_J6_bitCount_0f7a4 F (nI (x % 2 ^ b)) = some (nI (Dl (alB (nI (x % 2 ^ b))) b).length) := by
  obtain ⟨ma, ma2⟩ := mod_b hb x
  rw [p_bitCount ma2, ← Dl_16 hb ma, Dl_pc (by omega) 16 (Nat.le_refl _)]
theorem wk_allI {b k : Nat} (hb : bOK b) {x : Nat} (k1 : 1 ≤ k) (k2 : k ≤ 200) (z2 : ¬ wi (nI (Dl (alB (nI (x % 2 ^ b))) b).length) 1 8 = 0) : WK 1 k (RK 1 b (nI (x % 2 ^ b))) b := by
  have hDl := Dl_le (alB (nI (x % 2 ^ b))) b
  have hb2 := hb.2
  obtain ⟨l, l1, l2, l3⟩ := wi_k (a := 1) (c := 8) (by omega) (by omega) z2
  have el : (Dl (alB (nI (x % 2 ^ b))) b).length = l := (nI_eq (by omega) (by omega)).mp l3
  exact wk_all hb k1 k2 (by omega)
theorem allP {F b : Nat} (hF : 60000 ≤ F) (hb : bOK b) (n x j : Int32) (e : E12) (h : seOK F e) : ∃ (r : Int32) (e' : E12), f_X10_withAll_P F n x j (nI b) e.1 e.2.1 e.2.2.1 e.2.2.2.1 e.2.2.2.2.1 e.2.2.2.2.2.1 e.2.2.2.2.2.2.1 e.2.2.2.2.2.2.2.1 e.2.2.2.2.2.2.2.2.1 e.2.2.2.2.2.2.2.2.2.1 e.2.2.2.2.2.2.2.2.2.2.1 e.2.2.2.2.2.2.2.2.2.2.2 = some (r, e') ∧ seOK F e' ∧ anAll b n x j r := by
  unfold f_X10_withAll_P f_X10_withAll_P_J37 f_X10_figuresOfBase
  rw [mask_b hb, Option.bind_some, p_within, Option.bind_some]
  by_cases z1 : wi n 1 200 = 0
  · rw [if_pos z1]
    exact ⟨_, e, rfl, h, Or.inr ⟨fun q => q.1 z1, rfl⟩⟩
  · rw [if_neg z1, bits_b hb, Option.bind_some, p_within, Option.bind_some]
    by_cases z2 : wi (nI (Dl (alB (nI (x.toBitVec.toNat % 2 ^ b))) b).length) 1 8 = 0
    · rw [if_pos z2]
      exact ⟨_, e, rfl, h, Or.inr ⟨fun q => q.2.1 z2, rfl⟩⟩
    · rw [if_neg z2]
      by_cases z3 : (-1 : Int32) ≤ j
      · rw [if_pos z3]
        obtain ⟨k, k1, k2, rfl⟩ := wi_k (a := 1) (c := 200) (by omega) (by omega) z1
        obtain ⟨r, e', g1, g2, g3⟩ := p_searchedP (F := F) (K := 1) (n := k) (b := b) (w := nI (x.toBitVec.toNat % 2 ^ b)) hF (wk_allI hb k1 k2 z2) (fun q => by omega) z3 h
        have g1' : f_X10_searched_P F (1 : Int32) (nI k) (nI (x.toBitVec.toNat % 2 ^ b)) j (nI b) e.1 e.2.1 e.2.2.1 e.2.2.2.1 e.2.2.2.2.1 e.2.2.2.2.2.1 e.2.2.2.2.2.2.1 e.2.2.2.2.2.2.2.1 e.2.2.2.2.2.2.2.2.1 e.2.2.2.2.2.2.2.2.2.1 e.2.2.2.2.2.2.2.2.2.2.1 e.2.2.2.2.2.2.2.2.2.2.2 = _ := g1
        rw [g1', Option.bind_some]
        exact ⟨r, e', rfl, g2, Or.inl ⟨⟨z1, z2, z3⟩, k, by omega, rfl, by omega, g3⟩⟩
      · rw [if_neg z3]
        exact ⟨_, e, rfl, h, Or.inr ⟨fun q => z3 q.2.2, rfl⟩⟩
theorem allN {F b : Nat} (hF : 60000 ≤ F) (hb : bOK b) (n x j : Int32) (h : inAll b n x j) : ∃ (r : Int32) (e' : E12), f_X10_withAll_N F n x j (nI b) = some (r, e') ∧ seOK F e' ∧ anAll b n x j r := by
  have hh := h
  obtain ⟨z1, z2, z3⟩ := h
  unfold f_X10_withAll_N f_X10_figuresOfBase
  rw [mask_b hb, Option.bind_some, p_within, Option.bind_some, if_neg z1, bits_b hb, Option.bind_some, p_within, Option.bind_some, if_neg z2, if_pos z3]
  obtain ⟨k, k1, k2, rfl⟩ := wi_k (a := 1) (c := 200) (by omega) (by omega) z1
  obtain ⟨r, e', g1, g2, g3⟩ := p_searchedN (F := F) (K := 1) (n := k) (b := b) (w := nI (x.toBitVec.toNat % 2 ^ b)) hF (wk_allI hb k1 k2 z2) (fun q => by omega) z3
  have g1' : f_X10_searched_N F (1 : Int32) (nI k) (nI (x.toBitVec.toNat % 2 ^ b)) j (nI b) = _ := g1
  rw [g1', Option.bind_some]
  exact ⟨r, e', rfl, g2, Or.inl ⟨hh, k, by omega, rfl, by omega, g3⟩⟩
theorem allB {F b : Nat} (hb : bOK b) (n x j : Int32) (h : ¬ inAll b n x j) : f_X10_withAll_B F n x j (nI b) = some (-1 : Int32) ∧ anAll b n x j (-1 : Int32) := by
  refine ⟨?_, Or.inr ⟨h, rfl⟩⟩
  unfold f_X10_withAll_B f_X10_figuresOfBase
  rw [mask_b hb, Option.bind_some, p_within, Option.bind_some]
  by_cases z1 : wi n 1 200 = 0
  · rw [if_pos z1]
  · rw [if_neg z1, bits_b hb, Option.bind_some, p_within, Option.bind_some]
    by_cases z2 : wi (nI (Dl (alB (nI (x.toBitVec.toNat % 2 ^ b))) b).length) 1 8 = 0
    · rw [if_pos z2]
    · rw [if_neg z2, if_neg (fun z3 => h ⟨z1, z2, z3⟩)]
theorem wk_sumI {b k s : Nat} (hb : bOK b) (k1 : 1 ≤ k) (k2 : k ≤ 300) (hs : s ≤ 60) : WK 2 k (RK 2 b (nI s)) b ∧ RK 2 b (nI s) = s + 1 := by
  have eR : RK 2 b (nI s) = s + 1 := by
    have : RK 2 b (nI s) = (nI s).toNatClampNeg + 1 := rfl
    rw [this, nI_clamp (by omega)]
  rw [eR]
  exact ⟨wk_sum hb k1 k2 hs, rfl⟩
theorem sumP {F b : Nat} (hF : 60000 ≤ F) (hb : bOK b) (n x j : Int32) (e : E12) (h : seOK F e) : ∃ (r : Int32) (e' : E12), f_X10_summed_P F n x j (nI b) e.1 e.2.1 e.2.2.1 e.2.2.2.1 e.2.2.2.2.1 e.2.2.2.2.2.1 e.2.2.2.2.2.2.1 e.2.2.2.2.2.2.2.1 e.2.2.2.2.2.2.2.2.1 e.2.2.2.2.2.2.2.2.2.1 e.2.2.2.2.2.2.2.2.2.2.1 e.2.2.2.2.2.2.2.2.2.2.2 = some (r, e') ∧ seOK F e' ∧ anSum b n x j r := by
  unfold f_X10_summed_P f_X10_summed_P_J26
  rw [p_within, Option.bind_some]
  by_cases z1 : wi n 1 300 = 0
  · rw [if_pos z1]
    exact ⟨_, e, rfl, h, Or.inr ⟨fun q => q.1 z1, rfl⟩⟩
  · rw [if_neg z1, p_within, Option.bind_some]
    by_cases z2 : wi x 1 60 = 0
    · rw [if_pos z2]
      exact ⟨_, e, rfl, h, Or.inr ⟨fun q => q.2.1 z2, rfl⟩⟩
    · rw [if_neg z2]
      by_cases z3 : (-1 : Int32) ≤ j
      · rw [if_pos z3]
        obtain ⟨k, k1, k2, rfl⟩ := wi_k (a := 1) (c := 300) (by omega) (by omega) z1
        obtain ⟨s, s1, s2, rfl⟩ := wi_k (a := 1) (c := 60) (by omega) (by omega) z2
        obtain ⟨w1, w2⟩ := wk_sumI hb k1 k2 s2
        obtain ⟨r, e', g1, g2, g3⟩ := p_searchedP (F := F) (K := 2) (n := k) (b := b) (w := nI s) hF w1 (fun q => ⟨s, by omega, rfl⟩) z3 h
        have g1' : f_X10_searched_P F (2 : Int32) (nI k) (nI s) j (nI b) e.1 e.2.1 e.2.2.1 e.2.2.2.1 e.2.2.2.2.1 e.2.2.2.2.2.1 e.2.2.2.2.2.2.1 e.2.2.2.2.2.2.2.1 e.2.2.2.2.2.2.2.2.1 e.2.2.2.2.2.2.2.2.2.1 e.2.2.2.2.2.2.2.2.2.2.1 e.2.2.2.2.2.2.2.2.2.2.2 = _ := g1
        rw [g1', Option.bind_some]
        rw [w2] at g3
        exact ⟨r, e', rfl, g2, Or.inl ⟨⟨z1, z2, z3⟩, k, s, by omega, rfl, by omega, by omega, rfl, g3⟩⟩
      · rw [if_neg z3]
        exact ⟨_, e, rfl, h, Or.inr ⟨fun q => z3 q.2.2, rfl⟩⟩
theorem sumN' {F b : Nat} (hF : 60000 ≤ F) (hb : bOK b) (n x j : Int32) (h : inSum n x j) : ∃ (r : Int32) (e' : E12), f_X10_summed_N F n x j (nI b) = some (r, e') ∧ seOK F e' ∧ anSum b n x j r := by
  have hh := h
  obtain ⟨z1, z2, z3⟩ := h
  unfold f_X10_summed_N
  rw [p_within, Option.bind_some, if_neg z1, p_within, Option.bind_some, if_neg z2, if_pos z3]
  obtain ⟨k, k1, k2, rfl⟩ := wi_k (a := 1) (c := 300) (by omega) (by omega) z1
  obtain ⟨s, s1, s2, rfl⟩ := wi_k (a := 1) (c := 60) (by omega) (by omega) z2
  obtain ⟨w1, w2⟩ := wk_sumI hb k1 k2 s2
  obtain ⟨r, e', g1, g2, g3⟩ := p_searchedN (F := F) (K := 2) (n := k) (b := b) (w := nI s) hF w1 (fun q => ⟨s, by omega, rfl⟩) z3
  have g1' : f_X10_searched_N F (2 : Int32) (nI k) (nI s) j (nI b) = _ := g1
  rw [g1', Option.bind_some]
  rw [w2] at g3
  exact ⟨r, e', rfl, g2, Or.inl ⟨hh, k, s, by omega, rfl, by omega, by omega, rfl, g3⟩⟩
theorem sumB {F b : Nat} (n x j : Int32) (h : ¬ inSum n x j) : f_X10_summed_B F n x j = some (-1 : Int32) ∧ anSum b n x j (-1 : Int32) := by
  refine ⟨?_, Or.inr ⟨h, rfl⟩⟩
  unfold f_X10_summed_B
  rw [p_within, Option.bind_some]
  by_cases z1 : wi n 1 300 = 0
  · rw [if_pos z1]
  · rw [if_neg z1, p_within, Option.bind_some]
    by_cases z2 : wi x 1 60 = 0
    · rw [if_pos z2]
    · rw [if_neg z2, if_neg (fun z3 => h ⟨z1, z2, z3⟩)]
