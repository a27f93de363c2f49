/-! alikes, alikeAt, next -/
theorem nI_one : nI 1 = (1 : Int32) := rfl
theorem mir_loop {F b s : Nat} (hb : bOK b) (hs : s ≤ 100) {G : Nat} (hG : 100 < G) {v l : Nat} (hl : l < 2 ^ 63) : lp (f_X3_mirrored_B28 F (nI s) (nI b)) G (lN v, lN l, (0 : Int32)) = some (lN (mirL b (s / 2) v l)) := by
  obtain ⟨hb1, hb2⟩ := hb
  refine lp_by (fun k x e => ∃ i v l, x = (lN v, lN l, nI i) ∧ l < 2 ^ 63 ∧ i ≤ s / 2 ∧ k = s / 2 - i ∧ e = lN (mirL b (s / 2 - i) v l)) ?_ G (s / 2) _ _ ⟨0, v, l, rfl, hl, Nat.zero_le _, rfl, rfl⟩ (by omega)
  rintro rec k x e ⟨i, v, l, rfl, hl, hi, rfl, rfl⟩ hrec
  have e1 : (nI b).toInt64 = lN b := nI_l (by omega)
  have h0 : ¬ lN b = 0 := lN_ne0 (by omega) (by omega)
  unfold f_X3_mirrored_B28
  dsimp only
  rw [ck_pos n2, half_I (by omega), e1]
  rcases Nat.lt_or_ge i (s / 2) with h | h
  · rw [if_neg (nI_ge h (by omega)), ck_pos h0, ck_pos h0, pk_lRem hl (by omega) (by omega), pk_lDiv hl (by omega) (by omega), lN_mul, lN_add, nI_1]
    refine hrec (s / 2 - (i + 1)) _ _ (by omega) ⟨i + 1, _, _, rfl, Nat.lt_of_le_of_lt (Nat.div_le_self l b) hl, h, rfl, ?_⟩
    rw [show s / 2 - i = (s / 2 - (i + 1)) + 1 by omega]
    rfl
  · rw [if_pos (nI_le h (by omega)), show s / 2 - i = 0 by omega]
    rfl
theorem par_I {s : Nat} (h : s < 2 ^ 31) : nI s - nI s / (2 : Int32) * (2 : Int32) = nI (s % 2) := pk_rem (d := 2) h (by omega) (by omega)
theorem p_mirrored {F b s h : Nat} (hF : 200 ≤ F) (hb : bOK b) (hs : s ≤ 100) (hh : h < 2 ^ 63) : f_X3_mirrored F (lN h) (nI s) (nI b) = some (lN (mirN b h s)) := by
  have e1 : (nI b).toInt64 = lN b := nI_l (by have := hb.2; omega)
  have h0 : ¬ lN b = 0 := lN_ne0 (by have := hb.1; omega) (by have := hb.2; omega)
  unfold f_X3_mirrored f_X3_mirrored_J23 mirN
  rw [ck_pos n2, par_I (by omega), e1]
  by_cases z : s % 2 = 0
  · rw [if_pos z, z, if_pos nI_0, mir_loop hb hs (by omega) hh]
    rfl
  · rw [if_neg z, if_neg (nI_ne0 (by omega) (by omega)), ck_pos h0, pk_lDiv hh (by have := hb.1; omega) (by have := hb.2; omega), mir_loop hb hs (by omega) (Nat.lt_of_le_of_lt (Nat.div_le_self h b) hh)]
    rfl
theorem p_whole {F b s h : Nat} (hF : 200 ≤ F) (hb : bOK b) (hs : s ≤ 100) (hh : h < 2 ^ 63) : f_X11_whole F (lN h) (nI s) (nI b) = some (lN (mirN b h s)) := by
  have e1 : (nI b).toInt64 = lN b := nI_l (by have := hb.2; omega)
  have h0 : ¬ lN b = 0 := lN_ne0 (by have := hb.1; omega) (by have := hb.2; omega)
  have same : ∀ (G : Nat) (v l : Int64), lp (f_X11_whole_B26 F (nI s) (nI b)) G (v, l, (0 : Int32)) = lp (f_X3_mirrored_B28 F (nI s) (nI b)) G (v, l, (0 : Int32)) := fun _ _ _ => rfl
  unfold f_X11_whole f_X11_whole_J21 mirN
  rw [ck_pos n2, par_I (by omega), e1]
  by_cases z : s % 2 = 0
  · rw [if_pos z, z, if_neg (by decide), same, mir_loop hb hs (by omega) hh]
    rfl
  · rw [if_neg z, show s % 2 = 1 by omega, if_pos nI_one, ck_pos h0, pk_lDiv hh (by have := hb.1; omega) (by have := hb.2; omega), same, mir_loop hb hs (by omega) (Nat.lt_of_le_of_lt (Nat.div_le_self h b) hh)]
    rfl
theorem p_halfOf {F b s n : Nat} (hF : 200 ≤ F) (hb : bOK b) (hs : s ≤ 100) (hn : n < 2 ^ 63) : f_X3_halfOf F (lN n) (nI s) (nI b) = some (lN (n / b ^ (s / 2))) := by
  obtain ⟨hb1, hb2⟩ := hb
  have e1 : (nI b).toInt64 = lN b := nI_l (by omega)
  have h0 : ¬ lN b = 0 := lN_ne0 (by omega) (by omega)
  have key : lp (f_X3_halfOf_B6 F (nI s) (nI b)) F (lN n, (0 : Int32)) = some (lN (n / b ^ (s / 2))) := by
    refine lp_by (fun k x e => ∃ i, x = (lN (n / b ^ i), nI i) ∧ i ≤ s / 2 ∧ k = s / 2 - i ∧ e = lN (n / b ^ (s / 2))) ?_ F (s / 2) _ _ ⟨0, by rw [Nat.pow_zero, Nat.div_one]; rfl, Nat.zero_le _, rfl, rfl⟩ (by omega)
    rintro rec k x e ⟨i, rfl, hi, rfl, rfl⟩ hrec
    unfold f_X3_halfOf_B6
    dsimp only
    rw [ck_pos n2, half_I (by omega), e1]
    rcases Nat.lt_or_ge i (s / 2) with h | h
    · rw [if_neg (nI_ge h (by omega)), ck_pos h0, pk_lDiv (Nat.lt_of_le_of_lt (Nat.div_le_self n _) hn) (by omega) (by omega), nI_1, Nat.div_div_eq_div_mul, ← Nat.pow_succ]
      exact hrec (s / 2 - (i + 1)) _ _ (by omega) ⟨i + 1, rfl, h, rfl, rfl⟩
    · have : i = s / 2 := by omega
      subst this
      rw [if_pos (nI_le (Nat.le_refl _) (by omega))]
  unfold f_X3_halfOf
  rw [key]
  rfl
theorem one_I {a : Nat} (h : 1 ≤ a) : nI a - (1 : Int32) = nI (a - 1) := pk_sub (b := 1) h
theorem p_leastHalf {F b s : Nat} (hF : 1000 ≤ F) (hb : bOK b) (hs : s ≤ 100) (h0 : 0 < s) : f_X3_leastHalf F (nI s) (nI b) = some (lN (lhN b s)) := by
  unfold f_X3_leastHalf lhN
  rw [ck_pos n2, nI_1, half_I (by omega), one_I (by omega), p_power hF hb.2 (by omega)]
  rfl
theorem p_manyOfSize {F b s : Nat} (hF : 1000 ≤ F) (hb : bOK b) (hs : s ≤ 100) (h0 : 0 < s) : f_X3_manyOfSize F (nI s) (nI b) = some (lN (mzN b s)) := by
  unfold f_X3_manyOfSize mzN
  have := hb.1
  have := hb.2
  rw [p_leastHalf hF hb hs h0, Option.bind_some, one_I (by omega), nI_l (by omega), lN_mul]
theorem p_alikesOf {F b s : Nat} (hF : 1000 ≤ F) (hb : bOK b) (hs : s ≤ 100) (h0 : 0 < s) : f_X11_alikesOf F (nI s) (nI b) = some (lN (if s = 1 then b else mzN b s)) := by
  unfold f_X11_alikesOf f_X11_alikesOf_J34
  have := hb.1
  have := hb.2
  by_cases z : s = 1
  · subst z
    rw [if_pos nI_one, if_pos rfl, nI_l (by omega)]
  · have hp := mz_eq (b := b) (s := s) (by omega) h0
    unfold lhN at hp
    rw [if_neg (show ¬ nI s = (1 : Int32) from fun q => z ((nI_eq (b := 1) (by omega) (by omega)).mp q)), if_neg z, ck_pos n2, nI_1, half_I (by omega), p_powerM hF hb.2 (by omega), Option.bind_some, ck_pos n2, one_I (by omega), p_powerM hF hb.2 (by omega), Option.bind_some, lN_sub (by omega)]
    congr 2
    omega
theorem manyTo_loop {F b s : Nat} {h : Int64} {row : Nat → Int32} (hF : 1000 ≤ F) (hb : bOK b) (hs : s ≤ 100) (h0 : 0 < s) {G : Nat} (hG : 100 < G) : lp (f_X3_manyTo_B23 F (nI b) (nI s) h row) G ((1 : Int64), (1 : Int32)) = some (lN (smN b (s - 1))) := by
  refine lp_by (fun k x e => ∃ i, x = (lN (smN b i), nI (i + 1)) ∧ i + 1 ≤ s ∧ k = s - 1 - i ∧ e = lN (smN b (s - 1))) ?_ G (s - 1) _ _ ⟨0, rfl, h0, rfl, rfl⟩ (by omega)
  rintro rec k x e ⟨i, rfl, hi, rfl, rfl⟩ hrec
  unfold f_X3_manyTo_B23
  dsimp only
  rcases Nat.lt_or_ge (i + 1) s with z | z
  · rw [if_neg (nI_ge z (by omega)), p_manyOfSize hF hb (by omega) (by omega), Option.bind_some, lN_add, nI_1]
    exact hrec (s - 1 - (i + 1)) _ _ (by omega) ⟨i + 1, rfl, z, rfl, rfl⟩
  · rw [if_pos (nI_le z (by omega)), show s - 1 = i by omega]
theorem alikesTo_loop {F b s : Nat} {many : Int32} {figs : Nat → Int32} (hF : 1000 ≤ F) (hb : bOK b) (hs : s ≤ 100) (h0 : 2 ≤ s) {G : Nat} (hG : 100 < G) : lp (f_X11_alikesTo_B33 F (nI b) (nI s) many figs) G ((0 : Int64), (1 : Int32)) = some (lN (smN b (s - 1))) := by
  refine lp_by (fun k x e => ∃ i, x = (lN (if i = 0 then 0 else smN b i), nI (i + 1)) ∧ i + 1 ≤ s ∧ k = s - 1 - i ∧ e = lN (smN b (s - 1))) ?_ G (s - 1) _ _ ⟨0, rfl, by omega, rfl, rfl⟩ (by omega)
  rintro rec k x e ⟨i, rfl, hi, rfl, rfl⟩ hrec
  unfold f_X11_alikesTo_B33
  dsimp only
  rcases Nat.lt_or_ge (i + 1) s with z | z
  · rw [if_neg (nI_ge z (by omega)), p_alikesOf hF hb (by omega) (by omega), Option.bind_some, lN_add, nI_1]
    refine hrec (s - 1 - (i + 1)) _ _ (by omega) ⟨i + 1, ?_, z, rfl, rfl⟩
    have hb1 := hb.1
    rw [if_neg (show ¬ i + 1 = 0 by omega)]
    by_cases q : i = 0
    · subst q
      rw [if_pos rfl, if_pos rfl]
      show (lN (0 + b), nI (0 + 1 + 1)) = (lN (1 + mzN b 1), nI (0 + 1 + 1))
      rw [mz_1, show 0 + b = 1 + (b - 1) by omega]
    · rw [if_neg q, if_neg (by omega)]
      rfl
  · rw [if_pos (nI_le z (by omega)), show s - 1 = i by omega, if_neg (show ¬ i = 0 by omega)]
theorem pw_top {b n s : Nat} (hb : bOK b) (hn : n ≤ TOP) (hs : s ≤ (dg b n).length) : b ^ s ≤ 16 * (TOP + 1) := by
  have h1 := dg_pow (n := n) hb.1 (by unfold TOP at hn; omega)
  have h2 : b ^ s ≤ b ^ (dg b n).length := Nat.pow_le_pow_right (by have := hb.1; omega) hs
  have h3 : b * (n + 1) ≤ 16 * (TOP + 1) := Nat.mul_le_mul hb.2 (by omega)
  omega
theorem mir_top {b n h s : Nat} (hb : bOK b) (hn : n ≤ TOP) (hs : s ≤ (dg b n).length) (hh : h < b ^ ((s + 1) / 2)) : mirN b h s < 16 * (TOP + 1) := by
  have hb0 : 0 < b := by have := hb.1; omega
  have h1 := (mirN_bd hb0 h s).2
  have h2 : (h + 1) * b ^ (s / 2) ≤ b ^ ((s + 1) / 2) * b ^ (s / 2) := Nat.mul_le_mul_right _ hh
  rw [← Nat.pow_add, show (s + 1) / 2 + s / 2 = s by omega] at h2
  have := pw_top hb hn hs
  omega
theorem p_manyTo {F b n : Nat} {row : Nat → Int32} (hF : 1000 ≤ F) (hb : bOK b) (hn : n ≤ TOP) : f_X3_manyTo F (lN n) (nI b) row = some (lN (atoN b n), putL row 0 (dg b n)) := by
  have hn2 : n < 2 ^ 62 := by unfold TOP at hn; omega
  have hl := dg_63 hb hn2
  have hp := dg_pos b n
  have hlt := lh_le hb hn2
  have hup := half_up hb hn2
  have hm := mir_top hb hn (Nat.le_refl _) hup
  have hpt := pw_top hb hn (s := (((dg b n).length + 1) / 2)) (by omega)
  unfold f_X3_manyTo f_X3_manyTo_J80 atoN
  rw [p_split (by omega) hb hn2, Option.bind_some]
  dsimp only
  rw [p_halfOf (by omega) hb (by omega) (by omega), Option.bind_some, manyTo_loop hF hb (by omega) hp (by omega), Option.bind_some, p_leastHalf hF hb (by omega) hp, Option.bind_some]
  generalize n / b ^ ((dg b n).length / 2) = H at *
  unfold TOP at *
  rw [p_mirrored (by omega) hb (by omega) (by omega), Option.bind_some]
  have e : lN (smN b ((dg b n).length - 1)) + (lN H - lN (lhN b (dg b n).length)) = lN (smN b ((dg b n).length - 1) + H - lhN b (dg b n).length) := by
    rw [← lN_sub hlt, ← lN_add]
    simp only [Int64.sub_eq_add_neg, Int64.add_assoc]
  rw [e, lN_1]
  by_cases z : mirN b H (dg b n).length ≤ n
  · rw [if_pos z, if_neg (fun q => by have := (pk_lLT (by omega) (by omega)).mp q; omega)]
  · rw [if_neg z, if_pos ((pk_lLT (by omega) (by omega)).mpr (by omega))]
    rfl
theorem p_alikesTo {F b n : Nat} {many : Int32} {figs : Nat → Int32} (hF : 1000 ≤ F) (hb : bOK b) (hn : n ≤ TOP) : f_X11_alikesTo F (lN n) (nI b) many figs = some (lN (atoN b n), nI (dg b n).length, putL figs 0 (dg b n)) := by
  have hn2 : n < 2 ^ 62 := by unfold TOP at hn; omega
  have hl := dg_63 hb hn2
  have hp := dg_pos b n
  have hb0 : 0 < b := by have := hb.1; omega
  unfold f_X11_alikesTo f_X11_alikesTo_J101
  rw [if_pos (show (0 : Int64) ≤ lN n from (pk_lLE (a := 0) (by omega) (by omega)).mpr (Nat.zero_le n)), p_lay (by omega) hb.1 hb.2 hn2, Option.bind_some]
  dsimp only
  by_cases h1 : (dg b n).length = 1
  · have hnb : n < b := by
      have := dg_up hb hn2
      rwa [h1, Nat.pow_one] at this
    rw [h1, if_pos nI_one, ato_1 hb hnb, lN_1]
  · have hlt := lh_le hb hn2
    have hup := half_up hb hn2
    have hm := mir_top hb hn (Nat.le_refl _) hup
    have hpt := pw_top hb hn (s := (((dg b n).length + 1) / 2)) (by omega)
    have hpt2 := pw_top hb hn (s := ((dg b n).length / 2)) (by omega)
    have hpp := pw_pos hb0 ((dg b n).length / 2)
    rw [if_neg (show ¬ nI (dg b n).length = (1 : Int32) from fun q => h1 ((nI_eq (b := 1) (by omega) (by omega)).mp q)), alikesTo_loop hF hb (by omega) (by omega) (by omega), Option.bind_some, ck_pos n2, half_I (by omega), p_powerM hF hb.2 (by omega), Option.bind_some]
    unfold TOP at *
    rw [ck_pos (lN_ne0 hpp (by omega)), ck_pos n2, nI_1, half_I (by omega), one_I (by omega), p_powerM hF hb.2 (by omega), Option.bind_some, pk_lDiv (by omega) hpp (by omega)]
    unfold atoN
    generalize n / b ^ ((dg b n).length / 2) = H at *
    rw [p_whole (by omega) hb (by omega) (by omega), Option.bind_some, lN_add]
    unfold lhN at hlt ⊢
    rw [lN_sub hlt]
    by_cases z : mirN b H (dg b n).length ≤ n
    · rw [if_pos z, if_neg (fun q => by have := (pk_lLT (by omega) (by omega)).mp q; omega)]
      exact congrArg (fun t => some (t, _, _)) (lN_1 _)
    · rw [if_neg z, if_pos ((pk_lLT (by omega) (by omega)).mpr (by omega))]
      exact congrArg (fun t => some (t, _, _)) (lN_add _ 0)
/-- the l-th of the sizes from s on, r sizes at most -/
def fnd (b : Nat) : Nat → Nat → Nat → Option (Nat × Nat)
  | 0, _, _ => none
  | r + 1, l, s => if l < mzN b s then some (l, s) else fnd b r (l - mzN b s) (s + 1)
def nnL (v : Nat) : Int64 := if TOP < v then (-4 : Int64) else lN v
def elm (b : Nat) : Option (Nat × Nat) → Int64
  | none => (-4 : Int64)
  | some p => nnL (mirN b (lhN b p.2 + p.1) p.2)
def atN (b i : Nat) : Int64 := if i = 0 then 0 else elm b (fnd b (dg b TOP).length (i - 1) 1)
theorem p_non (F v : Nat) (h : v < 2 ^ 63) : f_X3_numberOrNone F (lN v) = some (nnL v) := by
  unfold f_X3_numberOrNone f_X3_numberOrNone_J15 nnL
  by_cases z : TOP < v
  · rw [if_pos z, if_pos (show (1000000000000000 : Int64) < lN v from (pk_lLT (a := 1000000000000000) (by omega) h).mpr z)]
  · rw [if_neg z, if_neg (show ¬ (1000000000000000 : Int64) < lN v from fun q => z ((pk_lLT (a := 1000000000000000) (by omega) h).mp q))]
theorem mz_top {b s : Nat} (hb : bOK b) (h0 : 0 < s) (hs : s ≤ (dg b TOP).length) : lhN b s + mzN b s ≤ 16 * (TOP + 1) := by
  rw [mz_eq (by have := hb.1; omega) h0]
  exact pw_top hb (Nat.le_refl _) (by omega)
theorem top_63 {b : Nat} (hb : bOK b) : (dg b TOP).length ≤ 62 := dg_63 hb (by unfold TOP; omega)
theorem p_at {F b i : Nat} {row : Nat → Int32} (hF : 1000 ≤ F) (hb : bOK b) (hi : i < 2 ^ 63) : ∃ row', f_X3_at F (lN i) (nI b) row = some (atN b i, row') := by
  have hM := top_63 hb
  unfold f_X3_at atN
  by_cases z : i = 0
  · rw [if_pos (by rw [z]; rfl), if_pos z]
    exact ⟨_, rfl⟩
  · rw [if_neg (lN_ne0 (by omega) hi), if_neg z]
    refine ⟨putL row 0 (dg b TOP), ?_⟩
    have hsp : f_X1_split F (1000000000000000 : Int64) (nI b) row = some (nI (dg b TOP).length, putL row 0 (dg b TOP)) := p_split (n := TOP) (by omega) hb (by unfold TOP; omega)
    rw [hsp, Option.bind_some]
    dsimp only
    have e1 : lN i - (1 : Int64) = lN (i - 1) := lN_sub (b := 1) (by omega)
    rw [e1]
    have key : lp (f_X3_at_B27 F (nI b) (nI (dg b TOP).length) (putL row 0 (dg b TOP))) F (lN (i - 1), (1 : Int32)) = some (match fnd b (dg b TOP).length (i - 1) 1 with | none => .inr () | some p => .inl (elm b (some p), putL row 0 (dg b TOP))) := by
      refine lp_by (fun k x e => ∃ l s, x = (lN l, nI s) ∧ l < 2 ^ 63 ∧ 0 < s ∧ s ≤ (dg b TOP).length + 1 ∧ k = (dg b TOP).length + 1 - s ∧ e = (match fnd b ((dg b TOP).length + 1 - s) l s with | none => .inr () | some p => .inl (elm b (some p), putL row 0 (dg b TOP)))) ?_ F (dg b TOP).length _ _ ⟨i - 1, 1, rfl, by omega, by omega, by omega, rfl, rfl⟩ (by omega)
      rintro rec k x e ⟨l, s, rfl, hl, hs0, hs, rfl, rfl⟩ hrec
      unfold f_X3_at_B27
      dsimp only
      rcases Nat.lt_or_ge (dg b TOP).length s with q | q
      · rw [if_pos (nI_lt q (by omega)), show (dg b TOP).length + 1 - s = 0 by omega]
        rfl
      · have hmt := mz_top hb hs0 q
        have hme := mz_eq (b := b) (s := s) (by have := hb.1; omega) hs0
        rw [if_neg (nI_nlt q (by omega)), p_manyOfSize hF hb (by omega) hs0, Option.bind_some, show (dg b TOP).length + 1 - s = ((dg b TOP).length + 1 - (s + 1)) + 1 by omega]
        unfold fnd
        rcases Nat.lt_or_ge l (mzN b s) with y | y
        · have hmi := mir_top (h := lhN b s + l) hb (Nat.le_refl TOP) q (by omega)
          unfold TOP at hmt hmi
          rw [if_neg (fun t => by have := (pk_lLE (by omega) (by omega)).mp t; omega), if_pos y, p_leastHalf hF hb (by omega) hs0, Option.bind_some, lN_add, p_mirrored (by omega) hb (by omega) (by omega), Option.bind_some, p_non F _ (by omega), Option.bind_some]
          rfl
        · rw [if_pos ((pk_lLE (by unfold TOP at hmt; omega) (by omega)).mpr y), if_neg (by omega), lN_sub y, nI_1]
          exact hrec ((dg b TOP).length + 1 - (s + 1)) _ _ (by omega) ⟨l - mzN b s, s + 1, rfl, by omega, by omega, by omega, rfl, rfl⟩
    rw [key, Option.bind_some]
    cases fnd b (dg b TOP).length (i - 1) 1 <;> rfl
theorem p_alikeOf {F b i : Nat} {many : Int32} {figs : Nat → Int32} (hF : 1000 ≤ F) (hb : bOK b) (hi : i < 2 ^ 63) : ∃ many' figs', f_X11_alikeOf F (lN i) (nI b) many figs = some (atN b i, many', figs') := by
  have hM := top_63 hb
  have hMp := dg_pos b TOP
  have hb1 := hb.1
  have hb2 := hb.2
  refine ⟨nI (dg b TOP).length, putL figs 0 (dg b TOP), ?_⟩
  unfold f_X11_alikeOf f_X11_alikeOf_J92 f_X11_alikeOf_J111 atN
  have hsp : f_X11_lay F (1000000000000000 : Int64) (nI b) many figs = some (nI (dg b TOP).length, putL figs 0 (dg b TOP)) := p_lay (n := TOP) (by omega) hb.1 hb.2 (by unfold TOP; omega)
  rw [hsp, Option.bind_some]
  dsimp only
  have later : ∀ (G l s : Nat) (RES : Option (Nat × Nat)), fnd b ((dg b TOP).length + 1 - s) l s = RES → l < 2 ^ 63 → 2 ≤ s → s ≤ (dg b TOP).length + 1 → (dg b TOP).length + 1 - s < G → ∃ e, lp (f_X11_alikeOf_B18 F (nI b) (nI (dg b TOP).length) (nI (dg b TOP).length) (putL figs 0 (dg b TOP))) G (lN l, nI s) = some e ∧ ((RES = none ∧ e.2 = nI ((dg b TOP).length + 1)) ∨ ∃ l s, RES = some (l, s) ∧ 2 ≤ s ∧ s ≤ (dg b TOP).length ∧ l < mzN b s ∧ e = (lN l, nI s)) := by
    intro G l s RES hR hl hs0 hs hG
    refine lp_ex (fun k x => ∃ l s, x = (lN l, nI s) ∧ fnd b ((dg b TOP).length + 1 - s) l s = RES ∧ l < 2 ^ 63 ∧ 2 ≤ s ∧ s ≤ (dg b TOP).length + 1 ∧ k = (dg b TOP).length + 1 - s) (fun _ e => (RES = none ∧ e.2 = nI ((dg b TOP).length + 1)) ∨ ∃ l s, RES = some (l, s) ∧ 2 ≤ s ∧ s ≤ (dg b TOP).length ∧ l < mzN b s ∧ e = (lN l, nI s)) ?_ G _ _ ⟨l, s, rfl, hR, hl, hs0, hs, rfl⟩ hG
    rintro rec k x ⟨l, s, rfl, hR, hl, hs0, hs, rfl⟩ hrec
    unfold f_X11_alikeOf_B18
    dsimp only
    rcases Nat.lt_or_ge (dg b TOP).length s with q | q
    · rw [show (dg b TOP).length + 1 - s = 0 by omega] at hR
      rw [if_pos (nI_lt q (by omega))]
      exact ⟨_, rfl, Or.inl ⟨hR.symm, by rw [show s = (dg b TOP).length + 1 by omega]⟩⟩
    · have hmt := mz_top hb (show 0 < s by omega) q
      unfold TOP at hmt
      rw [show (dg b TOP).length + 1 - s = ((dg b TOP).length + 1 - (s + 1)) + 1 by omega] at hR
      unfold fnd at hR
      rw [if_neg (nI_nlt q (by omega)), p_alikesOf hF hb (by omega) (by omega), Option.bind_some, if_neg (show ¬ s = 1 by omega)]
      rcases Nat.lt_or_ge l (mzN b s) with y | y
      · rw [if_pos y] at hR
        rw [if_pos ((pk_lLT (by omega) (by omega)).mpr y)]
        exact ⟨_, rfl, Or.inr ⟨l, s, hR.symm, hs0, q, y, rfl⟩⟩
      · rw [if_neg (by omega)] at hR
        rw [if_neg (fun t => by have := (pk_lLT (by omega) (by omega)).mp t; omega), Option.bind_some, lN_sub y, nI_1]
        exact hrec ((dg b TOP).length + 1 - (s + 1)) _ (by omega) ⟨l - mzN b s, s + 1, rfl, hR, by omega, by omega, by omega, rfl⟩
  obtain ⟨G, rfl⟩ : ∃ G, F = G + 1 := ⟨F - 1, by omega⟩
  have hM1 : 1 ≤ (dg b TOP).length := hMp
  rcases Nat.lt_or_ge i b with c | c
  · have key : lp (f_X11_alikeOf_B18 (G + 1) (nI b) (nI (dg b TOP).length) (nI (dg b TOP).length) (putL figs 0 (dg b TOP))) (G + 1) (lN i, (1 : Int32)) = some (lN i, (1 : Int32)) := by
      rw [lp_succ]
      generalize lp (f_X11_alikeOf_B18 (G + 1) (nI b) (nI (dg b TOP).length) (nI (dg b TOP).length) (putL figs 0 (dg b TOP))) G = rec
      unfold f_X11_alikeOf_B18
      dsimp only
      have e1 : f_X11_alikesOf (G + 1) (1 : Int32) (nI b) = some (lN b) := p_alikesOf (s := 1) hF hb (by omega) (by omega)
      rw [if_neg (show ¬ nI (dg b TOP).length < (1 : Int32) from nI_nlt (b := 1) hM1 (by omega)), e1, Option.bind_some, if_pos ((pk_lLT (by omega) (by omega)).mpr c)]
    have hiT : lN i ≤ (1000000000000000 : Int64) := (pk_lLE (b := 1000000000000000) (by omega) (by omega)).mpr (by omega)
    rw [key, Option.bind_some]
    dsimp only
    rw [if_pos (show (1 : Int32) ≤ nI (dg b TOP).length from nI_le (a := 1) hM1 (by omega)), if_pos rfl, if_pos hiT]
    by_cases z : i = 0
    · rw [if_pos z, z]; rfl
    · obtain ⟨r, hr⟩ : ∃ r, (dg b TOP).length = r + 1 := ⟨(dg b TOP).length - 1, by omega⟩
      rw [if_neg z, hr]
      unfold fnd
      rw [mz_1, if_pos (by omega)]
      unfold elm nnL
      dsimp only
      rw [mirN_1]
      unfold lhN
      rw [show (1 + 1) / 2 - 1 = 0 by omega, Nat.pow_zero, show 1 + (i - 1) = i by omega, if_neg (by unfold TOP; omega)]
  · have key : lp (f_X11_alikeOf_B18 (G + 1) (nI b) (nI (dg b TOP).length) (nI (dg b TOP).length) (putL figs 0 (dg b TOP))) (G + 1) (lN i, (1 : Int32)) = lp (f_X11_alikeOf_B18 (G + 1) (nI b) (nI (dg b TOP).length) (nI (dg b TOP).length) (putL figs 0 (dg b TOP))) G (lN (i - b), nI 2) := by
      rw [lp_succ]
      generalize lp (f_X11_alikeOf_B18 (G + 1) (nI b) (nI (dg b TOP).length) (nI (dg b TOP).length) (putL figs 0 (dg b TOP))) G = rec
      unfold f_X11_alikeOf_B18
      dsimp only
      have e1 : f_X11_alikesOf (G + 1) (1 : Int32) (nI b) = some (lN b) := p_alikesOf (s := 1) hF hb (by omega) (by omega)
      rw [if_neg (show ¬ nI (dg b TOP).length < (1 : Int32) from nI_nlt (b := 1) hM1 (by omega)), e1, Option.bind_some, if_neg (fun t => by have := (pk_lLT (by omega) (by omega)).mp t; omega), Option.bind_some, lN_sub c]
      rfl
    have eF : fnd b (dg b TOP).length (i - 1) 1 = fnd b ((dg b TOP).length + 1 - 2) (i - b) 2 := by
      obtain ⟨r, hr⟩ : ∃ r, (dg b TOP).length = r + 1 := ⟨(dg b TOP).length - 1, by omega⟩
      rw [hr, show r + 1 + 1 - 2 = r by omega]
      conv => lhs; unfold fnd
      rw [mz_1, if_neg (by omega), show i - 1 - (b - 1) = i - b by omega]
    obtain ⟨e, he, hP⟩ := later G (i - b) 2 _ rfl (by omega) (by omega) (by omega) (by omega)
    rw [key, he, Option.bind_some, if_neg (show ¬ i = 0 by omega), eF]
    rcases hP with ⟨h1, h2⟩ | ⟨l, s, h1, hs2, hsM, hlm, rfl⟩
    · rw [h1, h2, if_neg (nI_ge (by omega) (by omega))]
      rfl
    · have hmt := mz_top hb (show 0 < s by omega) hsM
      have hme := mz_eq (b := b) (s := s) (by omega) (by omega)
      have hmi := mir_top (h := lhN b s + l) hb (Nat.le_refl TOP) hsM (by omega)
      rw [h1]
      dsimp only
      have el : b ^ ((s + 1) / 2 - 1) = lhN b s := rfl
      unfold TOP at hmt hmi
      rw [if_pos (nI_le hsM (by omega)), if_neg (show ¬ nI s = (1 : Int32) from fun q => by have := (nI_eq (b := 1) (by omega) (by omega)).mp q; omega), ck_pos n2, nI_1, half_I (by omega), one_I (by omega), p_powerM hF hb2 (by omega), Option.bind_some, lN_add, el, Nat.add_comm l, p_whole (by omega) hb (by omega) (by omega), Option.bind_some]
      unfold elm nnL
      dsimp only
      by_cases z : TOP < mirN b (lhN b s + l) s
      · rw [if_pos z, if_neg (show ¬ lN (mirN b (lhN b s + l) s) ≤ (1000000000000000 : Int64) from fun q => by have := (pk_lLE (b := 1000000000000000) (by omega) (by omega)).mp q; unfold TOP at z; omega)]
      · rw [if_neg z, if_pos (show lN (mirN b (lhN b s + l) s) ≤ (1000000000000000 : Int64) from (pk_lLE (b := 1000000000000000) (by omega) (by omega)).mpr (by unfold TOP at z; omega))]
theorem sm_mono (b : Nat) {i j : Nat} (h : i ≤ j) : smN b i ≤ smN b j := by
  induction j with
  | zero => rw [show i = 0 by omega]; exact Nat.le_refl _
  | succ j ih =>
    rcases Nat.lt_or_ge j i with z | z
    · rw [show i = j + 1 by omega]; exact Nat.le_refl _
    · exact Nat.le_trans (ih z) (Nat.le_add_right _ _)
theorem sm_le {b : Nat} (hb : bOK b) : ∀ k, k ≤ (dg b TOP).length → smN b k ≤ 1 + k * (16 * (TOP + 1))
  | 0, _ => by rw [Nat.zero_mul]; exact Nat.le_refl _
  | k + 1, h => by
    have h1 := sm_le hb k (by omega)
    have h2 := mz_top hb (show 0 < k + 1 by omega) h
    show smN b k + mzN b (k + 1) ≤ _
    rw [Nat.succ_mul]
    omega
theorem fnd_at {b M s j : Nat} (hs : s ≤ M) (hs0 : 0 < s) (hj : j < mzN b s) : ∀ (d k : Nat), k + d = s - 1 → fnd b (M - k) (smN b (s - 1) - smN b k + j) (k + 1) = some (j, s)
  | 0, k, h => by
    have e : k = s - 1 := by omega
    subst e
    rw [Nat.sub_self, Nat.zero_add, show M - (s - 1) = (M - s) + 1 by omega, Nat.sub_add_cancel hs0]
    unfold fnd
    rw [if_pos hj]
  | d + 1, k, h => by
    have m1 := sm_mono b (show k + 1 ≤ s - 1 by omega)
    have e : smN b (k + 1) = smN b k + mzN b (k + 1) := rfl
    have ih := fnd_at hs hs0 hj d (k + 1) (by omega)
    rw [show M - k = (M - (k + 1)) + 1 by omega]
    unfold fnd
    rw [if_neg (by omega), show smN b (s - 1) - smN b k + j - mzN b (k + 1) = smN b (s - 1) - smN b (k + 1) + j by omega]
    exact ih
/-- the least from n on -/
def lfN (b n : Nat) : Int64 := nnL (if n ≤ mirN b (n / b ^ ((dg b n).length / 2)) (dg b n).length then mirN b (n / b ^ ((dg b n).length / 2)) (dg b n).length else mirN b (n / b ^ ((dg b n).length / 2) + 1) (dg b n).length)
theorem half_next {b n : Nat} (hb : bOK b) (hn : n < 2 ^ 62) (h : mirN b (n / b ^ ((dg b n).length / 2)) (dg b n).length < n) : n / b ^ ((dg b n).length / 2) + 1 < b ^ (((dg b n).length + 1) / 2) := by
  have hb0 : 0 < b := by have := hb.1; omega
  have h1 := half_up hb hn
  have h2 := dg_up hb hn
  have h3 := mirN_nines hb0 (dg b n).length
  rcases Nat.lt_or_ge (n / b ^ ((dg b n).length / 2) + 1) (b ^ (((dg b n).length + 1) / 2)) with z | z
  · exact z
  · have e : n / b ^ ((dg b n).length / 2) = b ^ (((dg b n).length + 1) / 2) - 1 := by
      generalize n / b ^ ((dg b n).length / 2) = H at *
      omega
    rw [e] at h
    omega
theorem len_top {b n : Nat} (hb : bOK b) (hn : n ≤ TOP) (h0 : 0 < n) : (dg b n).length ≤ (dg b TOP).length := by
  have hb0 : 0 < b := by have := hb.1; omega
  have hT : TOP < 2 ^ 62 := by unfold TOP; omega
  have h1 := dg_low hb (n := n) (by omega) h0
  have h2 := dg_up hb (n := TOP) hT
  rcases Nat.lt_or_ge (dg b TOP).length (dg b n).length with z | z
  · have := Nat.pow_le_pow_right hb0 (show (dg b TOP).length ≤ (dg b n).length - 1 by omega)
    omega
  · exact z
theorem next_same {b n : Nat} (hb : bOK b) (hn : n ≤ TOP) (h0 : 0 < n) : atN b (atoN b (n - 1)) = lfN b n := by
  have hn2 : n < 2 ^ 62 := by unfold TOP at hn; omega
  have hb0 : 0 < b := by have := hb.1; omega
  have hp := dg_pos b n
  have hlo := half_lo hb hn2 h0
  have hup := half_up hb hn2
  have hnx := half_next hb hn2
  have hme := mz_eq (b := b) (s := (dg b n).length) hb0 hp
  have hsp := sm_pos b ((dg b n).length - 1)
  have hsT := len_top hb hn h0
  rw [ato_below hb hn2 h0]
  unfold lfN
  generalize n / b ^ ((dg b n).length / 2) = H at *
  have fin : ∀ j, j < mzN b (dg b n).length → atN b (smN b ((dg b n).length - 1) + j) = nnL (mirN b (lhN b (dg b n).length + j) (dg b n).length) := by
    intro j hj
    unfold atN
    rw [if_neg (by omega)]
    have := fnd_at (b := b) (M := (dg b TOP).length) hsT hp hj ((dg b n).length - 1) 0 (by omega)
    have e0 : smN b 0 = 1 := rfl
    rw [e0, Nat.zero_add, Nat.sub_zero] at this
    rw [show smN b ((dg b n).length - 1) + j - 1 = smN b ((dg b n).length - 1) - 1 + j by omega, this]
    rfl
  rcases Nat.lt_or_ge (mirN b H (dg b n).length) n with z | z
  · have := hnx z
    rw [if_pos z, if_neg (by omega), Nat.add_assoc, fin _ (by omega), show lhN b (dg b n).length + (H - lhN b (dg b n).length + 1) = H + 1 by omega]
  · rw [if_neg (by omega), if_pos z, Nat.add_zero, fin _ (by omega), show lhN b (dg b n).length + (H - lhN b (dg b n).length) = H by omega]
theorem p_leastFrom {F b n : Nat} {row : Nat → Int32} (hF : 1000 ≤ F) (hb : bOK b) (hn : n ≤ TOP) : f_X3_leastFrom F (lN n) (nI b) row = some (lfN b n, putL row 0 (dg b n)) := by
  have hn2 : n < 2 ^ 62 := by unfold TOP at hn; omega
  have hl := dg_63 hb hn2
  have hp := dg_pos b n
  have hup := half_up hb hn2
  have hnx := half_next hb hn2
  have hm := mir_top hb hn (Nat.le_refl _) hup
  have hpt := pw_top hb hn (s := (((dg b n).length + 1) / 2)) (by omega)
  have hmx : ∀ h, h < b ^ (((dg b n).length + 1) / 2) → mirN b h (dg b n).length < 16 * (TOP + 1) := fun h hh => mir_top hb hn (Nat.le_refl _) hh
  unfold f_X3_leastFrom f_X3_leastFrom_J47 lfN
  rw [p_split (by omega) hb hn2, Option.bind_some]
  dsimp only
  rw [p_halfOf (by omega) hb (by omega) (by omega), Option.bind_some]
  generalize n / b ^ ((dg b n).length / 2) = H at *
  rw [p_mirrored (by omega) hb (by omega) (by unfold TOP at *; omega), Option.bind_some, lN_1]
  rcases Nat.lt_or_ge (mirN b H (dg b n).length) n with z | z
  · have h1 := hnx z
    have h2 := hmx _ h1
    unfold TOP at hm hpt hmx h2
    rw [if_pos ((pk_lLT (by omega) (by omega)).mpr z), if_neg (by omega), p_mirrored (by omega) hb (by omega) (by omega), Option.bind_some, p_non F _ (by omega)]
    rfl
  · unfold TOP at hm hpt hmx
    rw [if_neg (fun q => by have := (pk_lLT (by omega) (by omega)).mp q; omega), if_pos z, p_non F _ (by omega)]
    rfl
theorem s_alikes {F b : Nat} (hF : 1000 ≤ F) (hb : bOK b) (n : Int64) (many : Int32) (figs row : Nat → Int32) : ∃ r many' figs' row', f_X11_alikes F n (nI b) many figs = some (r, many', figs') ∧ f_X10_alikes F n (nI b) row = some (r, row') := by
  unfold f_X11_alikes f_X11_alikes_J22 f_X10_alikes f_X10_alikes_J21
  rw [p_in, p_isNumber]
  simp only [Option.bind_some]
  rcases wl_1 (x := n) with h | ⟨k, h1, rfl, h⟩
  · simp only [h, if_pos z00]; exact ⟨_, _, _, _, rfl, rfl⟩
  · simp only [h, if_neg n10]
    rw [p_alikesTo hF hb h1, p_manyTo hF hb h1]
    exact ⟨_, _, _, _, rfl, rfl⟩
theorem s_alikeAt {F b : Nat} (hF : 1000 ≤ F) (hb : bOK b) (i : Int64) (many : Int32) (figs row : Nat → Int32) : ∃ r many' figs' row', f_X11_alikeAt F i (nI b) many figs = some (r, many', figs') ∧ f_X10_alikeAt F i (nI b) row = some (r, row') := by
  unfold f_X11_alikeAt f_X11_alikeAt_J17 f_X10_alikeAt f_X10_alikeAt_J20
  by_cases h : i < (0 : Int64)
  · rw [if_pos h, if_neg (fun z => by
      rw [Int64.lt_iff_toInt_lt] at h
      rw [Int64.le_iff_toInt_le] at z
      omega)]
    exact ⟨_, _, _, _, rfl, rfl⟩
  · obtain ⟨k, hk, rfl⟩ := pk_lOf h
    obtain ⟨m', f', e1⟩ := p_alikeOf (F := F) (many := many) (figs := figs) hF hb hk
    obtain ⟨r', e2⟩ := p_at (F := F) (row := row) hF hb hk
    rw [if_neg h, if_pos (show (0 : Int64) ≤ lN k from (pk_lLE (a := 0) (by omega) hk).mpr (Nat.zero_le _)), e1, e2]
    exact ⟨_, _, _, _, rfl, rfl⟩
theorem s_next {F b : Nat} (hF : 1000 ≤ F) (hb : bOK b) (n : Int64) (many : Int32) (figs row : Nat → Int32) : ∃ r many' figs' row', f_X11_next F n (nI b) many figs = some (r, many', figs') ∧ f_X10_next F n (nI b) row = some (r, row') := by
  unfold f_X11_next f_X11_next_J28 f_X10_next f_X10_next_J21
  rw [p_in, p_isNumber]
  simp only [Option.bind_some]
  rcases wl_1 (x := n) with h | ⟨k, h1, rfl, h⟩
  · simp only [h, if_pos z00]; exact ⟨_, _, _, _, rfl, rfl⟩
  · simp only [h, if_neg n10]
    rw [p_leastFrom hF hb h1]
    rcases Nat.eq_zero_or_pos k with z | z
    · subst z
      have e0 : f_X11_alikesTo F (lN 0 - (1 : Int64)) (nI b) many figs = some ((0 : Int64), many, figs) := by
        unfold f_X11_alikesTo
        rw [if_neg (by decide)]
      obtain ⟨m', f', e1⟩ := p_alikeOf (F := F) (i := 0) (many := many) (figs := figs) hF hb (by omega)
      have e1' : f_X11_alikeOf F (0 : Int64) (nI b) many figs = some (atN b 0, m', f') := e1
      have e2 : lfN b 0 = atN b 0 := by
        have l1 : (dg b 0).length = 1 := dg_len1 hb (by have := hb.1; omega)
        unfold lfN atN
        rw [l1, mirN_1, if_pos rfl]
        show nnL (if 0 ≤ 0 / b ^ 0 then 0 / b ^ 0 else _) = 0
        rw [Nat.pow_zero]
        rfl
      rw [e0, Option.bind_some]
      dsimp only
      rw [e1', e2]
      exact ⟨_, _, _, _, rfl, rfl⟩
    · have e0 : lN k - (1 : Int64) = lN (k - 1) := lN_sub (b := 1) z
      have hle : atoN b (k - 1) < 2 ^ 63 := by
        have hk2 : k < 2 ^ 62 := by unfold TOP at h1; omega
        have q1 := sm_le hb ((dg b k).length - 1) (by have := len_top hb h1 z; omega)
        have q2 := half_up hb hk2
        have q3 := pw_top hb h1 (s := (((dg b k).length + 1) / 2)) (by have := dg_pos b k; omega)
        have q4 := dg_63 hb hk2
        rw [ato_below hb hk2 z]
        generalize k / b ^ ((dg b k).length / 2) = H at *
        have q5 : ((dg b k).length - 1) * (16 * (TOP + 1)) ≤ 62 * (16 * (TOP + 1)) := Nat.mul_le_mul_right _ (by omega)
        unfold TOP at q1 q3 q5
        split <;> omega
      obtain ⟨m', f', e1⟩ := p_alikeOf (F := F) (i := atoN b (k - 1)) (many := nI (dg b (k - 1)).length) (figs := putL figs 0 (dg b (k - 1))) hF hb hle
      rw [e0, p_alikesTo hF hb (by omega), Option.bind_some]
      dsimp only
      rw [e1, next_same hb h1 z]
      exact ⟨_, _, _, _, rfl, rfl⟩
