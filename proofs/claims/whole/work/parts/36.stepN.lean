/-! what a step makes of a number: one function for both sides -/
def sumN (b : Nat) (tb : Nat → Nat) (n : Nat) : Nat := (dg b n).foldl (fun a d => a + tb d) 0
def trnN (b n : Nat) : Nat := (dg b n).foldl (fun a d => a * b + d) 0
def srtN (b n : Nat) : Nat := (srt b (fun d => (dg b n).count d) b 0 0 0).2 - (srt b (fun d => (dg b n).count d) b 0 0 0).1
def prdN (b : Nat) (tb : Nat → Nat) (n : Nat) : Nat := (dg b n).foldl (fun a d => capN a (tb d)) 1
def stepN (b : Nat) (tb : Nat → Nat) (st n : Nat) : Nat := if st = 0 then sumN b tb n else if st = 1 then trnN b n else if st = 2 then n + trnN b n else if st = 3 then srtN b n else if st = 4 then n + sumN b tb n else prdN b tb n
/-- base and table as they may be -/
def bOK (b : Nat) : Prop := 2 ≤ b ∧ b ≤ 16
theorem srt_le {b n : Nat} (hb : bOK b) : (srt b (fun d => (dg b n).count d) b 0 0 0).1 ≤ (srt b (fun d => (dg b n).count d) b 0 0 0).2 := by
  obtain ⟨h1, h2⟩ := hb
  rw [srt_vl b _ b 0 0 0 (by omega)]
  exact (up_le_dn (by omega) _ b).1
theorem dg_b {b n : Nat} (hb : bOK b) : ∀ d ∈ dg b n, d < b := fun _ h => dg_lt (by have := hb.1; omega) h
theorem dg_16 {b n : Nat} (hb : bOK b) : ∀ d ∈ dg b n, d < 16 := fun d h => Nat.lt_of_lt_of_le (dg_b hb d h) hb.2
theorem dg_63 {b n : Nat} (hb : bOK b) (hn : n < 2 ^ 62) : (dg b n).length ≤ 62 := dg_len (j := 61) hb.1 hn
theorem trn_lt {b n : Nat} (hb : bOK b) (hn : n < 2 ^ 62) : trnN b n < 16 * (n + 1) := by
  have h1 : vl b (dg b n) 0 < (0 + 1) * b ^ (dg b n).length := vl_lt (by have := hb.1; omega) _ 0 (dg_b hb)
  have h2 := dg_pow (n := n) hb.1 (by omega)
  have h3 : b * (n + 1) ≤ 16 * (n + 1) := Nat.mul_le_mul_right _ hb.2
  show vl b (dg b n) 0 < _
  omega
theorem srt_lt {b n : Nat} (hb : bOK b) (hn : n < 2 ^ 62) : srtN b n < 16 * (n + 1) := by
  unfold srtN
  rw [srt_vl b _ b 0 0 0 (by omega)]
  have h1 : vl b (dsc (fun d => (dg b n).count d) b) 0 < (0 + 1) * b ^ (dsc (fun d => (dg b n).count d) b).length := vl_lt (by have := hb.1; omega) _ 0 (fun d h => dsc_mem _ b d h)
  rw [dsc_len _ (dg_b hb)] at h1
  have h2 := dg_pow (n := n) hb.1 (by omega)
  have h3 : b * (n + 1) ≤ 16 * (n + 1) := Nat.mul_le_mul_right _ hb.2
  dsimp only
  omega
def tbB (tb : Nat → Nat) : Prop := ∀ d, d < 16 → tb d ≤ 100000
theorem fold_add_le {tb : Nat → Nat} (ht : tbB tb) : ∀ (ds : List Nat) (a : Nat), (∀ d ∈ ds, d < 16) → ds.foldl (fun a d => a + tb d) a ≤ a + ds.length * 100000
  | [], a, _ => by simp
  | d :: ds, a, h => by
    have h1 := fold_add_le ht ds (a + tb d) (fun t q => h t (List.mem_cons_of_mem _ q))
    have h2 := ht d (h d List.mem_cons_self)
    rw [List.foldl_cons, List.length_cons]
    omega
theorem sum_le {b n : Nat} {tb : Nat → Nat} (hb : bOK b) (ht : tbB tb) (hn : n < 2 ^ 62) : sumN b tb n ≤ 6200000 := by
  have h1 := fold_add_le ht (dg b n) 0 (dg_16 hb)
  have h2 := dg_63 hb hn
  unfold sumN
  omega
theorem prd_le {b n : Nat} {tb : Nat → Nat} : prdN b tb n ≤ TOP + 1 := by
  unfold prdN
  have : ∀ (ds : List Nat) (a : Nat), a ≤ TOP + 1 → ds.foldl (fun a d => capN a (tb d)) a ≤ TOP + 1 := by
    intro ds
    induction ds with
    | nil => intro a h; exact h
    | cons d ds ih => intro a _; exact ih _ capN_le
  exact this _ _ (by unfold TOP; omega)
theorem stepN_lt {b n st : Nat} {tb : Nat → Nat} (hb : bOK b) (ht : tbB tb) (hn : n ≤ TOP) : stepN b tb st n < 2 ^ 55 := by
  unfold TOP at hn
  have h1 := trn_lt hb (n := n) (by omega)
  have h2 := srt_lt hb (n := n) (by omega)
  have h3 := sum_le hb ht (n := n) (by omega)
  have h4 : prdN b tb n ≤ TOP + 1 := prd_le
  unfold TOP at h4
  unfold stepN
  repeat' split
  all_goals omega
theorem tbB_of {f : Nat → Int32} {tb : Nat → Nat} (h : tbOK f tb) : tbB tb := fun d hd => (h d hd).2
/-! the reference -/
theorem p_sum {F b n : Nat} {f figs : Nat → Int32} {many : Int32} {tb : Nat → Nat} (hF : 200 ≤ F) (hb : bOK b) (hf : tbOK f tb) (hn : n < 2 ^ 62) : f_X11_sum F (lN n) (nI b) f many figs = some (lN (sumN b tb n), nI (dg b n).length, putL figs 0 (dg b n)) := by
  have hl := dg_63 hb hn
  unfold f_X11_sum
  rw [p_lay (by omega) hb.1 hb.2 hn, Option.bind_some]
  dsimp only
  rw [sum_same, sum_loop hf (dg_16 hb) (by omega) (fg_put _ _) (by omega)]
  rfl
theorem p_turned {F b n : Nat} {figs : Nat → Int32} {many : Int32} (hF : 200 ≤ F) (hb : bOK b) (hn : n < 2 ^ 62) : f_X11_turned F (lN n) (nI b) many figs = some (lN (trnN b n), nI (dg b n).length, putL figs 0 (dg b n)) := by
  have hl := dg_63 hb hn
  unfold f_X11_turned
  rw [p_lay (by omega) hb.1 hb.2 hn, Option.bind_some]
  dsimp only
  rw [trn_same, trn_loop hb.2 (dg_16 hb) (by omega) (fg_put _ _) (by omega)]
  rfl
theorem p_sorted {F b n : Nat} {figs : Nat → Int32} {many : Int32} (hF : 200 ≤ F) (hb : bOK b) (hn : n < 2 ^ 62) : f_X11_sorted F (lN n) (nI b) many figs = some (lN (srtN b n), nI (dg b n).length, putL figs 0 (dg b n)) := by
  have hl := dg_63 hb hn
  unfold f_X11_sorted
  have h2 := hb.2
  rw [p_lay (by omega) hb.1 hb.2 hn, Option.bind_some]
  dsimp only
  rw [srtM_out hb.2 (dg_16 hb) (by omega) (fg_put _ _) (by omega) (by omega), Option.bind_some]
  dsimp only
  rw [lN_sub (srt_le hb)]
  rfl
theorem p_product {F b n : Nat} {f figs : Nat → Int32} {many : Int32} {tb : Nat → Nat} (hF : 200 ≤ F) (hb : bOK b) (hf : tbOK f tb) (hn : n < 2 ^ 62) : f_X11_product F (lN n) (nI b) f many figs = some (lN (prdN b tb n), nI (dg b n).length, putL figs 0 (dg b n)) := by
  have hl := dg_63 hb hn
  unfold f_X11_product f_X11_product_J98
  rw [p_lay (by omega) hb.1 hb.2 hn, Option.bind_some]
  dsimp only
  obtain ⟨fl, h1, h2, h3⟩ := prodM_loop (F := F) hf (dg_16 hb) (by omega) (fg_put figs (dg b n)) (G := F) (by omega)
  rw [h3, Option.bind_some]
  dsimp only
  by_cases h0 : fl = 0
  · subst h0
    rw [if_pos nI_0]
    rfl
  · have e1 : fl = 1 := by omega
    subst e1
    rw [if_neg (by decide)]
    have := h2 rfl
    unfold prdN
    rw [this]
    rfl
theorem p_stepOf {F b n st : Nat} {f figs : Nat → Int32} {many : Int32} {tb : Nat → Nat} (hF : 200 ≤ F) (hb : bOK b) (hf : tbOK f tb) (hn : n < 2 ^ 62) (hst : st ≤ 5) : f_X11_stepOf F (nI st) (lN n) (nI b) f many figs = some (lN (stepN b tb st n), nI (dg b n).length, putL figs 0 (dg b n)) := by
  unfold f_X11_stepOf stepN
  have hs : st = 0 ∨ st = 1 ∨ st = 2 ∨ st = 3 ∨ st = 4 ∨ st = 5 := by omega
  rcases hs with rfl | rfl | rfl | rfl | rfl | rfl
  · rw [if_pos (by decide), if_pos rfl, p_sum hF hb hf hn]; rfl
  · rw [if_neg (by decide), if_pos (by decide), if_neg (by decide), if_pos rfl, p_turned hF hb hn]; rfl
  · rw [if_neg (by decide), if_neg (by decide), if_pos (by decide), if_neg (by decide), if_neg (by decide), if_pos rfl, p_turned hF hb hn, Option.bind_some]
    dsimp only
    rw [lN_add]
  · rw [if_neg (by decide), if_neg (by decide), if_neg (by decide), if_pos (by decide), if_neg (by decide), if_neg (by decide), if_neg (by decide), if_pos rfl, p_sorted hF hb hn]; rfl
  · rw [if_neg (by decide), if_neg (by decide), if_neg (by decide), if_neg (by decide), if_pos (by decide), if_neg (by decide), if_neg (by decide), if_neg (by decide), if_neg (by decide), if_pos rfl, p_sum hF hb hf hn, Option.bind_some]
    dsimp only
    rw [lN_add]
  · rw [if_neg (by decide), if_neg (by decide), if_neg (by decide), if_neg (by decide), if_neg (by decide), if_pos (by decide), if_neg (by decide), if_neg (by decide), if_neg (by decide), if_neg (by decide), if_neg (by decide), p_product hF hb hf hn]; rfl
/-! the class -/
theorem p_split {F b n : Nat} {row : Nat → Int32} (hF : 200 ≤ F) (hb : bOK b) (hn : n < 2 ^ 62) : f_X1_split F (lN n) (nI b) row = some (nI (dg b n).length, putL row 0 (dg b n)) := by
  obtain ⟨hb1, hb2⟩ := hb
  have key : lp (f_X1_split_B5 F (nI b)) F ((0 : Int32), lN n, row) = some (nI (dg b n).length, putL row 0 (dg b n)) := by
    refine lp_by (fun k x e => ∃ m j a, x = (nI j, lN m, a) ∧ m < 2 ^ 62 ∧ j + (dg b m).length ≤ 63 ∧ k = (dg b m).length ∧ e = (nI (j + (dg b m).length), putL a j (dg b m))) ?_ F (dg b n).length _ _ ⟨n, 0, row, rfl, hn, by have := dg_63 ⟨hb1, hb2⟩ hn; omega, rfl, by rw [Nat.zero_add]⟩ (by have := dg_63 ⟨hb1, hb2⟩ hn; omega)
    rintro rec k x e ⟨m, j, a, rfl, hm, hl, rfl, rfl⟩ hrec
    have hp := dg_pos b m
    have e1 : (nI b).toInt64 = lN b := nI_l (by omega)
    have e2 : lN m / lN b = lN (m / b) := pk_lDiv (by omega) (by omega) (by omega)
    have e3 : lN m - lN m / lN b * lN b = lN (m % b) := pk_lRem (by omega) (by omega) (by omega)
    have e4 : (nI j).toNatClampNeg = j := nI_clamp (by omega)
    have h0 : ¬ lN b = 0 := lN_ne0 (by omega) (by omega)
    have h1 : ¬ (nI j < 0 ∨ 64 ≤ (nI j).toNatClampNeg) := in_ok (by omega) (by omega)
    have hd : m / b < 2 ^ 62 := Nat.lt_of_le_of_lt (Nat.div_le_self m b) hm
    unfold f_X1_split_B5
    dsimp only
    rw [e1, ck_pos h0, ck_pos h1, ck_pos h0, e3, e2, e4, lN_i, nI_1]
    by_cases hq : m / b = 0
    · have c1 : lN (m / b) ≤ (0 : Int64) := by rw [hq]; decide
      have ed : dg b m = [m % b] := by unfold dg; rw [hq, dl_0]
      rw [if_pos c1, ed]
      rfl
    · have c1 : ¬ lN (m / b) ≤ (0 : Int64) := fun z => hq (Nat.le_zero.mp ((pk_lLE (a := m / b) (b := 0) (by omega) (by omega)).mp z))
      have ed : dg b m = (m % b) :: dg b (m / b) := by
        rw [dg_eq hb1 hq (by omega)]; rfl
      rw [ed, List.length_cons] at hl
      have c2 : nI (j + 1) < (64 : Int32) := nI_lt (a := j + 1) (b := 64) (by omega) (by omega)
      rw [if_neg c1, if_pos c2, ed, List.length_cons]
      refine hrec (dg b (m / b)).length _ _ (by rw [ed, List.length_cons]; omega) ⟨m / b, j + 1, _, rfl, hd, by omega, rfl, ?_⟩
      rw [show j + 1 + (dg b (m / b)).length = j + ((dg b (m / b)).length + 1) by omega]
      rfl
  unfold f_X1_split
  rw [key]
  rfl
theorem p_sortedOf {F b n : Nat} {row many : Nat → Int32} (hF : 200 ≤ F) (hb : bOK b) (hn : n < 2 ^ 62) (hg : fgOK row (dg b n)) : ∃ many', f_X1_sortedOf F (nI (dg b n).length) (nI b) row many = some (lN (srtN b n), many') := by
  have hl := dg_63 hb hn
  have h2 := hb.2
  obtain ⟨z, z1, z2⟩ := zeroC (F := F) (many := many) hb.2 (G := F) (by omega)
  obtain ⟨e, e1, e2⟩ := countC (F := F) (z := z) (dg_16 hb) (by omega) hg (G := F) (by omega)
  refine ⟨e, ?_⟩
  unfold f_X1_sortedOf
  rw [z1, Option.bind_some, e1, Option.bind_some, srtC_out (ct := fun d => (dg b n).count d) hb.2 (fun d hd => ⟨e2 d (z2 d hd), Nat.le_trans List.count_le_length (by omega)⟩) hF (by omega), Option.bind_some]
  dsimp only
  rw [lN_sub (srt_le hb)]
  rfl
theorem p_make {F b n st : Nat} {f row many : Nat → Int32} {tb : Nat → Nat} (hF : 200 ≤ F) (hb : bOK b) (hf : tbOK f tb) (hn : n < 2 ^ 62) (hst : st ≤ 5) : ∃ many', f_X1_make F (nI st) (lN n) (nI b) f row many = some (lN (stepN b tb st n), putL row 0 (dg b n), many') := by
  have hl := dg_63 hb hn
  unfold f_X1_make stepN
  rw [p_split hF hb hn, Option.bind_some]
  dsimp only
  have hg := fg_put row (dg b n)
  have sm : f_X1_sumOf F (nI (dg b n).length) f (putL row 0 (dg b n)) = some (lN (sumN b tb n)) := by
    unfold f_X1_sumOf
    rw [sum_loop hf (dg_16 hb) (by omega) hg (by omega)]
    rfl
  have tr : f_X1_turnedOf F (nI (dg b n).length) (nI b) (putL row 0 (dg b n)) = some (lN (trnN b n)) := by
    unfold f_X1_turnedOf
    rw [trn_loop hb.2 (dg_16 hb) (by omega) hg (by omega)]
    rfl
  have pr : f_X1_productOf F (nI (dg b n).length) f (putL row 0 (dg b n)) = some (lN (prdN b tb n)) := by
    unfold f_X1_productOf
    rw [prod_loop hf (dg_16 hb) (by omega) hg (by omega)]
    rfl
  obtain ⟨m2, so⟩ := p_sortedOf (many := many) hF hb hn hg
  have hs : st = 0 ∨ st = 1 ∨ st = 2 ∨ st = 3 ∨ st = 4 ∨ st = 5 := by omega
  rcases hs with rfl | rfl | rfl | rfl | rfl | rfl
  · exact ⟨many, by rw [if_pos (by decide), if_pos rfl, sm]; rfl⟩
  · exact ⟨many, by rw [if_neg (by decide), if_pos (by decide), if_neg (by decide), if_pos rfl, tr]; rfl⟩
  · exact ⟨many, by rw [if_neg (by decide), if_neg (by decide), if_pos (by decide), if_neg (by decide), if_neg (by decide), if_pos rfl, tr, Option.bind_some, lN_add]⟩
  · exact ⟨m2, by rw [if_neg (by decide), if_neg (by decide), if_neg (by decide), if_pos (by decide), if_neg (by decide), if_neg (by decide), if_neg (by decide), if_pos rfl, so]; rfl⟩
  · exact ⟨many, by rw [if_neg (by decide), if_neg (by decide), if_neg (by decide), if_neg (by decide), if_pos (by decide), if_neg (by decide), if_neg (by decide), if_neg (by decide), if_neg (by decide), if_pos rfl, sm, Option.bind_some, lN_add]⟩
  · exact ⟨many, by rw [if_neg (by decide), if_neg (by decide), if_neg (by decide), if_neg (by decide), if_neg (by decide), if_neg (by decide), if_neg (by decide), if_neg (by decide), if_neg (by decide), if_neg (by decide), pr]; rfl⟩
