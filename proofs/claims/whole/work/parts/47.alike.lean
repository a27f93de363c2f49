/-! alike: turned is itself -/
theorem vl_inj {b : Nat} (hb : 0 < b) : ∀ (l m : List Nat), l.length = m.length → (∀ d ∈ l, d < b) → (∀ d ∈ m, d < b) → vl b l 0 = vl b m 0 → l = m
  | [], [], _, _, _, _ => rfl
  | [], _ :: _, h, _, _, _ => by cases h
  | _ :: _, [], h, _, _, _ => by cases h
  | d :: l, e :: m, h, h1, h2, h3 => by
    have hl : l.length = m.length := by simpa using h
    have a1 : vl b (d :: l) 0 = d * b ^ l.length + vl b l 0 := by
      show vl b l (0 * b + d) = _
      rw [vl_acc, Nat.zero_mul, Nat.zero_add]
    have a2 : vl b (e :: m) 0 = e * b ^ m.length + vl b m 0 := by
      show vl b m (0 * b + e) = _
      rw [vl_acc, Nat.zero_mul, Nat.zero_add]
    rw [a1, a2, hl] at h3
    have b1 := vl_lt hb l 0 (fun t ht => h1 t (List.mem_cons_of_mem _ ht))
    have b2 := vl_lt hb m 0 (fun t ht => h2 t (List.mem_cons_of_mem _ ht))
    rw [Nat.zero_add, Nat.one_mul] at b1 b2
    rw [hl] at b1
    have hp : 0 < b ^ m.length := Nat.pos_of_ne_zero (by intro z; have := Nat.pow_eq_zero.mp z; omega)
    have e1 : d = e := by
      have q1 : (d * b ^ m.length + vl b l 0) / b ^ m.length = d := by rw [Nat.add_comm, Nat.add_mul_div_right _ _ hp, Nat.div_eq_of_lt b1, Nat.zero_add]
      have q2 : (e * b ^ m.length + vl b m 0) / b ^ m.length = e := by rw [Nat.add_comm, Nat.add_mul_div_right _ _ hp, Nat.div_eq_of_lt b2, Nat.zero_add]
      rw [← q1, ← q2, h3]
    subst e1
    rw [vl_inj hb l m hl (fun t ht => h1 t (List.mem_cons_of_mem _ ht)) (fun t ht => h2 t (List.mem_cons_of_mem _ ht)) (by omega)]
theorem dl_val {b : Nat} (hb : 2 ≤ b) : ∀ (k n : Nat), n < 2 ^ k → vl b (dl b k n).reverse 0 = n
  | 0, n, h => by
    have : n = 0 := by simpa using h
    subst this
    rfl
  | k + 1, n, h => by
    unfold dl
    by_cases h0 : n = 0
    · rw [if_pos h0, h0]; rfl
    · rw [if_neg h0, List.reverse_cons, vl_app, dl_val hb k (n / b) (div_half hb h)]
      show n / b * b + n % b = n
      rw [Nat.mul_comm]; exact Nat.div_add_mod n b
theorem dg_val {b n : Nat} (hb : bOK b) (hn : n < 2 ^ 62) : vl b (dg b n).reverse 0 = n := by
  unfold dg
  rw [List.reverse_cons, vl_app, dl_val hb.1 64 (n / b) (Nat.lt_of_le_of_lt (Nat.div_le_self n b) (by omega))]
  show n / b * b + n % b = n
  rw [Nat.mul_comm]; exact Nat.div_add_mod n b
theorem turned_iff {b n : Nat} (hb : bOK b) (hn : n < 2 ^ 62) : trnN b n = n ↔ dg b n = (dg b n).reverse := by
  constructor
  · intro h
    have e := dg_val hb hn
    refine vl_inj (by have := hb.1; omega) _ _ (by rw [List.length_reverse]) (dg_b hb) (fun d hd => dg_b hb d (List.mem_reverse.mp hd)) ?_
    rw [e]; exact h
  · intro h
    have e := dg_val hb hn
    rw [← h] at e
    exact e
theorem rev_iff {l : List Nat} : l = l.reverse ↔ ∀ k, k < l.length / 2 → l.getD k 0 = l.getD (l.length - 1 - k) 0 := by
  constructor
  · intro h k hk
    have h1 : k < l.length := by omega
    conv => lhs; rw [h]
    rw [List.getD_eq_getElem?_getD, List.getD_eq_getElem?_getD, List.getElem?_reverse h1]
  · intro h
    have full : ∀ k, k < l.length → l.getD k 0 = l.getD (l.length - 1 - k) 0 := by
      intro k hk
      rcases Nat.lt_or_ge k (l.length / 2) with z | z
      · exact h k z
      · rcases Nat.lt_or_ge (l.length - 1 - k) (l.length / 2) with y | y
        · have := h (l.length - 1 - k) y
          rw [show l.length - 1 - (l.length - 1 - k) = k by omega] at this
          exact this.symm
        · have : l.length - 1 - k = k := by omega
          rw [this]
    apply List.ext_getElem?
    intro k
    rcases Nat.lt_or_ge k l.length with z | z
    · rw [List.getElem?_reverse z]
      have := full k z
      rw [List.getD_eq_getElem?_getD, List.getD_eq_getElem?_getD, List.getElem?_eq_getElem z, List.getElem?_eq_getElem (show l.length - 1 - k < l.length by omega)] at this
      rw [List.getElem?_eq_getElem z, List.getElem?_eq_getElem (show l.length - 1 - k < l.length by omega)]
      exact congrArg some this
    · rw [List.getElem?_eq_none z, List.getElem?_eq_none (by rw [List.length_reverse]; exact z)]
theorem half_I {n : Nat} (h : n < 2 ^ 31) : nI n / (2 : Int32) = nI (n / 2) := pk_div (d := 2) h (by omega) (by omega)
theorem n2 : ¬ (2 : Int32) = 0 := by decide
/-- the class's look from both ends -/
theorem mirror_loop {F : Nat} {row : Nat → Int32} {ds : List Nat} (hd : ∀ d ∈ ds, d < 16) (hl : ds.length ≤ 63) (hg : fgOK row ds) {G : Nat} (hG : ds.length < G) : (ds = ds.reverse ∧ lp (f_X3_isMirror_B12 F (nI ds.length) row) G (0 : Int32) = some (.inr ())) ∨ (ds ≠ ds.reverse ∧ lp (f_X3_isMirror_B12 F (nI ds.length) row) G (0 : Int32) = some (.inl ((0 : Int32), row))) := by
  obtain ⟨e, h1, h2⟩ := lp_ex (B := f_X3_isMirror_B12 F (nI ds.length) row) (fun q x => ∃ k, x = nI k ∧ k ≤ ds.length / 2 ∧ (∀ j, j < k → ds.getD j 0 = ds.getD (ds.length - 1 - j) 0) ∧ q = ds.length / 2 - k) (fun _ e => (ds = ds.reverse ∧ e = .inr ()) ∨ (ds ≠ ds.reverse ∧ e = .inl ((0 : Int32), row))) (by
    rintro rec q x ⟨k, rfl, hk, hj, rfl⟩ hrec
    unfold f_X3_isMirror_B12
    rw [ck_pos n2, half_I (by omega)]
    rcases Nat.lt_or_ge k (ds.length / 2) with h | h
    · rw [if_neg (nI_ge h (by omega)), ck_pos (in_ok (by omega) (by omega)), nI_sub2 (show k < ds.length by omega), ck_pos (in_ok (by omega) (by omega)), nI_clamp (by omega), nI_clamp (by omega), hg k (by omega), hg (ds.length - 1 - k) (by omega), nI_1]
      have d1 := hd _ (getD_mem (i := k) (show k < ds.length by omega))
      have d2 := hd _ (getD_mem (i := ds.length - 1 - k) (show ds.length - 1 - k < ds.length by omega))
      by_cases e : ds.getD k 0 = ds.getD (ds.length - 1 - k) 0
      · rw [if_pos (by rw [e])]
        refine hrec (ds.length / 2 - (k + 1)) _ (by omega) ⟨k + 1, rfl, h, fun j hj2 => ?_, rfl⟩
        rcases Nat.lt_or_ge j k with z | z
        · exact hj j z
        · have : j = k := by omega
          rw [this]; exact e
      · rw [if_neg (fun z => e ((nI_eq (by omega) (by omega)).mp z))]
        exact ⟨_, rfl, Or.inr ⟨fun z => e (rev_iff.mp z k h), rfl⟩⟩
    · rw [if_pos (nI_le h (by omega))]
      exact ⟨_, rfl, Or.inl ⟨rev_iff.mpr (fun j hj2 => hj j (by omega)), rfl⟩⟩) G (ds.length / 2) (0 : Int32) ⟨0, rfl, Nat.zero_le _, fun j hj => by omega, rfl⟩ (by omega)
  rcases h2 with ⟨q1, rfl⟩ | ⟨q1, rfl⟩
  · exact Or.inl ⟨q1, h1⟩
  · exact Or.inr ⟨q1, h1⟩
/-- is it alike: 1 or 0 -/
theorem p_isMirror {F b n : Nat} {row : Nat → Int32} (hF : 200 ≤ F) (hb : bOK b) (hn : n < 2 ^ 62) : f_X3_isMirror F (lN n) (nI b) row = some (if trnN b n = n then 1 else 0, putL row 0 (dg b n)) := by
  have hl := dg_63 hb hn
  unfold f_X3_isMirror
  rw [p_split hF hb hn, Option.bind_some]
  dsimp only
  rcases mirror_loop (F := F) (dg_16 hb) (by omega) (fg_put row (dg b n)) (G := F) (by omega) with ⟨q1, q2⟩ | ⟨q1, q2⟩
  · rw [q2, if_pos ((turned_iff hb hn).mpr q1)]; rfl
  · rw [q2, if_neg (fun z => q1 ((turned_iff hb hn).mp z))]; rfl
theorem s_alike {F b : Nat} (hF : 200 ≤ F) (hb : bOK b) (n : Int64) (many : Int32) (figs row : Nat → Int32) : ∃ r many' figs' row', f_X11_alike F n (nI b) many figs = some (r, many', figs') ∧ f_X10_alike F n (nI b) row = some (r, row') := by
  unfold f_X11_alike f_X11_alike_J30 f_X10_alike f_X10_alike_J25
  rw [p_in, p_isNumber]
  simp only [Option.bind_some]
  rcases wl_1 (x := n) with h | ⟨k, h1, rfl, h⟩
  · simp only [h, if_pos z00]; exact ⟨_, _, _, _, rfl, rfl⟩
  · simp only [h, if_neg n10]
    unfold TOP at h1
    have ht := trn_lt hb (n := k) (by omega)
    rw [p_turned hF hb (by omega), p_isMirror hF hb (by omega)]
    simp only [Option.bind_some]
    by_cases e : trnN b k = k
    · rw [if_pos (by rw [e]), if_pos e, if_neg n10]; exact ⟨_, _, _, _, rfl, rfl⟩
    · rw [if_neg (fun z => e ((pk_lEQ (by omega) (by omega)).mp z)), if_neg e, if_pos z00]; exact ⟨_, _, _, _, rfl, rfl⟩
