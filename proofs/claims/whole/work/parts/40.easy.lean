/-! the plain calls: the same answers on both sides -/
theorem wide_lt (a b : Int32) : a.toInt64 < b.toInt64 ↔ a < b := by
  rw [Int64.lt_iff_toInt_lt, Int32.lt_iff_toInt_lt, Int32.toInt_toInt64, Int32.toInt_toInt64]
def wi (x a c : Int32) : Int32 := if x < a then 0 else if c < x then 0 else 1
def wl (x a c : Int64) : Int32 := if x < a then 0 else if c < x then 0 else 1
theorem p_within (F : Nat) (x a c : Int32) : f_X10_within F x a c = some (wi x a c) := by
  unfold f_X10_within f_X10_within_J14 f_X10_within_J15 wi
  split
  · rfl
  · split <;> rfl
theorem p_in (F : Nat) (x a c : Int64) : f_X11_in F x a c = some (wl x a c) := by
  unfold f_X11_in f_X11_in_J17 f_X11_in_J18 wl
  split
  · rfl
  · split <;> rfl
theorem p_isNumber (F : Nat) (x : Int64) : f_X10_isNumber F x = some (wl x 0 1000000000000000) := by
  unfold f_X10_isNumber f_X10_isNumber_J18 f_X10_isNumber_J19 wl
  split
  · rfl
  · split <;> rfl
theorem wl_wide (x a c : Int32) : wl x.toInt64 a.toInt64 c.toInt64 = wi x a c := by
  unfold wl wi
  by_cases h1 : x < a
  · rw [if_pos h1, if_pos ((wide_lt _ _).mpr h1)]
  · rw [if_neg h1, if_neg (fun z => h1 ((wide_lt _ _).mp z))]
    by_cases h2 : c < x
    · rw [if_pos h2, if_pos ((wide_lt _ _).mpr h2)]
    · rw [if_neg h2, if_neg (fun z => h2 ((wide_lt _ _).mp z))]
theorem p_inI (F : Nat) (x : Int32) (a c : Int32) {a' c' : Int64} (ha : a' = a.toInt64) (hc : c' = c.toInt64) : f_X11_in F x.toInt64 a' c' = some (wi x a c) := by
  rw [ha, hc, p_in, wl_wide]
theorem p_isStep (F : Nat) (x : Int32) : f_X10_isStep F x = some (wi x 0 5) := by
  unfold f_X10_isStep f_X10_isStep_J14 f_X10_isStep_J15 wi
  split
  · rfl
  · have e : ((6 : Int32) ≤ x) ↔ (5 : Int32) < x := by
      rw [Int32.le_iff_toInt_le, Int32.lt_iff_toInt_lt]
      have h6 : (6 : Int32).toInt = 6 := rfl
      have h5 : (5 : Int32).toInt = 5 := rfl
      omega
    by_cases h : (5 : Int32) < x
    · rw [if_pos (e.mpr h), if_pos h]; rfl
    · rw [if_neg (fun z => h (e.mp z)), if_neg h]; rfl
theorem p_count (F : Nat) (i t : Int32) : f_X10_countOrNone F i t = some (if i = (-1 : Int32) then t else (-4 : Int32)) := by
  unfold f_X10_countOrNone f_X10_countOrNone_J11
  split <;> rfl
/-- within bounds that are small naturals: a small natural -/
theorem wi_1 {x : Int32} {c : Nat} (hc : c < 2 ^ 31) : wi x 0 (nI c) = 0 ∨ ∃ k, k ≤ c ∧ x = nI k ∧ wi x 0 (nI c) = 1 := by
  unfold wi
  by_cases h1 : x < 0
  · rw [if_pos h1]; exact Or.inl rfl
  · rw [if_neg h1]
    by_cases h2 : nI c < x
    · rw [if_pos h2]; exact Or.inl rfl
    · rw [if_neg h2]
      refine Or.inr ?_
      obtain ⟨k, hk, e⟩ := nI_of2 (M := nI c) (n := c) (nI_toInt hc) h1 (Int32.not_lt.mp h2)
      exact ⟨k, hk, e, rfl⟩
theorem wi_2 {x : Int32} {a c : Nat} (hc : c < 2 ^ 31) (ha : a < 2 ^ 31) : wi x (nI a) (nI c) = 0 ∨ ∃ k, a ≤ k ∧ k ≤ c ∧ x = nI k ∧ wi x (nI a) (nI c) = 1 := by
  unfold wi
  by_cases h1 : x < nI a
  · rw [if_pos h1]; exact Or.inl rfl
  · rw [if_neg h1]
    by_cases h2 : nI c < x
    · rw [if_pos h2]; exact Or.inl rfl
    · rw [if_neg h2]
      refine Or.inr ?_
      have h0 : ¬ x < 0 := fun z => h1 (by
        rw [Int32.lt_iff_toInt_lt] at z ⊢
        rw [nI_toInt ha]
        have : (0 : Int32).toInt = 0 := rfl
        omega)
      obtain ⟨k, hk, e⟩ := nI_of2 (M := nI c) (n := c) (nI_toInt hc) h0 (Int32.not_lt.mp h2)
      refine ⟨k, ?_, hk, e, rfl⟩
      rcases Nat.lt_or_ge k a with z | z
      · exact absurd (by rw [e]; exact nI_lt z ha) h1
      · exact z
theorem wl_1 {x : Int64} : wl x 0 1000000000000000 = 0 ∨ ∃ k, k ≤ TOP ∧ x = lN k ∧ wl x 0 1000000000000000 = 1 := by
  unfold wl
  by_cases h1 : x < 0
  · rw [if_pos h1]; exact Or.inl rfl
  · rw [if_neg h1]
    by_cases h2 : (1000000000000000 : Int64) < x
    · rw [if_pos h2]; exact Or.inl rfl
    · rw [if_neg h2]
      refine Or.inr ?_
      obtain ⟨k, hk, e⟩ := pk_lOf h1
      refine ⟨k, ?_, e, rfl⟩
      rcases Nat.lt_or_ge TOP k with z | z
      · refine absurd ?_ h2
        rw [e]
        exact (pk_lLT (a := 1000000000000000) (b := k) (by omega) hk).mpr z
      · exact z
theorem n10 : ¬ (1 : Int32) = 0 := by decide
theorem z00 : (0 : Int32) = 0 := rfl
/-! base, table, count -/
theorem s_base (F : Nat) {b : Nat} (hb : bOK b) (a ver : Int32) : ∃ r b' ver', bOK b' ∧ f_X11_base F a (nI b) = some (r, nI b') ∧ f_X10_base F a (nI b) ver = some (r, nI b', ver') ∧ (ver' = ver ∧ b' = b ∨ ver' = ver + 1) := by
  unfold f_X11_base f_X10_base f_X1_setBase f_X1_setBase_J23
  rw [p_within, p_inI F a 2 16 (a' := 2) (c' := 16) rfl rfl, Option.bind_some, Option.bind_some]
  rcases wi_2 (x := a) (a := 2) (c := 16) (by omega) (by omega) with h | ⟨k, h1, h2, rfl, h⟩
  · have h' : wi a 2 16 = 0 := h
    simp only [h', if_pos z00]
    exact ⟨_, b, ver, hb, rfl, rfl, Or.inl ⟨rfl, rfl⟩⟩
  · have h' : wi (nI k) 2 16 = 1 := h
    simp only [h', if_neg n10]
    have h3 := hb.2
    by_cases e : b = k
    · subst e
      rw [if_pos rfl]
      exact ⟨_, b, ver, hb, rfl, rfl, Or.inl ⟨rfl, rfl⟩⟩
    · rw [if_neg (fun z => e ((nI_eq (by omega) (by omega)).mp z))]
      exact ⟨_, k, ver + 1, ⟨h1, h2⟩, rfl, rfl, Or.inr rfl⟩
theorem s_table (F : Nat) {f worth : Nat → Int32} {tb : Nat → Nat} (hf : tbOK f tb) (hw : tbOK worth tb) (a v ver : Int32) : ∃ r f' worth' ver' tb', tbOK f' tb' ∧ tbOK worth' tb' ∧ f_X11_table F a v f = some (r, f') ∧ f_X10_table F a v worth ver = some (r, worth', ver') ∧ (ver' = ver ∧ (∀ d, d < 16 → tb' d = tb d) ∨ ver' = ver + 1) := by
  unfold f_X11_table f_X11_table_J24 f_X10_table f_X10_table_J20 f_X1_setWorth f_X1_setWorth_J40
  rw [p_within, p_within, p_inI F a 0 15 (a' := 0) (c' := 15) rfl rfl, p_inI F v 0 100000 (a' := 0) (c' := 100000) rfl rfl]
  simp only [Option.bind_some]
  rcases wi_1 (x := a) (c := 15) (by omega) with h | ⟨k, h1, rfl, h⟩
  · have h' : wi a 0 15 = 0 := h
    simp only [h', if_pos z00]
    exact ⟨_, f, worth, ver, tb, hf, hw, rfl, rfl, Or.inl ⟨rfl, fun _ _ => rfl⟩⟩
  · have h' : wi (nI k) 0 15 = 1 := h
    simp only [h', if_neg n10]
    rcases wi_1 (x := v) (c := 100000) (by omega) with q | ⟨j, q1, rfl, q⟩
    · have q' : wi v 0 100000 = 0 := q
      simp only [q', if_pos z00]
      exact ⟨_, f, worth, ver, tb, hf, hw, rfl, rfl, Or.inl ⟨rfl, fun _ _ => rfl⟩⟩
    · have q' : wi (nI j) 0 100000 = 1 := q
      have hin : ¬ (nI k < 0 ∨ 16 ≤ (nI k).toNatClampNeg) := in_ok (by omega) (by omega)
      have e1 : (nI k).toNatClampNeg = k := nI_clamp (by omega)
      have c1 : ¬ nI k < 0 := nI_pos (by omega)
      have c2 : ¬ (16 : Int32) ≤ nI k := nI_ge (a := k) (b := 16) (by omega) (by omega)
      have hin2 : ¬ (nI k < 0 ∨ 16 ≤ k) := fun z => hin (by rw [e1]; exact z)
      simp only [q', if_neg n10, if_neg c1, if_neg c2, e1, ck_pos hin2]
      obtain ⟨f1, f2⟩ := hf k (by omega)
      obtain ⟨w1, w2⟩ := hw k (by omega)
      have up : ∀ g : Nat → Int32, tbOK g tb → tbOK (upd g k (nI j)) (fun d => if d = k then j else tb d) := by
        intro g hg d hd
        dsimp only
        by_cases e : d = k
        · subst e
          rw [pk_us, if_pos rfl]
          exact ⟨rfl, q1⟩
        · rw [pk_un e, if_neg e]
          exact hg d hd
      rw [w1, f1]
      by_cases e : tb k = j
      · rw [if_pos (by rw [e])]
        refine ⟨_, _, worth, ver, fun d => if d = k then j else tb d, up f hf, ?_, rfl, rfl, Or.inl ⟨rfl, ?_⟩⟩
        · intro d hd
          dsimp only
          by_cases z : d = k
          · subst z
            rw [if_pos rfl, w1, e]
            exact ⟨rfl, q1⟩
          · rw [if_neg z]; exact hw d hd
        · intro d _
          dsimp only
          by_cases z : d = k
          · subst z; rw [if_pos rfl, e]
          · rw [if_neg z]
      · rw [if_neg (fun z => e ((nI_eq (by omega) (by omega)).mp z))]
        exact ⟨_, _, _, _, _, up f hf, up worth hw, rfl, rfl, Or.inr rfl⟩
theorem all_loop {F : Nat} {f : Nat → Int32} {tb : Nat → Nat} (hf : tbOK f tb) {G : Nat} (hG : 16 < G) : lp (f_X11_count_B4 F f) G ((0 : Int32), (0 : Int32)) = some (nI ((List.range 16).foldl (fun a d => a + tb d) 0)) := by
  refine fold_loop (B := f_X11_count_B4 F f) (ds := List.range 16) (β := Nat) (emb := nI) (g := fun a d => a + tb d) (fun _ => True) (fun _ _ _ _ => trivial) ?_ ?_ (by rw [List.length_range]; exact hG) trivial
  · intro rec acc i hi _
    rw [List.length_range] at hi
    have e0 : (List.range 16).getD i 0 = i := by
      rw [List.getD_eq_getElem?_getD, List.getElem?_range hi]; rfl
    unfold f_X11_count_B4
    dsimp only
    rw [if_neg (show ¬ (16 : Int32) ≤ nI i from nI_ge (a := i) (b := 16) hi (by omega)), ck_pos (in_ok (by omega) (by omega)), nI_clamp (by omega), (hf i hi).1, nI_add, nI_1, e0]
  · intro rec acc _
    unfold f_X11_count_B4
    dsimp only
    rw [if_pos (by rw [List.length_range]; decide)]
theorem s_count {F b : Nat} (hF : 200 ≤ F) {f worth : Nat → Int32} {tb : Nat → Nat} (hf : tbOK f tb) (hw : tbOK worth tb) (a : Int32) : ∃ r, f_X11_count F a (nI b) f = some r ∧ f_X10_count F a (nI b) worth = some r := by
  unfold f_X11_count f_X11_count_J46 f_X10_count f_X10_count_J28 f_X1_worthOfAll
  have e : lp (f_X1_worthOfAll_B4 F worth) F ((0 : Int32), (0 : Int32)) = some (nI ((List.range 16).foldl (fun a d => a + tb d) 0)) := all_loop (F := F) hw (by omega)
  rw [all_loop hf (by omega), e]
  simp only [Option.bind_some]
  by_cases h0 : a = 0
  · simp only [if_pos h0]; exact ⟨_, rfl, rfl⟩
  · simp only [if_neg h0]
    by_cases h1 : a = 1
    · simp only [if_pos h1]; exact ⟨_, rfl, rfl⟩
    · simp only [if_neg h1]; exact ⟨_, rfl, rfl⟩
/-! figure, step -/
theorem s_figure {F b : Nat} (hF : 200 ≤ F) (hb : bOK b) (n : Int64) (i many : Int32) (figs row : Nat → Int32) : ∃ r many' figs' row', f_X11_figure F n i (nI b) many figs = some (r, many', figs') ∧ f_X10_figure F n i (nI b) row = some (r, row') := by
  unfold f_X11_figure f_X11_figure_J16 f_X11_figure_J61 f_X10_figure f_X10_figure_J12 f_X10_figure_J57
  rw [p_in, p_isNumber]
  simp only [Option.bind_some]
  rcases wl_1 (x := n) with h | ⟨k, h1, rfl, h⟩
  · simp only [h, if_pos z00]; exact ⟨_, _, _, _, rfl, rfl⟩
  · simp only [h, if_neg n10]
    unfold TOP at h1
    by_cases hi : (-1 : Int32) ≤ i
    · simp only [if_pos hi]
      rw [p_lay (by omega) hb.1 hb.2 (by omega), p_split hF hb (by omega)]
      simp only [Option.bind_some]
      have hl := dg_63 (n := k) hb (by omega)
      by_cases h2 : i = (-1 : Int32)
      · simp only [if_pos h2]; exact ⟨_, _, _, _, rfl, rfl⟩
      · simp only [if_neg h2]
        by_cases h3 : nI (dg b k).length ≤ i
        · simp only [if_pos h3]; exact ⟨_, _, _, _, rfl, rfl⟩
        · simp only [if_neg h3]
          have h0 : ¬ i < 0 := by
            intro z
            rw [Int32.le_iff_toInt_le] at hi
            rw [Int32.lt_iff_toInt_lt] at z
            have e0 : (0 : Int32).toInt = 0 := rfl
            have e1 : (-1 : Int32).toInt = -1 := rfl
            exact h2 (Int32.toInt_inj.mp (by omega))
          obtain ⟨j, hj, rfl⟩ := nI_of h0
          have hjl : j < (dg b k).length := by
            rcases Nat.lt_or_ge j (dg b k).length with z | z
            · exact z
            · exact absurd (nI_le z hj) h3
          have e1 : nI (dg b k).length - (1 : Int32) - nI j = nI ((dg b k).length - 1 - j) := nI_sub2 hjl
          have hp := dg_pos b k
          have hin : ¬ (nI ((dg b k).length - 1 - j) < 0 ∨ 64 ≤ (nI ((dg b k).length - 1 - j)).toNatClampNeg) := in_ok (by omega) (by omega)
          rw [e1, ck_pos hin, ck_pos hin, nI_clamp (by omega), putL_at0 _ _ _ (by omega), putL_at0 _ _ _ (by omega)]
          exact ⟨_, _, _, _, rfl, rfl⟩
    · simp only [if_neg hi]; exact ⟨_, _, _, _, rfl, rfl⟩
theorem s_step {F b : Nat} (hF : 200 ≤ F) (hb : bOK b) {f worth : Nat → Int32} {tb : Nat → Nat} (hf : tbOK f tb) (hw : tbOK worth tb) (st : Int32) (n : Int64) (many : Int32) (figs row cnt : Nat → Int32) : ∃ r many' figs' row' cnt', f_X11_step F st n (nI b) f many figs = some (r, many', figs') ∧ f_X10_step F st n (nI b) worth row cnt = some (r, row', cnt') := by
  unfold f_X11_step f_X11_step_J32 f_X11_step_J35 f_X10_step f_X10_step_J14
  rw [p_inI F st 0 5 (a' := 0) (c' := 5) rfl rfl, p_in, p_isNumber, p_isStep]
  simp only [Option.bind_some]
  rcases wi_1 (x := st) (c := 5) (by omega) with h | ⟨s, hs, rfl, h⟩
  · have h' : wi st 0 5 = 0 := h
    simp only [h', if_pos z00]; exact ⟨_, _, _, _, _, rfl, rfl⟩
  · have h' : wi (nI s) 0 5 = 1 := h
    simp only [h', if_neg n10]
    rcases wl_1 (x := n) with q | ⟨k, q1, rfl, q⟩
    · simp only [q, if_pos z00]; exact ⟨_, _, _, _, _, rfl, rfl⟩
    · unfold TOP at q1
      obtain ⟨c', hm⟩ := p_make (row := row) (many := cnt) hF hb hw (n := k) (by omega) hs
      simp only [q, if_neg n10]
      rw [p_stepOf hF hb hf (by omega) hs, hm]
      exact ⟨_, _, _, _, _, rfl, rfl⟩
