/-! the reference's product; figures rising and falling -/
theorem prodM_J51 {F acc y i fl : Nat} {rec : (Int64 × Int32 × Int32) → Option (Int64 × Int32)} (ha : acc ≤ TOP + 1) (hy : y ≤ 100000) : f_X11_product_J51 F rec (lN acc) (nI i) (nI y) (nI fl) = rec (lN (capN acc y), nI fl, nI (i + 1)) := by
  unfold f_X11_product_J51 f_X11_product_J76 f_X11_product_J81 capN
  unfold TOP at *
  by_cases h0 : y = 0
  · subst h0
    rw [if_pos (show nI 0 ≤ 0 by decide), if_pos rfl, nI_1, nI_l (by omega), lN_mul, Nat.mul_zero]
  · have c0 : ¬ nI y ≤ 0 := nI_nle (by omega) (by omega)
    have e1 : (nI y).toInt64 = lN y := nI_l (by omega)
    have e2 : (1000000000000000 : Int64) / lN y = lN (1000000000000000 / y) := pk_lDiv (a := 1000000000000000) (by omega) (by omega) (by omega)
    rw [if_neg c0, e1, ck_pos (lN_ne0 (by omega) (by omega)), e2, if_neg h0]
    have hq : 1000000000000000 / y ≤ 1000000000000000 := Nat.div_le_self _ _
    by_cases h : acc ≤ 1000000000000000 / y
    · rw [if_pos ((pk_lLE (by omega) (by omega)).mpr h), if_pos h, lN_mul, nI_1]
    · rw [if_neg (fun z => h ((pk_lLE (by omega) (by omega)).mp z)), if_neg h, nI_1]
      rfl
theorem prodM_loop {F : Nat} {f figs : Nat → Int32} {tb : Nat → Nat} {ds : List Nat} (hf : tbOK f tb) (hd : ∀ d ∈ ds, d < 16) (hl : ds.length ≤ 63) (hg : fgOK figs ds) {G : Nat} (hG : ds.length < G) : ∃ fl : Nat, fl ≤ 1 ∧ (fl = 1 → ds.foldl (fun a d => capN a (tb d)) 1 = 0) ∧ lp (f_X11_product_B13 F f (nI ds.length) figs) G ((1 : Int64), (0 : Int32), (0 : Int32)) = some (lN (ds.foldl (fun a d => capN a (tb d)) 1), nI fl) := by
  have key := lp_ex (B := f_X11_product_B13 F f (nI ds.length) figs) (fun k x => ∃ acc fl i, x = (lN acc, nI fl, nI i) ∧ i ≤ ds.length ∧ acc ≤ TOP + 1 ∧ fl ≤ 1 ∧ (fl = 1 → acc = 0) ∧ k = ds.length - i) (fun x e => ∀ acc fl i, acc ≤ TOP + 1 → fl ≤ 1 → (fl = 1 → acc = 0) → i ≤ ds.length → x = (lN acc, nI fl, nI i) → ∃ fl', fl' ≤ 1 ∧ (fl' = 1 → (ds.drop i).foldl (fun a d => capN a (tb d)) acc = 0) ∧ e = (lN ((ds.drop i).foldl (fun a d => capN a (tb d)) acc), nI fl')) ?_ G ds.length ((1 : Int64), (0 : Int32), (0 : Int32)) ⟨1, 0, 0, rfl, Nat.zero_le _, by unfold TOP; omega, by omega, by omega, rfl⟩ hG
  · obtain ⟨e, h1, h2⟩ := key
    obtain ⟨fl, h3, h4, h5⟩ := h2 1 0 0 (by unfold TOP; omega) (by omega) (by omega) (Nat.zero_le _) rfl
    rw [List.drop_zero] at h4 h5
    exact ⟨fl, h3, h4, by rw [h1, h5]⟩
  · rintro rec k x ⟨acc, fl, i, rfl, hi, hacc, hfl, hz, rfl⟩ hrec
    -- what the step gives
    have goal : ∃ e fl', f_X11_product_B13 F f (nI ds.length) figs rec (lN acc, nI fl, nI i) = some e ∧ fl' ≤ 1 ∧ (fl' = 1 → (ds.drop i).foldl (fun a d => capN a (tb d)) acc = 0) ∧ e = (lN ((ds.drop i).foldl (fun a d => capN a (tb d)) acc), nI fl') := by
      unfold f_X11_product_B13
      dsimp only
      rcases Nat.lt_or_ge i ds.length with h | h
      · have c1 : ¬ nI ds.length ≤ nI i := nI_ge h (by omega)
        have e1 : (nI i).toNatClampNeg = i := nI_clamp (by omega)
        have c2 : ¬ (nI i < 0 ∨ 64 ≤ (nI i).toNatClampNeg) := in_ok (by omega) (by omega)
        have e2 := hg i h
        have hd16 := hd _ (getD_mem h)
        have e3 : (nI (ds.getD i 0)).toNatClampNeg = ds.getD i 0 := nI_clamp (by omega)
        have c3 : ¬ (nI (ds.getD i 0) < 0 ∨ 16 ≤ (nI (ds.getD i 0)).toNatClampNeg) := in_ok hd16 (by omega)
        obtain ⟨e4, h4⟩ := hf _ hd16
        have e5 : ds.getD i 0 = ds[i] := by rw [List.getD_eq_getElem?_getD, List.getElem?_eq_getElem h]; rfl
        rw [if_neg c1, ck_pos c2, e1, e2, ck_pos c3, e3, e4]
        have go : ∀ fl2 : Nat, fl2 ≤ 1 → (fl2 = 1 → capN acc (tb (ds.getD i 0)) = 0) → ∃ e fl', rec (lN (capN acc (tb (ds.getD i 0))), nI fl2, nI (i + 1)) = some e ∧ fl' ≤ 1 ∧ (fl' = 1 → (ds.drop i).foldl (fun a d => capN a (tb d)) acc = 0) ∧ e = (lN ((ds.drop i).foldl (fun a d => capN a (tb d)) acc), nI fl') := by
          intro fl2 h2 h3
          obtain ⟨e, q1, q2⟩ := hrec (ds.length - (i + 1)) _ (by omega) ⟨_, fl2, i + 1, rfl, h, capN_le, h2, h3, rfl⟩
          obtain ⟨fl', q3, q4, q5⟩ := q2 _ fl2 (i + 1) capN_le h2 h3 h rfl
          rw [drop_cons h, List.foldl_cons, ← e5]
          exact ⟨e, fl', q1, q3, q4, q5⟩
        unfold f_X11_product_J46
        by_cases hf0 : fl = 0
        · subst hf0
          rw [if_pos nI_0]
          by_cases hb : tb (ds.getD i 0) = 0
          · have : nI (tb (ds.getD i 0)) = 0 := by rw [hb]; rfl
            rw [if_pos this, show ((1 : Int32)) = nI 1 from rfl, prodM_J51 hacc h4]
            refine go 1 (by omega) (fun _ => ?_)
            unfold capN
            rw [if_pos hb]
          · rw [if_neg (nI_ne0 (by omega) (by omega)), show ((0 : Int32)) = nI 0 from rfl, prodM_J51 hacc h4]
            exact go 0 (by omega) (by omega)
        · have hf1 : fl = 1 := by omega
          subst hf1
          rw [if_neg (show ¬ nI 1 = 0 by decide), show ((1 : Int32)) = nI 1 from rfl, prodM_J51 hacc h4]
          refine go 1 (by omega) (fun _ => ?_)
          rw [hz rfl, capN_0]
      · have e1 : i = ds.length := by omega
        subst e1
        rw [if_pos (nI_le (Nat.le_refl _) (by omega)), List.drop_length, List.foldl_nil]
        exact ⟨_, fl, rfl, hfl, hz, rfl⟩
    obtain ⟨e, fl', g1, g2, g3, g4⟩ := goal
    refine ⟨e, g1, ?_⟩
    intro acc2 fl2 i2 b1 b2 b3 b4 b5
    have q1 : lN acc = lN acc2 := congrArg Prod.fst b5
    have q3 : nI i = nI i2 := congrArg (fun z => z.2.2) b5
    unfold TOP at *
    have r1 : acc = acc2 := (pk_lEQ (by omega) (by omega)).mp q1
    have r3 : i = i2 := (nI_eq (by omega) (by omega)).mp q3
    subst r1; subst r3
    exact ⟨fl', g2, g3, g4⟩
