/-! sums, turned numbers, products of figures: both sides -/
/-- the table's words: f of the figures 0 to 15 -/
def tbOK (f : Nat → Int32) (tb : Nat → Nat) : Prop := ∀ d, d < 16 → f d = nI (tb d) ∧ tb d ≤ 100000
/-- an array that holds figures -/
def fgOK (a : Nat → Int32) (ds : List Nat) : Prop := ∀ i, i < ds.length → a i = nI (ds.getD i 0)
theorem fg_put (a : Nat → Int32) (ds : List Nat) : fgOK (putL a 0 ds) ds := by
  intro i h
  rw [putL_at0 ds a i h, List.getD_eq_getElem?_getD, List.getElem?_eq_getElem h]
  rfl
theorem getD_mem {ds : List Nat} {i : Nat} (h : i < ds.length) : ds.getD i 0 ∈ ds := by
  rw [List.getD_eq_getElem?_getD, List.getElem?_eq_getElem h]
  exact List.getElem_mem h
theorem fold_loop {α β : Type} {B : (α × Int32 → Option α) → α × Int32 → Option α} {ds : List Nat} {g : β → Nat → β} {emb : β → α} (J : β → Prop) (hJ : ∀ acc d, d ∈ ds → J acc → J (g acc d)) (hB : ∀ (rec : α × Int32 → Option α) (acc : β) (i : Nat), i < ds.length → J acc → B rec (emb acc, nI i) = rec (emb (g acc (ds.getD i 0)), nI (i + 1))) (hE : ∀ (rec : α × Int32 → Option α) (acc : β), J acc → B rec (emb acc, nI ds.length) = some (emb acc)) {G : Nat} (hG : ds.length < G) {acc : β} (h0 : J acc) : lp B G (emb acc, nI 0) = some (emb (ds.foldl g acc)) := by
  refine lp_by (fun k x e => ∃ acc i, x = (emb acc, nI i) ∧ i ≤ ds.length ∧ J acc ∧ k = ds.length - i ∧ e = emb ((ds.drop i).foldl g acc)) ?_ G _ _ _ ⟨acc, 0, rfl, Nat.zero_le _, h0, rfl, rfl⟩ (by omega)
  rintro rec k x e ⟨acc, i, rfl, hi, hj, rfl, rfl⟩ hrec
  rcases Nat.lt_or_ge i ds.length with h | h
  · rw [hB rec acc i h hj]
    refine hrec _ _ _ ?_ ⟨g acc (ds.getD i 0), i + 1, rfl, h, hJ _ _ (getD_mem h) hj, rfl, ?_⟩
    · omega
    · have e1 : ds.getD i 0 = ds[i] := by rw [List.getD_eq_getElem?_getD, List.getElem?_eq_getElem h]; rfl
      rw [drop_cons h, List.foldl_cons, e1]
  · have e1 : i = ds.length := by omega
    subst e1
    rw [hE rec acc hj, List.drop_length, List.foldl_nil]
theorem sum_loop {F : Nat} {f figs : Nat → Int32} {tb : Nat → Nat} {ds : List Nat} (hf : tbOK f tb) (hd : ∀ d ∈ ds, d < 16) (hl : ds.length ≤ 63) (hg : fgOK figs ds) {G : Nat} (hG : ds.length < G) : lp (f_X1_sumOf_B5 F (nI ds.length) f figs) G ((0 : Int64), (0 : Int32)) = some (lN (ds.foldl (fun a d => a + tb d) 0)) := by
  refine fold_loop (β := Nat) (emb := lN) (g := fun a d => a + tb d) (fun _ => True) (fun _ _ _ _ => trivial) ?_ ?_ hG trivial
  · intro rec acc i hi _
    have c1 : ¬ nI ds.length ≤ nI i := nI_ge hi (by omega)
    have e1 : (nI i).toNatClampNeg = i := nI_clamp (by omega)
    have c2 : ¬ (nI i < 0 ∨ 64 ≤ (nI i).toNatClampNeg) := in_ok (by omega) (by omega)
    have e2 := hg i hi
    have hd16 := hd _ (getD_mem hi)
    have e3 : (nI (ds.getD i 0)).toNatClampNeg = ds.getD i 0 := nI_clamp (by omega)
    have c3 : ¬ (nI (ds.getD i 0) < 0 ∨ 16 ≤ (nI (ds.getD i 0)).toNatClampNeg) := in_ok hd16 (by omega)
    obtain ⟨e4, h4⟩ := hf _ hd16
    unfold f_X1_sumOf_B5
    dsimp only
    rw [if_neg c1, ck_pos c2, e1, e2, ck_pos c3, e3, e4, nI_l (by omega), lN_add, nI_1]
  · intro rec acc _
    unfold f_X1_sumOf_B5
    dsimp only
    rw [if_pos (nI_le (Nat.le_refl _) (by omega))]
theorem sum_same (F : Nat) (f figs : Nat → Int32) (many : Int32) : f_X11_sum_B10 F f many figs = f_X1_sumOf_B5 F many f figs := rfl
theorem trn_loop {F b : Nat} {figs : Nat → Int32} {ds : List Nat} (hb : b ≤ 16) (hd : ∀ d ∈ ds, d < 16) (hl : ds.length ≤ 63) (hg : fgOK figs ds) {G : Nat} (hG : ds.length < G) : lp (f_X1_turnedOf_B5 F (nI ds.length) (nI b) figs) G ((0 : Int64), (0 : Int32)) = some (lN (ds.foldl (fun a d => a * b + d) 0)) := by
  refine fold_loop (β := Nat) (emb := lN) (g := fun a d => a * b + d) (fun _ => True) (fun _ _ _ _ => trivial) ?_ ?_ hG trivial
  · intro rec acc i hi _
    have c1 : ¬ nI ds.length ≤ nI i := nI_ge hi (by omega)
    have e1 : (nI i).toNatClampNeg = i := nI_clamp (by omega)
    have c2 : ¬ (nI i < 0 ∨ 64 ≤ (nI i).toNatClampNeg) := in_ok (by omega) (by omega)
    have e2 := hg i hi
    have hd16 := hd _ (getD_mem hi)
    unfold f_X1_turnedOf_B5
    dsimp only
    rw [if_neg c1, ck_pos c2, e1, e2, nI_l (by omega), nI_l (by omega), lN_mul, lN_add, nI_1]
  · intro rec acc _
    unfold f_X1_turnedOf_B5
    dsimp only
    rw [if_pos (nI_le (Nat.le_refl _) (by omega))]
theorem trn_same (F : Nat) (base : Int32) (figs : Nat → Int32) (many : Int32) : f_X11_turned_B10 F base many figs = f_X1_turnedOf_B5 F many base figs := rfl
/-- a product that is held at 10^15 + 1 -/
def TOP : Nat := 1000000000000000
def capN (p y : Nat) : Nat := if y = 0 then 0 else if p ≤ TOP / y then p * y else TOP + 1
theorem capN_le {p y : Nat} : capN p y ≤ TOP + 1 := by
  unfold capN
  split
  · omega
  · split
    · rename_i h1 h2
      have := Nat.mul_le_mul_right y h2
      have h3 := Nat.div_mul_le_self TOP y
      omega
    · omega
/-- a product that is 0 stays so -/
theorem capN_0 (y : Nat) : capN 0 y = 0 := by
  unfold capN
  split
  · rfl
  · rw [if_pos (Nat.zero_le _), Nat.zero_mul]
theorem capN_zs {tb : Nat → Nat} : ∀ ds : List Nat, ds.foldl (fun a d => capN a (tb d)) 0 = 0
  | [] => rfl
  | d :: ds => by rw [List.foldl_cons, capN_0]; exact capN_zs ds
theorem prod_loop {F : Nat} {f figs : Nat → Int32} {tb : Nat → Nat} {ds : List Nat} (hf : tbOK f tb) (hd : ∀ d ∈ ds, d < 16) (hl : ds.length ≤ 63) (hg : fgOK figs ds) {G : Nat} (hG : ds.length < G) : (lp (f_X1_productOf_B5 F (nI ds.length) f figs) G ((1 : Int64), (0 : Int32))).bind (fun ex7 => Sum.elim (fun r => some r) (fun er8 => some er8) ex7) = some (lN (ds.foldl (fun a d => capN a (tb d)) 1)) := by
  have key := lp_ex (B := f_X1_productOf_B5 F (nI ds.length) f figs) (fun k x => ∃ acc i, x = (lN acc, nI i) ∧ i ≤ ds.length ∧ acc ≤ TOP + 1 ∧ k = ds.length - i) (fun x e => ∀ acc i, acc ≤ TOP + 1 → i ≤ ds.length → x = (lN acc, nI i) → Sum.elim (fun r => some r) (fun r => some r) e = some (lN ((ds.drop i).foldl (fun a d => capN a (tb d)) acc))) ?_ G ds.length ((1 : Int64), (0 : Int32)) ⟨1, 0, rfl, Nat.zero_le _, by unfold TOP; omega, rfl⟩ hG
  · obtain ⟨e, h1, h2⟩ := key
    have h3 := h2 1 0 (by unfold TOP; omega) (Nat.zero_le _) rfl
    rw [List.drop_zero] at h3
    rw [h1, Option.bind_some]
    exact h3
  · rintro rec k x ⟨acc, i, rfl, hi, hacc, rfl⟩ hrec
    have goal : ∃ e, f_X1_productOf_B5 F (nI ds.length) f figs rec (lN acc, nI i) = some e ∧ Sum.elim (fun r => some r) (fun r => some r) e = some (lN ((ds.drop i).foldl (fun a d => capN a (tb d)) acc)) := by
      unfold f_X1_productOf_B5 f_X1_productOf_J55
      dsimp only
      rcases Nat.lt_or_ge i ds.length with h | h
      · have c1 : ¬ nI ds.length ≤ nI i := nI_ge h (by omega)
        have e1 : (nI i).toNatClampNeg = i := nI_clamp (by omega)
        have c2 : ¬ (nI i < 0 ∨ 64 ≤ (nI i).toNatClampNeg) := in_ok (by omega) (by omega)
        have e2 := hg i h
        have hd16 := hd _ (getD_mem h)
        have e3 : (nI (ds.getD i 0)).toNatClampNeg = ds.getD i 0 := nI_clamp (by omega)
        have c3 : ¬ (nI (ds.getD i 0) < 0 ∨ 16 ≤ (nI (ds.getD i 0)).toNatClampNeg) := in_ok hd16 (by omega)
        obtain ⟨e4, h4⟩ := hf _ hd16
        have e5 : ds.getD i 0 = ds[i] := by rw [List.getD_eq_getElem?_getD, List.getElem?_eq_getElem h]; rfl
        rw [if_neg c1, ck_pos c2, e1, e2, ck_pos c3, e3, e4]
        have go : ∃ e, rec (lN (capN acc (tb (ds.getD i 0))), nI (i + 1)) = some e ∧ Sum.elim (fun r => some r) (fun r => some r) e = some (lN ((ds.drop i).foldl (fun a d => capN a (tb d)) acc)) := by
          obtain ⟨e, q1, q2⟩ := hrec (ds.length - (i + 1)) _ (by omega) ⟨_, i + 1, rfl, h, capN_le, rfl⟩
          have q3 := q2 _ (i + 1) capN_le h rfl
          rw [drop_cons h, List.foldl_cons, ← e5]
          exact ⟨e, q1, q3⟩
        generalize hy : tb (ds.getD i 0) = y at *
        by_cases h0 : y = 0
        · have hz : nI y = 0 := by rw [h0]; rfl
          rw [if_pos hz, drop_cons h, List.foldl_cons, ← e5, hy, show capN acc y = 0 by unfold capN; rw [if_pos h0], capN_zs]
          exact ⟨_, rfl, rfl⟩
        · have c0 : ¬ nI y = 0 := nI_ne0 (by omega) (by omega)
          have f1 : (nI y).toInt64 = lN y := nI_l (by omega)
          have f2 : (1000000000000000 : Int64) / lN y = lN (1000000000000000 / y) := pk_lDiv (a := 1000000000000000) (by omega) (by omega) (by omega)
          rw [if_neg c0, f1, ck_pos (lN_ne0 (by omega) (by omega)), f2]
          have hq : 1000000000000000 / y ≤ 1000000000000000 := Nat.div_le_self _ _
          unfold capN at go
          unfold TOP at *
          rw [if_neg h0] at go
          by_cases hh : acc ≤ 1000000000000000 / y
          · rw [if_pos ((pk_lLE (by omega) (by omega)).mpr hh), lN_mul, nI_1]
            rw [if_pos hh] at go
            exact go
          · rw [if_neg (fun z => hh ((pk_lLE (by omega) (by omega)).mp z)), nI_1]
            rw [if_neg hh] at go
            exact go
      · have e1 : i = ds.length := by omega
        subst e1
        rw [if_pos (nI_le (Nat.le_refl _) (by omega)), List.drop_length, List.foldl_nil]
        exact ⟨_, rfl, rfl⟩
    obtain ⟨e, g1, g2⟩ := goal
    refine ⟨e, g1, ?_⟩
    intro acc2 i2 b1 b2 b3
    have q1 : lN acc = lN acc2 := congrArg Prod.fst b3
    have q3 : nI i = nI i2 := congrArg Prod.snd b3
    unfold TOP at *
    have r1 : acc = acc2 := (pk_lEQ (by omega) (by omega)).mp q1
    have r3 : i = i2 := (nI_eq (by omega) (by omega)).mp q3
    subst r1; subst r3
    exact g2
