/-! figures falling less figures rising: both sides -/
def rp (b d : Nat) : Nat → Nat → Nat
  | 0, a => a
  | c + 1, a => rp b d c (a * b + d)
/-- r figures from d on: (rising, falling) -/
def srt (b : Nat) (ct : Nat → Nat) : Nat → Nat → Nat → Nat → Nat × Nat
  | 0, _, u, w => (u, w)
  | r + 1, d, u, w => srt b ct r (d + 1) (rp b d (ct d) u) (rp b (b - 1 - d) (ct (b - 1 - d)) w)
theorem nI_sub2 {b d : Nat} (h : d < b) : nI b - (1 : Int32) - nI d = nI (b - 1 - d) := by
  have e1 : nI b - (1 : Int32) = nI (b - 1) := by
    have := pk_sub (a := b) (b := 1) (by omega)
    exact this
  rw [e1, pk_sub (by omega)]
theorem dn_eq {x b d : Nat} (h : d < b) : lN (x * b) + lN b - (1 : Int64) - lN d = lN (x * b + (b - 1 - d)) := by
  rw [lN_add]
  have e1 : lN (x * b + b) - (1 : Int64) = lN (x * b + b - 1) := lN_sub (a := x * b + b) (b := 1) (by omega)
  rw [e1, lN_sub (by omega)]
  congr 1
  omega
/-- the reference's inner loop: one figure over all places -/
theorem srtM_in {F b d : Nat} {figs : Nat → Int32} {ds : List Nat} (hb : b ≤ 16) (hdb : d < b) (hd : ∀ t ∈ ds, t < 16) (hl : ds.length ≤ 63) (hg : fgOK figs ds) {G : Nat} (hG : ds.length < G) (u w : Nat) : lp (f_X11_sorted_B25 F (nI b) (nI d) (nI ds.length) figs) G (lN u, lN w, (0 : Int32)) = some (lN (rp b d (ds.count d) u), lN (rp b (b - 1 - d) (ds.count (b - 1 - d)) w)) := by
  refine lp_by (fun k x e => ∃ u w i, x = (lN u, lN w, nI i) ∧ i ≤ ds.length ∧ k = ds.length - i ∧ e = (lN (rp b d ((ds.drop i).count d) u), lN (rp b (b - 1 - d) ((ds.drop i).count (b - 1 - d)) w))) ?_ G ds.length _ _ ⟨u, w, 0, rfl, Nat.zero_le _, rfl, rfl⟩ hG
  rintro rec k x e ⟨u, w, i, rfl, hi, rfl, rfl⟩ hrec
  unfold f_X11_sorted_B25
  dsimp only
  rcases Nat.lt_or_ge i ds.length with h | h
  · have c1 : ¬ nI ds.length ≤ nI i := nI_ge h (by omega)
    have e1 : (nI i).toNatClampNeg = i := nI_clamp (by omega)
    have c2 : ¬ (nI i < 0 ∨ 64 ≤ (nI i).toNatClampNeg) := in_ok (by omega) (by omega)
    have e2 := hg i h
    have e5 : ds.getD i 0 = ds[i] := by rw [List.getD_eq_getElem?_getD, List.getElem?_eq_getElem h]; rfl
    have hd16 : ds[i] < 16 := hd _ (List.getElem_mem h)
    have lb : (nI b).toInt64 = lN b := nI_l (by omega)
    have ld : (nI d).toInt64 = lN d := nI_l (by omega)
    rw [e5] at e2
    rw [if_neg c1, ck_pos c2, e1, e2, drop_cons h, List.count_cons, List.count_cons]
    -- the second choice
    have J : ∀ u2 : Nat, f_X11_sorted_J61 F (nI b) figs (nI d) rec (lN w) (nI i) (lN u2) = rec (lN u2, lN (if ds[i] = b - 1 - d then w * b + (b - 1 - d) else w), nI (i + 1)) := by
      intro u2
      unfold f_X11_sorted_J61 f_X11_sorted_J106
      rw [ck_pos c2, e1, e2, nI_sub2 hdb, lb, ld, lN_mul, dn_eq hdb, nI_1]
      by_cases q : ds[i] = b - 1 - d
      · rw [if_pos (by rw [q]), if_pos q]
      · rw [if_neg (fun z => q ((nI_eq (by omega) (by omega)).mp z)), if_neg q]
    rw [ld, lb, lN_mul, lN_add, J, J]
    have rpw : rp b (b - 1 - d) (((ds.drop (i + 1)).count (b - 1 - d)) + if ds[i] == b - 1 - d then 1 else 0) w = rp b (b - 1 - d) ((ds.drop (i + 1)).count (b - 1 - d)) (if ds[i] = b - 1 - d then w * b + (b - 1 - d) else w) := by
      by_cases q : ds[i] = b - 1 - d
      · rw [if_pos q, if_pos (by rw [q]; exact beq_self_eq_true _)]
        rfl
      · rw [if_neg q, if_neg (by simpa using q)]
        rfl
    have rpu : rp b d (((ds.drop (i + 1)).count d) + if ds[i] == d then 1 else 0) u = rp b d ((ds.drop (i + 1)).count d) (if ds[i] = d then u * b + d else u) := by
      by_cases q : ds[i] = d
      · rw [if_pos q, if_pos (by rw [q]; exact beq_self_eq_true d)]
        rfl
      · rw [if_neg q, if_neg (by simpa using q)]
        rfl
    rw [rpw, rpu]
    by_cases q : ds[i] = d
    · have q2 : nI ds[i] = nI d := by rw [q]
      rw [if_pos q2]
      have := hrec (ds.length - (i + 1)) _ _ (by omega) ⟨u * b + d, if ds[i] = b - 1 - d then w * b + (b - 1 - d) else w, i + 1, rfl, h, rfl, rfl⟩
      rw [this, if_pos q]
    · have q2 : ¬ nI ds[i] = nI d := fun z => q ((nI_eq (by omega) (by omega)).mp z)
      rw [if_neg q2]
      have := hrec (ds.length - (i + 1)) _ _ (by omega) ⟨u, if ds[i] = b - 1 - d then w * b + (b - 1 - d) else w, i + 1, rfl, h, rfl, rfl⟩
      rw [this, if_neg q]
  · have e1 : i = ds.length := by omega
    subst e1
    rw [if_pos (nI_le (Nat.le_refl _) (by omega)), List.drop_length]
    rfl
theorem srtM_out {F b : Nat} {figs : Nat → Int32} {ds : List Nat} (hb : b ≤ 16) (hd : ∀ t ∈ ds, t < 16) (hl : ds.length ≤ 63) (hg : fgOK figs ds) (hF : 70 ≤ F) {G : Nat} (hG : b < G) : lp (f_X11_sorted_B13 F (nI b) (nI ds.length) figs) G ((0 : Int64), (0 : Int64), (0 : Int32)) = some (lN (srt b (fun d => ds.count d) b 0 0 0).1, lN (srt b (fun d => ds.count d) b 0 0 0).2) := by
  refine lp_by (fun k x e => ∃ u w d, x = (lN u, lN w, nI d) ∧ d ≤ b ∧ k = b - d ∧ e = (lN (srt b (fun d => ds.count d) (b - d) d u w).1, lN (srt b (fun d => ds.count d) (b - d) d u w).2)) ?_ G b _ _ ⟨0, 0, 0, rfl, Nat.zero_le _, rfl, rfl⟩ hG
  rintro rec k x e ⟨u, w, d, rfl, hi, rfl, rfl⟩ hrec
  unfold f_X11_sorted_B13
  dsimp only
  rcases Nat.lt_or_ge d b with h | h
  · have c1 : ¬ nI b ≤ nI d := nI_ge h (by omega)
    rw [if_neg c1, srtM_in hb h hd hl hg (by omega), Option.bind_some, nI_1]
    refine hrec (b - (d + 1)) _ _ (by omega) ⟨_, _, d + 1, rfl, h, rfl, ?_⟩
    rw [show b - d = (b - (d + 1)) + 1 by omega]
    rfl
  · have e1 : d = b := by omega
    subst e1
    rw [if_pos (nI_le (Nat.le_refl _) (by omega)), Nat.sub_self]
    rfl
/-- the class: a figure so many times behind -/
theorem rpC {F b d c : Nat} {x4 : Int64} {x6 : Int32} {many : Nat → Int32} (hb : b ≤ 16) (hd : d < 16) (hc : c ≤ 100) (hm : many d = nI c) {G : Nat} (hG : c < G) (a : Nat) : lp (f_X1_sortedOf_B117 F (nI b) x4 x6 (nI d) many) G (lN a, (0 : Int32)) = some (lN (rp b d c a)) := by
  refine lp_by (fun k x e => ∃ a i, x = (lN a, nI i) ∧ i ≤ c ∧ k = c - i ∧ e = lN (rp b d (c - i) a)) ?_ G c _ _ ⟨a, 0, rfl, Nat.zero_le _, rfl, rfl⟩ hG
  rintro rec k x e ⟨a, i, rfl, hi, rfl, rfl⟩ hrec
  unfold f_X1_sortedOf_B117
  dsimp only
  rw [ck_pos (in_ok hd (by omega)), nI_clamp (by omega), hm]
  rcases Nat.lt_or_ge i c with h | h
  · rw [if_neg (nI_ge h (by omega)), nI_l (by omega), nI_l (by omega), lN_mul, lN_add, nI_1]
    refine hrec (c - (i + 1)) _ _ (by omega) ⟨a * b + d, i + 1, rfl, h, rfl, ?_⟩
    rw [show c - i = (c - (i + 1)) + 1 by omega]
    rfl
  · have e1 : i = c := by omega
    subst e1
    rw [if_pos (nI_le (Nat.le_refl _) (by omega)), Nat.sub_self]
    rfl
theorem rpC2 {F b d c : Nat} {x2 : Int64} {x7 : Int32} {many : Nat → Int32} (hb : b ≤ 16) (hd : d < 16) (hc : c ≤ 100) (hm : many d = nI c) {G : Nat} (hG : c < G) (a : Nat) : lp (f_X1_sortedOf_B82 F (nI b) x2 (nI d) x7 many) G (lN a, (0 : Int32)) = some (lN (rp b d c a)) := rpC (F := F) (x4 := x2) (x6 := x7) hb hd hc hm hG a
theorem srtC_out {F b : Nat} {many : Nat → Int32} {ct : Nat → Nat} (hb : b ≤ 16) (hm : ∀ d, d < b → many d = nI (ct d) ∧ ct d ≤ 100) (hF : 200 ≤ F) {G : Nat} (hG : b < G) : lp (f_X1_sortedOf_B59 F (nI b) many) G ((0 : Int64), (0 : Int64), (0 : Int32)) = some (lN (srt b ct b 0 0 0).2, lN (srt b ct b 0 0 0).1) := by
  refine lp_by (fun k x e => ∃ u w d, x = (lN w, lN u, nI d) ∧ d ≤ b ∧ k = b - d ∧ e = (lN (srt b ct (b - d) d u w).2, lN (srt b ct (b - d) d u w).1)) ?_ G b _ _ ⟨0, 0, 0, rfl, Nat.zero_le _, rfl, rfl⟩ hG
  rintro rec k x e ⟨u, w, d, rfl, hi, rfl, rfl⟩ hrec
  unfold f_X1_sortedOf_B59
  dsimp only
  rcases Nat.lt_or_ge d b with h | h
  · have c1 : ¬ nI b ≤ nI d := nI_ge h (by omega)
    obtain ⟨m1, n1⟩ := hm d h
    obtain ⟨m2, n2⟩ := hm (b - 1 - d) (by omega)
    rw [if_neg c1, nI_sub2 h, rpC2 hb (by omega) n1 m1 (by omega), Option.bind_some, rpC hb (by omega) n2 m2 (by omega), Option.bind_some, nI_1]
    refine hrec (b - (d + 1)) _ _ (by omega) ⟨_, _, d + 1, rfl, h, rfl, ?_⟩
    rw [show b - d = (b - (d + 1)) + 1 by omega]
    rfl
  · have e1 : d = b := by omega
    subst e1
    rw [if_pos (nI_le (Nat.le_refl _) (by omega)), Nat.sub_self]
    rfl
/-- the class: the counts begin with 0 -/
theorem zeroC {F b : Nat} {many : Nat → Int32} (hb : b ≤ 16) {G : Nat} (hG : b < G) : ∃ z, lp (f_X1_sortedOf_B2 F (nI b)) G ((0 : Int32), many) = some z ∧ ∀ d, d < b → z d = 0 := by
  obtain ⟨e, h1, h2⟩ := lp_ex (B := f_X1_sortedOf_B2 F (nI b)) (fun k x => ∃ a i, x = (nI i, a) ∧ i ≤ b ∧ k = b - i) (fun x e => ∀ a i, i ≤ b → x = (nI i, a) → (∀ d, i ≤ d → d < b → e d = 0) ∧ ∀ d, d < i → e d = a d) (by
    rintro rec k x ⟨a, i, rfl, hi, rfl⟩ hrec
    have goal : ∃ e, f_X1_sortedOf_B2 F (nI b) rec (nI i, a) = some e ∧ (∀ d, i ≤ d → d < b → e d = 0) ∧ ∀ d, d < i → e d = a d := by
      unfold f_X1_sortedOf_B2
      dsimp only
      rcases Nat.lt_or_ge i b with h | h
      · rw [if_neg (nI_ge h (by omega)), ck_pos (in_ok (by omega) (by omega)), nI_clamp (by omega), nI_1]
        obtain ⟨e, q1, q2⟩ := hrec (b - (i + 1)) (nI (i + 1), upd a i 0) (by omega) ⟨_, i + 1, rfl, h, rfl⟩
        obtain ⟨q3, q4⟩ := q2 _ (i + 1) h rfl
        refine ⟨e, q1, fun d h1 h2 => ?_, fun d h1 => ?_⟩
        · rcases Nat.lt_or_ge i d with z | z
          · exact q3 d z h2
          · have : d = i := by omega
            subst this
            rw [q4 d (by omega)]; exact pk_us
        · rw [q4 d (by omega)]; exact pk_un (by omega)
      · rw [if_pos (nI_le h (by omega))]
        exact ⟨a, rfl, fun d h1 h2 => by omega, fun d _ => rfl⟩
    obtain ⟨e, g1, g2⟩ := goal
    refine ⟨e, g1, fun a2 i2 hi2 hx => ?_⟩
    have q1 : i = i2 := (nI_eq (by omega) (by omega)).mp (congrArg Prod.fst hx)
    have q2 : a = a2 := congrArg Prod.snd hx
    subst q1; subst q2
    exact g2) G b ((0 : Int32), many) ⟨many, 0, rfl, Nat.zero_le _, rfl⟩ hG
  exact ⟨e, h1, fun d hd => (h2 many 0 (Nat.zero_le _) rfl).1 d (Nat.zero_le _) hd⟩
/-- the class: how often each figure is there -/
theorem countC {F : Nat} {row z : Nat → Int32} {ds : List Nat} (hd : ∀ t ∈ ds, t < 16) (hl : ds.length ≤ 63) (hg : fgOK row ds) {G : Nat} (hG : ds.length < G) : ∃ e, lp (f_X1_sortedOf_B25 F (nI ds.length) row) G ((0 : Int32), z) = some e ∧ ∀ d, z d = 0 → e d = nI (ds.count d) := by
  obtain ⟨e, h1, h2⟩ := lp_ex (B := f_X1_sortedOf_B25 F (nI ds.length) row) (fun k x => ∃ a i, x = (nI i, a) ∧ i ≤ ds.length ∧ k = ds.length - i) (fun x e => ∀ a i, i ≤ ds.length → x = (nI i, a) → ∀ d c, a d = nI c → e d = nI (c + (ds.drop i).count d)) (by
    rintro rec k x ⟨a, i, rfl, hi, rfl⟩ hrec
    have goal : ∃ e, f_X1_sortedOf_B25 F (nI ds.length) row rec (nI i, a) = some e ∧ ∀ d c, a d = nI c → e d = nI (c + (ds.drop i).count d) := by
      unfold f_X1_sortedOf_B25
      dsimp only
      rcases Nat.lt_or_ge i ds.length with h | h
      · have e2 := hg i h
        have e5 : ds.getD i 0 = ds[i] := by rw [List.getD_eq_getElem?_getD, List.getElem?_eq_getElem h]; rfl
        have hd16 : ds[i] < 16 := hd _ (List.getElem_mem h)
        rw [e5] at e2
        have c3 : ¬ (nI ds[i] < 0 ∨ 16 ≤ (nI ds[i]).toNatClampNeg) := in_ok hd16 (by omega)
        rw [if_neg (nI_ge h (by omega)), ck_pos (in_ok (by omega) (by omega)), nI_clamp (by omega), e2, ck_pos c3, ck_pos c3, nI_clamp (by omega), nI_1]
        obtain ⟨e, q1, q2⟩ := hrec (ds.length - (i + 1)) (nI (i + 1), upd a ds[i] (a ds[i] + 1)) (by omega) ⟨_, i + 1, rfl, h, rfl⟩
        refine ⟨e, q1, fun d c hc => ?_⟩
        rw [drop_cons h, List.count_cons]
        by_cases q : ds[i] = d
        · subst q
          rw [q2 _ (i + 1) h rfl ds[i] (c + 1) (by rw [pk_us, hc, nI_1]), if_pos (beq_self_eq_true _)]
          congr 1
          omega
        · rw [q2 _ (i + 1) h rfl d c (by rw [pk_un (fun z => q z.symm), hc]), if_neg (by simpa using q)]
          rfl
      · have e1 : i = ds.length := by omega
        subst e1
        rw [if_pos (nI_le (Nat.le_refl _) (by omega)), List.drop_length]
        exact ⟨a, rfl, fun d c hc => by rw [hc]; rfl⟩
    obtain ⟨e, g1, g2⟩ := goal
    refine ⟨e, g1, fun a2 i2 hi2 hx => ?_⟩
    have q1 : i = i2 := (nI_eq (by omega) (by omega)).mp (congrArg Prod.fst hx)
    have q2 : a = a2 := congrArg Prod.snd hx
    subst q1; subst q2
    exact g2) G ds.length ((0 : Int32), z) ⟨z, 0, rfl, Nat.zero_le _, rfl⟩ hG
  refine ⟨e, h1, fun d hz => ?_⟩
  have := h2 z 0 (Nat.zero_le _) rfl d 0 hz
  rwa [List.drop_zero, Nat.zero_add] at this
