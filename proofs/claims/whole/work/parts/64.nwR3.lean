/-! narrow: the reference's answer -/
theorem NW_lt {b w e n : Nat} (hb : bOK b) (hw : w ≤ 6) (h : NW b w e n) : n < 2 ^ 25 := by
  have h1 : b ^ w ≤ 16 ^ w := Nat.pow_le_pow_left hb.2 w
  have h2 : 16 ^ w ≤ 16 ^ 6 := Nat.pow_le_pow_right (by omega) hw
  have h3 := h.2.1
  have h4 : (16 : Nat) ^ 6 < 2 ^ 25 := by decide
  omega
abbrev N6 : Type := Int32 × Int32 × (Nat → Int32) × (Nat → Int32) × Int32 × (Nat → Int64)
abbrev N5 : Type := Int32 × (Nat → Int32) × (Nat → Int32) × Int32 × (Nat → Int64)
def nwP (b w e : Nat) (r : N5) : Prop := ∃ m a, r.2.2.2.1 = nI m ∧ (∀ i, i < m → r.2.2.2.2 i = lN (a i)) ∧ SA a m (NW b w e)
def nwI (b w e : Nat) (k : Nat) (x : N6) : Prop := (x.1 = 1 ∧ ∃ m a g, x.2.2.2.2.1 = nI m ∧ (∀ i, i < m → x.2.2.2.2.2 i = lN (a i)) ∧ rwOK x.2.2.2.1 g w ∧ ND g w ∧ (∀ i, i < w → g i < b) ∧ SA a m (fun n => NW b w e n ∧ Dn b w n g) ∧ k = b ^ w - valF b g w + 1) ∨ (x.1 = 0 ∧ nwP b w e x.2 ∧ k = 0)
theorem p_J120 {F b w e K m : Nat} {rec : N6 → Option N5} {many : Int32} {figs row : Nat → Int32} {arr : Nat → Int64} {a g : Nat → Nat} (hF : 1000 ≤ F) (hb : bOK b) (hw1 : 1 ≤ w) (hw : w ≤ 6) (hr : rwOK row g w) (hnd : ND g w) (hg : ∀ i, i < w → g i < b) (harr : ∀ i, i < m → arr i = lN (a i)) (h : SA a m (fun n => NW b w e n ∧ (Dn b w n g ∨ (dL b w n).Perm (gl g w)))) (hK : K = b ^ w - valF b g w + 1) (hrec : ∀ (j : Nat) (y : N6), j < K → nwI b w e j y → ∃ r, rec y = some r ∧ nwP b w e r) : ∃ r, f_X11_narrow_J120 F (nI w) (nI b) rec many figs row (nI m) arr = some r ∧ nwP b w e r := by
  have hb1 := hb.1
  have hb2 := hb.2
  have hv := valF_lt (b := b) (g := g) w hg
  unfold f_X11_narrow_J120 f_X11_narrow_J162 f_X11_narrow_J182 f_X11_narrow_J195
  rw [xk_sub]
  rcases last_loop (F := F) (many := many) (nn := nI m) (figs := figs) (u := arr) hb hw hr hg w F (Nat.le_refl _) (by omega) (fun i h1 h2 => by omega) with ⟨k, k1, k2, k3, k4⟩ | ⟨k1, k2⟩
  · have hgk := hg k k1
    obtain ⟨row', e1, h1⟩ := fill_loop (F := F) (w := w) (k := k) (v := g k + 1) (x4 := (1 : Int32)) (many := many) (nn := nI m) (figs := figs) (row := row) (u := arr) (by omega) hw (by omega)
    rw [k4, Option.bind_some, if_neg (nI_pos (by omega)), if_neg n10, ck_pos (in_ok (by omega) (by omega)), nI_clamp (by omega), if_neg n10, hr k k1, nI_1, e1, Option.bind_some]
    have hlt := valF_nx (b := b) (w := w) (k := k) (g := g) (by omega) k1 hgk k3
    have hg' : ∀ i, i < w → nxF g k i < b := fun i hi => by
      unfold nxF
      by_cases z : i < k
      · rw [if_pos z]; exact hg i hi
      · rw [if_neg z]; omega
    have hv' := valF_lt (b := b) (g := nxF g k) w hg'
    refine hrec (b ^ w - valF b (nxF g k) w + 1) _ (by omega) (Or.inl ⟨rfl, m, a, nxF g k, rfl, harr, ?_, ?_, hg', ?_, rfl⟩)
    · intro i hi
      show row' i = nI (nxF g k i)
      rw [h1 i hi]
      unfold nxF
      by_cases z : i < k
      · rw [if_pos z, if_pos z]; exact hr i hi
      · rw [if_neg z, if_neg z]
    · intro i j hij hj
      unfold nxF
      by_cases z : j < k
      · rw [if_pos z, if_pos (by omega)]; exact hnd i j hij hj
      · rw [if_neg z]
        by_cases y : i < k
        · rw [if_pos y]
          have := hnd i k y k1
          omega
        · rw [if_neg y]; exact Nat.le_refl _
    · exact SA_ext h (fun n => by rw [Dn_next hnd hg k1 k2 k3])
  · obtain ⟨row', e1, h1⟩ := fill_loop (F := F) (w := w) (k := w) (v := 0) (x4 := (0 : Int32)) (many := many) (nn := nI m) (figs := figs) (row := row) (u := arr) (by omega) hw (Nat.le_refl _)
    have e1' : lp (f_X11_narrow_B197 F (nI w) (0 : Int32) (0 : Int32) many figs (nI m) arr) F (nI w, row) = some row' := e1
    rw [k2, Option.bind_some, if_pos (by decide), if_pos rfl, if_pos rfl, e1', Option.bind_some]
    refine hrec 0 _ (by omega) (Or.inr ⟨rfl, ⟨m, a, rfl, harr, SA_ext h (fun n => ⟨fun q => q.1, fun q => ⟨q, Dn_last (by omega) k1⟩⟩)⟩, rfl⟩)
theorem p_narrowL {F b w e : Nat} (hF : 20000000 ≤ F) (hb : bOK b) (hw1 : 1 ≤ w) (hw : w ≤ 6) (he : e ≤ 6) : ∀ (G k : Nat) (x : N6), nwI b w e k x → k < G → ∃ r, lp (f_X11_narrow_B64 F (nI w) (nI e) (nI b)) G x = some r ∧ nwP b w e r := by
  have hb1 := hb.1
  have hb2 := hb.2
  refine lp_ex (B := f_X11_narrow_B64 F (nI w) (nI e) (nI b)) (nwI b w e) (fun _ r => nwP b w e r) ?_
  rintro rec K x (⟨hx, m, a, g, hm, harr, hr, hnd, hg, hS, hK⟩ | ⟨hx, hP, hK⟩) hrec
  · obtain ⟨x1, many, figs, row, nn, arr⟩ := x
    dsimp only at hx hm harr hr
    subst hx hm
    have hbd := SA_bd hb hw1 hw he hS (fun n q => q.1)
    have hvle := ps_le (e := e) (d := 15) (gl g w) (fun x hx => by obtain ⟨i, hi, q⟩ := gl_mem hx; have := hg i hi; omega)
    rw [gl_len] at hvle
    have hpe : 15 ^ e ≤ 15 ^ 6 := Nat.pow_le_pow_right (by omega) he
    have hwe : w * 15 ^ e ≤ 6 * 15 ^ 6 := Nat.mul_le_mul hw hpe
    have h156 : (6 : Nat) * 15 ^ 6 < 2 ^ 30 := by decide
    unfold f_X11_narrow_B64
    dsimp only
    rw [if_neg n10, p_sumN (a := many) (b' := many) (c := figs) (d' := figs) (by omega) hw he hr (fun i hi => by have := hg i hi; omega), Option.bind_some]
    obtain ⟨r, many', figs', e1, h1⟩ := p_hasRow (F := F) (many := many) (figs := figs) hb (by omega) hw1 hw hr hg (v := ps e (gl g w)) (by omega)
    rw [e1, Option.bind_some]
    dsimp only
    rcases h1 with ⟨rfl, h2, h3⟩ | ⟨rfl, h2⟩
    · have hnw : NW b w e (ps e (gl g w)) := ⟨h2.1, h2.2, ps_perm h3⟩
      have hno : ¬ (NW b w e (ps e (gl g w)) ∧ Dn b w (ps e (gl g w)) g) := by
        rintro ⟨_, s, s1, s2, s3, s4⟩
        exact ND_uniq hnd (s3.symm.trans h3) s4
      obtain ⟨arr', a', e2, h4, h5⟩ := p_addNarrow (F := F) (by omega) (show m < 200 by omega) (show ps e (gl g w) < 2 ^ 62 by omega) (fun i hi => by have := NW_lt hb hw ((hS.2 (a i)).mpr ⟨i, hi, rfl⟩).1; omega) harr hS hno
      rw [if_neg n10, e2, Option.bind_some]
      dsimp only
      refine p_J120 (by omega) hb hw1 hw hr hnd hg h4 (SA_ext h5 (fun n => ⟨?_, ?_⟩)) hK hrec
      · rintro (q | q)
        · exact ⟨q.1, Or.inl q.2⟩
        · rw [q]; exact ⟨hnw, Or.inr h3⟩
      · rintro ⟨q1, q2 | q2⟩
        · exact Or.inl ⟨q1, q2⟩
        · refine Or.inr ?_
          rw [← q1.2.2]
          exact ps_perm q2
    · rw [if_pos rfl]
      refine p_J120 (by omega) hb hw1 hw hr hnd hg harr (SA_ext hS (fun n => ⟨fun q => ⟨q.1, Or.inl q.2⟩, ?_⟩)) hK hrec
      rintro ⟨q1, q2 | q2⟩
      · exact ⟨q1, q2⟩
      · have en : n = ps e (gl g w) := by rw [← q1.2.2]; exact ps_perm q2
        subst en
        exact absurd ⟨⟨q1.1, q1.2.1⟩, q2⟩ h2
  · obtain ⟨x1, x2⟩ := x
    dsimp only at hx hP
    subst hx
    unfold f_X11_narrow_B64
    rw [if_pos rfl]
    exact ⟨_, rfl, hP⟩
def inNar (w e i : Int32) : Prop := ¬ wi w 1 6 = 0 ∧ ¬ wi e 1 6 = 0 ∧ (-1 : Int32) ≤ i
def anNar (b : Nat) (w e i : Int32) (r : Int64) : Prop := (inNar w e i ∧ ∃ w' e' m a, 1 ≤ w' ∧ w' ≤ 6 ∧ e' ≤ 6 ∧ w = nI w' ∧ e = nI e' ∧ SA a m (NW b w' e') ∧ r = if i = (-1 : Int32) then lN m else if nI m ≤ i then (-4 : Int64) else lN (a i.toNatClampNeg)) ∨ (¬ inNar w e i ∧ r = (-1 : Int64))
theorem anNar_one {b : Nat} {w e i : Int32} {r r' : Int64} (hb : bOK b) (h : anNar b w e i r) (h' : anNar b w e i r') : r = r' := by
  rcases h with ⟨h0, w1, e1, m1, a1, h1, h2, h3, h4, h5, h6, h7⟩ | ⟨h0, h1⟩
  · rcases h' with ⟨g0, w2, e2, m2, a2, g1, g2, g3, g4, g5, g6, g7⟩ | ⟨g0, g1⟩
    · have q1 : w1 = w2 := (nI_eq (by omega) (by omega)).mp (by rw [← h4, ← g4])
      have q2 : e1 = e2 := (nI_eq (by omega) (by omega)).mp (by rw [← h5, ← g5])
      subst q1 q2
      have hbd := SA_bd hb h1 h2 h3 h6 (fun n q => q)
      obtain ⟨q3, q4⟩ := SA_one h6 g6
      subst q3
      rw [h7, g7]
      by_cases z : i = (-1 : Int32)
      · rw [if_pos z, if_pos z]
      · rw [if_neg z, if_neg z]
        by_cases y : nI m1 ≤ i
        · rw [if_pos y, if_pos y]
        · rw [if_neg y, if_neg y]
          obtain ⟨j, hj, rfl⟩ := nI_of (ge_m1 h0.2.2 z)
          have hjm : j < m1 := by
            rcases Nat.lt_or_ge j m1 with x | x
            · exact x
            · exact absurd (nI_le x hj) y
          rw [nI_clamp hj, q4 j hjm]
    · exact absurd h0 g0
  · rcases h' with ⟨g0, _⟩ | ⟨g0, g1⟩
    · exact absurd g0 h0
    · rw [h1, g1]
theorem narR {F b : Nat} (hF : 20000000 ≤ F) (hb : bOK b) (w e i : Int32) (many nn : Int32) (figs row : Nat → Int32) (arr : Nat → Int64) : ∃ (r : Int64) (s : N5), f_X11_narrow F w e i (nI b) many figs row nn arr = some (r, s) ∧ anNar b w e i r := by
  have hb1 := hb.1
  unfold f_X11_narrow f_X11_narrow_J29 f_X11_narrow_J254
  rw [p_inI F w 1 6 (a' := 1) (c' := 6) rfl rfl, Option.bind_some]
  by_cases z1 : wi w 1 6 = 0
  · rw [if_pos z1]
    exact ⟨_, _, rfl, Or.inr ⟨fun q => q.1 z1, rfl⟩⟩
  · rw [if_neg z1, p_inI F e 1 6 (a' := 1) (c' := 6) rfl rfl, Option.bind_some]
    by_cases z2 : wi e 1 6 = 0
    · rw [if_pos z2]
      exact ⟨_, _, rfl, Or.inr ⟨fun q => q.2.1 z2, rfl⟩⟩
    · rw [if_neg z2]
      by_cases z3 : (-1 : Int32) ≤ i
      · rw [if_pos z3]
        obtain ⟨w', k1, k2, rfl⟩ := wi_k (a := 1) (c := 6) (by omega) (by omega) z1
        obtain ⟨e', l1, l2, rfl⟩ := wi_k (a := 1) (c := 6) (by omega) (by omega) z2
        obtain ⟨row', e1, h1⟩ := clr_loop (F := F) (w := w') (many := many) (nn := (0 : Int32)) (figs := figs) (row := row) (u := arr) (by omega) k2
        have hpow : b ^ w' ≤ 16 ^ 6 := Nat.le_trans (Nat.pow_le_pow_left hb.2 w') (Nat.pow_le_pow_right (by omega) k2)
        have h166 : (16 : Nat) ^ 6 = 16777216 := by decide
        have hvl : valF b (fun _ => 0) w' < b ^ w' := valF_lt w' (fun i _ => by omega)
        obtain ⟨s, e2, m, a, h2, h3, h4⟩ := p_narrowL (F := F) hF hb k1 k2 l2 F (b ^ w' - valF b (fun _ => 0) w' + 1) ((1 : Int32), many, figs, row', (0 : Int32), arr) (Or.inl ⟨rfl, 0, fun _ => 0, fun _ => 0, rfl, fun i hi => absurd hi (Nat.not_lt_zero _), h1, fun i j _ _ => Nat.le_refl _, fun i _ => by show 0 < b; omega, ⟨fun i j _ hj => absurd hj (Nat.not_lt_zero _), fun n => ⟨fun q => by
            obtain ⟨_, t, t1, t2, t3, k, t4, t5, t6⟩ := q
            exact absurd t6 (Nat.not_lt_zero _), fun q => by obtain ⟨i, hi, _⟩ := q; exact absurd hi (Nat.not_lt_zero _)⟩⟩, rfl⟩) (by omega)
        have hbd := SA_bd hb k1 k2 l2 h4 (fun n q => q)
        rw [e1, Option.bind_some, e2, Option.bind_some]
        have base : ∀ r : Int64, r = (if i = (-1 : Int32) then lN m else if nI m ≤ i then (-4 : Int64) else lN (a i.toNatClampNeg)) → anNar b (nI w') (nI e') i r := fun r hr => Or.inl ⟨⟨z1, z2, z3⟩, w', e', m, a, k1, k2, l2, rfl, rfl, h4, hr⟩
        by_cases z4 : i = (-1 : Int32)
        · rw [if_pos z4, h2, nI_l (by omega)]
          exact ⟨_, _, rfl, base _ (by rw [if_pos z4])⟩
        · rw [if_neg z4, h2]
          by_cases z5 : nI m ≤ i
          · rw [if_pos z5]
            exact ⟨_, _, rfl, base _ (by rw [if_neg z4, if_pos z5])⟩
          · obtain ⟨j, hj, rfl⟩ := nI_of (ge_m1 z3 z4)
            have hjm : j < m := by
              rcases Nat.lt_or_ge j m with x | x
              · exact x
              · exact absurd (nI_le x hj) z5
            rw [if_neg z5, ck_pos (in_ok (by omega) (by omega)), nI_clamp hj, h3 j hjm]
            exact ⟨_, _, rfl, base _ (by rw [if_neg z4, if_neg z5, nI_clamp hj])⟩
      · rw [if_neg z3]
        exact ⟨_, _, rfl, Or.inr ⟨fun q => z3 q.2.2, rfl⟩⟩
