/-! rounds and come: the class's answers are the reference's -/
def lsA (i : Int32) (g : Nat → Nat) : Nat ⊕ Nat → Int64
  | .inl k => lN (g k)
  | .inr t => if i = (-1 : Int32) then lN t else (-4 : Int64)
theorem leastAt_cls {F B Z NN M : Nat} {s : Nat → Nat} {ls ln fb od : Nat → Nat} {leasts : Nat → Int64} {lengths firstBy order : Nat → Int32} {i : Int32} (hF : 40000 ≤ F) (hM : M ≤ 20000) (hZ : Z < 32768) (hS : CS s B Z ls ln fb od) (hC : CA Z NN ls ln fb od leasts lengths firstBy order) : f_X0_leastAt F (nI M) i (nI Z) NN leasts NN firstBy NN order = some (lsA i (fun k => ls (od k)) (scn (fun k => decide (fb (od k) ≤ M)) i Z 0 0)) := by
  obtain ⟨hN1, hN2⟩ := CA_N hC
  have hZN := hC.2.1
  obtain ⟨s', -, A⟩ := scan_lp (B := f_X0_leastAt_B5 F (nI M) i (nI Z) NN leasts NN firstBy NN order) (fun k => decide (fb (od k) ≤ M)) i Z 0 (fun _ : Unit => True) (fun _ t j => (nI t, nI j)) (fun _ k => .inl (lN (ls (od k)))) (fun _ t => .inr (nI t)) (by
    intro rec s t _
    unfold f_X0_leastAt_B5
    dsimp only
    rw [if_pos (nI_le (Nat.le_refl _) (by omega))]) (by
    intro rec s t j _ _ hj
    refine ⟨(), trivial, ?_⟩
    have hod := hS.2.1 j hj
    obtain ⟨c1, c2, c3, c4⟩ := hC.2.2 j hj
    obtain ⟨d1, d2, d3, d4⟩ := hC.2.2 (od j) hod
    have hfb := (hS.1 (od j) hod).2.2
    unfold f_X0_leastAt_B5 f_X0_leastAt_J50
    dsimp only
    rw [if_neg (nI_ge hj (by omega)), ck_pos (in_ok (by omega) (by omega)), nI_clamp (n := j) (by omega), c4, ck_pos (in_ok (by omega) (by omega)), nI_clamp (n := od j) (by omega), d3, d1, nI_1, nI_1, ck_pos (show ¬ (nI (od j) < 0 ∨ NN ≤ od j) from fun q => q.elim (nI_pos (by omega)) (by omega))]
    by_cases z : fb (od j) ≤ M
    · rw [if_neg (nI_nlt z (by omega)), if_pos (decide_eq_true z)]
    · rw [if_pos (nI_lt (by omega) (by omega)), if_neg (fun q => z (of_decide_eq_true q))]) (F := F) (by omega) (by omega) () trivial
  have A' : lp (f_X0_leastAt_B5 F (nI M) i (nI Z) NN leasts NN firstBy NN order) F ((0 : Int32), (0 : Int32)) = _ := A
  unfold f_X0_leastAt
  rw [A', Nat.sub_zero, Option.bind_some]
  have hbd : ∀ (r x t : Nat), t + r < 2 ^ 31 → ∀ u, scn (fun k => decide (fb (od k) ≤ M)) i r x t = .inr u → u < 2 ^ 31 := by
    intro r
    induction r with
    | zero => intro x t h u q; injection q with q; omega
    | succ r ih =>
      intro x t h u q
      unfold scn at q
      split at q
      · split at q
        · cases q
        · exact ih (x + 1) (t + 1) (by omega) u q
      · exact ih (x + 1) t (by omega) u q
  cases hc : scn (fun k => decide (fb (od k) ≤ M)) i Z 0 0 with
  | inl x => rfl
  | inr t =>
    have := hbd Z 0 0 (by omega) t hc
    dsimp only [Sum.elim_inr, lsA]
    rw [p_count, Option.bind_some]
    split
    · rw [nI_l this]
    · rfl
theorem KN_top {s : Nat → Nat} {B n : Nat} {D : List Nat} (hA : AM s B D) (hn : n < B) : ∀ i, it s i n ≤ TOP := fun i => by
  have := (AM_it hA hn i).1
  have := hA.2.2.2
  unfold TOP
  omega
theorem KN_TL {s : Nat → Nat} {B K Z : Nat} {D : List Nat} {ls fb : Nat → Nat} {tl ho : Nat → Int32} (hA : AM s B D) (h : KN s K Z ls fb tl ho) {n : Nat} (hn : n < K) (hn2 : n < 3001) : TL s n (tl n) := by
  obtain ⟨t, r, h0, c1, c2, c3, c4, c5⟩ := h.1 n hn
  have hB := hA.2.2.1
  refine ⟨_, _, CY_CH c1 (KN_top hA (by omega)), ?_⟩
  rw [(c4 hn2).1]
  unfold rtT
  have := c1.1
  by_cases z : t + r ≤ 300
  · rw [if_pos z, if_pos z, if_neg (by omega), if_pos z]
  · rw [if_neg z, if_neg z, if_pos rfl]
theorem ls_inj {s : Nat → Nat} {B Z : Nat} {ls ln fb od : Nat → Nat} (hS : CS s B Z ls ln fb od) {h h' : Nat} (h1 : h < Z) (h2 : h' < Z) (e : ls h = ls h') : h = h' := by
  obtain ⟨i, i1, rfl⟩ := hS.2.2.2 h h1
  obtain ⟨j, j1, rfl⟩ := hS.2.2.2 h' h2
  rcases Nat.lt_trichotomy i j with z | z | z
  · have := hS.2.2.1 i j z j1; omega
  · rw [z]
  · have := hS.2.2.1 j i z i1; omega
theorem rounds_agree {F b st M K Z NN : Nat} {tb : Nat → Nat} {f : Nat → Int32} {ls ln fb od : Nat → Nat} {tl ho : Nat → Int32} {leasts : Nat → Int64} {lengths firstBy order : Nat → Int32} {i : Int32} (hF : 40000 ≤ F) (hb : bOK b) (hf : tbOK f tb) (hst : st = 0 ∨ st = 3) (hM : M ≤ 20000) (hi : (-1 : Int32) ≤ i) (hMK : M < K) (hS : CS (stepN b tb st) (BB b) Z ls ln fb od) (hC : CA Z NN ls ln fb od leasts lengths firstBy order) (hN : KN (stepN b tb st) K Z ls fb tl ho) (many mt mr rds : Int32) (figs : Nat → Int32) (arr : Nat → Int64) : ∃ r many' figs' mt' mr' rds' arr', f_X11_rounds F (nI st) (nI M) i (nI b) f many figs mt mr rds arr = some (r, many', figs', mt', mr', rds', arr') ∧ f_X0_leastAt F (nI M) i (nI Z) NN leasts NN firstBy NN order = some r := by
  have hA := AM_of (st := st) hb (tbB_of hf) hst
  have hBB := hA.2.2.1
  have hZ := CS_Z hA hS
  have hDl := hA.2.1
  obtain ⟨many', figs', mt', mr', m, a, arr', e1, hm, harr, hSA⟩ := rounds_loop (F := F) (st := st) (by omega) hb hf (by omega) hM many mt mr figs arr
  obtain ⟨m2, a2, s1, s2, s3, s4⟩ := scn_SA (P := fun k => decide (fb (od k) ≤ M)) (g := fun k => ls (od k)) (Z := Z) (i := i) (fun j k h1 h2 => hS.2.2.1 j k h1 h2) Z 0 0 (fun _ => 0) (by omega) ⟨fun i j _ hj => absurd hj (Nat.not_lt_zero _), fun n => ⟨fun q => by
    obtain ⟨i, hi, _⟩ := q
    exact absurd hi (Nat.not_lt_zero _), fun q => by
    obtain ⟨i, hi, _⟩ := q
    exact absurd hi (Nat.not_lt_zero _)⟩⟩
  have hset : ∀ L, RLs (stepN b tb st) (M + 1) L ↔ ∃ k, k < Z ∧ decide (fb (od k) ≤ M) = true ∧ ls (od k) = L := by
    intro L
    constructor
    · rintro ⟨n, hn, t, r, q1, q2, q3, q4⟩
      obtain ⟨q5, q6⟩ := CH_CY q1 q2
      obtain ⟨t0, r0, h0, c1, c2, c3, c4, c5⟩ := hN.1 n (by omega)
      obtain ⟨rfl, rfl⟩ := CY_one c1 q5
      have hL := CM_one q3 (hS.1 h0 c2).1 q4 c3
      have hfb := c5 q6
      obtain ⟨k, k1, k2⟩ := hS.2.2.2 h0 c2
      exact ⟨k, k1, decide_eq_true (by rw [k2]; omega), by rw [k2, hL]⟩
    · rintro ⟨k, k1, k2, k3⟩
      have k2 := of_decide_eq_true k2
      have hod := hS.2.1 k k1
      rcases hN.2 (od k) hod with q | ⟨q1, t, r, q2, q3, q4⟩
      · omega
      · have hcl := (hS.1 (od k) hod).1
        have hr := CY_rnd q2 hcl q4
        have hch := CY_CH q2 (KN_top hA (by omega))
        rw [if_pos q3, if_pos q3] at hch
        exact ⟨fb (od k), by omega, t, r, hch, q2.1, by rw [← k3, hr]; exact hcl, by rw [← k3]; exact q4⟩
  obtain ⟨em, ea⟩ := SA_one hSA (SA_ext s1 (fun L => (hset L).symm))
  subst em
  have w2 : wi (nI M) 0 20000 = 1 := wi_in (c := 20000) hM (by omega)
  have hJ : f_X11_rounds F (nI st) (nI M) i (nI b) f many figs mt mr rds arr = f_X11_rounds_J9 F (nI st) (nI M) i (nI b) f many figs mt mr rds arr := by
    unfold f_X11_rounds
    rcases hst with rfl | rfl
    · rw [if_pos nI_0]
    · rw [if_neg (by decide), if_pos (show nI 3 = (3 : Int32) from rfl)]
  rw [hJ, leastAt_cls hF hM (by omega) hS hC]
  unfold f_X11_rounds_J9 f_X11_rounds_J110
  rw [p_inI F (nI M) 0 20000 (a' := 0) (c' := 20000) rfl rfl, Option.bind_some, w2, if_neg n10, if_pos hi, e1, Option.bind_some]
  dsimp only
  rcases s4 with ⟨k, j, q1, q2, rfl, q4, q5⟩ | ⟨q1, q2⟩
  · rw [q1, if_neg (nI_m1 (by omega)), if_neg (nI_ge q4 (by omega)), ck_pos (in_ok (by omega) (by omega)), nI_clamp (by omega), harr j q4, ea j q4, q5]
    exact ⟨_, _, _, _, _, _, _, rfl, rfl⟩
  · rw [q1]
    by_cases z : i = (-1 : Int32)
    · rw [if_pos z, nI_l (by omega)]
      exact ⟨_, _, _, _, _, _, _, rfl, by show some (if i = (-1 : Int32) then lN m else (-4 : Int64)) = _; rw [if_pos z]⟩
    · obtain ⟨j, hj, rfl⟩ := nI_of (ge_m1 hi z)
      have : m ≤ j := by
        rcases Nat.lt_or_ge j m with u | u
        · exact absurd rfl (q2 j (Nat.zero_le _) u)
        · exact u
      rw [if_neg z, if_pos (nI_le this hj)]
      exact ⟨_, _, _, _, _, _, _, rfl, by show some (if nI j = (-1 : Int32) then lN m else (-4 : Int64)) = _; rw [if_neg z]⟩
/-! come -/
theorem p_isRound {F n t r : Nat} {s : Nat → Nat} {told : Nat → Int64} (hF : 1000 ≤ F) (h : CH s n t r) (ht : ∀ i, i < t + r → told i = lN (it s i n)) : (f_X6_isRoundOfLeast F told (nI (t + r)) (nI t) (nI r) = some (1 : Int32) ∧ 0 < r ∧ t = 0 ∧ CL s n r) ∨ (f_X6_isRoundOfLeast F told (nI (t + r)) (nI t) (nI r) = some (0 : Int32) ∧ ¬ (0 < r ∧ t = 0 ∧ CL s n r)) := by
  obtain ⟨b1, b2, b3, b4⟩ := CH_bd h
  have htop := CH_top h
  unfold f_X6_isRoundOfLeast f_X6_isRoundOfLeast_J14
  by_cases y : r = 0
  · rw [if_pos (by rw [y]; exact nI_0)]
    exact Or.inr ⟨rfl, fun q => by omega⟩
  · rw [if_neg (nI_ne0 (by omega) (by omega))]
    by_cases u : t = 0
    · subst u
      rw [if_pos nI_0]
      obtain ⟨hcy, h300⟩ := CH_CY h (by omega)
      have ez : (0 : Int32).toNatClampNeg = 0 := rfl
      rw [Nat.zero_add] at ht ⊢
      obtain ⟨e, h1, h2⟩ := lp_ex (B := f_X6_isRoundOfLeast_B18 F told (nI r)) (fun q x => ∃ k, x = nI k ∧ 1 ≤ k ∧ k ≤ r ∧ (∀ i, i < k → n ≤ it s i n) ∧ q = r - k) (fun _ e => (e = .inr () ∧ ∀ i, i < r → n ≤ it s i n) ∨ (e = .inl (0 : Int32) ∧ ∃ i, i < r ∧ it s i n < n)) (by
        rintro rec q x ⟨k, rfl, hk1, hk, hmin, rfl⟩ hrec
        unfold f_X6_isRoundOfLeast_B18
        rcases Nat.lt_or_ge k r with z | z
        · have q0 := htop 0 (by omega)
          have qk := htop k (by omega)
          unfold TOP at q0 qk
          have e0 : it s 0 n = n := rfl
          rw [if_neg (nI_ge z (by omega)), ck_pos (in_ok (by omega) (by omega)), ck_pos (by decide), nI_clamp (by omega), ez, ht 0 (by omega), ht k z, nI_1, e0]
          by_cases v : n ≤ it s k n
          · rw [if_pos ((pk_lLE (by omega) (by omega)).mpr v)]
            refine hrec (r - (k + 1)) _ (by omega) ⟨k + 1, rfl, by omega, z, fun i hi => ?_, rfl⟩
            rcases Nat.lt_or_ge i k with w | w
            · exact hmin i w
            · have : i = k := by omega
              subst this; exact v
          · rw [if_neg (fun q => v ((pk_lLE (by omega) (by omega)).mp q))]
            exact ⟨_, rfl, Or.inr ⟨rfl, k, z, by omega⟩⟩
        · have : k = r := by omega
          subst this
          rw [if_pos (nI_le (Nat.le_refl _) (by omega))]
          exact ⟨_, rfl, Or.inl ⟨rfl, hmin⟩⟩) F (r - 1) (nI 1) ⟨1, rfl, Nat.le_refl _, by omega, fun i hi => by
            have : i = 0 := by omega
            subst this; exact Nat.le_refl _, rfl⟩ (by omega)
      have h1' : lp (f_X6_isRoundOfLeast_B18 F told (nI r)) F (1 : Int32) = some e := h1
      rw [h1', Option.bind_some]
      rcases h2 with ⟨rfl, h2⟩ | ⟨rfl, i, i1, i2⟩
      · refine Or.inl ⟨rfl, by omega, rfl, hcy, fun i => ?_⟩
        have hb : it s 0 n = it s r n := by
          have := hcy.2.1
          rw [Nat.zero_add] at this
          exact this.symm
        obtain ⟨k', k1, k2⟩ := it_back (show 0 < r by omega) hb i
        rw [k2]; exact h2 k' k1
      · refine Or.inr ⟨rfl, fun q => ?_⟩
        have := q.2.2.2 i
        omega
    · rw [if_neg (nI_ne0 (by omega) (by omega))]
      exact Or.inr ⟨rfl, fun q => u q.2.1⟩
def cntN (P : Nat → Bool) : Nat → Nat → Nat
  | 0, _ => 0
  | d + 1, n => (if P n = true then 1 else 0) + cntN P d (n + 1)
theorem cntN_s (P : Nat → Bool) (d n : Nat) : cntN P (d + 1) n = (if P n = true then 1 else 0) + cntN P d (n + 1) := rfl
/-- n comes to the round of L, and is told to come round -/
def CRd (s : Nat → Nat) (L n : Nat) : Prop := ∃ t r, CY s n t r ∧ t + r ≤ 300 ∧ CM s n L
noncomputable def crB (s : Nat → Nat) (L n : Nat) : Bool := @decide (CRd s L n) (Classical.propDecidable _)
theorem crB_t {s : Nat → Nat} {L n : Nat} : crB s L n = true ↔ CRd s L n := by
  unfold crB
  exact @decide_eq_true_iff (CRd s L n) (Classical.propDecidable _)
theorem comers_cls {F b st M K Z NN L r : Nat} {tb : Nat → Nat} {ls ln fb od : Nat → Nat} {tl ho : Nat → Int32} {leasts : Nat → Int64} {lengths firstBy order : Nat → Int32} (hF : 40000 ≤ F) (hb : bOK b) (ht : tbB tb) (hst : st = 0 ∨ st = 3) (hM : M ≤ 3000) (hMK : M < K) (hL : L ≤ TOP) (hcl : CL (stepN b tb st) L r) (hS : CS (stepN b tb st) (BB b) Z ls ln fb od) (hC : CA Z NN ls ln fb od leasts lengths firstBy order) (hN : KN (stepN b tb st) K Z ls fb tl ho) : f_X0_comersTo F (lN L) (nI M) ho (nI Z) NN leasts NN order = some (nI (cntN (crB (stepN b tb st) L) (M + 1) 0)) := by
  have hA := AM_of (st := st) hb ht hst
  have hB := hA.2.2.2
  have hZ := CS_Z hA hS
  have hDl := hA.2.1
  obtain ⟨hN1, hN2⟩ := CA_N hC
  have hZN := hC.2.1
  have hL2 : L ≤ 1000000000000000 := hL
  obtain ⟨k, k1, k2, k3, k4⟩ := p_rankOf (F := F) (L := L) hF hB hS hC (by omega)
  -- who comes to L has a home whose least number is L
  have home : ∀ n, n ≤ M → CRd (stepN b tb st) L n → ∃ h, h < Z ∧ ls h = L ∧ ho n = nI h := by
    rintro n hn ⟨t, r', q1, q2, q3⟩
    obtain ⟨t0, r0, h0, c1, c2, c3, c4, c5⟩ := hN.1 n (by omega)
    obtain ⟨rfl, rfl⟩ := CY_one c1 q1
    refine ⟨h0, c2, CM_one (hS.1 h0 c2).1 hcl c3 q3, ?_⟩
    rw [(c4 (by omega)).2]
    unfold rtH
    rw [if_pos q2]
  have none_ : (∀ h, h < Z → ls h ≠ L) → cntN (crB (stepN b tb st) L) (M + 1) 0 = 0 := by
    intro hno
    have : ∀ d n, n + d ≤ M + 1 → cntN (crB (stepN b tb st) L) d n = 0 := by
      intro d
      induction d with
      | zero => intro n _; rfl
      | succ d ih =>
        intro n hn
        unfold cntN
        rw [ih (n + 1) (by omega), if_neg (fun q => ?_)]
        obtain ⟨h, h1, h2, _⟩ := home n (by omega) (crB_t.mp q)
        exact hno h h1 h2
    exact this (M + 1) 0 (by omega)
  unfold f_X0_comersTo f_X0_comersTo_J33
  rw [k2, Option.bind_some]
  rcases Nat.lt_or_ge k Z with z | z
  · have hod := hS.2.1 k z
    obtain ⟨c1, c2, c3, c4⟩ := hC.2.2 k z
    obtain ⟨d1, d2, d3, d4⟩ := hC.2.2 (od k) hod
    have hls := (hS.1 (od k) hod).2.1
    rw [if_neg (nI_ge z (by omega)), ck_pos (in_ok (by omega) (by omega)), nI_clamp (n := k) (by omega), c4, ck_pos (in_ok (by omega) (by omega)), nI_clamp (n := od k) (by omega), d1]
    by_cases v : ls (od k) = L
    · rw [if_pos (by rw [v])]
      have hloop : lp (f_X0_comersTo_B41 F (nI M) ho NN order (nI k)) F ((0 : Int32), (0 : Int32)) = some (nI (cntN (crB (stepN b tb st) L) (M + 1) 0)) := by
        refine lp_by (B := f_X0_comersTo_B41 F (nI M) ho NN order (nI k)) (fun q x e => ∃ j c, x = (nI c, nI j) ∧ j ≤ M + 1 ∧ e = nI (c + cntN (crB (stepN b tb st) L) (M + 1 - j) j) ∧ q = M + 1 - j) ?_ F (M + 1) _ _ ⟨0, 0, rfl, by omega, by rw [Nat.zero_add]; rfl, rfl⟩ (by omega)
        rintro rec q x e ⟨j, c, rfl, hj, rfl, rfl⟩ hrec
        unfold f_X0_comersTo_B41 f_X0_comersTo_J77
        dsimp only
        rcases Nat.lt_or_ge M j with w | w
        · rw [if_pos (nI_lt w (by omega)), show M + 1 - j = 0 by omega]
          rfl
        · rw [if_neg (nI_nlt w (by omega)), if_neg (show ¬ (3001 : Int32) ≤ nI j from nI_ge (b := 3001) (by omega) (by omega)), ck_pos (in_ok (by omega) (by omega)), ck_pos (in_ok (by omega) (by omega)), nI_clamp (n := j) (by omega), nI_clamp (n := k) (by omega), c4, nI_1, nI_1, show M + 1 - j = (M + 1 - (j + 1)) + 1 by omega]
          unfold cntN
          by_cases u : CRd (stepN b tb st) L j
          · obtain ⟨h, h1, h2, h3⟩ := home j w u
            have eh : h = od k := ls_inj hS h1 hod (by rw [h2, v])
            rw [if_pos (by rw [h3, eh]), if_pos (crB_t.mpr u)]
            exact hrec (M + 1 - (j + 1)) _ _ (by omega) ⟨j + 1, c + 1, rfl, by omega, by rw [show c + (1 + cntN (crB (stepN b tb st) L) (M + 1 - (j + 1)) (j + 1)) = c + 1 + cntN (crB (stepN b tb st) L) (M + 1 - (j + 1)) (j + 1) by omega], by omega⟩
          · have hne : ¬ ho j = nI (od k) := by
              obtain ⟨t0, r0, h0, p1, p2, p3, p4, p5⟩ := hN.1 j (by omega)
              rw [(p4 (by omega)).2]
              unfold rtH
              by_cases x : t0 + r0 ≤ 300
              · rw [if_pos x]
                intro q
                have e0 := (nI_eq (by omega) (by omega)).mp q
                exact u ⟨t0, r0, p1, x, by rw [← v, ← e0]; exact p3⟩
              · rw [if_neg x]
                exact fun q => nI_m1 (by omega) q.symm
            rw [if_neg hne, if_neg (fun q => u (crB_t.mp q))]
            exact hrec (M + 1 - (j + 1)) _ _ (by omega) ⟨j + 1, c, rfl, by omega, by rw [Nat.zero_add], by omega⟩
      rw [hloop, Option.bind_some]
    · rw [if_neg (fun q => v ((pk_lEQ (by omega) (by omega)).mp q)), none_ (fun h h1 h2 => ?_)]
      · rfl
      · obtain ⟨j, j1, j2⟩ := hS.2.2.2 h h1
        rw [← j2] at h2
        rcases Nat.lt_trichotomy j k with w | w | w
        · have := k3 j w; omega
        · rw [w] at h2; exact v h2
        · have := hS.2.2.1 k j w j1
          have := k4 z
          omega
  · rw [if_pos (nI_le z (by omega)), none_ (fun h h1 h2 => ?_)]
    · rfl
    · obtain ⟨j, j1, j2⟩ := hS.2.2.2 h h1
      rw [← j2] at h2
      have := k3 j (by omega)
      omega
/-- the reference's come: where L is no such least number -/
theorem come_no {F b st M L t r w : Nat} {tb : Nat → Nat} {f : Nat → Int32} (hF : 40000 ≤ F) (hb : bOK b) (hf : tbOK f tb) (hst : st = 0 ∨ st = 3) (hM : M ≤ 3000) (hw : w ≤ 1) (hL : L ≤ TOP) (hc : CH (stepN b tb st) L t r) (hno : ¬ (0 < r ∧ t = 0 ∧ CL (stepN b tb st) L r)) (many mt mr : Int32) (figs : Nat → Int32) : ∃ many' figs' mt' mr', f_X11_come F (nI st) (nI M) (lN L) (nI w) (nI b) f many figs mt mr = some ((-4 : Int32), many', figs', mt', mr') := by
  have hL2 : L ≤ 1000000000000000 := hL
  have w2 : wi (nI M) 0 3000 = 1 := wi_in (c := 3000) hM (by omega)
  have w3 : wi (nI w) 0 1 = 1 := wi_in (c := 1) hw (by omega)
  have w4 : wl (lN L) 0 1000000000000000 = 1 := by
    unfold wl
    rw [if_neg (fun q => by
      have := (pk_lLT (a := L) (b := 0) (by omega) (by omega)).mp q
      omega), if_neg (fun q => by
      have := (pk_lLT (a := 1000000000000000) (b := L) (by omega) (by omega)).mp q
      omega)]
  have hJ : f_X11_come F (nI st) (nI M) (lN L) (nI w) (nI b) f many figs mt mr = f_X11_come_J9 F (nI st) (nI M) (lN L) (nI w) (nI b) f many figs mt mr := by
    unfold f_X11_come
    rcases hst with rfl | rfl
    · rw [if_pos nI_0]
    · rw [if_neg (by decide), if_pos (show nI 3 = (3 : Int32) from rfl)]
  rw [hJ]
  unfold f_X11_come_J9 f_X11_come_J82
  obtain ⟨M', G', t1, r1, c1, c2⟩ := p_layChain (F := F) (many := many) (figs := figs) (tail := mt) (round := mr) (by omega) hb hf (show st ≤ 5 by omega) hL
  obtain ⟨rfl, rfl⟩ := CH_one c1 hc
  obtain ⟨b1, b2, b3, b4⟩ := CH_bd c1
  rw [p_inI F (nI M) 0 3000 (a' := 0) (c' := 3000) rfl rfl, Option.bind_some, w2, if_neg n10, p_in, Option.bind_some, w4, if_neg n10, p_inI F (nI w) 0 1 (a' := 0) (c' := 1) rfl rfl, Option.bind_some, w3, if_neg n10, c2, Option.bind_some]
  dsimp only
  by_cases y : r1 = 0
  · rw [if_pos (by rw [y]; exact nI_0)]
    exact ⟨_, _, _, _, rfl⟩
  · rw [if_neg (nI_ne0 (by omega) (by omega))]
    by_cases u : t1 = 0
    · subst u
      rw [if_neg (by decide)]
      obtain ⟨L', M2, G2, e3, l1, l2, l3⟩ := p_leastOf (F := F) (n := L) (many := M') (figs := G') (by omega) hb hf (show st ≤ 5 by omega) hL c1 (by omega)
      unfold TOP at l3
      rw [e3, Option.bind_some]
      dsimp only
      rw [if_neg (fun q => hno ⟨by omega, rfl, by
        have e := (pk_lEQ (by omega) (by omega)).mp q
        rw [e] at l1
        exact l1⟩)]
      exact ⟨_, _, _, _, rfl⟩
    · rw [if_pos (show (0 : Int32) < nI t1 from nI_lt (a := 0) (b := t1) (by omega) (by omega))]
      exact ⟨_, _, _, _, rfl⟩
theorem come_yes {F b st M L r w : Nat} {tb : Nat → Nat} {f : Nat → Int32} (hF : 40000 ≤ F) (hb : bOK b) (hf : tbOK f tb) (hst : st = 0 ∨ st = 3) (hM : M ≤ 3000) (hw : w ≤ 1) (hL : L ≤ TOP) (hc : CH (stepN b tb st) L 0 r) (hr : 0 < r) (hcl : CL (stepN b tb st) L r) (many mt mr : Int32) (figs : Nat → Int32) : ∃ many' figs' mt' mr', f_X11_come F (nI st) (nI M) (lN L) (nI w) (nI b) f many figs mt mr = some (if nI w = 0 then nI (cntN (crB (stepN b tb st) L) (M + 1) 0) else nI r, many', figs', mt', mr') := by
  have hL2 : L ≤ 1000000000000000 := hL
  have hA := AM_of (st := st) hb (tbB_of hf) hst
  have hBB := hA.2.2.1
  have w2 : wi (nI M) 0 3000 = 1 := wi_in (c := 3000) hM (by omega)
  have w3 : wi (nI w) 0 1 = 1 := wi_in (c := 1) hw (by omega)
  have w4 : wl (lN L) 0 1000000000000000 = 1 := by
    unfold wl
    rw [if_neg (fun q => by
      have := (pk_lLT (a := L) (b := 0) (by omega) (by omega)).mp q
      omega), if_neg (fun q => by
      have := (pk_lLT (a := 1000000000000000) (b := L) (by omega) (by omega)).mp q
      omega)]
  have hJ : f_X11_come F (nI st) (nI M) (lN L) (nI w) (nI b) f many figs mt mr = f_X11_come_J9 F (nI st) (nI M) (lN L) (nI w) (nI b) f many figs mt mr := by
    unfold f_X11_come
    rcases hst with rfl | rfl
    · rw [if_pos nI_0]
    · rw [if_neg (by decide), if_pos (show nI 3 = (3 : Int32) from rfl)]
  rw [hJ]
  unfold f_X11_come_J9 f_X11_come_J160
  obtain ⟨M', G', t1, r1, c1, c2⟩ := p_layChain (F := F) (many := many) (figs := figs) (tail := mt) (round := mr) (by omega) hb hf (show st ≤ 5 by omega) hL
  obtain ⟨rfl, rfl⟩ := CH_one c1 hc
  obtain ⟨b1, b2, b3, b4⟩ := CH_bd c1
  obtain ⟨L', M2, G2, e3, l1, l2, l3⟩ := p_leastOf (F := F) (n := L) (many := M') (figs := G') (by omega) hb hf (show st ≤ 5 by omega) hL c1 (by omega)
  have eL : L' = L := CM_one l1 hcl l2 ⟨0, rfl⟩
  subst eL
  rw [p_inI F (nI M) 0 3000 (a' := 0) (c' := 3000) rfl rfl, Option.bind_some, w2, if_neg n10, p_in, Option.bind_some, w4, if_neg n10, p_inI F (nI w) 0 1 (a' := 0) (c' := 1) rfl rfl, Option.bind_some, w3, if_neg n10, c2, Option.bind_some]
  dsimp only
  rw [if_neg (nI_ne0 (by omega) (by omega)), if_neg (by decide), e3, Option.bind_some]
  dsimp only
  rw [if_pos rfl]
  obtain ⟨e, h1, c, many', figs', mt', mr', rfl, h2⟩ := lp_ex (B := f_X11_come_B91 F (nI st) (nI M) (lN L') (nI w) (nI b) f (nI r1)) (fun q x => ∃ j c many figs mt mr, x = (nI c, nI j, many, figs, mt, mr) ∧ j ≤ M + 1 ∧ (nI w = 0 → c + cntN (crB (stepN b tb st) L') (M + 1 - j) j = cntN (crB (stepN b tb st) L') (M + 1) 0) ∧ q = M + 1 - j) (fun _ e => ∃ c many figs mt mr, e = (nI c, many, figs, mt, mr) ∧ (nI w = 0 → c = cntN (crB (stepN b tb st) L') (M + 1) 0)) (by
    rintro rec q x ⟨j, c, many, figs, mt, mr, rfl, hj, hcn, rfl⟩ hrec
    unfold f_X11_come_B91 f_X11_come_J138 f_X11_come_J139
    dsimp only
    rcases Nat.lt_or_ge M j with z | z
    · rw [if_pos (nI_lt z (by omega))]
      rw [show M + 1 - j = 0 by omega] at hcn
      exact ⟨_, rfl, c, _, _, _, _, rfl, hcn⟩
    · rw [if_neg (nI_nlt z (by omega))]
      by_cases v : nI w = 0
      · obtain ⟨M3, G3, t3, r3, d1, d2⟩ := p_layChain (F := F) (many := many) (figs := figs) (tail := mt) (round := mr) (by omega) hb hf (show st ≤ 5 by omega) (n := j) (by unfold TOP; omega)
        obtain ⟨f1, f2, f3, f4⟩ := CH_bd d1
        have e0 : nI c + (0 : Int32) = nI c := nI_add c 0
        have hcn := hcn v
        rw [show M + 1 - j = (M + 1 - (j + 1)) + 1 by omega] at hcn
        rw [cntN_s _ (M + 1 - (j + 1)) j] at hcn
        have yes : CRd (stepN b tb st) L' j → ∀ M3 G3, ∃ e, rec (nI (c + 1), nI (j + 1), M3, G3, nI t3, nI r3) = some e ∧ ∃ c many figs mt mr, e = (nI c, many, figs, mt, mr) ∧ (nI w = 0 → c = cntN (crB (stepN b tb st) L') (M + 1) 0) := by
          intro u M3 G3
          rw [if_pos (crB_t.mpr u)] at hcn
          exact hrec (M + 1 - (j + 1)) _ (by omega) ⟨j + 1, c + 1, _, _, _, _, rfl, by omega, fun _ => by omega, rfl⟩
        have no : ¬ CRd (stepN b tb st) L' j → ∀ M3 G3, ∃ e, rec (nI c, nI (j + 1), M3, G3, nI t3, nI r3) = some e ∧ ∃ c many figs mt mr, e = (nI c, many, figs, mt, mr) ∧ (nI w = 0 → c = cntN (crB (stepN b tb st) L') (M + 1) 0) := by
          intro u M3 G3
          rw [if_neg (fun q => u (crB_t.mp q)), Nat.zero_add] at hcn
          exact hrec (M + 1 - (j + 1)) _ (by omega) ⟨j + 1, c, _, _, _, _, rfl, by omega, fun _ => by omega, rfl⟩
        rw [if_pos v, nI_l (by omega), d2, Option.bind_some]
        dsimp only
        rw [e0, nI_1, nI_1]
        by_cases y : r3 = r1
        · rw [if_pos (by rw [y])]
          obtain ⟨L3, M4, G4, e4, n1, n2, n3⟩ := p_leastOf (F := F) (n := j) (many := M3) (figs := G3) (by omega) hb hf (show st ≤ 5 by omega) (by unfold TOP; omega) d1 (by omega)
          unfold TOP at n3
          rw [e4, Option.bind_some]
          dsimp only
          by_cases x : L3 = L'
          · rw [if_pos (by rw [x])]
            obtain ⟨g1, g2⟩ := CH_CY d1 (by omega)
            exact yes ⟨t3, r3, g1, g2, by rw [← x]; exact n2⟩ M4 G4
          · rw [if_neg (fun q => x ((pk_lEQ (by omega) (by omega)).mp q))]
            exact no (fun q => by
              obtain ⟨tt, rr, q1, q2, q3⟩ := q
              exact x (CM_one n1 hcl n2 q3)) M4 G4
        · rw [if_neg (fun q => y ((nI_eq (by omega) (by omega)).mp q))]
          refine no (fun q => ?_) M3 G3
          obtain ⟨tt, rr, q1, q2, q3⟩ := q
          have hch := CY_CH q1 (KN_top hA (by omega))
          rw [if_pos q2, if_pos q2] at hch
          have := (CH_one d1 hch).2
          have := CY_rnd q1 hcl q3
          omega
      · rw [if_neg v]
        exact ⟨_, rfl, c, _, _, _, _, rfl, fun q => absurd q v⟩) F (M + 1) (nI 0, nI 0, M2, G2, nI 0, nI r1) ⟨0, 0, _, _, _, _, rfl, by omega, fun _ => by rw [Nat.zero_add]; rfl, rfl⟩ (by omega)
  have h1' : lp (f_X11_come_B91 F (nI st) (nI M) (lN L') (nI w) (nI b) f (nI r1)) F ((0 : Int32), (0 : Int32), M2, G2, nI 0, nI r1) = some (nI c, many', figs', mt', mr') := h1
  rw [h1', Option.bind_some]
  by_cases v : nI w = 0
  · rw [if_pos v, if_pos v, h2 v]
    exact ⟨_, _, _, _, rfl⟩
  · rw [if_neg v, if_neg v]
    exact ⟨_, _, _, _, rfl⟩
