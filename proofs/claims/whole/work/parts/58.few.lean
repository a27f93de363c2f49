/-! few, withAll, summed: the same answers -/
def alB (w : Int32) : Nat → Bool := fun d => decide ((w >>> (nI d &&& 31)) &&& (1 : Int32) = 1)
def alK (K : Nat) (w : Int32) : Nat → Bool := if K = 2 then fun _ => true else alB w
def RK (K b : Nat) (w : Int32) : Nat := if K = 0 then 1 else if K = 1 then 2 ^ (Dl (alB w) b).length else w.toNatClampNeg + 1
abbrev E12 : Type := (Nat → Int32) × (Nat → Int32) × (Nat → Int32) × Int32 × Int32 × Int32 × Int32 × Int32 × Int32 × Int32 × Int32 × Int32
/-- what a search holds of the one before -/
def seOK (F : Nat) (e : E12) : Prop := ∀ K b n, K ≤ 2 → bOK b → n < 2 ^ 31 → e.2.2.2.2.1 = nI K → e.2.2.2.2.2.1 = nI b → e.2.2.2.2.2.2.1 = nI n → ∀ j : Int32, (-1 : Int32) ≤ j → ∃ r, f_X7_figureAt F j e.2.1 e.2.2.2.2.2.2.2.2.2.2.1 e.2.2.2.2.2.2.2.2.2.2.2 = some r ∧ bfS (BQ (alK K e.2.2.2.2.2.2.2.1) K n (RK K b e.2.2.2.2.2.2.2.1) b) (RK K b e.2.2.2.2.2.2.2.1) j r
theorem p_allow {F b : Nat} {al : Nat → Bool} {A sz : Int32} {arr : Nat → Int32} (hF : 100 < F) (hb : bOK b) (h : ∀ d, d < b → ((A >>> (nI d &&& 31)) &&& (1 : Int32) = 1 ↔ al d = true)) : ∃ arr', f_X7_allow F A arr sz (nI b) = some (arr', nI (Dl al b).length) ∧ alC al arr' b := by
  have hb1 := hb.1
  have hb2 := hb.2
  obtain ⟨s, h1, h2⟩ := up_lp (B := f_X7_allow_B7 F A (nI b)) b (fun i (s : (Nat → Int32) × Int32) => (nI i, s.1, s.2)) (fun s => (s.1, s.2)) (fun i s => s.2 = nI (Dl al i).length ∧ ∀ k, k < (Dl al i).length → s.1 k = nI ((Dl al i).getD k 0)) (by
    intro rec i s hi hI
    obtain ⟨hI1, hI2⟩ := hI
    have hDl := Dl_le al i
    have eD : Dl al (i + 1) = if al i = true then Dl al i ++ [i] else Dl al i := rfl
    unfold f_X7_allow_B7 f_X7_allow_J53
    dsimp only
    rw [if_neg (nI_ge hi (by omega)), if_neg (show ¬ (16 : Int32) ≤ nI i from nI_ge (a := i) (b := 16) (by omega) (by omega)), eD]
    by_cases z : al i = true
    · rw [if_pos ((h i hi).mpr z), if_pos z, hI1, ck_pos (in_ok (by omega) (by omega)), nI_clamp (by omega), nI_1, nI_1]
      refine ⟨(upd s.1 (Dl al i).length (nI i), nI ((Dl al i).length + 1)), ⟨by rw [List.length_append, List.length_singleton], fun k hk => ?_⟩, rfl⟩
      rw [List.length_append, List.length_singleton] at hk
      dsimp only
      by_cases e : k = (Dl al i).length
      · rw [e, pk_us, List.getD_eq_getElem?_getD, List.getElem?_append_right (Nat.le_refl _), Nat.sub_self]
        rfl
      · rw [pk_un e, List.getD_eq_getElem?_getD, List.getElem?_append_left (by omega), ← List.getD_eq_getElem?_getD]
        exact hI2 k (by omega)
    · rw [if_neg (fun q => z ((h i hi).mp q)), if_neg z, nI_1]
      exact ⟨s, ⟨hI1, hI2⟩, rfl⟩) (by
    intro rec s hI
    unfold f_X7_allow_B7
    dsimp only
    rw [if_pos (nI_le (Nat.le_refl _) (by omega))]) F 0 (arr, (0 : Int32)) (Nat.zero_le _) ⟨rfl, fun k hk => absurd hk (Nat.not_lt_zero _)⟩ (by omega)
  have h2' : lp (f_X7_allow_B7 F A (nI b)) F ((0 : Int32), arr, (0 : Int32)) = some (s.1, s.2) := h2
  refine ⟨s.1, ?_, h1.2⟩
  unfold f_X7_allow
  rw [h2', Option.bind_some, ← h1.1]
theorem p_J98 {F K n R b : Nat} {al : Nat → Bool} {w as rules qd goal len kind base n0 : Int32} {arr queue fr : Nat → Int32} (hF : 60000 ≤ F) (hW : WK K n R b) (hA : alC al arr b) (hk : kind = nI K) (hbs : base = nI b) (hn0 : n0 = nI n) (has' : as = nI (Dl al b).length) : ∃ e : E12, f_X7_seek_J98 F (nI n) (nI R) queue fr arr as kind base n0 w rules qd goal len = some e ∧ e.2.2.2.2.1 = nI K ∧ e.2.2.2.2.2.1 = nI b ∧ e.2.2.2.2.2.2.1 = nI n ∧ e.2.2.2.2.2.2.2.1 = w ∧ ∀ j : Int32, (-1 : Int32) ≤ j → ∃ r, f_X7_figureAt F j e.2.1 e.2.2.2.2.2.2.2.2.2.2.1 e.2.2.2.2.2.2.2.2.2.2.2 = some r ∧ bfS (BQ al K n R b) R j r := by
  subst hk hbs hn0 has'
  have hR : 1 ≤ R := hW.2.2.1
  obtain ⟨s, e1, h1⟩ := p_walk (F := F) (queue := queue) (fr := fr) (qd := qd) hF hW hA
  obtain ⟨l, e2, h2⟩ := p_measure (F := F) (l0 := len) hF hW h1
  have eg : (nI R - (1 : Int32)) * nI n = nI ((R - 1) * n) := by
    obtain ⟨m, rfl⟩ : ∃ m, R = m + 1 := ⟨R - 1, by omega⟩
    rw [nI_pred, pk_mul, Nat.add_sub_cancel]
  unfold f_X7_seek_J98
  rw [eg, e1, Option.bind_some]
  dsimp only
  rw [e2, Option.bind_some]
  exact ⟨_, rfl, rfl, rfl, rfl, rfl, h2⟩
theorem alK_n {K : Nat} {w : Int32} (h : K ≠ 2) : alK K w = alB w := if_neg h
theorem m1_bits : ∀ d, d < 16 → (((-1 : Int32) >>> (nI d &&& 31)) &&& (1 : Int32) = 1) := by decide +kernel
theorem p_J34 {F K n b : Nat} {w as rules qd goal len kind base n0 want : Int32} {arr queue fr : Nat → Int32} (hF : 60000 ≤ F) (hW : WK K n (RK K b w) b) (hw : K = 2 → ∃ s, s < 1000 ∧ w = nI s) : ∃ e : E12, f_X7_seek_J34 F (nI K) (nI b) (nI n) w queue fr arr as kind base n0 want rules qd goal len = some e ∧ e.2.2.2.2.1 = nI K ∧ e.2.2.2.2.2.1 = nI b ∧ e.2.2.2.2.2.2.1 = nI n ∧ e.2.2.2.2.2.2.2.1 = w ∧ ∀ j : Int32, (-1 : Int32) ≤ j → ∃ r, f_X7_figureAt F j e.2.1 e.2.2.2.2.2.2.2.2.2.2.1 e.2.2.2.2.2.2.2.2.2.2.2 = some r ∧ bfS (BQ (alK K w) K n (RK K b w) b) (RK K b w) j r := by
  have hW' := hW
  obtain ⟨w1, w2, w3, w4, w5, w6, w7⟩ := hW'
  have hDl := Dl_le (alB w) b
  have hb2 := w7.2
  unfold f_X7_seek_J34 f_X7_seek_J67
  have hK : K = 0 ∨ K = 1 ∨ K = 2 := by omega
  rcases hK with rfl | rfl | rfl
  · obtain ⟨arr', e1, h1⟩ := p_allow (F := F) (al := alB w) (A := w) (sz := as) (arr := arr) (by omega) w7 (fun d _ => decide_eq_true_iff.symm)
    rw [if_neg (by decide), e1, Option.bind_some, if_neg (by decide), if_neg (by decide)]
    have eR : RK 0 b w = 1 := rfl
    have eA : alK 0 w = alB w := rfl
    rw [eR, eA]
    rw [eR] at hW
    exact p_J98 hF hW h1 rfl rfl rfl rfl
  · obtain ⟨arr', e1, h1⟩ := p_allow (F := F) (al := alB w) (A := w) (sz := as) (arr := arr) (by omega) w7 (fun d _ => decide_eq_true_iff.symm)
    rw [if_neg (by decide), e1, Option.bind_some, if_pos (by decide)]
    have eR : RK 1 b w = 2 ^ (Dl (alB w) b).length := rfl
    have eA : alK 1 w = alB w := rfl
    dsimp only
    rw [eR, eA, one_shl (by omega)]
    rw [eR] at hW
    exact p_J98 hF hW h1 rfl rfl rfl rfl
  · obtain ⟨s, hs, rfl⟩ := hw rfl
    obtain ⟨arr', e1, h1⟩ := p_allow (F := F) (al := fun _ => true) (A := (-1 : Int32)) (sz := as) (arr := arr) (by omega) w7 (fun d hd => ⟨fun _ => rfl, fun _ => m1_bits d (by omega)⟩)
    rw [if_pos (by decide), e1, Option.bind_some, if_neg (by decide), if_pos (by decide)]
    have eR : RK 2 b (nI s) = s + 1 := by
      have : RK 2 b (nI s) = (nI s).toNatClampNeg + 1 := rfl
      rw [this, nI_clamp (by omega)]
    have eA : alK 2 (nI s) = fun _ => true := rfl
    dsimp only
    rw [eR, eA, nI_1]
    rw [eR] at hW
    exact p_J98 hF hW h1 rfl rfl rfl rfl
theorem p_seek {F K n b : Nat} {w : Int32} {e : E12} (hF : 60000 ≤ F) (hW : WK K n (RK K b w) b) (hw : K = 2 → ∃ s, s < 1000 ∧ w = nI s) (h : seOK F e) : ∃ e' : E12, f_X7_seek F (nI K) (nI b) (nI n) w e.1 e.2.1 e.2.2.1 e.2.2.2.1 e.2.2.2.2.1 e.2.2.2.2.2.1 e.2.2.2.2.2.2.1 e.2.2.2.2.2.2.2.1 e.2.2.2.2.2.2.2.2.1 e.2.2.2.2.2.2.2.2.2.1 e.2.2.2.2.2.2.2.2.2.2.1 e.2.2.2.2.2.2.2.2.2.2.2 = some e' ∧ seOK F e' ∧ ∀ j : Int32, (-1 : Int32) ≤ j → ∃ r, f_X7_figureAt F j e'.2.1 e'.2.2.2.2.2.2.2.2.2.2.1 e'.2.2.2.2.2.2.2.2.2.2.2 = some r ∧ bfS (BQ (alK K w) K n (RK K b w) b) (RK K b w) j r := by
  obtain ⟨e', g1, g2, g3, g4, g5, g6⟩ := p_J34 (F := F) (queue := e.1) (fr := e.2.1) (arr := e.2.2.1) (as := e.2.2.2.1) (kind := e.2.2.2.2.1) (base := e.2.2.2.2.2.1) (n0 := e.2.2.2.2.2.2.1) (want := e.2.2.2.2.2.2.2.1) (rules := e.2.2.2.2.2.2.2.2.1) (qd := e.2.2.2.2.2.2.2.2.2.1) (goal := e.2.2.2.2.2.2.2.2.2.2.1) (len := e.2.2.2.2.2.2.2.2.2.2.2) hF hW hw
  have w7 := hW.2.2.2.2.2.2
  have w5 := hW.2.2.2.2.1
  have w1 := hW.1
  have hb2 := w7.2
  have new : ∃ e'' : E12, some e' = some e'' ∧ seOK F e'' ∧ ∀ j : Int32, (-1 : Int32) ≤ j → ∃ r, f_X7_figureAt F j e''.2.1 e''.2.2.2.2.2.2.2.2.2.2.1 e''.2.2.2.2.2.2.2.2.2.2.2 = some r ∧ bfS (BQ (alK K w) K n (RK K b w) b) (RK K b w) j r := by
    refine ⟨e', rfl, fun K' b' n' h1 h2 h3 h4 h5 h6 => ?_, g6⟩
    rw [g2] at h4
    rw [g3] at h5
    rw [g4] at h6
    have hb2' := h2.2
    have e1 : K = K' := (nI_eq (by omega) (by omega)).mp h4
    have e2 : b = b' := (nI_eq (by omega) (by omega)).mp h5
    have e3 : n = n' := (nI_eq (by omega) (by omega)).mp h6
    subst e1 e2 e3
    rw [g5]
    exact g6
  unfold f_X7_seek
  by_cases z1 : e.2.2.2.2.1 = nI K
  · by_cases z2 : e.2.2.2.2.2.1 = nI b
    · by_cases z3 : e.2.2.2.2.2.2.1 = nI n
      · by_cases z4 : e.2.2.2.2.2.2.2.1 = w
        · rw [if_pos z1, if_pos z2, if_pos z3, if_pos z4]
          refine ⟨e, rfl, h, ?_⟩
          rw [← z4]
          exact h K b n w1 w7 (by omega) z1 z2 z3
        · rw [if_pos z1, if_pos z2, if_pos z3, if_neg z4, g1]; exact new
      · rw [if_pos z1, if_pos z2, if_neg z3, g1]; exact new
    · rw [if_pos z1, if_neg z2, g1]; exact new
  · rw [if_neg z1, g1]; exact new
theorem p_searchedP {F K n b : Nat} {w j : Int32} {e : E12} (hF : 60000 ≤ F) (hW : WK K n (RK K b w) b) (hw : K = 2 → ∃ s, s < 1000 ∧ w = nI s) (hj : (-1 : Int32) ≤ j) (h : seOK F e) : ∃ (r : Int32) (e' : E12), f_X10_searched_P F (nI K) (nI n) w j (nI b) e.1 e.2.1 e.2.2.1 e.2.2.2.1 e.2.2.2.2.1 e.2.2.2.2.2.1 e.2.2.2.2.2.2.1 e.2.2.2.2.2.2.2.1 e.2.2.2.2.2.2.2.2.1 e.2.2.2.2.2.2.2.2.2.1 e.2.2.2.2.2.2.2.2.2.2.1 e.2.2.2.2.2.2.2.2.2.2.2 = some (r, e') ∧ seOK F e' ∧ bfS (BQ (alK K w) K n (RK K b w) b) (RK K b w) j r := by
  obtain ⟨e', g1, g2, g3⟩ := p_seek hF hW hw h
  obtain ⟨r, g4, g5⟩ := g3 j hj
  refine ⟨r, e', ?_, g2, g5⟩
  unfold f_X10_searched_P
  rw [g1, Option.bind_some, g4]
  rfl
theorem se0 (F : Nat) : seOK F ((fun _ => 0), (fun _ => 0), (fun _ => 0), (0 : Int32), (-1 : Int32), (0 : Int32), (0 : Int32), (0 : Int32), (0 : Int32), (0 : Int32), (0 : Int32), (0 : Int32)) := fun K b n h1 h2 h3 h4 h5 h6 => absurd h4.symm (m1 (by omega))
theorem p_searchedN {F K n b : Nat} {w j : Int32} (hF : 60000 ≤ F) (hW : WK K n (RK K b w) b) (hw : K = 2 → ∃ s, s < 1000 ∧ w = nI s) (hj : (-1 : Int32) ≤ j) : ∃ (r : Int32) (e' : E12), f_X10_searched_N F (nI K) (nI n) w j (nI b) = some (r, e') ∧ seOK F e' ∧ bfS (BQ (alK K w) K n (RK K b w) b) (RK K b w) j r := by
  obtain ⟨r, e', g1, g2, g3⟩ := p_searchedP hF hW hw hj (se0 F)
  exact ⟨r, e', g1, g2, g3⟩
/-! the reference's sets of figures -/
theorem mask_b {b : Nat} (hb : bOK b) (x : Int32) : x &&& (((1 : Int32) <<< (nI b &&& 31)) - (1 : Int32)) = nI (x.toBitVec.toNat % 2 ^ b) := by
  have hb2 := hb.2
  have h2 : 2 ^ b ≤ 2 ^ 16 := Nat.pow_le_pow_right (by omega) hb2
  have hp := Nat.two_pow_pos b
  have e : ((1 : Int32) <<< (nI b &&& 31)) - (1 : Int32) = nI (2 ^ b - 1) := by
    rw [one_shl (by omega)]
    obtain ⟨m, hm⟩ : ∃ m, 2 ^ b = m + 1 := ⟨2 ^ b - 1, by omega⟩
    rw [hm, nI_pred, Nat.add_sub_cancel]
  rw [e]
  exact pk_and x b (pk_tn (by omega))
theorem alB_iff {a d : Nat} (ha : a < 2 ^ 31) (hd : d < 17) : alB (nI a) d = true ↔ a / 2 ^ d % 2 = 1 := by
  unfold alB
  rw [bitI ha hd, decide_eq_true_iff]
  have h2 : a / 2 ^ d % 2 < 2 := Nat.mod_lt _ (by omega)
  exact nI_eq (a := a / 2 ^ d % 2) (b := 1) (by omega) (by omega)
theorem alB_n {a d : Nat} (ha : a < 2 ^ 31) (hd : d < 17) : (nI a >>> (nI d &&& 31)) &&& (1 : Int32) = nI (if alB (nI a) d = true then 1 else 0) := by
  rw [bitI ha hd]
  have h2 : a / 2 ^ d % 2 < 2 := Nat.mod_lt _ (by omega)
  by_cases z : a / 2 ^ d % 2 = 1
  · rw [if_pos ((alB_iff ha hd).mpr z), z]
  · rw [if_neg (fun q => z ((alB_iff ha hd).mp q)), show a / 2 ^ d % 2 = 0 by omega]
theorem Dl_hi {al : Nat → Bool} {b : Nat} (h : ∀ d, b ≤ d → d < 16 → ¬ al d = true) : ∀ j, b + j ≤ 16 → Dl al (b + j) = Dl al b
  | 0, _ => rfl
  | j + 1, hj => by
    have ih := Dl_hi h j (by omega)
    have eD : Dl al (b + (j + 1)) = if al (b + j) = true then Dl al (b + j) ++ [b + j] else Dl al (b + j) := rfl
    rw [eD, if_neg (h _ (by omega) (by omega)), ih]
theorem Dl_16 {a b : Nat} (hb : bOK b) (ha : a < 2 ^ b) : Dl (alB (nI a)) 16 = Dl (alB (nI a)) b := by
  have hb2 := hb.2
  have h2 : 2 ^ b ≤ 2 ^ 16 := Nat.pow_le_pow_right (by omega) hb2
  have := Dl_hi (al := alB (nI a)) (b := b) (fun d h1 h3 q => by
    rw [alB_iff (by omega) (by omega)] at q
    have h4 : 2 ^ b ≤ 2 ^ d := Nat.pow_le_pow_right (by omega) h1
    rw [Nat.div_eq_of_lt (by omega)] at q
    omega) (16 - b) (by omega)
  rw [show b + (16 - b) = 16 by omega] at this
  exact this
theorem p_layAllowed {F b : Nat} {x A0 : Int32} {bit : Nat → Int32} (hF : 100 < F) (hb : bOK b) : ∃ bit', f_X11_layAllowed F x (nI b) A0 bit = some (nI (Dl (alB (nI (x.toBitVec.toNat % 2 ^ b))) b).length, nI (x.toBitVec.toNat % 2 ^ b), bit') ∧ alM (alB (nI (x.toBitVec.toNat % 2 ^ b))) (nI (x.toBitVec.toNat % 2 ^ b)) bit' b := by
  have hb2 := hb.2
  have h2 : 2 ^ b ≤ 2 ^ 16 := Nat.pow_le_pow_right (by omega) hb2
  have ha : x.toBitVec.toNat % 2 ^ b < 2 ^ b := Nat.mod_lt _ (Nat.two_pow_pos b)
  unfold f_X11_layAllowed
  rw [mask_b hb]
  generalize x.toBitVec.toNat % 2 ^ b = a at ha ⊢
  obtain ⟨s, h1, h3⟩ := up_lp (B := f_X11_layAllowed_B18 F (nI a)) 16 (fun i (s : Int32 × (Nat → Int32)) => (s.1, nI i, s.2)) (fun s => (s.1, s.2)) (fun i s => s.1 = nI (Dl (alB (nI a)) i).length ∧ ∀ d, d < i → s.2 d = nI (rk (alB (nI a)) d)) (by
    intro rec i s hi hI
    obtain ⟨hI1, hI2⟩ := hI
    have eD : Dl (alB (nI a)) (i + 1) = if alB (nI a) i = true then Dl (alB (nI a)) i ++ [i] else Dl (alB (nI a)) i := rfl
    unfold f_X11_layAllowed_B18
    dsimp only
    rw [if_neg (show ¬ (16 : Int32) ≤ nI i from nI_ge (a := i) (b := 16) (by omega) (by omega)), ck_pos (in_ok (by omega) (by omega)), nI_clamp (by omega), alB_n (by omega) (by omega), hI1, nI_add, nI_1, eD]
    refine ⟨(nI ((Dl (alB (nI a)) i).length + if alB (nI a) i = true then 1 else 0), upd s.2 i (nI (Dl (alB (nI a)) i).length)), ⟨?_, fun d hd => ?_⟩, rfl⟩
    · by_cases z : alB (nI a) i = true
      · rw [if_pos z, if_pos z, List.length_append, List.length_singleton]
      · rw [if_neg z, if_neg z, Nat.add_zero]
    · dsimp only
      by_cases e : d = i
      · subst e; exact pk_us
      · rw [pk_un e]; exact hI2 d (by omega)) (by
    intro rec s hI
    unfold f_X11_layAllowed_B18
    dsimp only
    rw [if_pos (by decide)]) F 0 ((0 : Int32), bit) (Nat.zero_le _) ⟨rfl, fun k hk => absurd hk (Nat.not_lt_zero _)⟩ (by omega)
  have h3' : lp (f_X11_layAllowed_B18 F (nI a)) F ((0 : Int32), (0 : Int32), bit) = some (s.1, s.2) := h3
  refine ⟨s.2, ?_, fun d hd => ⟨alB_n (by omega) (by omega), h1.2 d (by omega)⟩⟩
  rw [h3', Option.bind_some, h1.1, Dl_16 hb ha]
theorem bit_ex {a : Nat} : ∀ b, a < 2 ^ b → a ≠ 0 → ∃ d, d < b ∧ a / 2 ^ d % 2 = 1
  | 0, h, h0 => by rw [Nat.pow_zero] at h; omega
  | b + 1, h, h0 => by
    rcases Nat.lt_or_ge a (2 ^ b) with z | z
    · obtain ⟨d, h1, h2⟩ := bit_ex b z h0
      exact ⟨d, by omega, h2⟩
    · refine ⟨b, by omega, ?_⟩
      rw [Nat.pow_succ] at h
      have h3 : a / 2 ^ b < 2 := Nat.div_lt_of_lt_mul h
      have h4 : 1 ≤ a / 2 ^ b := (Nat.le_div_iff_mul_le (Nat.two_pow_pos b)).mpr (by omega)
      omega
theorem Dl_has {al : Nat → Bool} : ∀ (b d : Nat), d < b → al d = true → d ∈ Dl al b
  | 0, d, h, _ => absurd h (Nat.not_lt_zero _)
  | b + 1, d, h, ha => by
    have eD : Dl al (b + 1) = if al b = true then Dl al b ++ [b] else Dl al b := rfl
    rw [eD]
    by_cases e : d = b
    · subst e
      rw [if_pos ha]
      exact List.mem_append_right _ List.mem_cons_self
    · have ih := Dl_has (al := al) b d (by omega) ha
      by_cases z : al b = true
      · rw [if_pos z]; exact List.mem_append_left _ ih
      · rw [if_neg z]; exact ih
theorem Dl_zero {a b : Nat} (hb : bOK b) (ha : a < 2 ^ b) : (Dl (alB (nI a)) b).length = 0 ↔ a = 0 := by
  have hb2 := hb.2
  have h2 : 2 ^ b ≤ 2 ^ 16 := Nat.pow_le_pow_right (by omega) hb2
  constructor
  · intro h
    rcases Nat.eq_zero_or_pos a with z | z
    · exact z
    · obtain ⟨d, h1, h3⟩ := bit_ex b ha (by omega)
      have := Dl_has (al := alB (nI a)) b d h1 ((alB_iff (by omega) (by omega)).mpr h3)
      rw [List.length_eq_zero_iff] at h
      rw [h] at this
      cases this
  · intro h
    subst h
    have : ∀ c, c ≤ 16 → Dl (alB (nI 0)) c = [] := by
      intro c
      induction c with
      | zero => intro _; rfl
      | succ c ih =>
        intro hc
        have eD : Dl (alB (nI 0)) (c + 1) = if alB (nI 0) c = true then Dl (alB (nI 0)) c ++ [c] else Dl (alB (nI 0)) c := rfl
        rw [eD, if_neg (fun q => by
          rw [alB_iff (by omega) (by omega), Nat.zero_div] at q
          omega), ih (by omega)]
    rw [this b hb2]
    rfl
theorem Dl_pc {a : Nat} (ha : a < 2 ^ 31) : ∀ d, d ≤ 16 → (Dl (alB (nI a)) d).length = pcN a d
  | 0, _ => rfl
  | d + 1, hd => by
    have ih := Dl_pc ha d (by omega)
    have eD : Dl (alB (nI a)) (d + 1) = if alB (nI a) d = true then Dl (alB (nI a)) d ++ [d] else Dl (alB (nI a)) d := rfl
    have h2 : a / 2 ^ d % 2 < 2 := Nat.mod_lt _ (by omega)
    show _ = pcN a d + a / 2 ^ d % 2
    rw [eD]
    by_cases z : a / 2 ^ d % 2 = 1
    · rw [if_pos ((alB_iff ha (by omega)).mpr z), List.length_append, List.length_singleton, ih, z]
    · rw [if_neg (fun q => z ((alB_iff ha (by omega)).mp q)), ih]
      omega
theorem p_bitCount {F a : Nat} (ha : a < 65536) : f_J6_bitCount_0f7a4 F (nI a) = some (nI (pcN a 16)) := by
  have h := bc_ok (a / 256) (by omega) (a % 256) (by omega)
  rw [show a / 256 * 256 + a % 256 = a by omega] at h
  rw [← h]
  have s1 : nI a - (((nI a).toUInt32 >>> ((1 : Int32).toUInt32 &&& Int32.toUInt32 31)).toInt32 &&& (1431655765 : Int32)) = nI (bc1 a) := by
    have q : (a / 2 ^ 1 &&& 1431655765) ≤ a / 2 ^ 1 := Nat.and_le_left
    rw [pk_ushrN (n := a) (by omega) (1 : Int32) 1 (by decide), show (1431655765 : Int32) = nI 1431655765 from rfl, fa_and, pk_sub (by omega)]
    rfl
  have b1 : bc1 a < 65536 := by unfold bc1; omega
  unfold f_J6_bitCount_0f7a4
  rw [s1]
  generalize bc1 a = x at b1 ⊢
  have s2 : (nI x &&& (858993459 : Int32)) + (((nI x).toUInt32 >>> ((2 : Int32).toUInt32 &&& Int32.toUInt32 31)).toInt32 &&& (858993459 : Int32)) = nI (bc2 x) := by
    rw [pk_ushrN (n := x) (by omega) (2 : Int32) 2 (by decide), show (858993459 : Int32) = nI 858993459 from rfl, fa_and, fa_and, nI_add]
    rfl
  have b2 : bc2 x < 200000 := by
    unfold bc2
    have q1 : (x &&& 858993459) ≤ x := Nat.and_le_left
    have q2 : (x / 4 &&& 858993459) ≤ x / 4 := Nat.and_le_left
    omega
  rw [s2]
  generalize bc2 x = y at b2 ⊢
  have s3 : (nI y + ((nI y).toUInt32 >>> ((4 : Int32).toUInt32 &&& Int32.toUInt32 31)).toInt32) &&& (252645135 : Int32) = nI (bc3 y) := by
    rw [pk_ushrN (n := y) (by omega) (4 : Int32) 4 (by decide), nI_add, show (252645135 : Int32) = nI 252645135 from rfl, fa_and]
    rfl
  have b3 : bc3 y < 300000 := by
    unfold bc3
    have q1 : ((y + y / 16) &&& 252645135) ≤ y + y / 16 := Nat.and_le_left
    omega
  rw [s3]
  generalize bc3 y = z at b3 ⊢
  have s4 : nI z + ((nI z).toUInt32 >>> ((8 : Int32).toUInt32 &&& Int32.toUInt32 31)).toInt32 = nI (bc4 z) := by
    rw [pk_ushrN (n := z) (by omega) (8 : Int32) 8 (by decide), nI_add]
    rfl
  have b4 : bc4 z < 600000 := by unfold bc4; omega
  rw [s4]
  generalize bc4 z = u at b4 ⊢
  have s5 : (nI u + ((nI u).toUInt32 >>> ((16 : Int32).toUInt32 &&& Int32.toUInt32 31)).toInt32) &&& (63 : Int32) = nI (bc5 u) := by
    rw [pk_ushrN (n := u) (by omega) (16 : Int32) 16 (by decide), nI_add, show (63 : Int32) = nI 63 from rfl, fa_and]
    rfl
  rw [s5]
