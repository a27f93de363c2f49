/-! narrow: the reference -/
def gl (g : Nat → Nat) (w : Nat) : List Nat := (List.range w).map g
theorem gl_s (g : Nat → Nat) (w : Nat) : gl g (w + 1) = gl g w ++ [g w] := by
  unfold gl
  rw [List.range_succ, List.map_append]
  rfl
theorem gl_len (g : Nat → Nat) (w : Nat) : (gl g w).length = w := by unfold gl; rw [List.length_map, List.length_range]
theorem gl_ext {s g : Nat → Nat} {w : Nat} (h : ∀ i, i < w → s i = g i) : gl s w = gl g w := by
  unfold gl
  exact List.map_congr_left (fun i hi => h i (List.mem_range.mp hi))
theorem gl_mem {g : Nat → Nat} {w x : Nat} (h : x ∈ gl g w) : ∃ i, i < w ∧ g i = x := by
  obtain ⟨i, hi, e⟩ := List.mem_map.mp h
  exact ⟨i, List.mem_range.mp hi, e⟩
def ND (g : Nat → Nat) (w : Nat) : Prop := ∀ i j, i < j → j < w → g i ≤ g j
def LTr (s g : Nat → Nat) (w : Nat) : Prop := ∃ k, k < w ∧ (∀ i, i < k → s i = g i) ∧ s k < g k
theorem cnt_s (g : Nat → Nat) (w d : Nat) : (gl g (w + 1)).count d = (gl g w).count d + if g w = d then 1 else 0 := by
  rw [gl_s, List.count_append, List.count_singleton]
  by_cases z : g w = d
  · rw [if_pos z, if_pos (by rw [z]; exact beq_self_eq_true d)]
  · rw [if_neg z, if_neg (fun q => z (eq_of_beq q))]
theorem ND_uniq {s g : Nat → Nat} {w : Nat} (hg : ND g w) (hp : (gl s w).Perm (gl g w)) : ¬ LTr s g w := by
  rintro ⟨k, hk, he, hl⟩
  have h1 : ∀ j, k + j ≤ w → (gl g (k + j)).count (s k) = (gl g k).count (s k) := by
    intro j
    induction j with
    | zero => intro _; rfl
    | succ j ih =>
      intro h
      have hne : ¬ g (k + j) = s k := by
        intro q
        rcases Nat.eq_zero_or_pos j with z | z
        · subst z; rw [Nat.add_zero] at q; omega
        · have := hg k (k + j) (by omega) (by omega); omega
      rw [show k + (j + 1) = (k + j) + 1 by omega, cnt_s, ih (by omega), if_neg hne]
      rfl
  have h2 : ∀ j, k + 1 + j ≤ w → (gl s k).count (s k) + 1 ≤ (gl s (k + 1 + j)).count (s k) := by
    intro j
    induction j with
    | zero => intro _; rw [Nat.add_zero, cnt_s, if_pos rfl]; exact Nat.le_refl _
    | succ j ih =>
      intro h
      rw [show k + 1 + (j + 1) = (k + 1 + j) + 1 by omega, cnt_s]
      have := ih (by omega)
      omega
  have e1 := h1 (w - k) (by omega)
  have e2 := h2 (w - (k + 1)) (by omega)
  rw [show k + (w - k) = w by omega] at e1
  rw [show k + 1 + (w - (k + 1)) = w by omega] at e2
  have e3 : gl s k = gl g k := gl_ext he
  have e4 := hp.count_eq (s k)
  rw [e3] at e2
  omega
/-- a number's row is done -/
def Dn (b w n : Nat) (g : Nat → Nat) : Prop := ∃ s, ND s w ∧ (∀ i, i < w → s i < b) ∧ (dL b w n).Perm (gl s w) ∧ LTr s g w
def nxF (g : Nat → Nat) (k : Nat) : Nat → Nat := fun i => if i < k then g i else g k + 1
theorem Dn_next {b w n k : Nat} {g : Nat → Nat} (hg : ND g w) (hb : ∀ i, i < w → g i < b) (hk : k < w) (hk1 : g k ≠ b - 1) (hk2 : ∀ i, k < i → i < w → g i = b - 1) : Dn b w n (nxF g k) ↔ Dn b w n g ∨ (dL b w n).Perm (gl g w) := by
  have hbk := hb k hk
  constructor
  · rintro ⟨s, s1, s2, s3, j, j1, j2, j3⟩
    unfold nxF at j2 j3
    rcases Nat.lt_trichotomy j k with z | z | z
    · rw [if_pos z] at j3
      exact Or.inl ⟨s, s1, s2, s3, j, j1, fun i hi => by have := j2 i hi; rwa [if_pos (by omega)] at this, j3⟩
    · subst z
      rw [if_neg (by omega)] at j3
      have pre : ∀ i, i < j → s i = g i := fun i hi => by have := j2 i hi; rwa [if_pos hi] at this
      rcases Nat.lt_or_ge (s j) (g j) with y | y
      · exact Or.inl ⟨s, s1, s2, s3, j, j1, pre, y⟩
      · have ej : s j = g j := by omega
        by_cases all : ∀ i, i < w → s i = g i
        · exact Or.inr (by rw [← gl_ext all]; exact s3)
        · obtain ⟨i, hi, hmin⟩ := pk_least (fun i => i < w ∧ s i ≠ g i) (Classical.byContradiction (fun q => all (fun i hi => Classical.byContradiction (fun y => q ⟨i, hi, y⟩))))
          have pre2 : ∀ t, t < i → s t = g t := fun t ht => Classical.byContradiction (fun y => hmin t ht ⟨by omega, y⟩)
          have hij : j < i := by
            rcases Nat.lt_trichotomy i j with y1 | y1 | y1
            · exact absurd (pre i y1) hi.2
            · subst y1; exact absurd ej hi.2
            · exact y1
          have := hk2 i hij hi.1
          have := s2 i hi.1
          have := hi.2
          exact Or.inl ⟨s, s1, s2, s3, i, hi.1, pre2, by omega⟩
    · rw [if_neg (by omega)] at j3
      have ek := j2 k z
      rw [if_neg (by omega)] at ek
      have := s1 k j z j1
      omega
  · rintro (⟨s, s1, s2, s3, j, j1, j2, j3⟩ | h)
    · rcases Nat.lt_or_ge j k with z | z
      · exact ⟨s, s1, s2, s3, j, j1, fun i hi => by unfold nxF; rw [if_pos (by omega)]; exact j2 i hi, by unfold nxF; rw [if_pos z]; exact j3⟩
      · refine ⟨s, s1, s2, s3, k, hk, fun i hi => by unfold nxF; rw [if_pos hi]; exact j2 i (by omega), ?_⟩
        unfold nxF
        rw [if_neg (by omega)]
        rcases Nat.lt_or_ge k j with y | y
        · have := j2 k y; omega
        · have : j = k := by omega
          subst this; omega
    · exact ⟨g, hg, hb, h, k, hk, fun i hi => by unfold nxF; rw [if_pos hi], by unfold nxF; rw [if_neg (by omega)]; omega⟩
def insL (x : Nat) : List Nat → List Nat
  | [] => [x]
  | y :: l => if x ≤ y then x :: y :: l else y :: insL x l
def srtL : List Nat → List Nat
  | [] => []
  | x :: l => insL x (srtL l)
theorem insL_perm (x : Nat) : ∀ l, (insL x l).Perm (x :: l)
  | [] => List.Perm.refl _
  | y :: l => by
    unfold insL
    by_cases z : x ≤ y
    · rw [if_pos z]
    · rw [if_neg z]
      exact ((insL_perm x l).cons y).trans (List.Perm.swap x y l)
theorem insL_srt (x : Nat) : ∀ l, l.Pairwise (· ≤ ·) → (insL x l).Pairwise (· ≤ ·)
  | [], _ => List.pairwise_singleton _ _
  | y :: l, h => by
    rw [List.pairwise_cons] at h
    unfold insL
    by_cases z : x ≤ y
    · rw [if_pos z, List.pairwise_cons]
      refine ⟨fun t ht => ?_, List.pairwise_cons.mpr h⟩
      rcases List.mem_cons.mp ht with q | q
      · rw [q]; exact z
      · exact Nat.le_trans z (h.1 t q)
    · rw [if_neg z, List.pairwise_cons]
      refine ⟨fun t ht => ?_, insL_srt x l h.2⟩
      rcases List.mem_cons.mp ((insL_perm x l).subset ht) with q | q
      · omega
      · exact h.1 t q
theorem srtL_perm : ∀ l, (srtL l).Perm l
  | [] => List.Perm.refl _
  | x :: l => (insL_perm x (srtL l)).trans ((srtL_perm l).cons x)
theorem srtL_srt : ∀ l, (srtL l).Pairwise (· ≤ ·)
  | [] => List.Pairwise.nil
  | x :: l => insL_srt x _ (srtL_srt l)
theorem gl_getD (l : List Nat) : gl (fun i => l.getD i 0) l.length = l := by
  unfold gl
  apply List.ext_getElem
  · rw [List.length_map, List.length_range]
  · intro i h1 h2
    rw [List.getElem_map, List.getElem_range, List.getD_eq_getElem?_getD, List.getElem?_eq_getElem h2]
    rfl
theorem Dn_last {b w n : Nat} {g : Nat → Nat} (hb : 0 < b) (hg : ∀ i, i < w → g i = b - 1) : Dn b w n g ∨ (dL b w n).Perm (gl g w) := by
  have hlen : (srtL (dL b w n)).length = w := by rw [(srtL_perm _).length_eq, dL_len]
  have hgl := gl_getD (srtL (dL b w n))
  rw [hlen] at hgl
  have hp : (dL b w n).Perm (gl (fun i => (srtL (dL b w n)).getD i 0) w) := by rw [hgl]; exact (srtL_perm _).symm
  have hget : ∀ i, i < w → (srtL (dL b w n)).getD i 0 ∈ srtL (dL b w n) := fun i hi => getD_mem (by rw [hlen]; exact hi)
  have hlt : ∀ i, i < w → (srtL (dL b w n)).getD i 0 < b := fun i hi => dL_lt hb w n _ ((srtL_perm _).subset (hget i hi))
  have hnd : ND (fun i => (srtL (dL b w n)).getD i 0) w := by
    intro i j hij hj
    have h := List.pairwise_iff_getElem.mp (srtL_srt (dL b w n)) i j (by rw [hlen]; omega) (by rw [hlen]; exact hj) hij
    show (srtL (dL b w n)).getD i 0 ≤ (srtL (dL b w n)).getD j 0
    rw [List.getD_eq_getElem?_getD, List.getD_eq_getElem?_getD, List.getElem?_eq_getElem (by rw [hlen]; omega), List.getElem?_eq_getElem (by rw [hlen]; exact hj)]
    exact h
  by_cases all : ∀ i, i < w → (srtL (dL b w n)).getD i 0 = g i
  · exact Or.inr (by rw [← gl_ext (s := fun i => (srtL (dL b w n)).getD i 0) all]; exact hp)
  · obtain ⟨i, hi, hmin⟩ := pk_least (fun i => i < w ∧ (srtL (dL b w n)).getD i 0 ≠ g i) (Classical.byContradiction (fun q => all (fun i hi => Classical.byContradiction (fun y => q ⟨i, hi, y⟩))))
    refine Or.inl ⟨_, hnd, hlt, hp, i, hi.1, fun t ht => Classical.byContradiction (fun y => hmin t ht ⟨by omega, y⟩), ?_⟩
    have h1 := hlt i hi.1
    have h2 := hg i hi.1
    have h3 := hi.2
    dsimp only
    omega
def valF (b : Nat) (g : Nat → Nat) : Nat → Nat
  | 0 => 0
  | j + 1 => valF b g j * b + g j
theorem valF_lt {b : Nat} {g : Nat → Nat} : ∀ j, (∀ i, i < j → g i < b) → valF b g j < b ^ j
  | 0, _ => by rw [Nat.pow_zero]; exact Nat.one_pos
  | j + 1, h => by
    have h1 := valF_lt j (fun i hi => h i (by omega))
    have h2 := h j (by omega)
    show valF b g j * b + g j < b ^ (j + 1)
    have h3 : (valF b g j + 1) * b ≤ b ^ j * b := Nat.mul_le_mul_right b h1
    rw [Nat.add_mul, Nat.one_mul] at h3
    rw [Nat.pow_succ]
    omega
theorem valF_nx {b w k : Nat} {g : Nat → Nat} (hb : 0 < b) (hk : k < w) (hk1 : g k < b) (hk2 : ∀ i, k < i → i < w → g i = b - 1) : valF b g w < valF b (nxF g k) w := by
  have h0 : ∀ j, j ≤ k → valF b (nxF g k) j = valF b g j := by
    intro j
    induction j with
    | zero => intro _; rfl
    | succ j ih =>
      intro h
      show valF b (nxF g k) j * b + nxF g k j = valF b g j * b + g j
      rw [ih (by omega)]
      unfold nxF
      rw [if_pos (by omega)]
  have h1 : ∀ j, k + 1 + j ≤ w → valF b g (k + 1 + j) + 1 ≤ valF b (nxF g k) (k + 1 + j) := by
    intro j
    induction j with
    | zero =>
      intro _
      show valF b g k * b + g k + 1 ≤ valF b (nxF g k) k * b + nxF g k k
      rw [h0 k (Nat.le_refl _)]
      unfold nxF
      rw [if_neg (by omega)]
      omega
    | succ j ih =>
      intro h
      have h2 := ih (by omega)
      have h3 := hk2 (k + 1 + j) (by omega) (by omega)
      show valF b g (k + 1 + j) * b + g (k + 1 + j) + 1 ≤ valF b (nxF g k) (k + 1 + j) * b + nxF g k (k + 1 + j)
      have h4 := Nat.mul_le_mul_right b h2
      rw [Nat.add_mul, Nat.one_mul] at h4
      omega
  have := h1 (w - (k + 1)) (by omega)
  rw [show k + 1 + (w - (k + 1)) = w by omega] at this
  omega
/-! the reference's loops -/
theorem p_toThe {F d e : Nat} (hF : 100 < F) (hd : d < 2 ^ 31) (he : e ≤ 60) : f_X11_toThe F (nI d) (nI e) = some (lN (d ^ e)) := by
  obtain ⟨s, h1, h2⟩ := up_lp (B := f_X11_toThe_B5 F (nI d) (nI e)) e (fun i (s : Int64) => (s, nI i)) (fun s => s) (fun i s => s = lN (d ^ i)) (by
    intro rec i s hi hI
    refine ⟨lN (d ^ (i + 1)), rfl, ?_⟩
    subst hI
    unfold f_X11_toThe_B5
    dsimp only
    rw [if_neg (nI_ge hi (by omega)), nI_l hd, lN_mul, nI_1, Nat.pow_succ]) (by
    intro rec s hI
    unfold f_X11_toThe_B5
    dsimp only
    rw [if_pos (nI_le (Nat.le_refl _) (by omega))]) F 0 (1 : Int64) (Nat.zero_le _) (by rw [Nat.pow_zero]; rfl) (by omega)
  have h2' : lp (f_X11_toThe_B5 F (nI d) (nI e)) F ((1 : Int64), (0 : Int32)) = some s := h2
  unfold f_X11_toThe
  rw [h2', h1]
  rfl
def rwOK (row : Nat → Int32) (g : Nat → Nat) (w : Nat) : Prop := ∀ i, i < w → row i = nI (g i)
theorem p_sumN {F w e : Nat} {a b' : Int32} {c d' : Nat → Int32} {n : Int32} {u : Nat → Int64} {row : Nat → Int32} {g : Nat → Nat} (hF : 100 < F) (hw : w ≤ 6) (he : e ≤ 6) (hr : rwOK row g w) (hg : ∀ i, i < w → g i < 16) : lp (f_X11_narrow_B75 F (nI w) (nI e) a c row n u) F ((0 : Int64), (0 : Int32)) = some (lN (ps e (gl g w))) := by
  obtain ⟨s, h1, h2⟩ := up_lp (B := f_X11_narrow_B75 F (nI w) (nI e) a c row n u) w (fun i (s : Int64) => (s, nI i)) (fun s => s) (fun i s => s = lN (ps e (gl g i))) (by
    intro rec i s hi hI
    refine ⟨lN (ps e (gl g (i + 1))), rfl, ?_⟩
    subst hI
    have hgi := hg i hi
    unfold f_X11_narrow_B75
    dsimp only
    rw [if_neg (nI_ge hi (by omega)), ck_pos (in_ok (by omega) (by omega)), nI_clamp (by omega), hr i hi, p_toThe hF (by omega) (by omega), Option.bind_some, lN_add, nI_1, gl_s, ps_app]
    rfl) (by
    intro rec s hI
    unfold f_X11_narrow_B75
    dsimp only
    rw [if_pos (nI_le (Nat.le_refl _) (by omega))]) F 0 (0 : Int64) (Nat.zero_le _) rfl (by omega)
  have h2' : lp (f_X11_narrow_B75 F (nI w) (nI e) a c row n u) F ((0 : Int64), (0 : Int32)) = some s := h2
  rw [h2', h1]
theorem dl_dL (b : Nat) : ∀ k n, dl b k n = dL b (dl b k n).length n
  | 0, _ => rfl
  | k + 1, n => by
    have ih := dl_dL b k (n / b)
    by_cases z : n = 0
    · subst z
      rw [dl_0]
      rfl
    · have e : dl b (k + 1) n = n % b :: dl b k (n / b) := by
        show (if n = 0 then [] else (n % b) :: dl b k (n / b)) = _
        rw [if_neg z]
      rw [e, List.length_cons]
      show _ = n % b :: dL b (dl b k (n / b)).length (n / b)
      rw [← ih]
theorem dg_dL (b n : Nat) : dg b n = dL b (dg b n).length n := by
  unfold dg
  rw [List.length_cons]
  show _ = n % b :: dL b (dl b 64 (n / b)).length (n / b)
  rw [← dl_dL]
theorem len_iff {b w n : Nat} (hb : bOK b) (hw : 1 ≤ w) (hn : n < 2 ^ 62) : (dg b n).length = w ↔ (w = 1 ∨ b ^ (w - 1) ≤ n) ∧ n < b ^ w := by
  have hb1 := hb.1
  constructor
  · intro h
    have h1 := dg_up hb hn
    rw [h] at h1
    refine ⟨?_, h1⟩
    rcases Nat.eq_zero_or_pos n with z | z
    · subst z
      rw [dg_len1 hb (by omega)] at h
      exact Or.inl h.symm
    · have := dg_low hb hn z
      rw [h] at this
      exact Or.inr this
  · rintro ⟨h1, h2⟩
    rcases Nat.eq_zero_or_pos n with z | z
    · subst z
      rcases h1 with q | q
      · rw [q]; exact dg_len1 hb (by omega)
      · have := pw_pos (b := b) (by omega) (w - 1)
        omega
    · by_cases q : w = 1
      · subst q
        rw [Nat.pow_one] at h2
        exact dg_len1 hb h2
      · rcases h1 with y | y
        · exact absurd y q
        · exact dg_lenE hb hn z (by omega) y h2
theorem i4 (a b c d : Int32) : (a - b) + (c - d) = (a + c) - (b + d) := by grind
theorem sub_0 {a b : Nat} (ha : a < 2 ^ 30) (hb : b < 2 ^ 30) : nI a - nI b = 0 ↔ a = b := by
  constructor
  · intro h
    have h1 := pk_sub_toInt ha hb
    rw [h] at h1
    have e0 : (0 : Int32).toInt = 0 := rfl
    omega
  · intro h
    rw [h]
    exact Int32.sub_self (nI b)
theorem inner_h {F b w d v : Nat} {many : Int32} {row figs : Nat → Int32} {g : Nat → Nat} (hb : bOK b) (hF : 100 < F) (hw : w ≤ 6) (hr : rwOK row g w) (hg : ∀ i, i < w → g i < b) (hf : ∀ i, i < w → figs i = nI (v / b ^ i % b)) (hd : d < b) : lp (f_X11_hasRow_B43 F (nI w) row (nI d) many figs) F ((0 : Int32), (0 : Int32)) = some (nI ((gl g w).count d) - nI ((dL b w v).count d)) := by
  have hb1 := hb.1
  have hb2 := hb.2
  obtain ⟨s, h1, h2⟩ := up_lp (B := f_X11_hasRow_B43 F (nI w) row (nI d) many figs) w (fun i (s : Int32) => (s, nI i)) (fun s => s) (fun i s => s = nI ((gl g i).count d) - nI ((dL b i v).count d)) (by
    intro rec i s hi hI
    refine ⟨nI ((gl g (i + 1)).count d) - nI ((dL b (i + 1) v).count d), rfl, ?_⟩
    subst hI
    have hgi := hg i hi
    have hm : v / b ^ i % b < b := Nat.mod_lt _ (by omega)
    have c1 : (dL b (i + 1) v).count d = (dL b i v).count d + if v / b ^ i % b = d then 1 else 0 := by
      rw [dL_snoc, List.count_append, List.count_singleton]
      by_cases z : v / b ^ i % b = d
      · rw [if_pos z, if_pos (by rw [z]; exact beq_self_eq_true d)]
      · rw [if_neg z, if_neg (fun q => z (eq_of_beq q))]
    have k1 : ∀ x : Nat, x < 16 → (nI x = nI d ↔ x = d) := fun x hx => nI_eq (by omega) (by omega)
    unfold f_X11_hasRow_B43 f_X11_hasRow_J68 f_X11_hasRow_J85
    dsimp only
    rw [if_neg (nI_ge hi (by omega)), ck_pos (in_ok (by omega) (by omega)), nI_clamp (by omega), hr i hi, hf i hi, cnt_s, c1, nI_1]
    by_cases z1 : g i = d
    · rw [if_pos ((k1 _ (by omega)).mpr z1), ck_pos (show ¬ (nI i < 0 ∨ 64 ≤ i) from fun q => q.elim (nI_pos (by omega)) (by omega)), if_pos z1]
      by_cases z2 : v / b ^ i % b = d
      · rw [if_pos ((k1 _ (by omega)).mpr z2), if_pos z2, i4, nI_1, nI_1]
      · rw [if_neg (fun q => z2 ((k1 _ (by omega)).mp q)), if_neg z2, i4, nI_1, Int32.add_zero]
        rfl
    · rw [if_neg (fun q => z1 ((k1 _ (by omega)).mp q)), ck_pos (show ¬ (nI i < 0 ∨ 64 ≤ i) from fun q => q.elim (nI_pos (by omega)) (by omega)), if_neg z1]
      by_cases z2 : v / b ^ i % b = d
      · rw [if_pos ((k1 _ (by omega)).mpr z2), if_pos z2, i4, nI_1, Int32.add_zero]
        rfl
      · rw [if_neg (fun q => z2 ((k1 _ (by omega)).mp q)), if_neg z2, i4, Int32.add_zero, Int32.add_zero]
        rfl) (by
    intro rec s hI
    unfold f_X11_hasRow_B43
    dsimp only
    rw [if_pos (nI_le (Nat.le_refl _) (by omega))]) F 0 (0 : Int32) (Nat.zero_le _) (by show (0 : Int32) = nI 0 - nI 0; decide) (by omega)
  have h2' : lp (f_X11_hasRow_B43 F (nI w) row (nI d) many figs) F ((0 : Int32), (0 : Int32)) = some s := h2
  rw [h2', h1]
theorem perm_cnt {b : Nat} {l m : List Nat} (hl : ∀ x ∈ l, x < b) (hm : ∀ x ∈ m, x < b) : l.Perm m ↔ ∀ d, d < b → m.count d = l.count d := by
  constructor
  · intro h d _; exact (h.count_eq d).symm
  · intro h
    rw [List.perm_iff_count]
    intro d
    rcases Nat.lt_or_ge d b with z | z
    · exact (h d z).symm
    · rw [List.count_eq_zero_of_not_mem (fun q => by have := hl d q; omega), List.count_eq_zero_of_not_mem (fun q => by have := hm d q; omega)]
theorem outer_h {F b w v : Nat} {many : Int32} {row figs : Nat → Int32} {g : Nat → Nat} (hb : bOK b) (hF : 100 < F) (hw : w ≤ 6) (hr : rwOK row g w) (hg : ∀ i, i < w → g i < b) (hf : ∀ i, i < w → figs i = nI (v / b ^ i % b)) : ∃ r, lp (f_X11_hasRow_B23 F (nI w) (nI b) row many figs) F ((1 : Int32), (0 : Int32)) = some r ∧ ((r = 1 ∧ (dL b w v).Perm (gl g w)) ∨ (r = 0 ∧ ¬ (dL b w v).Perm (gl g w))) := by
  have hb1 := hb.1
  have hb2 := hb.2
  have hpc := perm_cnt (b := b) (l := dL b w v) (m := gl g w) (fun x hx => dL_lt (by omega) w v x hx) (fun x hx => by obtain ⟨i, hi, e⟩ := gl_mem hx; rw [← e]; exact hg i hi)
  have hc1 : ∀ d, (gl g w).count d ≤ 6 := fun d => by have := List.count_le_length (a := d) (l := gl g w); rw [gl_len] at this; omega
  have hc2 : ∀ d, (dL b w v).count d ≤ 6 := fun d => by have := List.count_le_length (a := d) (l := dL b w v); rw [dL_len] at this; omega
  refine lp_ex (B := f_X11_hasRow_B23 F (nI w) (nI b) row many figs) (fun k x => (∃ i, x = ((1 : Int32), nI i) ∧ i ≤ b ∧ (∀ d, d < i → (gl g w).count d = (dL b w v).count d) ∧ k = b - i + 1) ∨ (∃ y, x = ((0 : Int32), y) ∧ ¬ (dL b w v).Perm (gl g w) ∧ k = 0)) (fun _ r => (r = 1 ∧ (dL b w v).Perm (gl g w)) ∨ (r = 0 ∧ ¬ (dL b w v).Perm (gl g w))) ?_ F (b - 0 + 1) _ (Or.inl ⟨0, rfl, Nat.zero_le _, fun d hd => absurd hd (Nat.not_lt_zero _), rfl⟩) (by omega)
  rintro rec k x (⟨i, rfl, hi, hI, rfl⟩ | ⟨y, rfl, hI, rfl⟩) hrec
  · unfold f_X11_hasRow_B23 f_X11_hasRow_J105
    dsimp only
    rcases Nat.lt_or_ge i b with z | z
    · rw [if_neg (nI_ge z (by omega)), if_neg n10, inner_h (many := many) hb hF hw hr hg hf z, Option.bind_some, nI_1]
      by_cases q : (gl g w).count i = (dL b w v).count i
      · rw [if_pos ((sub_0 (by have := hc1 i; omega) (by have := hc2 i; omega)).mpr q)]
        refine hrec (b - (i + 1) + 1) _ (by omega) (Or.inl ⟨i + 1, rfl, z, fun d hd => ?_, rfl⟩)
        rcases Nat.lt_or_ge d i with y | y
        · exact hI d y
        · have : d = i := by omega
          rw [this]; exact q
      · rw [if_neg (fun h => q ((sub_0 (by have := hc1 i; omega) (by have := hc2 i; omega)).mp h))]
        exact hrec 0 _ (by omega) (Or.inr ⟨_, rfl, fun h => q (hpc.mp h i z), rfl⟩)
    · rw [if_pos (nI_le z (by omega))]
      exact ⟨_, rfl, Or.inl ⟨rfl, hpc.mpr (fun d hd => hI d (by omega))⟩⟩
  · unfold f_X11_hasRow_B23
    dsimp only
    refine ⟨0, ?_, Or.inr ⟨rfl, hI⟩⟩
    split
    · rfl
    · rfl
theorem p_hasRow {F b w v : Nat} {many : Int32} {row figs : Nat → Int32} {g : Nat → Nat} (hb : bOK b) (hF : 200 ≤ F) (hw1 : 1 ≤ w) (hw : w ≤ 6) (hr : rwOK row g w) (hg : ∀ i, i < w → g i < b) (hv : v < 2 ^ 62) : ∃ r many' figs', f_X11_hasRow F (lN v) (nI w) (nI b) many figs row = some (r, many', figs') ∧ ((r = 1 ∧ ((w = 1 ∨ b ^ (w - 1) ≤ v) ∧ v < b ^ w) ∧ (dL b w v).Perm (gl g w)) ∨ (r = 0 ∧ ¬ (((w = 1 ∨ b ^ (w - 1) ≤ v) ∧ v < b ^ w) ∧ (dL b w v).Perm (gl g w)))) := by
  have hl := dg_63 hb hv
  have hb2 := hb.2
  unfold f_X11_hasRow f_X11_hasRow_J18
  rw [p_lay (by omega) hb.1 hb.2 hv, Option.bind_some]
  dsimp only
  by_cases z : (dg b v).length = w
  · have hf : ∀ i, i < w → putL figs 0 (dg b v) i = nI (v / b ^ i % b) := by
      intro i hi
      rw [putL_at0 _ _ _ (by omega)]
      congr 1
      have e := dg_dL b v
      rw [z] at e
      have h1 : (dg b v)[i]? = (dL b w v)[i]? := by rw [← e]
      rw [List.getElem?_eq_getElem (by omega)] at h1
      have h2 : (dL b w v)[i]? = some (v / b ^ i % b) := by
        have : ∀ w n i, i < w → (dL b w n)[i]? = some (n / b ^ i % b) := by
          intro w
          induction w with
          | zero => intro n i h; exact absurd h (Nat.not_lt_zero _)
          | succ w ih =>
            intro n i h
            cases i with
            | zero => show some (n % b) = _; rw [Nat.pow_zero, Nat.div_one]
            | succ i =>
              show (dL b w (n / b))[i]? = _
              rw [ih (n / b) i (by omega), Nat.div_div_eq_div_mul, Nat.pow_succ, Nat.mul_comm b]
        exact this w v i hi
      rw [h2] at h1
      exact Option.some.inj h1
    obtain ⟨r, e1, h1⟩ := outer_h (F := F) (many := nI (dg b v).length) hb (by omega) hw hr hg hf
    rw [if_pos (by rw [z]), e1, Option.bind_some]
    rcases h1 with ⟨rfl, h2⟩ | ⟨rfl, h2⟩
    · rw [ck_pos (by decide)]
      exact ⟨_, _, _, rfl, Or.inl ⟨rfl, (len_iff hb hw1 hv).mp z, h2⟩⟩
    · rw [ck_pos (by decide)]
      exact ⟨_, _, _, rfl, Or.inr ⟨rfl, fun q => h2 q.2⟩⟩
  · have e0 : lp (f_X11_hasRow_B23 F (nI w) (nI b) row (nI (dg b v).length) (putL figs 0 (dg b v))) F ((0 : Int32), (0 : Int32)) = some (0 : Int32) := by
      obtain ⟨k, rfl⟩ : ∃ k, F = k + 1 := ⟨F - 1, by omega⟩
      rw [lp_succ]
      unfold f_X11_hasRow_B23
      dsimp only
      split
      · rfl
      · rfl
    rw [if_neg (fun q => z ((nI_eq (by omega) (by omega)).mp q)), e0, Option.bind_some, ck_pos (by decide)]
    exact ⟨_, _, _, rfl, Or.inr ⟨rfl, fun q => z ((len_iff hb hw1 hv).mpr q.1)⟩⟩
