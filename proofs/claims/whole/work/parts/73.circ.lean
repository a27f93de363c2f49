/-! the rounds that were found: their places, by their least numbers -/
def CS (s : Nat → Nat) (B Z : Nat) (ls ln fb od : Nat → Nat) : Prop := (∀ h, h < Z → CL s (ls h) (ln h) ∧ ls h < B ∧ fb h ≤ 20001) ∧ (∀ i, i < Z → od i < Z) ∧ (∀ i j, i < j → j < Z → ls (od i) < ls (od j)) ∧ (∀ h, h < Z → ∃ i, i < Z ∧ od i = h)
def CA (Z NN : Nat) (ls ln fb od : Nat → Nat) (leasts : Nat → Int64) (lengths firstBy order : Nat → Int32) : Prop := (∃ k, k ≤ 11 ∧ NN = 16 * 2 ^ k) ∧ Z ≤ NN ∧ ∀ i, i < Z → leasts i = lN (ls i) ∧ lengths i = nI (ln i) ∧ firstBy i = nI (fb i) ∧ order i = nI (od i)
theorem CA_N {Z NN : Nat} {ls ln fb od : Nat → Nat} {leasts : Nat → Int64} {lengths firstBy order : Nat → Int32} (h : CA Z NN ls ln fb od leasts lengths firstBy order) : 16 ≤ NN ∧ NN ≤ 32768 := by
  obtain ⟨⟨k, hk, rfl⟩, _⟩ := h
  have h1 : 2 ^ k ≤ 2 ^ 11 := Nat.pow_le_pow_right (by omega) hk
  have h2 := Nat.two_pow_pos k
  omega
theorem CS_Z {s : Nat → Nat} {B Z : Nat} {D : List Nat} {ls ln fb od : Nat → Nat} (hA : AM s B D) (h : CS s B Z ls ln fb od) : Z ≤ D.length := by
  have h1 := nodup_len ((List.range Z).map (fun i => ls (od i))) D (by
    rw [List.nodup_iff_pairwise_ne, List.pairwise_iff_getElem]
    intro i j hi hj hij q
    rw [List.length_map, List.length_range] at hi hj
    rw [List.getElem_map, List.getElem_map, List.getElem_range, List.getElem_range] at q
    have := h.2.2.1 i j hij hj
    omega) (by
    intro y hy
    obtain ⟨i, hi, rfl⟩ := List.mem_map.mp hy
    have hi' := List.mem_range.mp hi
    have q := h.1 (od i) (h.2.1 i hi')
    exact CL_D hA q.2.1 q.1)
  rwa [List.length_map, List.length_range] at h1
theorem CL_r {s : Nat → Nat} {B L r : Nat} {D : List Nat} (hA : AM s B D) (hL : L < B) (h : CL s L r) : r ≤ D.length := by
  have := dis_bd hA hL (CL_D hA hL h) h.1.2.2
  omega
theorem p_rankOf {F B Z NN L : Nat} {s : Nat → Nat} {ls ln fb od : Nat → Nat} {leasts : Nat → Int64} {lengths firstBy order : Nat → Int32} (hF : 40000 ≤ F) (hB : B ≤ 2 ^ 24) (hS : CS s B Z ls ln fb od) (hC : CA Z NN ls ln fb od leasts lengths firstBy order) (hL : L < 2 ^ 62) : ∃ k, k ≤ Z ∧ f_X0_rankOf F (lN L) (nI Z) NN leasts NN order = some (nI k) ∧ (∀ i, i < k → ls (od i) < L) ∧ (k < Z → L ≤ ls (od k)) := by
  obtain ⟨hN1, hN2⟩ := CA_N hC
  have hZN := hC.2.1
  obtain ⟨e, h1, k, h2, rfl, h3, h4⟩ := lp_ex (B := f_X0_rankOf_B2 F (lN L) (nI Z) NN leasts NN order) (fun q x => ∃ i, x = nI i ∧ i ≤ Z ∧ (∀ j, j < i → ls (od j) < L) ∧ q = Z - i) (fun _ e => ∃ k, k ≤ Z ∧ e = nI k ∧ (∀ i, i < k → ls (od i) < L) ∧ (k < Z → L ≤ ls (od k))) (by
    rintro rec q x ⟨i, rfl, hi, hlt, rfl⟩ hrec
    unfold f_X0_rankOf_B2
    rcases Nat.lt_or_ge i Z with z | z
    · have hod := hS.2.1 i z
      obtain ⟨c1, c2, c3, c4⟩ := hC.2.2 i z
      obtain ⟨d1, d2, d3, d4⟩ := hC.2.2 (od i) hod
      have hls := (hS.1 (od i) hod).2.1
      rw [if_neg (nI_ge z (by omega)), ck_pos (in_ok (by omega) (by omega)), nI_clamp (n := i) (by omega), c4, ck_pos (in_ok (by omega) (by omega)), nI_clamp (n := od i) (by omega), d1]
      by_cases y : L ≤ ls (od i)
      · rw [if_pos ((pk_lLE (by omega) (by omega)).mpr y)]
        exact ⟨_, rfl, i, hi, rfl, hlt, fun _ => y⟩
      · rw [if_neg (fun q => y ((pk_lLE (by omega) (by omega)).mp q)), nI_1]
        refine hrec (Z - (i + 1)) _ (by omega) ⟨i + 1, rfl, z, fun j hj => ?_, rfl⟩
        rcases Nat.lt_or_ge j i with v | v
        · exact hlt j v
        · have : j = i := by omega
          subst this; omega
    · have : i = Z := by omega
      subst this
      rw [if_pos (nI_le (Nat.le_refl _) (by omega))]
      exact ⟨_, rfl, i, Nat.le_refl _, rfl, hlt, fun q => absurd q (Nat.lt_irrefl _)⟩) F Z (nI 0) ⟨0, rfl, Nat.zero_le _, fun j hj => absurd hj (Nat.not_lt_zero _), rfl⟩ (by omega)
  refine ⟨k, h2, ?_, h3, h4⟩
  have h1' : lp (f_X0_rankOf_B2 F (lN L) (nI Z) NN leasts NN order) F (0 : Int32) = some (nI k) := h1
  unfold f_X0_rankOf
  rw [h1', Option.bind_some]
theorem insO_loop {F Z NN k : Nat} {od : Nat → Nat} {n1 n2 n3 : Nat} {leasts : Nat → Int64} {lengths firstBy : Nat → Int32} (hZ : Z < NN) (hN : NN ≤ 65536) : ∀ (i G : Nat) (ord : Nat → Int32), k ≤ i → i ≤ Z → i < G → (∀ j, j < i → ord j = nI (od j)) → (∀ j, i < j → j ≤ Z → ord j = nI (od (j - 1))) → ∃ ord', lp (f_X0_insert_B86 F (nI k) (nI Z) n1 leasts n2 lengths n3 firstBy NN) G (nI i, ord) = some ord' ∧ (∀ j, j < k → ord' j = nI (od j)) ∧ (∀ j, k < j → j ≤ Z → ord' j = nI (od (j - 1)))
  | _, 0, _, _, _, h, _, _ => absurd h (Nat.not_lt_zero _)
  | 0, G + 1, ord, hk, hi, _, h1, h2 => by
    have : k = 0 := by omega
    subst this
    refine ⟨ord, ?_, h1, h2⟩
    rw [lp_succ]
    unfold f_X0_insert_B86
    dsimp only
    rw [if_pos (nI_le (Nat.le_refl _) (by omega))]
  | i + 1, G + 1, ord, hk, hi, hG, h1, h2 => by
    rcases Nat.lt_or_ge k (i + 1) with z | z
    · have ih := insO_loop (F := F) (k := k) (od := od) (n1 := n1) (n2 := n2) (n3 := n3) (leasts := leasts) (lengths := lengths) (firstBy := firstBy) hZ hN i G (upd ord (i + 1) (nI (od i))) (by omega) (by omega) (by omega)
      rw [lp_succ]
      generalize lp (f_X0_insert_B86 F (nI k) (nI Z) n1 leasts n2 lengths n3 firstBy NN) G = rec at ih ⊢
      unfold f_X0_insert_B86
      dsimp only
      rw [if_neg (nI_ge z (by omega)), nI_pred, ck_pos (in_ok (by omega) (by omega)), ck_pos (in_ok (by omega) (by omega)), nI_clamp (n := i) (by omega), nI_clamp (n := i + 1) (by omega), h1 i (by omega), pk_m1]
      refine ih (fun j hj => ?_) (fun j hj hj2 => ?_)
      · rw [pk_un (by omega)]; exact h1 j (by omega)
      · by_cases e : j = i + 1
        · subst e; rw [pk_us, Nat.add_sub_cancel]
        · rw [pk_un e]; exact h2 j (by omega) hj2
    · have : k = i + 1 := by omega
      subst this
      refine ⟨ord, ?_, h1, h2⟩
      rw [lp_succ]
      unfold f_X0_insert_B86
      dsimp only
      rw [if_pos (nI_le (Nat.le_refl _) (by omega))]
def upN (f : Nat → Nat) (k v : Nat) : Nat → Nat := fun i => if i = k then v else f i
theorem upN_s {f : Nat → Nat} {k v : Nat} : upN f k v k = v := if_pos rfl
theorem upN_n {f : Nat → Nat} {k v i : Nat} (h : i ≠ k) : upN f k v i = f i := if_neg h
theorem p_insJ {F Z NN k L r : Nat} {ls ln fb od : Nat → Nat} {leasts : Nat → Int64} {lengths firstBy order : Nat → Int32} (hF : 70000 ≤ F) (hC : CA Z NN ls ln fb od leasts lengths firstBy order) (hZ : Z < NN) (hk : k ≤ Z) : ∃ leasts' lengths' firstBy' order', f_X0_insert_J80 F (nI k) (lN L) (nI r) (4 * NN) (nI Z) NN leasts NN lengths NN firstBy NN order = some (nI (Z + 1), NN, leasts', NN, lengths', NN, firstBy', NN, order') ∧ CA (Z + 1) NN (upN ls Z L) (upN ln Z r) (upN fb Z 20001) (insF od k Z) leasts' lengths' firstBy' order' := by
  obtain ⟨hN1, hN2⟩ := CA_N hC
  obtain ⟨ord', e1, h1, h2⟩ := insO_loop (F := F) (k := k) (od := od) (n1 := NN) (n2 := NN) (n3 := NN) (leasts := leasts) (lengths := lengths) (firstBy := firstBy) hZ (by omega) Z F order hk (Nat.le_refl _) (by omega) (fun j hj => (hC.2.2 j hj).2.2.2) (fun j h1 h2 => by omega)
  refine ⟨vp_updL leasts Z (lN L), upd lengths Z (nI r), upd firstBy Z (20001 : Int32), upd ord' k (nI Z), ?_, hC.1, hZ, fun i hi => ?_⟩
  · unfold f_X0_insert_J80
    rw [e1, Option.bind_some, ck_pos (in_ok (by omega) (by omega)), ck_pos (in_ok (by omega) (by omega)), ck_pos (in_ok (by omega) (by omega)), ck_pos (in_ok (by omega) (by omega)), ck_pos (by omega), nI_clamp (n := Z) (by omega), nI_clamp (n := k) (by omega), nI_1]
  · by_cases z : i = Z
    · subst z
      refine ⟨by rw [pk_uLs, upN_s], by rw [pk_us, upN_s], by rw [pk_us, upN_s]; rfl, ?_⟩
      unfold insF
      by_cases y : i = k
      · subst y
        rw [pk_us, if_neg (Nat.lt_irrefl _), if_pos rfl]
      · rw [pk_un y, if_neg (by omega), if_neg y]
        exact h2 i (by omega) (Nat.le_refl _)
    · obtain ⟨c1, c2, c3, c4⟩ := hC.2.2 i (by omega)
      refine ⟨by rw [pk_uLn z, upN_n z]; exact c1, by rw [pk_un z, upN_n z]; exact c2, by rw [pk_un z, upN_n z]; exact c3, ?_⟩
      unfold insF
      by_cases y : i = k
      · subst y
        rw [pk_us, if_neg (Nat.lt_irrefl _), if_pos rfl]
      · rw [pk_un y]
        by_cases v : i < k
        · rw [if_pos v]; exact h1 i v
        · rw [if_neg v, if_neg y]
          exact h2 i (by omega) (by omega)
theorem p_insC {F Z NN k L r : Nat} {ls ln fb od : Nat → Nat} {leasts : Nat → Int64} {lengths firstBy order : Nat → Int32} (hF : 70000 ≤ F) (hC : CA Z NN ls ln fb od leasts lengths firstBy order) (hZ : Z < 32768) (hk : k ≤ Z) : ∃ NN' leasts' lengths' firstBy' order', f_X0_insert F (4 * NN') (nI k) (lN L) (nI r) (nI Z) NN leasts NN lengths NN firstBy NN order = some (nI (Z + 1), NN', leasts', NN', lengths', NN', firstBy', NN', order') ∧ NN ≤ NN' ∧ CA (Z + 1) NN' (upN ls Z L) (upN ln Z r) (upN fb Z 20001) (insF od k Z) leasts' lengths' firstBy' order' := by
  obtain ⟨hN1, hN2⟩ := CA_N hC
  have hZN := hC.2.1
  by_cases z : Z = NN
  · subst z
    obtain ⟨⟨j, hj, ej⟩, _, hC3⟩ := hC
    have hj2 : j < 11 := by
      rcases Nat.lt_or_ge j 11 with y | y
      · exact y
      · have : j = 11 := by omega
        subst this
        omega
    have hC' : CA Z (2 * Z) ls ln fb od (va_cpy leasts (fun _ => 0) 0 0 Z) (va_cpy lengths (fun _ => 0) 0 0 Z) (va_cpy firstBy (fun _ => 0) 0 0 Z) (va_cpy order (fun _ => 0) 0 0 Z) := by
      refine ⟨⟨j + 1, by omega, by rw [Nat.pow_succ]; omega⟩, by omega, fun i hi => ?_⟩
      rw [pk_cpy_in (by omega) (by omega), pk_cpy_in (by omega) (by omega), pk_cpy_in (by omega) (by omega), pk_cpy_in (by omega) (by omega), show 0 + (i - 0) = i by omega]
      exact hC3 i hi
    obtain ⟨l', n', f', o', e1, h1⟩ := p_insJ (F := F) (k := k) (L := L) (r := r) hF hC' (by omega) hk
    refine ⟨2 * Z, l', n', f', o', ?_, by omega, h1⟩
    have e2 : (2 : Int32) * nI Z = nI (2 * Z) := pk_mul 2 Z
    have e3 : (nI (2 * Z)).toNatClampNeg = 2 * Z := nI_clamp (by omega)
    have hp : ¬ nI (2 * Z) < 0 := nI_pos (by omega)
    unfold f_X0_insert
    rw [ck_pos (by omega), if_pos (show nI Z = Int32.ofNat Z from rfl), e2, e3, ck_pos ⟨hp, by omega, by omega, by omega, by omega⟩, ck_pos ⟨hp, by omega, by omega, by omega, by omega⟩, ck_pos ⟨hp, by omega, by omega, by omega, by omega⟩, ck_pos ⟨hp, by omega, by omega, by omega, by omega⟩]
    exact e1
  · obtain ⟨l', n', f', o', e1, h1⟩ := p_insJ (F := F) (k := k) (L := L) (r := r) hF hC (by omega) hk
    refine ⟨NN, l', n', f', o', ?_, Nat.le_refl _, h1⟩
    unfold f_X0_insert
    rw [ck_pos (by omega), if_neg (show ¬ nI Z = Int32.ofNat NN from fun q => z ((nI_eq (a := Z) (b := NN) (by omega) (by omega)).mp q))]
    exact e1
theorem CS_ins {s : Nat → Nat} {B Z k L r : Nat} {ls ln fb od : Nat → Nat} (h : CS s B Z ls ln fb od) (hL : CL s L r) (hB : L < B) (hk : k ≤ Z) (h1 : ∀ i, i < k → ls (od i) < L) (h2 : ∀ i, k ≤ i → i < Z → L < ls (od i)) : CS s B (Z + 1) (upN ls Z L) (upN ln Z r) (upN fb Z 20001) (insF od k Z) := by
  obtain ⟨g1, g2, g3, g4⟩ := h
  have hod : ∀ i, i < Z → upN ls Z L (od i) = ls (od i) := fun i hi => upN_n (by have := g2 i hi; omega)
  refine ⟨fun h hh => ?_, fun i hi => ?_, fun i j hij hj => ?_, fun h hh => ?_⟩
  · by_cases z : h = Z
    · subst z
      rw [upN_s, upN_s, upN_s]
      exact ⟨hL, hB, Nat.le_refl _⟩
    · rw [upN_n z, upN_n z, upN_n z]
      exact g1 h (by omega)
  · unfold insF
    by_cases z : i < k
    · rw [if_pos z]; have := g2 i (by omega); omega
    · rw [if_neg z]
      by_cases y : i = k
      · rw [if_pos y]; omega
      · rw [if_neg y]; have := g2 (i - 1) (by omega); omega
  · unfold insF
    by_cases z1 : i < k
    · rw [if_pos z1, hod i (by omega)]
      by_cases z2 : j < k
      · rw [if_pos z2, hod j (by omega)]; exact g3 i j hij (by omega)
      · rw [if_neg z2]
        by_cases z3 : j = k
        · rw [if_pos z3, upN_s]; exact h1 i z1
        · rw [if_neg z3, hod _ (by omega)]; exact g3 i (j - 1) (by omega) (by omega)
    · rw [if_neg z1, if_neg (show ¬ j < k by omega), if_neg (show ¬ j = k by omega), hod (j - 1) (by omega)]
      by_cases z3 : i = k
      · rw [if_pos z3, upN_s]; exact h2 (j - 1) (by omega) (by omega)
      · rw [if_neg z3, hod _ (by omega)]; exact g3 (i - 1) (j - 1) (by omega) (by omega)
  · by_cases z : h = Z
    · exact ⟨k, by omega, by unfold insF; rw [if_neg (Nat.lt_irrefl _), if_pos rfl]; exact z.symm⟩
    · obtain ⟨i, hi, e⟩ := g4 h (by omega)
      by_cases y : i < k
      · exact ⟨i, by omega, by unfold insF; rw [if_pos y]; exact e⟩
      · exact ⟨i + 1, by omega, by unfold insF; rw [if_neg (by omega), if_neg (by omega), Nat.add_sub_cancel]; exact e⟩
