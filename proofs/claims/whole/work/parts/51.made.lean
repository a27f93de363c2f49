/-! made -/
theorem nb1 : vp_nar .boolean (1 : Int32) = 1 := by decide +kernel
theorem nb0 : vp_nar .boolean (0 : Int32) = 0 := by decide +kernel
def Two (b x : Nat) : Prop := ∃ a c, 1 ≤ a ∧ 1 ≤ c ∧ pal b a ∧ pal b c ∧ a + c = x
def Three (b n : Nat) : Prop := ∃ a, 1 ≤ a ∧ a < n ∧ pal b a ∧ Two b (n - a)
def Four (b n : Nat) : Prop := ∃ v, 1 ≤ v ∧ v < n ∧ Two b v ∧ Two b (n - v)
def MK (arr : Nat → Int32) (S : Nat → Prop) (lim : Nat) : Prop := ∀ x, 1 ≤ x → x ≤ lim → (arr x = 0 ↔ ¬ S x)
theorem MK_ext {arr : Nat → Int32} {S T : Nat → Prop} {lim : Nat} (h : MK arr S lim) (e : ∀ x, 1 ≤ x → x ≤ lim → (S x ↔ T x)) : MK arr T lim := fun x h1 h2 => by rw [h x h1 h2, e x h1 h2]
theorem MK_upd {arr : Nat → Int32} {S : Nat → Prop} {lim k : Nat} (h : MK arr S lim) : MK (upd arr k 1) (fun x => S x ∨ k = x) lim := by
  intro x h1 h2
  by_cases e : x = k
  · subst e
    rw [pk_us]
    exact ⟨fun z => absurd z n10, fun z => absurd (Or.inr rfl) z⟩
  · rw [pk_un e, h x h1 h2]
    exact ⟨fun z y => y.elim z (fun q => e q.symm), fun z y => z (Or.inl y)⟩
theorem PL_get {b n i : Nat} (h : i < (PL b n).length) : 1 ≤ (PL b n).getD i 0 ∧ (PL b n).getD i 0 ≤ n ∧ pal b ((PL b n).getD i 0) := (PL_mem b n _).mp (getD_mem h)
theorem PL_lt {b n i j : Nat} (h : j < (PL b n).length) (hij : i < j) : (PL b n).getD i 0 < (PL b n).getD j 0 := by
  have := List.pairwise_iff_getElem.mp (PL_srt b n) i j (by omega) h hij
  rw [List.getD_eq_getElem?_getD, List.getD_eq_getElem?_getD, List.getElem?_eq_getElem h, List.getElem?_eq_getElem (show i < (PL b n).length by omega)]
  exact this
theorem PL_le {b n i j : Nat} (h : j < (PL b n).length) (hij : i ≤ j) : (PL b n).getD i 0 ≤ (PL b n).getD j 0 := by
  rcases Nat.lt_or_ge i j with z | z
  · exact Nat.le_of_lt (PL_lt h z)
  · rw [show i = j by omega]; exact Nat.le_refl _
theorem PL_idx {b n v : Nat} (h1 : 1 ≤ v) (h2 : v ≤ n) (h3 : pal b v) : ∃ i, i < (PL b n).length ∧ (PL b n).getD i 0 = v := by
  obtain ⟨i, hi, e⟩ := List.mem_iff_getElem.mp ((PL_mem b n v).mpr ⟨h1, h2, h3⟩)
  exact ⟨i, hi, by rw [List.getD_eq_getElem?_getD, List.getElem?_eq_getElem hi]; exact e⟩
theorem Two_iff {b lim x : Nat} (hx : x ≤ lim) : Two b x ↔ ∃ i j, i ≤ j ∧ j < (PL b lim).length ∧ (PL b lim).getD i 0 + (PL b lim).getD j 0 = x := by
  constructor
  · rintro ⟨a, c, h1, h2, h3, h4, h5⟩
    obtain ⟨i, hi, ei⟩ := PL_idx (n := lim) h1 (by omega) h3
    obtain ⟨j, hj, ej⟩ := PL_idx (n := lim) h2 (by omega) h4
    rcases Nat.le_total i j with z | z
    · exact ⟨i, j, z, hj, by omega⟩
    · exact ⟨j, i, z, hi, by omega⟩
  · rintro ⟨i, j, h1, h2, h3⟩
    obtain ⟨a1, a2, a3⟩ := PL_get (b := b) (n := lim) (show i < (PL b lim).length by omega)
    obtain ⟨c1, c2, c3⟩ := PL_get h2
    exact ⟨_, _, a1, c1, a3, c3, h3⟩
/-- an array that holds the list -/
def lkOK (a : Nat → Int32) (ds : List Nat) : Prop := ∀ i, i < ds.length → a i = nI (ds.getD i 0)
/-! the reference -/
theorem likes_loop {F b n : Nat} (hF : 30000 ≤ F) (hb : bOK b) (hn : n ≤ 10000) {many : Int32} {figs like two : Nat → Int32} {G : Nat} (hG : 10001 < G) : ∃ many' figs' like' two', lp (f_X11_made_B35 F (nI n) (nI b)) G ((1 : Int32), many, figs, (0 : Int32), like, two) = some (many', figs', nI (PL b n).length, like', two') ∧ lkOK like' (PL b n) ∧ MK two' (fun _ => False) n := by
  obtain ⟨e, h1, h2⟩ := lp_ex (B := f_X11_made_B35 F (nI n) (nI b)) (fun k x => ∃ v many figs like two, x = (nI (v + 1), many, figs, nI (PL b v).length, like, two) ∧ v ≤ n ∧ lkOK like (PL b v) ∧ MK two (fun _ => False) v ∧ k = n - v) (fun _ e => ∃ many figs like two, e = (many, figs, nI (PL b n).length, like, two) ∧ lkOK like (PL b n) ∧ MK two (fun _ => False) n) (by
    rintro rec k x ⟨v, many, figs, like, two, rfl, hv, hl, hm, rfl⟩ hrec
    unfold f_X11_made_B35 f_X11_made_J79
    dsimp only
    rcases Nat.lt_or_ge v n with z | z
    · have hlen : (PL b v).length ≤ v := by
        have : ∀ m, (PL b m).length ≤ m := by
          intro m
          induction m with
          | zero => exact Nat.le_refl _
          | succ m ih =>
            have e : PL b (m + 1) = if pal b (m + 1) then PL b m ++ [m + 1] else PL b m := rfl
            rw [e]
            split
            · rw [List.length_append, List.length_singleton]; omega
            · omega
        exact this v
      have ht := trn_lt hb (n := v + 1) (by omega)
      rw [if_neg (nI_nlt (show v + 1 ≤ n by omega) (by omega)), ck_pos (in_ok (by omega) (by omega)), nI_l (by omega), p_turned (by omega) hb (by omega), Option.bind_some]
      dsimp only
      have hm' : MK (upd two (nI (v + 1)).toNatClampNeg (vp_nar .boolean (0 : Int32))) (fun _ => False) (v + 1) := by
        rw [nI_clamp (by omega), nb0]
        intro x x1 x2
        by_cases e : x = v + 1
        · rw [e, pk_us]; exact ⟨fun _ z => z, fun _ => rfl⟩
        · rw [pk_un e]; exact hm x x1 (by omega)
      have e : PL b (v + 1) = if pal b (v + 1) then PL b v ++ [v + 1] else PL b v := rfl
      by_cases q : trnN b (v + 1) = v + 1
      · have hp := (pal_iff hb (show v + 1 < 2 ^ 62 by omega)).mpr q
        rw [if_pos hp] at e
        rw [if_pos (by rw [q]), ck_pos (in_ok (by omega) (by omega)), nI_1, nI_1]
        refine hrec (n - (v + 1)) _ (by omega) ⟨v + 1, _, _, _, _, by rw [e, List.length_append, List.length_singleton], z, ?_, hm', rfl⟩
        rw [nI_clamp (by omega), e]
        intro i hi
        rw [List.length_append, List.length_singleton] at hi
        rw [List.getD_eq_getElem?_getD]
        by_cases c : i = (PL b v).length
        · rw [c, pk_us, List.getElem?_append_right (Nat.le_refl _), Nat.sub_self]; rfl
        · rw [pk_un c, List.getElem?_append_left (by omega), ← List.getD_eq_getElem?_getD]
          exact hl i (by omega)
      · have hp : ¬ pal b (v + 1) := fun c => q ((pal_iff hb (show v + 1 < 2 ^ 62 by omega)).mp c)
        rw [if_neg hp] at e
        rw [if_neg (fun c => q ((pk_lEQ (by omega) (by omega)).mp c)), nI_1]
        exact hrec (n - (v + 1)) _ (by omega) ⟨v + 1, _, _, _, _, by rw [e], z, by rw [e]; exact hl, hm', rfl⟩
    · have : v = n := by omega
      subst this
      rw [if_pos (nI_lt (by omega) (by omega))]
      exact ⟨_, rfl, _, _, _, _, rfl, hl, hm⟩) G n _ ⟨0, many, figs, like, two, rfl, Nat.zero_le _, fun i hi => absurd hi (Nat.not_lt_zero _), fun x h1 h2 => by omega, rfl⟩ (by omega)
  obtain ⟨many', figs', like', two', rfl, q1, q2⟩ := h2
  exact ⟨_, _, _, _, h1, q1, q2⟩
theorem PLlen_le (b : Nat) : ∀ m, (PL b m).length ≤ m := by
  intro m
  induction m with
  | zero => exact Nat.le_refl _
  | succ m ih =>
    have e : PL b (m + 1) = if pal b (m + 1) then PL b m ++ [m + 1] else PL b m := rfl
    rw [e]
    split
    · rw [List.length_append, List.length_singleton]; omega
    · omega
theorem twoM_in {F b n a : Nat} {many likes : Int32} {figs like two : Nat → Int32} {S : Nat → Prop} (hn : n ≤ 10000) (hl : lkOK like (PL b n)) (ha : a < (PL b n).length) (hm : MK two S n) {G : Nat} (hG : 10001 < G) : ∃ two', lp (f_X11_made_B97 F (nI n) (nI a) many figs likes like) G ((0 : Int32), two) = some two' ∧ MK two' (fun x => S x ∨ ∃ c, c ≤ a ∧ (PL b n).getD a 0 + (PL b n).getD c 0 = x) n := by
  have hL := PLlen_le b n
  refine lp_ex (B := f_X11_made_B97 F (nI n) (nI a) many figs likes like) (fun k x => ∃ c two, x = (nI c, two) ∧ c ≤ a + 1 ∧ MK two (fun x => S x ∨ ∃ c', c' < c ∧ (PL b n).getD a 0 + (PL b n).getD c' 0 = x) n ∧ k = a + 1 - c) (fun _ e => MK e (fun x => S x ∨ ∃ c, c ≤ a ∧ (PL b n).getD a 0 + (PL b n).getD c 0 = x) n) ?_ G (a + 1) _ ⟨0, two, rfl, Nat.zero_le _, MK_ext hm (fun x _ _ => ⟨Or.inl, fun z => z.elim id (fun ⟨c, q, _⟩ => absurd q (Nat.not_lt_zero _))⟩), rfl⟩ (by omega)
  rintro rec k x ⟨c, two, rfl, hc, hm, rfl⟩ hrec
  unfold f_X11_made_B97
  dsimp only
  rcases Nat.lt_or_ge a c with z | z
  · rw [if_pos (nI_lt z (by omega))]
    refine ⟨_, rfl, MK_ext hm (fun x _ _ => ?_)⟩
    constructor
    · rintro (q | ⟨c', q1, q2⟩)
      · exact Or.inl q
      · exact Or.inr ⟨c', by omega, q2⟩
    · rintro (q | ⟨c', q1, q2⟩)
      · exact Or.inl q
      · exact Or.inr ⟨c', by omega, q2⟩
  · obtain ⟨a1, a2, a3⟩ := PL_get ha
    obtain ⟨c1, c2, c3⟩ := PL_get (b := b) (n := n) (show c < (PL b n).length by omega)
    rw [if_neg (nI_nlt z (by omega)), ck_pos (in_ok (by omega) (by omega)), ck_pos (in_ok (by omega) (by omega)), nI_clamp (by omega), nI_clamp (by omega), hl a ha, hl c (by omega), nI_add]
    rcases Nat.lt_or_ge n ((PL b n).getD a 0 + (PL b n).getD c 0) with y | y
    · rw [if_pos (nI_lt y (by omega))]
      refine ⟨_, rfl, MK_ext hm (fun x _ hx => ?_)⟩
      constructor
      · rintro (q | ⟨c', q1, q2⟩)
        · exact Or.inl q
        · exact Or.inr ⟨c', by omega, q2⟩
      · rintro (q | ⟨c', q1, q2⟩)
        · exact Or.inl q
        · refine Or.inr ⟨c', ?_, q2⟩
          rcases Nat.lt_or_ge c' c with t | t
          · exact t
          · have := PL_le (b := b) (n := n) (show c' < (PL b n).length by omega) t
            omega
    · rw [if_neg (nI_nlt y (by omega)), ck_pos (show ¬ (nI a < 0 ∨ 10001 ≤ a) from fun q => q.elim (nI_pos (by omega)) (by omega)), ck_pos (show ¬ (nI c < 0 ∨ 10001 ≤ c) from fun q => q.elim (nI_pos (by omega)) (by omega)), ck_pos (in_ok (by omega) (by omega)), nI_clamp (by omega), nb1, nI_1]
      refine hrec (a + 1 - (c + 1)) _ (by omega) ⟨c + 1, _, rfl, by omega, MK_ext (MK_upd hm) (fun x _ hx => ?_), rfl⟩
      constructor
      · rintro ((q | ⟨c', q1, q2⟩) | q)
        · exact Or.inl q
        · exact Or.inr ⟨c', by omega, q2⟩
        · exact Or.inr ⟨c, by omega, q⟩
      · rintro (q | ⟨c', q1, q2⟩)
        · exact Or.inl (Or.inl q)
        · by_cases t : c' = c
          · subst t; exact Or.inr q2
          · exact Or.inl (Or.inr ⟨c', by omega, q2⟩)
theorem twoM {F b n : Nat} {many : Int32} {figs like two : Nat → Int32} (hF : 30000 ≤ F) (hn : n ≤ 10000) (hl : lkOK like (PL b n)) (hm : MK two (fun _ => False) n) {G : Nat} (hG : 10001 < G) : ∃ two', lp (f_X11_made_B87 F (nI n) many figs (nI (PL b n).length) like) G ((0 : Int32), two) = some two' ∧ MK two' (Two b) n := by
  have hL := PLlen_le b n
  refine lp_ex (B := f_X11_made_B87 F (nI n) many figs (nI (PL b n).length) like) (fun k x => ∃ a two, x = (nI a, two) ∧ a ≤ (PL b n).length ∧ MK two (fun x => ∃ i j, j < a ∧ i ≤ j ∧ (PL b n).getD j 0 + (PL b n).getD i 0 = x) n ∧ k = (PL b n).length - a) (fun _ e => MK e (Two b) n) ?_ G (PL b n).length _ ⟨0, two, rfl, Nat.zero_le _, MK_ext hm (fun x _ _ => ⟨False.elim, fun ⟨_, _, q, _⟩ => absurd q (Nat.not_lt_zero _)⟩), rfl⟩ (by omega)
  rintro rec k x ⟨a, two, rfl, ha, hm, rfl⟩ hrec
  unfold f_X11_made_B87
  dsimp only
  rcases Nat.lt_or_ge a (PL b n).length with z | z
  · obtain ⟨two', e1, e2⟩ := twoM_in (F := F) (many := many) (likes := nI (PL b n).length) (figs := figs) hn hl z hm (G := F) (by omega)
    rw [if_neg (nI_ge z (by omega)), e1, Option.bind_some, nI_1]
    refine hrec ((PL b n).length - (a + 1)) _ (by omega) ⟨a + 1, _, rfl, z, MK_ext e2 (fun x _ _ => ?_), rfl⟩
    constructor
    · rintro (⟨i, j, q1, q2, q3⟩ | ⟨c, q1, q2⟩)
      · exact ⟨i, j, by omega, q2, q3⟩
      · exact ⟨c, a, by omega, q1, q2⟩
    · rintro ⟨i, j, q1, q2, q3⟩
      by_cases t : j = a
      · subst t; exact Or.inr ⟨i, q2, q3⟩
      · exact Or.inl ⟨i, j, by omega, q2, q3⟩
  · rw [if_pos (nI_le z (by omega))]
    refine ⟨_, rfl, MK_ext hm (fun x _ hx => ?_)⟩
    rw [Two_iff hx]
    constructor
    · rintro ⟨i, j, q1, q2, q3⟩
      exact ⟨i, j, q2, by omega, by omega⟩
    · rintro ⟨i, j, q1, q2, q3⟩
      exact ⟨i, j, by omega, q1, by omega⟩
/-! the class -/
theorem twoC_in {F b a : Nat} {row alone two : Nat → Int32} {bb : Int32} {S : Nat → Prop} (hb : bOK b) (hl : lkOK alone (PL b 10000)) (ha : a < (PL b 10000).length) (hm : MK two S 10000) {G : Nat} (hG : 10001 < G) : ∃ two', lp (f_X5_renew_B143 F (nI a) row bb alone (nI (PL b 10000).length)) G (nI a, two) = some two' ∧ MK two' (fun x => S x ∨ ∃ c, a ≤ c ∧ c < (PL b 10000).length ∧ (PL b 10000).getD a 0 + (PL b 10000).getD c 0 = x) 10000 := by
  have hL := PL_512 hb
  refine lp_ex (B := f_X5_renew_B143 F (nI a) row bb alone (nI (PL b 10000).length)) (fun k x => ∃ c two, x = (nI c, two) ∧ a ≤ c ∧ c ≤ (PL b 10000).length ∧ MK two (fun x => S x ∨ ∃ c', a ≤ c' ∧ c' < c ∧ (PL b 10000).getD a 0 + (PL b 10000).getD c' 0 = x) 10000 ∧ k = (PL b 10000).length - c) (fun _ e => MK e (fun x => S x ∨ ∃ c, a ≤ c ∧ c < (PL b 10000).length ∧ (PL b 10000).getD a 0 + (PL b 10000).getD c 0 = x) 10000) ?_ G ((PL b 10000).length - a) _ ⟨a, two, rfl, Nat.le_refl _, by omega, MK_ext hm (fun x _ _ => ⟨Or.inl, fun z => z.elim id (fun ⟨c, q, r, _⟩ => by omega)⟩), rfl⟩ (by omega)
  rintro rec k x ⟨c, two, rfl, hac, hc, hm, rfl⟩ hrec
  unfold f_X5_renew_B143
  dsimp only
  rcases Nat.lt_or_ge c (PL b 10000).length with z | z
  · obtain ⟨a1, a2, a3⟩ := PL_get ha
    obtain ⟨c1, c2, c3⟩ := PL_get z
    rw [if_neg (nI_ge z (by omega)), ck_pos (in_ok (by omega) (by omega)), ck_pos (in_ok (by omega) (by omega)), nI_clamp (by omega), nI_clamp (by omega), hl a ha, hl c (by omega), nI_add]
    rcases Nat.lt_or_ge 10000 ((PL b 10000).getD a 0 + (PL b 10000).getD c 0) with y | y
    · rw [if_pos (show (10001 : Int32) ≤ _ from nI_le (a := 10001) y (by omega))]
      refine ⟨_, rfl, MK_ext hm (fun x _ hx => ?_)⟩
      constructor
      · rintro (q | ⟨c', q0, q1, q2⟩)
        · exact Or.inl q
        · exact Or.inr ⟨c', q0, by omega, q2⟩
      · rintro (q | ⟨c', q0, q1, q2⟩)
        · exact Or.inl q
        · refine Or.inr ⟨c', q0, ?_, q2⟩
          rcases Nat.lt_or_ge c' c with t | t
          · exact t
          · have := PL_le (b := b) (n := 10000) q1 t
            omega
    · rw [if_neg (show ¬ (10001 : Int32) ≤ _ from nI_ge (b := 10001) (by omega) (by omega)), ck_pos (show ¬ (nI a < 0 ∨ 512 ≤ a) from fun q => q.elim (nI_pos (by omega)) (by omega)), ck_pos (show ¬ (nI c < 0 ∨ 512 ≤ c) from fun q => q.elim (nI_pos (by omega)) (by omega)), ck_pos (in_ok (by omega) (by omega)), nI_clamp (by omega), nb1, nI_1]
      refine hrec ((PL b 10000).length - (c + 1)) _ (by omega) ⟨c + 1, _, rfl, by omega, by omega, MK_ext (MK_upd hm) (fun x _ hx => ?_), rfl⟩
      constructor
      · rintro ((q | ⟨c', q0, q1, q2⟩) | q)
        · exact Or.inl q
        · exact Or.inr ⟨c', q0, by omega, q2⟩
        · exact Or.inr ⟨c, hac, by omega, q⟩
      · rintro (q | ⟨c', q0, q1, q2⟩)
        · exact Or.inl (Or.inl q)
        · by_cases t : c' = c
          · subst t; exact Or.inr q2
          · exact Or.inl (Or.inr ⟨c', q0, by omega, q2⟩)
  · rw [if_pos (nI_le z (by omega))]
    refine ⟨_, rfl, MK_ext hm (fun x _ _ => ?_)⟩
    constructor
    · rintro (q | ⟨c', q0, q1, q2⟩)
      · exact Or.inl q
      · exact Or.inr ⟨c', q0, by omega, q2⟩
    · rintro (q | ⟨c', q0, q1, q2⟩)
      · exact Or.inl q
      · exact Or.inr ⟨c', q0, by omega, q2⟩
theorem twoC {F b : Nat} {row alone two : Nat → Int32} {bb : Int32} (hF : 30000 ≤ F) (hb : bOK b) (hl : lkOK alone (PL b 10000)) (hm : MK two (fun _ => False) 10000) {G : Nat} (hG : 10001 < G) : ∃ two', lp (f_X5_renew_B133 F row bb alone (nI (PL b 10000).length)) G ((0 : Int32), two) = some two' ∧ MK two' (Two b) 10000 := by
  have hL := PL_512 hb
  refine lp_ex (B := f_X5_renew_B133 F row bb alone (nI (PL b 10000).length)) (fun k x => ∃ a two, x = (nI a, two) ∧ a ≤ (PL b 10000).length ∧ MK two (fun x => ∃ i j, i < a ∧ i ≤ j ∧ j < (PL b 10000).length ∧ (PL b 10000).getD i 0 + (PL b 10000).getD j 0 = x) 10000 ∧ k = (PL b 10000).length - a) (fun _ e => MK e (Two b) 10000) ?_ G (PL b 10000).length _ ⟨0, two, rfl, Nat.zero_le _, MK_ext hm (fun x _ _ => ⟨False.elim, fun ⟨_, _, q, _⟩ => absurd q (Nat.not_lt_zero _)⟩), rfl⟩ (by omega)
  rintro rec k x ⟨a, two, rfl, ha, hm, rfl⟩ hrec
  unfold f_X5_renew_B133
  dsimp only
  rcases Nat.lt_or_ge a (PL b 10000).length with z | z
  · obtain ⟨two', e1, e2⟩ := twoC_in (F := F) (row := row) (bb := bb) hb hl z hm (G := F) (by omega)
    rw [if_neg (nI_ge z (by omega)), e1, Option.bind_some, nI_1]
    refine hrec ((PL b 10000).length - (a + 1)) _ (by omega) ⟨a + 1, _, rfl, z, MK_ext e2 (fun x _ _ => ?_), rfl⟩
    constructor
    · rintro (⟨i, j, q1, q2, q3⟩ | ⟨c, q1, q2⟩)
      · exact ⟨i, j, by omega, q2, q3⟩
      · exact ⟨a, c, by omega, q1, q2⟩
    · rintro ⟨i, j, q1, q2, q3⟩
      by_cases t : i = a
      · subst t; exact Or.inr ⟨j, q2, q3⟩
      · exact Or.inl ⟨i, j, by omega, q2, q3⟩
  · rw [if_pos (nI_le z (by omega))]
    refine ⟨_, rfl, MK_ext hm (fun x _ hx => ?_)⟩
    rw [Two_iff hx]
    constructor
    · rintro ⟨i, j, q1, q2, q3, q4⟩
      exact ⟨i, j, q2, q3, q4⟩
    · rintro ⟨i, j, q1, q2, q3⟩
      exact ⟨i, j, by omega, q1, q2, q3⟩
theorem zeroT {F : Nat} {row alone two : Nat → Int32} {bb size : Int32} {G : Nat} (hG : 10002 < G) : ∃ two', lp (f_X5_renew_B109 F row bb alone size) G ((0 : Int32), two) = some two' ∧ MK two' (fun _ => False) 10000 := by
  refine lp_ex (B := f_X5_renew_B109 F row bb alone size) (fun k x => ∃ c two, x = (nI c, two) ∧ c ≤ 10001 ∧ (∀ i, i < c → two i = 0) ∧ k = 10001 - c) (fun _ e => MK e (fun _ => False) 10000) ?_ G 10001 _ ⟨0, two, rfl, Nat.zero_le _, fun i hi => absurd hi (Nat.not_lt_zero _), rfl⟩ (by omega)
  rintro rec k x ⟨c, two, rfl, hc, hm, rfl⟩ hrec
  unfold f_X5_renew_B109
  dsimp only
  rcases Nat.lt_or_ge c 10001 with z | z
  · rw [if_neg (show ¬ (10001 : Int32) ≤ nI c from nI_ge (b := 10001) z (by omega)), ck_pos (in_ok (by omega) (by omega)), nI_clamp (by omega), nb0, nI_1]
    refine hrec (10001 - (c + 1)) _ (by omega) ⟨c + 1, _, rfl, z, fun i hi => ?_, rfl⟩
    by_cases e : i = c
    · rw [e, pk_us]
    · rw [pk_un e]; exact hm i (by omega)
  · rw [if_pos (show (10001 : Int32) ≤ nI c from nI_le (a := 10001) z (by omega))]
    exact ⟨_, rfl, fun x _ hx => ⟨fun _ q => q, fun _ => hm x (by omega)⟩⟩
theorem aloneC {F b : Nat} {row alone two : Nat → Int32} {bb : Int32} (hF : 30000 ≤ F) (hb : bOK b) {G : Nat} (hG : 1000 < G) : ∃ row' alone', lp (f_X5_renew_B37 F (nI b) bb two) G (row, alone, (0 : Int32)) = some (row', alone', nI (PL b 10000).length) ∧ lkOK alone' (PL b 10000) := by
  have hL := PL_512 hb
  obtain ⟨e, h1, row', alone', rfl, h2⟩ := lp_ex (B := f_X5_renew_B37 F (nI b) bb two) (fun k x => ∃ c row alone, x = (row, alone, nI c) ∧ c ≤ (PL b 10000).length ∧ lkOK alone ((PL b 10000).take c) ∧ k = (PL b 10000).length - c) (fun _ e => ∃ row' alone', e = (row', alone', nI (PL b 10000).length) ∧ lkOK alone' (PL b 10000)) (by
    rintro rec k x ⟨c, row, alone, rfl, hc, hl, rfl⟩ hrec
    unfold f_X5_renew_B37
    dsimp only
    obtain ⟨r1, e1⟩ := p_at (F := F) (row := row) (by omega) hb (show c + 1 < 2 ^ 63 by omega)
    rw [if_neg (show ¬ (512 : Int32) ≤ nI c from nI_ge (b := 512) (by omega) (by omega)), nI_1, nI_l (by omega), e1, Option.bind_some]
    dsimp only
    rcases Nat.lt_or_ge c (PL b 10000).length with z | z
    · obtain ⟨c1, c2, c3⟩ := PL_get z
      have ea := PL_at hb 10000 (by unfold TOP; omega) c z
      obtain ⟨r2, e2⟩ := p_at (F := F) (row := r1) (by omega) hb (show c + 1 < 2 ^ 63 by omega)
      rw [e2, ea, if_neg (show ¬ (10000 : Int64) < _ from fun q => by have := (pk_lLT (a := 10000) (by omega) (by omega)).mp q; omega), Option.bind_some]
      dsimp only
      rw [ck_pos (in_ok (by omega) (by omega)), nI_clamp (by omega), lN_i]
      refine hrec ((PL b 10000).length - (c + 1)) _ (by omega) ⟨c + 1, _, _, rfl, z, ?_, rfl⟩
      intro i hi
      rw [List.length_take] at hi
      have hl' := hl i
      rw [List.length_take, List.getD_eq_getElem?_getD, List.getElem?_take] at hl'
      rw [List.getD_eq_getElem?_getD, List.getD_eq_getElem?_getD, List.getElem?_take, if_pos (by omega)]
      by_cases t : i = c
      · rw [t, pk_us]
      · rw [pk_un t, hl' (by omega), if_pos (by omega)]
    · have ec : c = (PL b 10000).length := by omega
      obtain ⟨v, v1, v2, v3⟩ := PL_next (n := 10000) hb (by omega)
      rw [ec, v3, if_pos (show (10000 : Int64) < lN v from (pk_lLT (a := 10000) (by omega) (by omega)).mpr v1)]
      rw [ec, List.take_length] at hl
      exact ⟨_, rfl, _, _, rfl, hl⟩) G (PL b 10000).length _ ⟨0, row, alone, rfl, Nat.zero_le _, fun i hi => by rw [List.take_zero] at hi; exact absurd hi (Nat.not_lt_zero _), rfl⟩ (by omega)
  exact ⟨_, _, h1, h2⟩
/-- what Parts holds of base b -/
def ptG (b : Nat) (alone : Nat → Int32) (size : Int32) (two : Nat → Int32) : Prop := lkOK alone (PL b 10000) ∧ size = nI (PL b 10000).length ∧ MK two (Two b) 10000
def ptOK (bb : Nat) (alone : Nat → Int32) (size : Int32) (two : Nat → Int32) : Prop := bb = 0 ∨ (bOK bb ∧ ptG bb alone size two)
theorem p_renewP {F b bb : Nat} {row alone two : Nat → Int32} {size : Int32} (hF : 30000 ≤ F) (hb : bOK b) (h : ptOK bb alone size two) : ∃ row' alone' size' two', f_X5_renew F (nI b) row (nI bb) alone size two = some (row', nI b, alone', size', two') ∧ ptG b alone' size' two' := by
  have hb1 := hb.1
  have hb2 := hb.2
  unfold f_X5_renew
  by_cases e : bb = b
  · subst e
    rcases h with h | ⟨_, h⟩
    · omega
    · rw [if_pos rfl]; exact ⟨_, _, _, _, rfl, h⟩
  · have hbb : bb < 2 ^ 31 := by
      rcases h with h | ⟨h, _⟩
      · omega
      · have := h.2; omega
    obtain ⟨row', alone', e1, e2⟩ := aloneC (F := F) (row := row) (alone := alone) (two := two) (bb := nI b) hF hb (G := F) (by omega)
    obtain ⟨z', z1, z2⟩ := zeroT (F := F) (row := row') (alone := alone') (two := two) (bb := nI b) (size := nI (PL b 10000).length) (G := F) (by omega)
    obtain ⟨t', t1, t2⟩ := twoC (F := F) (row := row') (bb := nI b) hF hb e2 z2 (G := F) (by omega)
    rw [if_neg (fun q => e ((nI_eq hbb (by omega)).mp q)), e1, Option.bind_some]
    dsimp only
    rw [z1, Option.bind_some, t1, Option.bind_some]
    exact ⟨_, _, _, _, rfl, e2, rfl, t2⟩
theorem p_isByTwo {F k : Nat} {two : Nat → Int32} (hk : k ≤ 10000) : f_X5_isByTwo F (nI k) two = some (if two k = 0 then 0 else 1) := by
  unfold f_X5_isByTwo f_X5_isByTwo_J26 f_X5_isByTwo_J27
  rw [if_neg (nI_pos (by omega)), if_neg (show ¬ (10001 : Int32) ≤ nI k from nI_ge (b := 10001) (by omega) (by omega)), ck_pos (in_ok (by omega) (by omega)), nI_clamp (by omega)]
  by_cases z : two k = 0
  · rw [if_pos z, if_pos z, ck_pos (by decide)]
  · rw [if_neg z, if_neg z, ck_pos (by decide)]
theorem p_isByTwoN {F : Nat} {x : Int32} {two : Nat → Int32} (h : x < 0) : f_X5_isByTwo F x two = some 0 := by
  unfold f_X5_isByTwo f_X5_isByTwo_J26 f_X5_isByTwo_J27
  rw [if_pos h, ck_pos (by decide)]
/-- one answer -/
def madeIs (b n : Nat) (r : Int32) : Prop := (pal b n ∧ r = 1) ∨ (¬ pal b n ∧ ((Two b n ∧ r = 2) ∨ (¬ Two b n ∧ ((Three b n ∧ r = 3) ∨ (¬ Three b n ∧ ((Four b n ∧ r = 4) ∨ (¬ Four b n ∧ r = -4)))))))
theorem madeIs_one {b n : Nat} {r q : Int32} (h : madeIs b n r) (g : madeIs b n q) : r = q := by
  rcases h with ⟨h1, rfl⟩ | ⟨h1, ⟨h2, rfl⟩ | ⟨h2, ⟨h3, rfl⟩ | ⟨h3, ⟨h4, rfl⟩ | ⟨h4, rfl⟩⟩⟩⟩ <;>
  rcases g with ⟨g1, rfl⟩ | ⟨g1, ⟨g2, rfl⟩ | ⟨g2, ⟨g3, rfl⟩ | ⟨g3, ⟨g4, rfl⟩ | ⟨g4, rfl⟩⟩⟩⟩ <;> first | rfl | contradiction
theorem Two_0 {b : Nat} : ¬ Two b 0 := by
  rintro ⟨a, c, h1, h2, _, _, h5⟩; omega
theorem madeM {F b n : Nat} {many likes : Int32} {figs like two : Nat → Int32} (hF : 30000 ≤ F) (hb : bOK b) (hn : n ≤ 10000) (h0 : 1 ≤ n) : ∃ r many' figs' likes' like' two', f_X11_made F (nI n) (nI b) many figs likes like two = some (r, many', figs', likes', like', two') ∧ madeIs b n r := by
  have hL := PLlen_le b n
  have ht := trn_lt hb (n := n) (by omega)
  have hw : wi (nI n) 1 10000 = 1 := by
    unfold wi
    rw [if_neg (show ¬ nI n < (1 : Int32) from nI_nlt (b := 1) h0 (by omega)), if_neg (show ¬ (10000 : Int32) < nI n from nI_nlt (a := 10000) hn (by omega))]
  unfold f_X11_made
  rw [p_inI F (nI n) 1 10000 (a' := 1) (c' := 10000) rfl rfl, Option.bind_some, hw, if_neg n10, nI_l (by omega), p_turned (by omega) hb (by omega), Option.bind_some]
  dsimp only
  by_cases hp : pal b n
  · rw [if_pos (by rw [(pal_iff hb (by omega)).mp hp])]
    exact ⟨_, _, _, _, _, _, rfl, Or.inl ⟨hp, rfl⟩⟩
  · rw [if_neg (fun q => hp ((pal_iff hb (by omega)).mpr ((pk_lEQ (by omega) (by omega)).mp q)))]
    obtain ⟨many', figs', like', z', e1, e2, e3⟩ := likes_loop (F := F) (many := nI (dg b n).length) (figs := putL figs 0 (dg b n)) (like := like) (two := two) hF hb hn (G := F) (by omega)
    obtain ⟨two', t1, t2⟩ := twoM (F := F) (many := many') (figs := figs') hF hn e2 e3 (G := F) (by omega)
    rw [e1, Option.bind_some]
    dsimp only
    rw [t1, Option.bind_some, ck_pos (in_ok (by omega) (by omega)), nI_clamp (by omega)]
    by_cases h2 : Two b n
    · rw [if_neg (fun q => ((t2 n h0 (Nat.le_refl _)).mp q) h2)]
      exact ⟨_, _, _, _, _, _, rfl, Or.inr ⟨hp, Or.inl ⟨h2, rfl⟩⟩⟩
    · rw [if_pos ((t2 n h0 (Nat.le_refl _)).mpr h2)]
      have L3 : ∃ e, lp (f_X11_made_B163 F (nI n) many' figs' (nI (PL b n).length) like' two') F (0 : Int32) = some e ∧ ((Three b n ∧ e = .inl ((3 : Int32), many', figs', nI (PL b n).length, like', two')) ∨ (¬ Three b n ∧ e = .inr ())) := by
        refine lp_ex (B := f_X11_made_B163 F (nI n) many' figs' (nI (PL b n).length) like' two') (fun k x => ∃ c, x = nI c ∧ c ≤ (PL b n).length ∧ (∀ i, i < c → ¬ Two b (n - (PL b n).getD i 0)) ∧ k = (PL b n).length - c) (fun _ e => (Three b n ∧ e = .inl ((3 : Int32), many', figs', nI (PL b n).length, like', two')) ∨ (¬ Three b n ∧ e = .inr ())) ?_ F (PL b n).length _ ⟨0, rfl, Nat.zero_le _, fun i hi => absurd hi (Nat.not_lt_zero _), rfl⟩ (by omega)
        rintro rec k x ⟨c, rfl, hc, hno, rfl⟩ hrec
        unfold f_X11_made_B163 f_X11_made_J199
        rcases Nat.lt_or_ge c (PL b n).length with z | z
        · obtain ⟨c1, c2, c3⟩ := PL_get z
          have c4 : (PL b n).getD c 0 ≠ n := fun q => hp (by rw [← q]; exact c3)
          rw [if_neg (nI_ge z (by omega)), ck_pos (in_ok (by omega) (by omega)), nI_clamp (by omega), e2 c z, if_neg (nI_ge (show (PL b n).getD c 0 < n by omega) (by omega)), ck_pos (show ¬ (nI c < 0 ∨ 10001 ≤ c) from fun q => q.elim (nI_pos (by omega)) (by omega)), pk_sub c2, ck_pos (in_ok (by omega) (by omega)), nI_clamp (by omega), nI_1]
          by_cases q : Two b (n - (PL b n).getD c 0)
          · rw [if_neg (fun y => ((t2 _ (by omega) (by omega)).mp y) q)]
            exact ⟨_, rfl, Or.inl ⟨⟨_, c1, by omega, c3, q⟩, rfl⟩⟩
          · rw [if_pos ((t2 _ (by omega) (by omega)).mpr q)]
            refine hrec ((PL b n).length - (c + 1)) _ (by omega) ⟨c + 1, rfl, z, fun i hi => ?_, rfl⟩
            by_cases t : i = c
            · rw [t]; exact q
            · exact hno i (by omega)
        · rw [if_pos (nI_le z (by omega))]
          refine ⟨_, rfl, Or.inr ⟨?_, rfl⟩⟩
          rintro ⟨a, a1, a2, a3, a4⟩
          obtain ⟨i, hi, ei⟩ := PL_idx (n := n) a1 (by omega) a3
          exact hno i (by omega) (by rw [ei]; exact a4)
      obtain ⟨e, x1, x2⟩ := L3
      rw [x1, Option.bind_some]
      rcases x2 with ⟨h3, rfl⟩ | ⟨h3, rfl⟩
      · exact ⟨_, _, _, _, _, _, rfl, Or.inr ⟨hp, Or.inr ⟨h2, Or.inl ⟨h3, rfl⟩⟩⟩⟩
      · dsimp only [Sum.elim_inr]
        have L4 : ∃ e, lp (f_X11_made_B207 F (nI n) many' figs' (nI (PL b n).length) like' two') F (1 : Int32) = some e ∧ ((Four b n ∧ e = .inl ((4 : Int32), many', figs', nI (PL b n).length, like', two')) ∨ (¬ Four b n ∧ e = .inr ())) := by
          refine lp_ex (B := f_X11_made_B207 F (nI n) many' figs' (nI (PL b n).length) like' two') (fun k x => ∃ c, x = nI c ∧ 1 ≤ c ∧ c ≤ n ∧ (∀ i, 1 ≤ i → i < c → ¬ (Two b i ∧ Two b (n - i))) ∧ k = n - c) (fun _ e => (Four b n ∧ e = .inl ((4 : Int32), many', figs', nI (PL b n).length, like', two')) ∨ (¬ Four b n ∧ e = .inr ())) ?_ F (n - 1) _ ⟨1, rfl, Nat.le_refl _, h0, fun i h1 hi => by omega, rfl⟩ (by omega)
          rintro rec k x ⟨c, rfl, hc1, hc, hno, rfl⟩ hrec
          unfold f_X11_made_B207 f_X11_made_J234
          rcases Nat.lt_or_ge c n with z | z
          · rw [if_neg (nI_ge z (by omega)), ck_pos (in_ok (by omega) (by omega)), nI_clamp (by omega), pk_sub (by omega), nI_1]
            have nxt : ¬ (Two b c ∧ Two b (n - c)) → ∃ e, rec (nI (c + 1)) = some e ∧ ((Four b n ∧ e = .inl ((4 : Int32), many', figs', nI (PL b n).length, like', two')) ∨ (¬ Four b n ∧ e = .inr ())) := by
              intro q
              refine hrec (n - (c + 1)) _ (by omega) ⟨c + 1, rfl, by omega, z, fun i h1 hi => ?_, rfl⟩
              by_cases t : i = c
              · rw [t]; exact q
              · exact hno i h1 (by omega)
            by_cases q : Two b c
            · rw [if_neg (fun y => ((t2 _ (by omega) (by omega)).mp y) q), ck_pos (in_ok (by omega) (by omega)), nI_clamp (by omega)]
              by_cases q' : Two b (n - c)
              · rw [if_neg (fun y => ((t2 _ (by omega) (by omega)).mp y) q')]
                exact ⟨_, rfl, Or.inl ⟨⟨c, by omega, z, q, q'⟩, rfl⟩⟩
              · rw [if_pos ((t2 _ (by omega) (by omega)).mpr q')]
                exact nxt (fun y => q' y.2)
            · rw [if_pos ((t2 _ (by omega) (by omega)).mpr q)]
              exact nxt (fun y => q y.1)
          · rw [if_pos (nI_le z (by omega))]
            refine ⟨_, rfl, Or.inr ⟨?_, rfl⟩⟩
            rintro ⟨v, a1, a2, a3, a4⟩
            exact hno v a1 (by omega) ⟨a3, a4⟩
        obtain ⟨e, y1, y2⟩ := L4
        rw [y1, Option.bind_some]
        rcases y2 with ⟨h4, rfl⟩ | ⟨h4, rfl⟩
        · exact ⟨_, _, _, _, _, _, rfl, Or.inr ⟨hp, Or.inr ⟨h2, Or.inr ⟨h3, Or.inl ⟨h4, rfl⟩⟩⟩⟩⟩
        · exact ⟨_, _, _, _, _, _, rfl, Or.inr ⟨hp, Or.inr ⟨h2, Or.inr ⟨h3, Or.inr ⟨h4, rfl⟩⟩⟩⟩⟩
theorem madeC {F b n bb : Nat} {row alone two : Nat → Int32} {size : Int32} (hF : 30000 ≤ F) (hb : bOK b) (hn : n ≤ 10000) (h0 : 1 ≤ n) (hpt : ptOK bb alone size two) : ∃ r row' alone' size' two', f_X5_fewestFor F (nI n) (nI b) row (nI bb) alone size two = some (r, row', nI b, alone', size', two') ∧ madeIs b n r ∧ ptG b alone' size' two' := by
  have hL := PL_512 hb
  obtain ⟨row', alone', size', two', e1, ⟨e2, rfl, t2⟩⟩ := p_renewP (F := F) (row := row) hF hb hpt
  unfold f_X5_fewestFor
  rw [e1, Option.bind_some]
  dsimp only
  rw [nI_l (by omega), p_isMirror (by omega) hb (by omega), Option.bind_some]
  dsimp only
  by_cases hp : pal b n
  · rw [if_pos ((pal_iff hb (by omega)).mp hp), if_neg n10]
    exact ⟨_, _, _, _, _, rfl, Or.inl ⟨hp, rfl⟩, e2, rfl, t2⟩
  · rw [if_neg (fun q => hp ((pal_iff hb (by omega)).mpr q)), if_pos z00, p_isByTwo hn, Option.bind_some]
    by_cases h2 : Two b n
    · rw [if_neg (show ¬ two' n = 0 from fun q => ((t2 n h0 hn).mp q) h2), if_neg n10]
      exact ⟨_, _, _, _, _, rfl, Or.inr ⟨hp, Or.inl ⟨h2, rfl⟩⟩, e2, rfl, t2⟩
    · rw [if_pos (show two' n = 0 from (t2 n h0 hn).mpr h2), if_pos z00]
      generalize hrw : putL row' 0 (dg b n) = row2
      have L3 : ∃ e, lp (f_X5_fewestFor_B30 F (nI n) row2 (nI b) alone' (nI (PL b 10000).length) two') F (0 : Int32) = some e ∧ ((Three b n ∧ e = .inl ((3 : Int32), row2, nI b, alone', nI (PL b 10000).length, two')) ∨ (¬ Three b n ∧ e = .inr ())) := by
        refine lp_ex (B := f_X5_fewestFor_B30 F (nI n) row2 (nI b) alone' (nI (PL b 10000).length) two') (fun k x => ∃ c, x = nI c ∧ c ≤ (PL b 10000).length ∧ (∀ i, i < c → (PL b 10000).getD i 0 < n → ¬ Two b (n - (PL b 10000).getD i 0)) ∧ k = (PL b 10000).length - c) (fun _ e => (Three b n ∧ e = .inl ((3 : Int32), row2, nI b, alone', nI (PL b 10000).length, two')) ∨ (¬ Three b n ∧ e = .inr ())) ?_ F (PL b 10000).length _ ⟨0, rfl, Nat.zero_le _, fun i hi => absurd hi (Nat.not_lt_zero _), rfl⟩ (by omega)
        rintro rec k x ⟨c, rfl, hc, hno, rfl⟩ hrec
        unfold f_X5_fewestFor_B30
        rcases Nat.lt_or_ge c (PL b 10000).length with z | z
        · obtain ⟨c1, c2, c3⟩ := PL_get z
          have c4 : (PL b 10000).getD c 0 ≠ n := fun q => hp (by rw [← q]; exact c3)
          rw [if_neg (nI_ge z (by omega)), ck_pos (in_ok (by omega) (by omega)), nI_clamp (by omega), e2 c z, nI_1]
          have nxt : ((PL b 10000).getD c 0 < n → ¬ Two b (n - (PL b 10000).getD c 0)) → ∃ e, rec (nI (c + 1)) = some e ∧ ((Three b n ∧ e = .inl ((3 : Int32), row2, nI b, alone', nI (PL b 10000).length, two')) ∨ (¬ Three b n ∧ e = .inr ())) := by
            intro q
            refine hrec ((PL b 10000).length - (c + 1)) _ (by omega) ⟨c + 1, rfl, z, fun i hi => ?_, rfl⟩
            by_cases t : i = c
            · rw [t]; exact q
            · exact hno i (by omega)
          rcases Nat.lt_or_ge (PL b 10000 |>.getD c 0) n with y | y
          · rw [pk_sub (Nat.le_of_lt y), p_isByTwo (by omega), Option.bind_some]
            by_cases q : Two b (n - (PL b 10000).getD c 0)
            · rw [if_neg (show ¬ two' (n - (PL b 10000).getD c 0) = 0 from fun y => ((t2 _ (by omega) (by omega)).mp y) q), if_neg n10]
              exact ⟨_, rfl, Or.inl ⟨⟨_, c1, y, c3, q⟩, rfl⟩⟩
            · rw [if_pos (show two' (n - (PL b 10000).getD c 0) = 0 from (t2 _ (by omega) (by omega)).mpr q), if_pos z00]
              exact nxt (fun _ => q)
          · rw [p_isByTwoN (pk_sneg (by omega) (by omega)), Option.bind_some, if_pos z00]
            exact nxt (fun q => by omega)
        · rw [if_pos (nI_le z (by omega))]
          refine ⟨_, rfl, Or.inr ⟨?_, rfl⟩⟩
          rintro ⟨a, a1, a2, a3, a4⟩
          obtain ⟨i, hi, ei⟩ := PL_idx (n := 10000) a1 (by omega) a3
          exact hno i (by omega) (by rw [ei]; exact a2) (by rw [ei]; exact a4)
      obtain ⟨e, x1, x2⟩ := L3
      rw [x1, Option.bind_some]
      rcases x2 with ⟨h3, rfl⟩ | ⟨h3, rfl⟩
      · exact ⟨_, _, _, _, _, rfl, Or.inr ⟨hp, Or.inr ⟨h2, Or.inl ⟨h3, rfl⟩⟩⟩, e2, rfl, t2⟩
      · dsimp only [Sum.elim_inr]
        have L4 : ∃ e, lp (f_X5_fewestFor_B63 F (nI n) row2 (nI b) alone' (nI (PL b 10000).length) two') F (1 : Int32) = some e ∧ ((Four b n ∧ e = .inl ((4 : Int32), row2, nI b, alone', nI (PL b 10000).length, two')) ∨ (¬ Four b n ∧ e = .inr ())) := by
          refine lp_ex (B := f_X5_fewestFor_B63 F (nI n) row2 (nI b) alone' (nI (PL b 10000).length) two') (fun k x => ∃ c, x = nI c ∧ 1 ≤ c ∧ c ≤ n / 2 + 1 ∧ (∀ i, 1 ≤ i → i < c → ¬ (Two b i ∧ Two b (n - i))) ∧ k = n / 2 + 1 - c) (fun _ e => (Four b n ∧ e = .inl ((4 : Int32), row2, nI b, alone', nI (PL b 10000).length, two')) ∨ (¬ Four b n ∧ e = .inr ())) ?_ F (n / 2) _ ⟨1, rfl, Nat.le_refl _, by omega, fun i h1 hi => by omega, rfl⟩ (by omega)
          rintro rec k x ⟨c, rfl, hc1, hc, hno, rfl⟩ hrec
          unfold f_X5_fewestFor_B63 f_X5_fewestFor_J90
          rw [ck_pos n2, half_I (by omega)]
          rcases Nat.lt_or_ge (n / 2) c with z | z
          · rw [if_pos (nI_lt z (by omega))]
            refine ⟨_, rfl, Or.inr ⟨?_, rfl⟩⟩
            rintro ⟨v, a1, a2, a3, a4⟩
            rcases Nat.lt_or_ge v c with y | y
            · exact hno v a1 y ⟨a3, a4⟩
            · exact hno (n - v) (by omega) (by omega) ⟨a4, by rw [show n - (n - v) = v by omega]; exact a3⟩
          · rw [if_neg (nI_nlt z (by omega)), p_isByTwo (by omega), Option.bind_some, pk_sub (by omega), nI_1]
            have nxt : ¬ (Two b c ∧ Two b (n - c)) → ∃ e, rec (nI (c + 1)) = some e ∧ ((Four b n ∧ e = .inl ((4 : Int32), row2, nI b, alone', nI (PL b 10000).length, two')) ∨ (¬ Four b n ∧ e = .inr ())) := by
              intro q
              refine hrec (n / 2 + 1 - (c + 1)) _ (by omega) ⟨c + 1, rfl, by omega, by omega, fun i h1 hi => ?_, rfl⟩
              by_cases t : i = c
              · rw [t]; exact q
              · exact hno i h1 (by omega)
            by_cases q : Two b c
            · rw [if_neg (show ¬ two' c = 0 from fun y => ((t2 _ (by omega) (by omega)).mp y) q), if_neg n10, p_isByTwo (by omega), Option.bind_some]
              by_cases q' : Two b (n - c)
              · rw [if_neg (show ¬ two' (n - c) = 0 from fun y => ((t2 _ (by omega) (by omega)).mp y) q'), if_neg n10]
                exact ⟨_, rfl, Or.inl ⟨⟨c, by omega, by omega, q, q'⟩, rfl⟩⟩
              · rw [if_pos (show two' (n - c) = 0 from (t2 _ (by omega) (by omega)).mpr q'), if_pos z00]
                exact nxt (fun y => q' y.2)
            · rw [if_pos (show two' c = 0 from (t2 _ (by omega) (by omega)).mpr q), if_pos z00]
              exact nxt (fun y => q y.1)
        obtain ⟨e, y1, y2⟩ := L4
        rw [y1, Option.bind_some]
        rcases y2 with ⟨h4, rfl⟩ | ⟨h4, rfl⟩
        · exact ⟨_, _, _, _, _, rfl, Or.inr ⟨hp, Or.inr ⟨h2, Or.inr ⟨h3, Or.inl ⟨h4, rfl⟩⟩⟩⟩, e2, rfl, t2⟩
        · exact ⟨_, _, _, _, _, rfl, Or.inr ⟨hp, Or.inr ⟨h2, Or.inr ⟨h3, Or.inr ⟨h4, rfl⟩⟩⟩⟩, e2, rfl, t2⟩
/-- not in the bounds -/
theorem s_made_B {F : Nat} {a b many likes : Int32} {figs like two : Nat → Int32} (h : wi a 1 10000 = 0) : f_X11_made F a b many figs likes like two = some ((-1 : Int32), many, figs, likes, like, two) ∧ f_X10_made_B F a = some (-1 : Int32) := by
  unfold f_X11_made f_X10_made_B
  rw [p_inI F a 1 10000 (a' := 1) (c' := 10000) rfl rfl, p_within]
  simp only [Option.bind_some, h, if_pos z00]
  exact ⟨rfl, rfl⟩
theorem s_made_N {F b : Nat} {a many likes : Int32} {figs like two row : Nat → Int32} (hF : 30000 ≤ F) (hb : bOK b) (h : ¬ wi a 1 10000 = 0) : ∃ r many' figs' likes' like' two' row' alone' size' byTwo', f_X11_made F a (nI b) many figs likes like two = some (r, many', figs', likes', like', two') ∧ f_X10_made_N F a (nI b) row = some (r, row', nI b, alone', size', byTwo') ∧ ptG b alone' size' byTwo' := by
  rcases wi_2 (x := a) (a := 1) (c := 10000) (by omega) (by omega) with q | ⟨n, h1, h2, rfl, q⟩
  · exact absurd q h
  · obtain ⟨r, m1, m2, m3, m4, m5, e1, e2⟩ := madeM (F := F) (many := many) (likes := likes) (figs := figs) (like := like) (two := two) hF hb h2 h1
    obtain ⟨r', row', al', sz', tw', e3, e4, e5⟩ := madeC (F := F) (bb := 0) (row := row) (alone := fun _ => 0) (two := fun _ => 0) (size := 0) hF hb h2 h1 (Or.inl rfl)
    have := madeIs_one e2 e4
    subst this
    have e3' : f_X5_fewestFor F (nI n) (nI b) row (0 : Int32) (fun _ => 0) (0 : Int32) (fun _ => 0) = some (r, row', nI b, al', sz', tw') := e3
    refine ⟨r, _, _, _, _, _, row', al', sz', tw', e1, ?_, e5⟩
    unfold f_X10_made_N
    rw [p_within, Option.bind_some, if_neg h, e3']
    rfl
theorem s_made_P {F b bb : Nat} {a many likes : Int32} {figs like two row alone byTwo : Nat → Int32} {size : Int32} (hF : 30000 ≤ F) (hb : bOK b) (hpt : ptOK bb alone size byTwo) : ∃ r many' figs' likes' like' two' row' bb' alone' size' byTwo', f_X11_made F a (nI b) many figs likes like two = some (r, many', figs', likes', like', two') ∧ f_X10_made_P F a (nI b) row (nI bb) alone size byTwo = some (r, row', nI bb', alone', size', byTwo') ∧ ptOK bb' alone' size' byTwo' := by
  rcases wi_2 (x := a) (a := 1) (c := 10000) (by omega) (by omega) with q | ⟨n, h1, h2, rfl, q⟩
  · have q' : wi a 1 10000 = 0 := q
    refine ⟨_, _, _, _, _, _, row, bb, alone, size, byTwo, (s_made_B (F := F) q').1, ?_, hpt⟩
    unfold f_X10_made_P
    rw [p_within, Option.bind_some, if_pos q']
  · have q' : wi (nI n) 1 10000 = 1 := q
    obtain ⟨r, m1, m2, m3, m4, m5, e1, e2⟩ := madeM (F := F) (many := many) (likes := likes) (figs := figs) (like := like) (two := two) hF hb h2 h1
    obtain ⟨r', row', al', sz', tw', e3, e4, e5⟩ := madeC (F := F) (row := row) hF hb h2 h1 hpt
    have := madeIs_one e2 e4
    subst this
    refine ⟨r, _, _, _, _, _, row', b, al', sz', tw', e1, ?_, Or.inr ⟨hb, e5⟩⟩
    unfold f_X10_made_P
    rw [p_within, Option.bind_some, q', if_neg n10, e3]
    rfl
