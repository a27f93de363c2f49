/-! bare, raised -/
def MZ (arr : Nat → Int32) (S : Nat → Prop) (lim : Nat) : Prop := ∀ x, x ≤ lim → (arr x = 0 ↔ ¬ S x)
theorem MZ_ext {arr : Nat → Int32} {S T : Nat → Prop} {lim : Nat} (h : MZ arr S lim) (e : ∀ x, x ≤ lim → (S x ↔ T x)) : MZ arr T lim := fun x h2 => by rw [h x h2, e x h2]
theorem MZ_upd {arr : Nat → Int32} {S : Nat → Prop} {lim k : Nat} (h : MZ arr S lim) : MZ (upd arr k 1) (fun x => S x ∨ k = x) lim := by
  intro x h2
  by_cases e : x = k
  · subst e
    rw [pk_us]
    exact ⟨fun z => absurd z n10, fun z => absurd (Or.inr rfl) z⟩
  · rw [pk_un e, h x h2]
    exact ⟨fun z y => y.elim z (fun q => e q.symm), fun z y => z (Or.inl y)⟩
theorem fold_acc (tb : Nat → Nat) : ∀ (l : List Nat) (a : Nat), l.foldl (fun a d => a + tb d) a = a + l.foldl (fun a d => a + tb d) 0
  | [], a => rfl
  | d :: l, a => by
    rw [List.foldl_cons, List.foldl_cons, fold_acc tb l (a + tb d), fold_acc tb l (0 + tb d)]
    omega
theorem sum_rec {b n : Nat} (tb : Nat → Nat) (hb : bOK b) (hn : n < 2 ^ 62) : sumN b tb n = if n < b then tb n else sumN b tb (n / b) + tb (n % b) := by
  unfold sumN
  by_cases h : n < b
  · rw [if_pos h]
    unfold dg
    rw [Nat.div_eq_of_lt h, Nat.mod_eq_of_lt h, dl_0]
    show 0 + tb n = tb n
    omega
  · rw [if_neg h]
    have hq : n / b ≠ 0 := by
      have := Nat.div_pos (show b ≤ n by omega) (by have := hb.1; omega)
      omega
    have e : dg b n = (n % b) :: dg b (n / b) := by rw [dg_eq hb.1 hq (by have := Nat.div_le_self n b; omega)]; rfl
    rw [e, List.foldl_cons, fold_acc]
    omega
def Lft (b : Nat) (tb : Nat → Nat) (x : Nat) : Prop := ∃ n, n + sumN b tb n = x
def LfB (b : Nat) (tb : Nat → Nat) (x : Nat) : Bool := (List.range (x + 1)).any (fun n => decide (n + sumN b tb n = x))
theorem LfB_iff (b : Nat) (tb : Nat → Nat) (x : Nat) : LfB b tb x = true ↔ Lft b tb x := by
  unfold LfB Lft
  rw [List.any_eq_true]
  constructor
  · rintro ⟨n, _, h⟩
    exact ⟨n, of_decide_eq_true h⟩
  · rintro ⟨n, h⟩
    exact ⟨n, List.mem_range.mpr (by omega), decide_eq_true h⟩
def lfG (b : Nat) (tb : Nat → Nat) (sums reached : Nat → Int32) : Prop := (∀ n, n ≤ 20000 → sums n = nI (sumN b tb n)) ∧ MZ reached (Lft b tb) 20000
/-- a store that is kept till the version changes -/
def verOK (lv : Int32) (v : Nat) (G : Prop) : Prop := lv = (-1 : Int32) ∨ ∃ k, k ≤ v ∧ lv = nI k ∧ (k = v → G)
theorem zeroL {F : Nat} {ver : Int32} {sums rc : Nat → Int32} {G : Nat} (hG : 20002 < G) : ∃ rc', lp (f_X2_renew_B28 F ver sums) G ((0 : Int32), rc) = some rc' ∧ MZ rc' (fun _ => False) 20000 := by
  refine lp_ex (B := f_X2_renew_B28 F ver sums) (fun k x => ∃ c two, x = (nI c, two) ∧ c ≤ 20001 ∧ (∀ i, i < c → two i = 0) ∧ k = 20001 - c) (fun _ e => MZ e (fun _ => False) 20000) ?_ G 20001 _ ⟨0, rc, rfl, Nat.zero_le _, fun i hi => absurd hi (Nat.not_lt_zero _), rfl⟩ (by omega)
  rintro rec k x ⟨c, two, rfl, hc, hm, rfl⟩ hrec
  unfold f_X2_renew_B28
  dsimp only
  rcases Nat.lt_or_ge c 20001 with z | z
  · rw [if_neg (show ¬ (20001 : Int32) ≤ nI c from nI_ge (b := 20001) z (by omega)), ck_pos (in_ok (by omega) (by omega)), nI_clamp (by omega), nb0, nI_1]
    refine hrec (20001 - (c + 1)) _ (by omega) ⟨c + 1, _, rfl, z, fun i hi => ?_, rfl⟩
    by_cases e : i = c
    · rw [e, pk_us]
    · rw [pk_un e]; exact hm i (by omega)
  · rw [if_pos (show (20001 : Int32) ≤ nI c from nI_le (a := 20001) z (by omega))]
    exact ⟨_, rfl, fun x hx => ⟨fun _ q => q, fun _ => hm x (by omega)⟩⟩
theorem liftL {F b : Nat} {tb : Nat → Nat} {ver : Int32} {worth sums rc : Nat → Int32} (hb : bOK b) (hw : tbOK worth tb) (hz : MZ rc (fun _ => False) 20000) {G : Nat} (hG : 20002 < G) : ∃ sums' rc', lp (f_X2_renew_B52 F (nI b) worth ver) G ((0 : Int32), sums, rc) = some (sums', rc') ∧ lfG b tb sums' rc' := by
  have hb1 := hb.1
  have hb2 := hb.2
  obtain ⟨e, h1, s', r', rfl, h2⟩ := lp_ex (B := f_X2_renew_B52 F (nI b) worth ver) (fun k x => ∃ n s r, x = (nI n, s, r) ∧ n ≤ 20001 ∧ (∀ i, i < n → s i = nI (sumN b tb i)) ∧ MZ r (fun x => ∃ i, i < n ∧ i + sumN b tb i = x) 20000 ∧ k = 20001 - n) (fun _ e => ∃ s r, e = (s, r) ∧ lfG b tb s r) (by
    rintro rec k x ⟨n, s, r, rfl, hn, hs, hm, rfl⟩ hrec
    unfold f_X2_renew_B52
    dsimp only
    rcases Nat.lt_or_ge n 20001 with z | z
    · have hsl := sum_le hb (tbB_of hw) (n := n) (by omega)
      have hsr := sum_rec tb hb (n := n) (by omega)
      have hmod : n % b < b := Nat.mod_lt _ (by omega)
      have hdv : n / b ≤ n := Nat.div_le_self n b
      have nb : ¬ nI b = 0 := nI_ne0 (by omega) (by omega)
      have fin : f_X2_renew_J115 F rec (nI n) (nI n) (nI (sumN b tb n)) s r = rec (nI (n + 1), upd s n (nI (sumN b tb n)), (if n + sumN b tb n ≤ 20000 then upd r (n + sumN b tb n) 1 else r)) := by
        unfold f_X2_renew_J115 f_X2_renew_J146
        rw [ck_pos (in_ok (by omega) (by omega)), ck_pos (in_ok (by omega) (by omega)), nI_clamp (by omega), pk_us, nI_add, nI_1]
        rcases Nat.lt_or_ge 20000 (n + sumN b tb n) with y | y
        · rw [if_pos (show (20001 : Int32) ≤ nI (n + sumN b tb n) from nI_le (a := 20001) y (by omega)), if_neg (by omega)]
        · rw [if_neg (show ¬ (20001 : Int32) ≤ nI (n + sumN b tb n) from nI_ge (b := 20001) (by omega) (by omega)), if_pos y, ck_pos (show ¬ (nI n < 0 ∨ 20001 ≤ n) from fun q => q.elim (nI_pos (by omega)) (by omega)), ck_pos (in_ok (by omega) (by omega)), nI_clamp (by omega), nb1]
      have nxt : ∃ e, rec (nI (n + 1), upd s n (nI (sumN b tb n)), (if n + sumN b tb n ≤ 20000 then upd r (n + sumN b tb n) 1 else r)) = some e ∧ ∃ s r, e = (s, r) ∧ lfG b tb s r := by
        refine hrec (20001 - (n + 1)) _ (by omega) ⟨n + 1, _, _, rfl, z, fun i hi => ?_, ?_, rfl⟩
        · by_cases e : i = n
          · rw [e, pk_us]
          · rw [pk_un e]; exact hs i (by omega)
        · by_cases y : n + sumN b tb n ≤ 20000
          · rw [if_pos y]
            refine MZ_ext (MZ_upd hm) (fun x _ => ?_)
            constructor
            · rintro (⟨i, q1, q2⟩ | q)
              · exact ⟨i, by omega, q2⟩
              · exact ⟨n, by omega, q⟩
            · rintro ⟨i, q1, q2⟩
              by_cases e : i = n
              · subst e; exact Or.inr q2
              · exact Or.inl ⟨i, by omega, q2⟩
          · rw [if_neg y]
            refine MZ_ext hm (fun x hx => ?_)
            constructor
            · rintro ⟨i, q1, q2⟩
              exact ⟨i, by omega, q2⟩
            · rintro ⟨i, q1, q2⟩
              by_cases e : i = n
              · subst e; omega
              · exact ⟨i, by omega, q2⟩
      rw [if_neg (show ¬ (20001 : Int32) ≤ nI n from nI_ge (b := 20001) z (by omega)), ck_pos nb, pk_rem (by omega) (by omega) (by omega), ck_pos (in_ok (by omega) (by omega)), nI_clamp (by omega), (hw (n % b) (by omega)).1]
      by_cases c : n < b
      · rw [if_neg (nI_ge c (by omega))]
        rw [if_pos c] at hsr
        rw [Nat.mod_eq_of_lt c, ← hsr, fin]
        exact nxt
      · have hdl : n / b < n := Nat.div_lt_self (by omega) (by omega)
        rw [if_neg c] at hsr
        rw [if_pos (nI_le (by omega) (by omega)), ck_pos nb, pk_div (by omega) (by omega) (by omega), ck_pos (in_ok (by omega) (by omega)), nI_clamp (by omega), hs (n / b) hdl, nI_add, ← hsr, fin]
        exact nxt
    · have : n = 20001 := by omega
      subst this
      rw [if_pos (show (20001 : Int32) ≤ nI 20001 from nI_le (a := 20001) z (by omega))]
      refine ⟨_, rfl, _, _, rfl, fun i hi => hs i (by omega), MZ_ext hm (fun x hx => ?_)⟩
      constructor
      · rintro ⟨i, _, q⟩; exact ⟨i, q⟩
      · rintro ⟨i, q⟩; exact ⟨i, by omega, q⟩) G 20001 _ ⟨0, sums, rc, rfl, Nat.zero_le _, fun i hi => absurd hi (Nat.not_lt_zero _), MZ_ext hz (fun x _ => ⟨False.elim, fun ⟨_, q, _⟩ => absurd q (Nat.not_lt_zero _)⟩), rfl⟩ (by omega)
  exact ⟨_, _, h1, h2⟩
theorem p_renewL {F b v : Nat} {tb : Nat → Nat} {lv : Int32} {worth sums rc : Nat → Int32} (hF : 30000 ≤ F) (hb : bOK b) (hw : tbOK worth tb) (hv : v < 100000) (h : verOK lv v (lfG b tb sums rc)) : ∃ sums' rc', f_X2_renew F (nI b) worth (nI v) lv sums rc = some (nI v, sums', rc') ∧ lfG b tb sums' rc' := by
  unfold f_X2_renew
  by_cases e : lv = nI v
  · rw [if_pos e]
    rcases h with h | ⟨k, h1, h2, h3⟩
    · exfalso
      rw [h] at e
      have := congrArg Int32.toInt e
      rw [nI_toInt (by omega)] at this
      have e1 : (-1 : Int32).toInt = -1 := rfl
      omega
    · have : k = v := by
        rw [h2] at e
        exact (nI_eq (by omega) (by omega)).mp e
      rw [e]
      exact ⟨_, _, rfl, h3 this⟩
  · rw [if_neg e]
    obtain ⟨z', z1, z2⟩ := zeroL (F := F) (ver := nI v) (sums := sums) (rc := rc) (G := F) (by omega)
    obtain ⟨s', r', t1, t2⟩ := liftL (F := F) (ver := nI v) (sums := sums) hb hw z2 (G := F) (by omega)
    rw [z1, Option.bind_some, t1]
    exact ⟨_, _, rfl, t2⟩
/-! the reference's bare -/
theorem bareM {F b m : Nat} {tb : Nat → Nat} {many : Int32} {f figs im : Nat → Int32} (hF : 30000 ≤ F) (hb : bOK b) (hf : tbOK f tb) (hm : m ≤ 20000) : ∃ many' figs' im', (lp (f_X11_bare_B21 F (nI m) many figs) F ((0 : Int32), im)).bind (fun e => lp (f_X11_bare_B41 F (nI m) (nI b) f) F ((0 : Int32), many, figs, e)) = some (many', figs', im') ∧ MZ im' (Lft b tb) m := by
  have Z : ∃ z, lp (f_X11_bare_B21 F (nI m) many figs) F ((0 : Int32), im) = some z ∧ MZ z (fun _ => False) m := by
    refine lp_ex (B := f_X11_bare_B21 F (nI m) many figs) (fun k x => ∃ c two, x = (nI c, two) ∧ c ≤ m + 1 ∧ (∀ i, i < c → two i = 0) ∧ k = m + 1 - c) (fun _ e => MZ e (fun _ => False) m) ?_ F (m + 1) _ ⟨0, im, rfl, Nat.zero_le _, fun i hi => absurd hi (Nat.not_lt_zero _), rfl⟩ (by omega)
    rintro rec k x ⟨c, two, rfl, hc, hq, rfl⟩ hrec
    unfold f_X11_bare_B21
    dsimp only
    rcases Nat.lt_or_ge m c with z | z
    · rw [if_pos (nI_lt z (by omega))]
      exact ⟨_, rfl, fun x hx => ⟨fun _ q => q, fun _ => hq x (by omega)⟩⟩
    · rw [if_neg (nI_nlt z (by omega)), ck_pos (in_ok (by omega) (by omega)), nI_clamp (by omega), nb0, nI_1]
      refine hrec (m + 1 - (c + 1)) _ (by omega) ⟨c + 1, _, rfl, by omega, fun i hi => ?_, rfl⟩
      by_cases e : i = c
      · rw [e, pk_us]
      · rw [pk_un e]; exact hq i (by omega)
  obtain ⟨z, z1, z2⟩ := Z
  rw [z1, Option.bind_some]
  obtain ⟨e, h1, m', g', i', rfl, h2⟩ := lp_ex (B := f_X11_bare_B41 F (nI m) (nI b) f) (fun k x => ∃ n M G r, x = (nI n, M, G, r) ∧ n ≤ m + 1 ∧ MZ r (fun x => ∃ i, i < n ∧ i + sumN b tb i = x) m ∧ k = m + 1 - n) (fun _ e => ∃ M G r, e = (M, G, r) ∧ MZ r (Lft b tb) m) (by
    rintro rec k x ⟨n, M, G, r, rfl, hn, hq, rfl⟩ hrec
    unfold f_X11_bare_B41 f_X11_bare_J74
    dsimp only
    rcases Nat.lt_or_ge m n with y | y
    · rw [if_pos (nI_lt y (by omega))]
      refine ⟨_, rfl, _, _, _, rfl, MZ_ext hq (fun x hx => ?_)⟩
      constructor
      · rintro ⟨i, _, q⟩; exact ⟨i, q⟩
      · rintro ⟨i, q⟩; exact ⟨i, by omega, q⟩
    · have hsl := sum_le hb (tbB_of hf) (n := n) (by omega)
      rw [if_neg (nI_nlt y (by omega)), nI_l (by omega), nI_l (by omega), p_sum (by omega) hb hf (by omega), Option.bind_some]
      dsimp only
      rw [lN_add, nI_1, lN_i]
      rcases Nat.lt_or_ge m (n + sumN b tb n) with c | c
      · rw [if_pos ((pk_lLT (by omega) (by omega)).mpr c)]
        refine hrec (m + 1 - (n + 1)) _ (by omega) ⟨n + 1, _, _, _, rfl, by omega, MZ_ext hq (fun x hx => ?_), rfl⟩
        constructor
        · rintro ⟨i, q1, q2⟩
          exact ⟨i, by omega, q2⟩
        · rintro ⟨i, q1, q2⟩
          by_cases e : i = n
          · subst e; omega
          · exact ⟨i, by omega, q2⟩
      · rw [if_neg (fun t => by have := (pk_lLT (by omega) (by omega)).mp t; omega), ck_pos (in_ok (by omega) (by omega)), nI_clamp (by omega), nb1]
        refine hrec (m + 1 - (n + 1)) _ (by omega) ⟨n + 1, _, _, _, rfl, by omega, MZ_ext (MZ_upd hq) (fun x hx => ?_), rfl⟩
        constructor
        · rintro (⟨i, q1, q2⟩ | q)
          · exact ⟨i, by omega, q2⟩
          · exact ⟨n, by omega, q⟩
        · rintro ⟨i, q1, q2⟩
          by_cases e : i = n
          · subst e; exact Or.inr q2
          · exact Or.inl ⟨i, by omega, q2⟩) F (m + 1) _ ⟨0, many, figs, z, rfl, Nat.zero_le _, MZ_ext z2 (fun x _ => ⟨False.elim, fun ⟨_, q, _⟩ => absurd q (Nat.not_lt_zero _)⟩), rfl⟩ (by omega)
  exact ⟨_, _, _, h1, h2⟩
/-- what a counting scan answers at its end -/
def scA (i : Int32) : Nat ⊕ Nat → Int32
  | .inl x => nI x
  | .inr t => if i = (-1 : Int32) then nI t else (-4 : Int32)
theorem p_unreached {F b m : Nat} {tb : Nat → Nat} {rc : Nat → Int32} {i : Int32} (hF : 30000 ≤ F) (hm : m ≤ 20000) (h : MZ rc (Lft b tb) 20000) : f_X2_unreachedAt F (nI m) i rc = some (scA i (scn (fun x => ! LfB b tb x) i (m + 1) 0 0)) := by
  obtain ⟨s', -, A⟩ := scan_lp (B := f_X2_unreachedAt_B5 F (nI m) i rc) (fun x => ! LfB b tb x) i (m + 1) 0 (fun _ : Unit => True) (fun _ t j => (nI t, nI j)) (fun _ x => .inl (nI x)) (fun _ t => .inr (nI t)) (by
    intro rec s t _
    unfold f_X2_unreachedAt_B5
    dsimp only
    rw [if_pos (nI_lt (by omega) (by omega))]) (by
    intro rec s t j _ _ hj
    refine ⟨(), trivial, ?_⟩
    unfold f_X2_unreachedAt_B5 f_X2_unreachedAt_J42
    dsimp only
    rw [if_neg (nI_nlt (by omega) (by omega)), if_neg (show ¬ (20001 : Int32) ≤ nI j from nI_ge (b := 20001) (by omega) (by omega)), ck_pos (in_ok (by omega) (by omega)), nI_clamp (by omega), nI_1, nI_1]
    by_cases z : rc j = 0
    · have hP : (! LfB b tb j) = true := by
        have := (h j (by omega)).mp z
        rw [← LfB_iff] at this
        simpa using this
      rw [if_pos z, if_pos hP]
    · have hP : ¬ (! LfB b tb j) = true := by
        have : ¬ ¬ Lft b tb j := fun q => z ((h j (by omega)).mpr q)
        rw [← LfB_iff] at this
        simpa using this
      rw [if_neg z, if_neg hP]) (F := F) (by omega) (by omega) () trivial
  have A' : lp (f_X2_unreachedAt_B5 F (nI m) i rc) F ((0 : Int32), (0 : Int32)) = _ := A
  unfold f_X2_unreachedAt
  rw [A', Nat.sub_zero, Option.bind_some]
  cases scn (fun x => ! LfB b tb x) i (m + 1) 0 0 with
  | inl x => rfl
  | inr t =>
    dsimp only [Sum.elim_inr]
    rw [p_count]
    rfl
theorem p_lifted {F b m : Nat} {tb : Nat → Nat} {sums : Nat → Int32} {i : Int32} (hF : 30000 ≤ F) (hm : m ≤ 20000) (hb : bOK b) (ht : tbB tb) (h : ∀ n, n ≤ 20000 → sums n = nI (sumN b tb n)) : f_X2_liftedTo F (nI m) i sums = some (scA i (scn (fun x => decide (x + sumN b tb x = m)) i (m + 1) 0 0)) := by
  obtain ⟨s', -, A⟩ := scan_lp (B := f_X2_liftedTo_B5 F (nI m) i sums) (fun x => decide (x + sumN b tb x = m)) i (m + 1) 0 (fun _ : Unit => True) (fun _ t j => (nI t, nI j)) (fun _ x => .inl (nI x)) (fun _ t => .inr (nI t)) (by
    intro rec s t _
    unfold f_X2_liftedTo_B5
    dsimp only
    rw [if_pos (nI_lt (by omega) (by omega))]) (by
    intro rec s t j _ _ hj
    refine ⟨(), trivial, ?_⟩
    have hsl := sum_le hb ht (n := j) (by omega)
    unfold f_X2_liftedTo_B5 f_X2_liftedTo_J46
    dsimp only
    rw [if_neg (nI_nlt (by omega) (by omega)), if_neg (show ¬ (20001 : Int32) ≤ nI j from nI_ge (b := 20001) (by omega) (by omega)), ck_pos (in_ok (by omega) (by omega)), nI_clamp (by omega), h j (by omega), nI_add, nI_1, nI_1]
    by_cases z : j + sumN b tb j = m
    · rw [if_pos (by rw [z]), if_pos (decide_eq_true z)]
    · rw [if_neg (fun q => z ((nI_eq (by omega) (by omega)).mp q)), if_neg (fun q => z (of_decide_eq_true q))]) (F := F) (by omega) (by omega) () trivial
  have A' : lp (f_X2_liftedTo_B5 F (nI m) i sums) F ((0 : Int32), (0 : Int32)) = _ := A
  unfold f_X2_liftedTo
  rw [A', Nat.sub_zero, Option.bind_some]
  cases scn (fun x => decide (x + sumN b tb x = m)) i (m + 1) 0 0 with
  | inl x => rfl
  | inr t =>
    dsimp only [Sum.elim_inr]
    rw [p_count]
    rfl
theorem bareR {F b m : Nat} {tb : Nat → Nat} {many i : Int32} {f figs im : Nat → Int32} (hF : 30000 ≤ F) (hb : bOK b) (hf : tbOK f tb) (hm : m ≤ 20000) (hi : (-1 : Int32) ≤ i) : ∃ many' figs' im', f_X11_bare F (nI m) i (nI b) f many figs im = some (scA i (scn (fun x => ! LfB b tb x) i (m + 1) 0 0), many', figs', im') := by
  have hw : wi (nI m) 0 20000 = 1 := by
    unfold wi
    rw [if_neg (nI_pos (by omega)), if_neg (show ¬ (20000 : Int32) < nI m from nI_nlt (a := 20000) hm (by omega))]
  obtain ⟨m', g', i', e1, e2⟩ := bareM (many := many) (figs := figs) (im := im) hF hb hf hm
  unfold f_X11_bare f_X11_bare_J17 f_X11_bare_J144
  rw [p_inI F (nI m) 0 20000 (a' := 0) (c' := 20000) rfl rfl, Option.bind_some, hw, if_neg n10, if_pos hi]
  obtain ⟨z, z1, z2⟩ := Option.bind_eq_some_iff.mp e1
  rw [z1, Option.bind_some, z2, Option.bind_some]
  dsimp only
  obtain ⟨s', -, A⟩ := scan_lp (B := f_X11_bare_B85 F (nI m) i m' g' i') (fun x => ! LfB b tb x) i (m + 1) 0 (fun _ : Unit => True) (fun _ t j => (nI t, nI j)) (fun _ x => .inl (nI x, m', g', i')) (fun _ t => .inr (nI t)) (by
    intro rec s t _
    unfold f_X11_bare_B85
    dsimp only
    rw [if_pos (nI_lt (by omega) (by omega))]) (by
    intro rec s t j _ _ hj
    refine ⟨(), trivial, ?_⟩
    unfold f_X11_bare_B85 f_X11_bare_J109 f_X11_bare_J125
    dsimp only
    have e0 : nI t + (0 : Int32) = nI t := nI_add t 0
    rw [if_neg (nI_nlt (by omega) (by omega)), ck_pos (in_ok (by omega) (by omega)), nI_clamp (by omega), nI_1, nI_1, ck_pos (show ¬ (nI j < 0 ∨ 20001 ≤ j) from fun q => q.elim (nI_pos (by omega)) (by omega)), e0]
    by_cases z : i' j = 0
    · have hP : (! LfB b tb j) = true := by
        have := (e2 j (by omega)).mp z
        rw [← LfB_iff] at this
        simpa using this
      rw [if_pos z, if_pos z, if_pos hP]
    · have hP : ¬ (! LfB b tb j) = true := by
        have : ¬ ¬ Lft b tb j := fun q => z ((e2 j (by omega)).mpr q)
        rw [← LfB_iff] at this
        simpa using this
      rw [if_neg z, if_neg z, if_neg hP]) (F := F) (by omega) (by omega) () trivial
  have A' : lp (f_X11_bare_B85 F (nI m) i m' g' i') F ((0 : Int32), (0 : Int32)) = _ := A
  rw [A', Nat.sub_zero, Option.bind_some]
  refine ⟨m', g', i', ?_⟩
  cases scn (fun x => ! LfB b tb x) i (m + 1) 0 0 with
  | inl x => rfl
  | inr t =>
    dsimp only [Sum.elim_inr, scA]
    split <;> rfl
theorem raisedR {F b m : Nat} {tb : Nat → Nat} {many i : Int32} {f figs : Nat → Int32} (hF : 30000 ≤ F) (hb : bOK b) (hf : tbOK f tb) (hm : m ≤ 20000) (hi : (-1 : Int32) ≤ i) : ∃ many' figs', f_X11_raised F (nI m) i (nI b) f many figs = some (scA i (scn (fun x => decide (x + sumN b tb x = m)) i (m + 1) 0 0), many', figs') := by
  have hw : wi (nI m) 0 20000 = 1 := by
    unfold wi
    rw [if_neg (nI_pos (by omega)), if_neg (show ¬ (20000 : Int32) < nI m from nI_nlt (a := 20000) hm (by omega))]
  unfold f_X11_raised f_X11_raised_J17 f_X11_raised_J97
  rw [p_inI F (nI m) 0 20000 (a' := 0) (c' := 20000) rfl rfl, Option.bind_some, hw, if_neg n10, if_pos hi]
  obtain ⟨s', -, A⟩ := scan_lp (B := f_X11_raised_B24 F (nI m) i (nI b) f) (fun x => decide (x + sumN b tb x = m)) i (m + 1) 0 (fun _ : Int32 × (Nat → Int32) => True) (fun s t j => (nI t, nI j, s.1, s.2)) (fun s x => .inl (nI x, s.1, s.2)) (fun s t => .inr (nI t, s.1, s.2)) (by
    intro rec s t _
    unfold f_X11_raised_B24
    dsimp only
    rw [if_pos (nI_lt (by omega) (by omega))]) (by
    intro rec s t j _ _ hj
    have hsl := sum_le hb (tbB_of hf) (n := j) (by omega)
    refine ⟨(nI (dg b j).length, putL s.2 0 (dg b j)), trivial, ?_⟩
    unfold f_X11_raised_B24 f_X11_raised_J52 f_X11_raised_J67 f_X11_raised_J78
    dsimp only
    have e0 : nI t + (0 : Int32) = nI t := nI_add t 0
    rw [if_neg (nI_nlt (by omega) (by omega)), nI_l (n := j) (by omega), nI_l (n := m) (by omega), p_sum (by omega) hb hf (by omega), Option.bind_some]
    dsimp only
    rw [lN_add, e0, nI_1, nI_1, if_neg n10, if_neg n10, if_pos z00, if_pos z00]
    by_cases z : j + sumN b tb j = m
    · rw [if_pos (by rw [z]), if_pos (decide_eq_true z)]
    · rw [if_neg (fun q => z ((pk_lEQ (by omega) (by omega)).mp q)), if_neg (fun q => z (of_decide_eq_true q))]) (F := F) (by omega) (by omega) (many, figs) trivial
  have A' : lp (f_X11_raised_B24 F (nI m) i (nI b) f) F ((0 : Int32), (0 : Int32), many, figs) = _ := A
  rw [A', Nat.sub_zero, Option.bind_some]
  refine ⟨s'.1, s'.2, ?_⟩
  cases scn (fun x => decide (x + sumN b tb x = m)) i (m + 1) 0 0 with
  | inl x => rfl
  | inr t =>
    dsimp only [Sum.elim_inr, scA]
    split <;> rfl
/-- in the bounds -/
def inL (m i : Int32) : Prop := ¬ wi m 0 20000 = 0 ∧ (-1 : Int32) ≤ i
theorem inL_out {m i : Int32} (h : ¬ inL m i) : wi m 0 20000 = 0 ∨ ¬ (-1 : Int32) ≤ i := by
  by_cases z : wi m 0 20000 = 0
  · exact Or.inl z
  · exact Or.inr (fun q => h ⟨z, q⟩)
theorem inL_in {m i : Int32} (h : inL m i) : ∃ k, k ≤ 20000 ∧ m = nI k ∧ (-1 : Int32) ≤ i := by
  rcases wi_1 (x := m) (c := 20000) (by omega) with q | ⟨k, h1, rfl, q⟩
  · exact absurd q h.1
  · exact ⟨k, h1, rfl, h.2⟩
theorem s_bare_B {F : Nat} {m i b many : Int32} {f figs im : Nat → Int32} (h : ¬ inL m i) : f_X11_bare F m i b f many figs im = some ((-1 : Int32), many, figs, im) ∧ f_X10_bare_B F m i = some (-1 : Int32) := by
  unfold f_X11_bare f_X11_bare_J17 f_X10_bare_B
  rw [p_inI F m 0 20000 (a' := 0) (c' := 20000) rfl rfl, p_within]
  simp only [Option.bind_some]
  rcases inL_out h with z | z
  · refine ⟨?_, ?_⟩ <;> rw [if_pos z]
  · simp only [if_neg z]; exact ⟨by split <;> rfl, by split <;> rfl⟩
theorem s_raised_B {F : Nat} {m i b many : Int32} {f figs : Nat → Int32} (h : ¬ inL m i) : f_X11_raised F m i b f many figs = some ((-1 : Int32), many, figs) ∧ f_X10_raised_B F m i = some (-1 : Int32) := by
  unfold f_X11_raised f_X11_raised_J17 f_X10_raised_B
  rw [p_inI F m 0 20000 (a' := 0) (c' := 20000) rfl rfl, p_within]
  simp only [Option.bind_some]
  rcases inL_out h with z | z
  · refine ⟨?_, ?_⟩ <;> rw [if_pos z]
  · simp only [if_neg z]; exact ⟨by split <;> rfl, by split <;> rfl⟩
theorem s_bare_N {F b v : Nat} {tb : Nat → Nat} {m i many : Int32} {f worth figs im : Nat → Int32} (hF : 30000 ≤ F) (hb : bOK b) (hf : tbOK f tb) (hw : tbOK worth tb) (hv : v < 100000) (h : inL m i) : ∃ r many' figs' im' sums' rc', f_X11_bare F m i (nI b) f many figs im = some (r, many', figs', im') ∧ f_X10_bare_N F m i (nI b) worth (nI v) = some (r, nI v, sums', rc') ∧ lfG b tb sums' rc' := by
  have h0 := h.1
  obtain ⟨k, hk, rfl, hi⟩ := inL_in h
  obtain ⟨m', g', i', e1⟩ := bareR (many := many) (figs := figs) (im := im) hF hb hf hk hi
  obtain ⟨s', r', e2, e3⟩ := p_renewL (sums := fun _ => 0) (rc := fun _ => 0) hF hb hw hv (lv := (-1 : Int32)) (Or.inl rfl)
  refine ⟨_, _, _, _, s', r', e1, ?_, e3⟩
  unfold f_X10_bare_N f_X10_liftsNow_N
  rw [p_within, Option.bind_some, if_neg h0, if_pos hi, e2]
  simp only [Option.bind_some]
  rw [p_unreached hF hk e3.2]
  rfl
theorem s_bare_P {F b v : Nat} {tb : Nat → Nat} {m i many lv : Int32} {f worth figs im sums rc : Nat → Int32} (hF : 30000 ≤ F) (hb : bOK b) (hf : tbOK f tb) (hw : tbOK worth tb) (hv : v < 100000) (h : verOK lv v (lfG b tb sums rc)) : ∃ r many' figs' im' lv' sums' rc', f_X11_bare F m i (nI b) f many figs im = some (r, many', figs', im') ∧ f_X10_bare_P F m i (nI b) worth (nI v) lv sums rc = some (r, lv', sums', rc') ∧ verOK lv' v (lfG b tb sums' rc') := by
  by_cases hin : inL m i
  · have h0 := hin.1
    obtain ⟨k, hk, rfl, hi⟩ := inL_in hin
    obtain ⟨m', g', i', e1⟩ := bareR (many := many) (figs := figs) (im := im) hF hb hf hk hi
    obtain ⟨s', r', e2, e3⟩ := p_renewL hF hb hw hv h
    refine ⟨_, _, _, _, nI v, s', r', e1, ?_, Or.inr ⟨v, Nat.le_refl _, rfl, fun _ => e3⟩⟩
    unfold f_X10_bare_P f_X10_liftsNow_P
    rw [p_within, Option.bind_some, if_neg h0, if_pos hi, e2]
    simp only [Option.bind_some]
    rw [p_unreached hF hk e3.2]
    rfl
  · refine ⟨_, _, _, _, lv, sums, rc, (s_bare_B (F := F) hin).1, ?_, h⟩
    unfold f_X10_bare_P
    rw [p_within, Option.bind_some]
    rcases inL_out hin with z | z
    · rw [if_pos z]
    · rw [if_neg z]; split <;> rfl
theorem s_raised_N {F b v : Nat} {tb : Nat → Nat} {m i many : Int32} {f worth figs : Nat → Int32} (hF : 30000 ≤ F) (hb : bOK b) (hf : tbOK f tb) (hw : tbOK worth tb) (hv : v < 100000) (h : inL m i) : ∃ r many' figs' sums' rc', f_X11_raised F m i (nI b) f many figs = some (r, many', figs') ∧ f_X10_raised_N F m i (nI b) worth (nI v) = some (r, nI v, sums', rc') ∧ lfG b tb sums' rc' := by
  have h0 := h.1
  obtain ⟨k, hk, rfl, hi⟩ := inL_in h
  obtain ⟨m', g', e1⟩ := raisedR (many := many) (figs := figs) hF hb hf hk hi
  obtain ⟨s', r', e2, e3⟩ := p_renewL (sums := fun _ => 0) (rc := fun _ => 0) hF hb hw hv (lv := (-1 : Int32)) (Or.inl rfl)
  refine ⟨_, _, _, s', r', e1, ?_, e3⟩
  unfold f_X10_raised_N f_X10_liftsNow_N
  rw [p_within, Option.bind_some, if_neg h0, if_pos hi, e2]
  simp only [Option.bind_some]
  rw [p_lifted hF hk hb (tbB_of hw) e3.1]
  rfl
theorem s_raised_P {F b v : Nat} {tb : Nat → Nat} {m i many lv : Int32} {f worth figs sums rc : Nat → Int32} (hF : 30000 ≤ F) (hb : bOK b) (hf : tbOK f tb) (hw : tbOK worth tb) (hv : v < 100000) (h : verOK lv v (lfG b tb sums rc)) : ∃ r many' figs' lv' sums' rc', f_X11_raised F m i (nI b) f many figs = some (r, many', figs') ∧ f_X10_raised_P F m i (nI b) worth (nI v) lv sums rc = some (r, lv', sums', rc') ∧ verOK lv' v (lfG b tb sums' rc') := by
  by_cases hin : inL m i
  · have h0 := hin.1
    obtain ⟨k, hk, rfl, hi⟩ := inL_in hin
    obtain ⟨m', g', e1⟩ := raisedR (many := many) (figs := figs) hF hb hf hk hi
    obtain ⟨s', r', e2, e3⟩ := p_renewL hF hb hw hv h
    refine ⟨_, _, _, nI v, s', r', e1, ?_, Or.inr ⟨v, Nat.le_refl _, rfl, fun _ => e3⟩⟩
    unfold f_X10_raised_P f_X10_liftsNow_P
    rw [p_within, Option.bind_some, if_neg h0, if_pos hi, e2]
    simp only [Option.bind_some]
    rw [p_lifted hF hk hb (tbB_of hw) e3.1]
    rfl
  · refine ⟨_, _, _, lv, sums, rc, (s_raised_B (F := F) hin).1, ?_, h⟩
    unfold f_X10_raised_P
    rw [p_within, Option.bind_some]
    rcases inL_out hin with z | z
    · rw [if_pos z]
    · rw [if_neg z]; split <;> rfl
