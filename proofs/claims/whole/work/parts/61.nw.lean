/-! numbers that are what their figures make: figures as lists, sorted arrays -/
def ps (e : Nat) : List Nat → Nat
  | [] => 0
  | d :: l => d ^ e + ps e l
def dL (b : Nat) : Nat → Nat → List Nat
  | 0, _ => []
  | w + 1, n => n % b :: dL b w (n / b)
def NW (b w e n : Nat) : Prop := (w = 1 ∨ b ^ (w - 1) ≤ n) ∧ n < b ^ w ∧ ps e (dL b w n) = n
theorem ps_perm {e : Nat} {l m : List Nat} (h : l.Perm m) : ps e l = ps e m := by
  induction h with
  | nil => rfl
  | cons x _ ih => unfold ps; rw [ih]
  | swap x y l => unfold ps; unfold ps; omega
  | trans _ _ ih1 ih2 => rw [ih1, ih2]
theorem ps_le {e d : Nat} : ∀ (l : List Nat), (∀ x ∈ l, x ≤ d) → ps e l ≤ l.length * d ^ e
  | [], _ => Nat.zero_le _
  | x :: l, h => by
    have h1 := ps_le (e := e) l (fun y hy => h y (List.mem_cons_of_mem _ hy))
    have h2 : x ^ e ≤ d ^ e := Nat.pow_le_pow_left (h x List.mem_cons_self) e
    show x ^ e + ps e l ≤ (l.length + 1) * d ^ e
    rw [Nat.add_mul, Nat.one_mul]
    omega
theorem ps_app (e : Nat) : ∀ (l m : List Nat), ps e (l ++ m) = ps e l + ps e m
  | [], m => by show ps e m = 0 + ps e m; omega
  | x :: l, m => by
    show x ^ e + ps e (l ++ m) = x ^ e + ps e l + ps e m
    rw [ps_app e l m]
    omega
theorem dL_len (b : Nat) : ∀ w n, (dL b w n).length = w
  | 0, _ => rfl
  | w + 1, n => by show (dL b w (n / b)).length + 1 = w + 1; rw [dL_len b w]
theorem dL_lt {b : Nat} (hb : 0 < b) : ∀ (w n d : Nat), d ∈ dL b w n → d < b
  | 0, _, _, h => by cases h
  | w + 1, n, d, h => by
    rcases List.mem_cons.mp h with e | h
    · rw [e]; exact Nat.mod_lt _ hb
    · exact dL_lt hb w (n / b) d h
theorem dL_snoc (b : Nat) : ∀ (j n : Nat), dL b (j + 1) n = dL b j n ++ [n / b ^ j % b]
  | 0, n => by show [n % b] = [] ++ [n / b ^ 0 % b]; rw [Nat.pow_zero, Nat.div_one]; rfl
  | j + 1, n => by
    have ih := dL_snoc b j (n / b)
    show n % b :: dL b (j + 1) (n / b) = n % b :: (dL b j (n / b) ++ [n / b ^ (j + 1) % b])
    rw [ih, Nat.div_div_eq_div_mul, Nat.pow_succ, Nat.mul_comm b]
theorem er_perm {a : Nat} : ∀ (l t : List Nat), (a :: t).Perm l → ∃ u, erO a l = some u ∧ t.Perm u
  | [], t, h => by
    have := h.length_eq
    rw [List.length_cons, List.length_nil] at this
    omega
  | x :: l, t, h => by
    unfold erO
    by_cases e : x = a
    · subst e
      have hb : Nat.beq x x = true := Nat.beq_refl x
      rw [hb]
      exact ⟨l, rfl, List.Perm.cons_inv h⟩
    · have hb : Nat.beq x a = false := by
        cases q : Nat.beq x a with
        | false => rfl
        | true => exact absurd (Nat.eq_of_beq_eq_true q) e
      have ha : a ∈ l := by
        have : a ∈ x :: l := h.subset List.mem_cons_self
        rcases List.mem_cons.mp this with z | z
        · exact absurd z.symm e
        · exact z
      have h1 : l.Perm (a :: l.erase a) := List.perm_cons_erase ha
      obtain ⟨u, hu, hp⟩ := er_perm l (l.erase a) h1.symm
      have h2 : (a :: t).Perm (a :: x :: l.erase a) := h.trans ((h1.cons x).trans (List.Perm.swap a x _))
      have h3 : t.Perm (x :: l.erase a) := List.Perm.cons_inv h2
      rw [hb, hu]
      exact ⟨x :: u, rfl, h3.trans (hp.cons x)⟩
theorem chk_ok {b : Nat} : ∀ (w s : Nat) (l : List Nat), (dL b w s).Perm l → chkD b w s l = true
  | 0, _, _, _ => rfl
  | w + 1, s, l, h => by
    obtain ⟨u, hu, hp⟩ := er_perm (a := s % b) l (dL b w (s / b)) h
    have hu' : erO (Nat.mod s b) l = some u := hu
    unfold chkD
    rw [hu']
    exact chk_ok w (s / b) u hp
theorem nwl_s (b e lo hi w k d o s : Nat) (l : List Nat) : nwl b e lo hi w (k + 1) d o s l = cond (Nat.beq o 0) (cond (chkD b w s l) [s] []) (cond (Nat.ble lo (s + o * d ^ e)) (cond (Nat.ble (s + d ^ e) hi) (nwl b e lo hi w k d (o - 1) (s + d ^ e) (d :: l)) [] ++ cond (Nat.beq d 0) [] (nwl b e lo hi w k (d - 1) o s l)) []) := rfl
theorem beq_f {a b : Nat} (h : a ≠ b) : Nat.beq a b = false := by
  cases q : Nat.beq a b with
  | false => rfl
  | true => exact absurd (Nat.eq_of_beq_eq_true q) h
theorem ble_t {a b : Nat} (h : a ≤ b) : Nat.ble a b = true := Nat.ble_eq_true_of_le h
theorem nwl_mem {b e lo hi w n : Nat} (h1 : lo ≤ n) (h2 : n ≤ hi) : ∀ (k d o s : Nat) (l r : List Nat), (dL b w n).Perm (l ++ r) → r.length = o → (∀ x ∈ r, x ≤ d) → s + ps e r = n → d + o < k → n ∈ nwl b e lo hi w k d o s l
  | 0, _, _, _, _, _, _, _, _, _, h => absurd h (Nat.not_lt_zero _)
  | k + 1, d, o, s, l, r, hp, ho, hr, hs, hk => by
    rw [nwl_s]
    by_cases z : o = 0
    · subst z
      have e0 : r = [] := List.length_eq_zero_iff.mp ho
      subst e0
      rw [List.append_nil] at hp
      have hs' : s = n := hs
      subst hs'
      rw [chk_ok w s l hp]
      exact List.mem_cons_self
    · rw [beq_f z]
      have hle := ps_le (e := e) r hr
      rw [ho] at hle
      rw [ble_t (show lo ≤ s + o * d ^ e by omega)]
      show n ∈ _ ++ _
      by_cases y : d ∈ r
      · have hq : r.Perm (d :: r.erase d) := List.perm_cons_erase y
        have hps : ps e r = d ^ e + ps e (r.erase d) := ps_perm hq
        rw [ble_t (show s + d ^ e ≤ hi by omega)]
        apply List.mem_append_left
        refine nwl_mem h1 h2 k d (o - 1) (s + d ^ e) (d :: l) (r.erase d) ?_ ?_ ?_ ?_ (by omega)
        · exact hp.trans ((List.Perm.append_left l hq).trans List.perm_middle)
        · rw [List.length_erase_of_mem y, ho]
        · intro x hx; exact hr x (List.mem_of_mem_erase hx)
        · omega
      · have hd : d ≠ 0 := by
          intro q
          subst q
          cases r with
          | nil => exact z ho.symm
          | cons x r =>
            have := hr x List.mem_cons_self
            exact y (by rw [show (0 : Nat) = x by omega]; exact List.mem_cons_self)
        rw [beq_f hd]
        apply List.mem_append_right
        refine nwl_mem h1 h2 k (d - 1) o s l r hp ho (fun x hx => ?_) hs (by omega)
        have h3 := hr x hx
        have h4 : x ≠ d := fun q => y (q ▸ hx)
        omega
theorem NW_mem {b w e n : Nat} (hb : bOK b) (hw : 1 ≤ w) (hw6 : w ≤ 6) (h : NW b w e n) : n ∈ nwc b w e := by
  obtain ⟨h1, h2, h3⟩ := h
  obtain ⟨b1, b2⟩ := hb
  have hp : b ^ w - 1 = Nat.pred (Nat.pow b w) := rfl
  refine nwl_mem (b := b) ?_ ?_ 23 (Nat.pred b) w 0 [] (dL b w n) (List.Perm.refl _) (dL_len b w n) ?_ (by rw [Nat.zero_add]; exact h3) ?_
  · by_cases z : w = 1
    · subst z; exact Nat.zero_le _
    · rw [beq_f z]
      rcases h1 with q | q
      · exact absurd q z
      · exact q
  · rw [← hp]; omega
  · intro x hx
    have := dL_lt (b := b) (by omega) w n x hx
    show x ≤ b - 1
    omega
  · show b - 1 + w < 23
    omega
theorem nodup_len : ∀ (l m : List Nat), l.Nodup → (∀ x ∈ l, x ∈ m) → l.length ≤ m.length
  | [], m, _, _ => Nat.zero_le _
  | x :: l, m, hn, h => by
    have hx := h x List.mem_cons_self
    rw [List.nodup_cons] at hn
    have h1 := nodup_len l (m.erase x) hn.2 (fun y hy => (List.mem_erase_of_ne (fun q => hn.1 (by rw [← q]; exact hy))).mpr (h y (List.mem_cons_of_mem _ hy)))
    rw [List.length_erase_of_mem hx] at h1
    have h2 := List.length_pos_of_mem hx
    rw [List.length_cons]
    omega
/-- a sorted row of just the numbers of a kind -/
def SA (a : Nat → Nat) (m : Nat) (S : Nat → Prop) : Prop := (∀ i j, i < j → j < m → a i < a j) ∧ ∀ n, S n ↔ ∃ i, i < m ∧ a i = n
theorem SA_bd {b w e m : Nat} {a : Nat → Nat} {S : Nat → Prop} (hb : bOK b) (hw : 1 ≤ w) (hw6 : w ≤ 6) (he : e ≤ 6) (h : SA a m S) (hS : ∀ n, S n → NW b w e n) : m ≤ 31 := by
  have h1 := nodup_len ((List.range m).map a) (nwc b w e) (by
    rw [List.nodup_iff_pairwise_ne, List.pairwise_iff_getElem]
    intro i j hi hj hij q
    rw [List.length_map, List.length_range] at hi hj
    rw [List.getElem_map, List.getElem_map, List.getElem_range, List.getElem_range] at q
    have := h.1 i j hij hj
    omega) (by
    intro x hx
    obtain ⟨i, hi, rfl⟩ := List.mem_map.mp hx
    have hi' := List.mem_range.mp hi
    exact NW_mem hb hw hw6 (hS _ ((h.2 _).mpr ⟨i, hi', rfl⟩)))
  rw [List.length_map, List.length_range] at h1
  have := nwk_all (w := w) (e := e) hb (by omega) (by omega)
  omega
theorem SA_one {a a' : Nat → Nat} {m m' : Nat} {S : Nat → Prop} (h : SA a m S) (h' : SA a' m' S) : m = m' ∧ ∀ i, i < m → a i = a' i := by
  have key : ∀ i, i < m → i < m' → a i = a' i := by
    intro i
    induction i using Nat.strongRecOn with
    | ind i ih =>
      intro hi hi'
      obtain ⟨j, hj, ej⟩ := (h'.2 (a i)).mp ((h.2 _).mpr ⟨i, hi, rfl⟩)
      obtain ⟨k, hk, ek⟩ := (h.2 (a' i)).mp ((h'.2 _).mpr ⟨i, hi', rfl⟩)
      have j1 : ¬ j < i := fun z => by
        have := ih j z (by omega) hj
        have := h.1 j i z hi
        omega
      have k1 : ¬ k < i := fun z => by
        have := ih k z hk (by omega)
        have := h'.1 k i z hi'
        omega
      have j2 : a' i ≤ a i := by
        rcases Nat.lt_or_ge i j with z | z
        · have := h'.1 i j z hj; omega
        · have : j = i := by omega
          subst this; omega
      have k2 : a i ≤ a' i := by
        rcases Nat.lt_or_ge i k with z | z
        · have := h.1 i k z hk; omega
        · have : k = i := by omega
          subst this; omega
      omega
  have em : m = m' := by
    rcases Nat.lt_trichotomy m m' with z | z | z
    · obtain ⟨j, hj, ej⟩ := (h.2 (a' m)).mp ((h'.2 _).mpr ⟨m, z, rfl⟩)
      have := key j hj (by omega)
      have := h'.1 j m hj z
      omega
    · exact z
    · obtain ⟨j, hj, ej⟩ := (h'.2 (a m')).mp ((h.2 _).mpr ⟨m', z, rfl⟩)
      have := key j (by omega) hj
      have := h.1 j m' hj z
      omega
  exact ⟨em, fun i hi => key i hi (by omega)⟩
theorem SA_ext {a : Nat → Nat} {m : Nat} {S T : Nat → Prop} (h : SA a m S) (e : ∀ n, S n ↔ T n) : SA a m T := ⟨h.1, fun n => by rw [← e n]; exact h.2 n⟩
def insF (a : Nat → Nat) (k v : Nat) : Nat → Nat := fun i => if i < k then a i else if i = k then v else a (i - 1)
theorem SA_ins {a : Nat → Nat} {m k v : Nat} {S : Nat → Prop} (h : SA a m S) (hk : k ≤ m) (h1 : ∀ i, i < k → a i < v) (h2 : ∀ i, k ≤ i → i < m → v < a i) : SA (insF a k v) (m + 1) (fun n => S n ∨ n = v) := by
  refine ⟨fun i j hij hj => ?_, fun n => ⟨?_, ?_⟩⟩
  · unfold insF
    by_cases z1 : i < k
    · rw [if_pos z1]
      by_cases z2 : j < k
      · rw [if_pos z2]; exact h.1 i j hij (by omega)
      · rw [if_neg z2]
        by_cases z3 : j = k
        · rw [if_pos z3]; exact h1 i z1
        · rw [if_neg z3]; exact h.1 i (j - 1) (by omega) (by omega)
    · rw [if_neg z1, if_neg (show ¬ j < k by omega), if_neg (show ¬ j = k by omega)]
      by_cases z3 : i = k
      · rw [if_pos z3]; exact h2 (j - 1) (by omega) (by omega)
      · rw [if_neg z3]; exact h.1 (i - 1) (j - 1) (by omega) (by omega)
  · rintro (q | q)
    · obtain ⟨i, hi, e⟩ := (h.2 n).mp q
      by_cases z : i < k
      · exact ⟨i, by omega, by unfold insF; rw [if_pos z]; exact e⟩
      · exact ⟨i + 1, by omega, by unfold insF; rw [if_neg (by omega), if_neg (by omega), Nat.add_sub_cancel]; exact e⟩
    · exact ⟨k, by omega, by unfold insF; rw [if_neg (by omega), if_pos rfl]; exact q.symm⟩
  · rintro ⟨i, hi, e⟩
    unfold insF at e
    by_cases z1 : i < k
    · rw [if_pos z1] at e; exact Or.inl ((h.2 n).mpr ⟨i, by omega, e⟩)
    · rw [if_neg z1] at e
      by_cases z2 : i = k
      · rw [if_pos z2] at e; exact Or.inr e.symm
      · rw [if_neg z2] at e; exact Or.inl ((h.2 n).mpr ⟨i - 1, by omega, e⟩)
