/-! which numbers are alike both ways, counted -/
def vd (b : Nat) (ds : List Nat) : Nat := vl b ds.reverse 0
theorem vd_cons (b d : Nat) (ds : List Nat) : vd b (d :: ds) = vd b ds * b + d := by
  unfold vd
  rw [List.reverse_cons, vl_app]
  rfl
theorem vd_div {b : Nat} (hb : 0 < b) : ∀ (ds : List Nat) (j : Nat), (∀ d ∈ ds, d < b) → vd b ds / b ^ j = vd b (ds.drop j)
  | ds, 0, _ => by rw [Nat.pow_zero, Nat.div_one, List.drop_zero]
  | [], j + 1, _ => by
    have : vd b [] = 0 := rfl
    rw [List.drop_nil, this, Nat.zero_div]
  | d :: ds, j + 1, h => by
    have e : vd b (d :: ds) / b = vd b ds := by
      rw [vd_cons, Nat.mul_comm, Nat.mul_add_div hb, Nat.div_eq_of_lt (h d List.mem_cons_self), Nat.add_zero]
    rw [Nat.pow_succ, Nat.mul_comm, ← Nat.div_div_eq_div_mul, e, vd_div hb ds j (fun t ht => h t (List.mem_cons_of_mem _ ht))]
    rfl
theorem mirL_vd {b : Nat} (hb : 0 < b) : ∀ (k v : Nat) (ds : List Nat), (∀ d ∈ ds, d < b) → k ≤ ds.length → mirL b k v (vd b ds) = vl b (ds.take k) v
  | 0, v, ds, _, _ => by rw [List.take_zero]; rfl
  | k + 1, v, [], _, h => by cases h
  | k + 1, v, d :: ds, hd, h => by
    have h1 := hd d List.mem_cons_self
    have e1 : vd b (d :: ds) % b = d := by
      rw [vd_cons, Nat.mul_comm, Nat.mul_add_mod, Nat.mod_eq_of_lt h1]
    have e2 : vd b (d :: ds) / b = vd b ds := by
      rw [vd_cons, Nat.mul_comm, Nat.mul_add_div hb, Nat.div_eq_of_lt h1, Nat.add_zero]
    show mirL b k (v * b + vd b (d :: ds) % b) (vd b (d :: ds) / b) = _
    rw [e1, e2, mirL_vd hb k _ ds (fun t ht => hd t (List.mem_cons_of_mem _ ht)) (by simpa using h), List.take_succ_cons]
    rfl
/-- alike both ways -/
abbrev pal (b n : Nat) : Prop := mirN b (n / b ^ ((dg b n).length / 2)) (dg b n).length = n
theorem pal_iff {b n : Nat} (hb : bOK b) (hn : n < 2 ^ 62) : pal b n ↔ trnN b n = n := by
  have hb0 : 0 < b := by have := hb.1; omega
  rw [turned_iff hb hn]
  unfold pal mirN
  have hv : vd b (dg b n) = n := dg_val hb hn
  have hd := dg_b hb (n := n)
  generalize dg b n = ds at *
  subst hv
  rw [vd_div hb0 ds _ hd]
  have el : (if ds.length % 2 = 0 then vd b (ds.drop (ds.length / 2)) else vd b (ds.drop (ds.length / 2)) / b) = vd b (ds.drop (ds.length - ds.length / 2)) := by
    by_cases z : ds.length % 2 = 0
    · rw [if_pos z, show ds.length - ds.length / 2 = ds.length / 2 by omega]
    · have := vd_div hb0 (ds.drop (ds.length / 2)) 1 (fun t ht => hd t (List.mem_of_mem_drop ht))
      rw [Nat.pow_one] at this
      rw [if_neg z, this, List.drop_drop, show ds.length - ds.length / 2 = ds.length / 2 + 1 by omega]
  rw [el, mirL_vd hb0 _ _ _ (fun t ht => hd t (List.mem_of_mem_drop ht)) (by rw [List.length_drop]; omega)]
  have et : (ds.drop (ds.length - ds.length / 2)).take (ds.length / 2) = ds.drop (ds.length - ds.length / 2) := List.take_of_length_le (by rw [List.length_drop]; omega)
  have ev : vd b ds = vl b (ds.take (ds.length / 2)).reverse (vd b (ds.drop (ds.length / 2))) := by
    have : ds.reverse = (ds.drop (ds.length / 2)).reverse ++ (ds.take (ds.length / 2)).reverse := by
      rw [← List.reverse_append, List.take_append_drop]
    conv => lhs; unfold vd; rw [this, vl_app]
    rfl
  rw [et, ev, vl_acc b (ds.drop _), vl_acc b (ds.take _).reverse]
  have l1 : (ds.drop (ds.length - ds.length / 2)).length = ds.length / 2 := by rw [List.length_drop]; omega
  have l2 : (ds.take (ds.length / 2)).reverse.length = ds.length / 2 := by rw [List.length_reverse, List.length_take]; omega
  rw [l1, l2]
  have key : (ds.drop (ds.length - ds.length / 2) = (ds.take (ds.length / 2)).reverse) ↔ ds = ds.reverse := by
    rw [rev_iff]
    constructor
    · intro h k hk
      have := congrArg (fun l => l.getD (ds.length / 2 - 1 - k) 0) h
      rw [List.getD_eq_getElem?_getD, List.getD_eq_getElem?_getD, List.getElem?_drop, List.getElem?_reverse (by rw [List.length_take]; omega), List.length_take, List.getElem?_take] at this
      rw [List.getD_eq_getElem?_getD, List.getD_eq_getElem?_getD]
      rw [show min (ds.length / 2) ds.length - 1 - (ds.length / 2 - 1 - k) = k by omega, if_pos (by omega), show ds.length - ds.length / 2 + (ds.length / 2 - 1 - k) = ds.length - 1 - k by omega] at this
      exact this.symm
    · intro h
      apply List.ext_getElem?
      intro k
      rcases Nat.lt_or_ge k (ds.length / 2) with z | z
      · have h1 := h (ds.length / 2 - 1 - k) (by omega)
        rw [List.getD_eq_getElem?_getD, List.getD_eq_getElem?_getD, List.getElem?_eq_getElem (show ds.length / 2 - 1 - k < ds.length by omega), List.getElem?_eq_getElem (show ds.length - 1 - (ds.length / 2 - 1 - k) < ds.length by omega)] at h1
        rw [List.getElem?_drop, List.getElem?_reverse (by rw [List.length_take]; omega), List.length_take, List.getElem?_take, show min (ds.length / 2) ds.length - 1 - k = ds.length / 2 - 1 - k by omega, if_pos (by omega), show ds.length - ds.length / 2 + k = ds.length - 1 - (ds.length / 2 - 1 - k) by omega, List.getElem?_eq_getElem (show ds.length / 2 - 1 - k < ds.length by omega), List.getElem?_eq_getElem (show ds.length - 1 - (ds.length / 2 - 1 - k) < ds.length by omega)]
        exact congrArg some h1.symm
      · rw [List.getElem?_eq_none (by rw [l1]; exact z), List.getElem?_eq_none (by rw [l2]; exact z)]
  rw [← key]
  constructor
  · intro h
    refine vl_inj hb0 _ _ (by rw [l1, l2]) (fun t ht => hd t (List.mem_of_mem_drop ht)) (fun t ht => hd t (List.mem_of_mem_take (List.mem_reverse.mp ht))) ?_
    generalize vd b (ds.drop (ds.length / 2)) * b ^ (ds.length / 2) = X at h
    omega
  · intro h
    rw [h]
theorem ato_step {b n : Nat} (hb : bOK b) (hn : n < 2 ^ 62) (h0 : 0 < n) : atoN b n = atoN b (n - 1) + (if pal b n then 1 else 0) := by
  rw [ato_below hb hn h0]
  unfold atoN pal
  have hlo := half_lo hb hn h0
  generalize n / b ^ ((dg b n).length / 2) = H at *
  rcases Nat.lt_trichotomy (mirN b H (dg b n).length) n with z | z | z
  · rw [if_pos (by omega), if_pos z, if_neg (by omega)]; omega
  · rw [if_pos (by omega), if_neg (by omega), if_pos z]; omega
  · rw [if_neg (by omega), if_neg (by omega), if_neg (by omega)]; omega
/-- those from 1 to n -/
def PL (b : Nat) : Nat → List Nat
  | 0 => []
  | n + 1 => if pal b (n + 1) then PL b n ++ [n + 1] else PL b n
theorem PL_mem (b : Nat) : ∀ n v, v ∈ PL b n ↔ 1 ≤ v ∧ v ≤ n ∧ pal b v
  | 0, v => by
    constructor
    · intro h; cases h
    · intro h; omega
  | n + 1, v => by
    have ih := PL_mem b n v
    unfold PL
    by_cases h : pal b (n + 1)
    · rw [if_pos h, List.mem_append, List.mem_singleton, ih]
      constructor
      · rintro (⟨a, c, d⟩ | rfl)
        · exact ⟨a, by omega, d⟩
        · exact ⟨by omega, Nat.le_refl _, h⟩
      · rintro ⟨a, c, d⟩
        rcases Nat.lt_or_ge n v with z | z
        · exact Or.inr (by omega)
        · exact Or.inl ⟨a, z, d⟩
    · rw [if_neg h, ih]
      constructor
      · rintro ⟨a, c, d⟩; exact ⟨a, by omega, d⟩
      · rintro ⟨a, c, d⟩
        rcases Nat.lt_or_ge n v with z | z
        · exact absurd (by rw [show n + 1 = v by omega]; exact d) h
        · exact ⟨a, z, d⟩
theorem PL_srt (b : Nat) : ∀ n, (PL b n).Pairwise (· < ·)
  | 0 => List.Pairwise.nil
  | n + 1 => by
    unfold PL
    by_cases h : pal b (n + 1)
    · rw [if_pos h, List.pairwise_append]
      refine ⟨PL_srt b n, List.pairwise_singleton _ _, fun x hx y hy => ?_⟩
      rw [List.mem_singleton.mp hy]
      have := (PL_mem b n x).mp hx
      omega
    · rw [if_neg h]; exact PL_srt b n
theorem PL_len {b : Nat} (hb : bOK b) : ∀ n, n < 2 ^ 62 → (PL b n).length + 1 = atoN b n
  | 0, _ => by rw [ato_1 hb (by have := hb.1; omega)]; rfl
  | n + 1, h => by
    have ih := PL_len hb n (by omega)
    rw [ato_step hb h (by omega), Nat.add_sub_cancel, ← ih]
    have e : PL b (n + 1) = if pal b (n + 1) then PL b n ++ [n + 1] else PL b n := rfl
    rw [e]
    by_cases z : pal b (n + 1)
    · rw [if_pos z, if_pos z, List.length_append, List.length_singleton]
    · rw [if_neg z, if_neg z, Nat.add_zero]
theorem pal_at {b n : Nat} (hb : bOK b) (hn : n ≤ TOP) (h0 : 0 < n) (h : pal b n) : atN b (atoN b (n - 1)) = lN n := by
  rw [next_same hb hn h0]
  unfold pal at h
  unfold lfN
  rw [h, if_pos (Nat.le_refl _)]
  unfold nnL
  rw [if_neg (by omega)]
/-- the k-th of them -/
theorem PL_at {b : Nat} (hb : bOK b) : ∀ n, n ≤ TOP → ∀ k, k < (PL b n).length → atN b (k + 1) = lN ((PL b n).getD k 0)
  | 0, _, k, h => absurd h (Nat.not_lt_zero _)
  | n + 1, hn, k, h => by
    have hl := PL_len hb n (by unfold TOP at hn; omega)
    have ih := PL_at hb n (by omega)
    unfold PL at h ⊢
    by_cases z : pal b (n + 1)
    · rw [if_pos z] at h ⊢
      rw [List.length_append, List.length_singleton] at h
      rw [List.getD_eq_getElem?_getD]
      rcases Nat.lt_or_ge k (PL b n).length with c | c
      · rw [List.getElem?_append_left c, ← List.getD_eq_getElem?_getD]; exact ih k c
      · have e : k = (PL b n).length := by omega
        have := pal_at hb hn (by omega) z
        rw [Nat.add_sub_cancel, ← hl] at this
        rw [e, this, List.getElem?_append_right (Nat.le_refl _), Nat.sub_self]
        rfl
    · rw [if_neg z] at h ⊢
      exact ih k h
theorem PL_next {b n : Nat} (hb : bOK b) (hn : n < 20000) : ∃ v, n < v ∧ v < 2 ^ 20 ∧ atN b ((PL b n).length + 1) = lN v := by
  have hn1 : n + 1 < 2 ^ 62 := by omega
  have hT : n + 1 ≤ TOP := by unfold TOP; omega
  rw [PL_len hb n (by omega)]
  have := next_same hb hT (by omega)
  rw [Nat.add_sub_cancel] at this
  rw [this]
  unfold lfN
  have hb0 : 0 < b := by have := hb.1; omega
  have hup := half_up hb hn1
  have hnx := half_next hb hn1
  have hp := dg_pow (n := n + 1) hb.1 (by omega)
  have h3 : b * (n + 1 + 1) ≤ 16 * (n + 1 + 1) := Nat.mul_le_mul_right _ hb.2
  have bd : ∀ h, h < b ^ (((dg b (n + 1)).length + 1) / 2) → mirN b h (dg b (n + 1)).length < 2 ^ 20 := by
    intro h hh
    have h1 := (mirN_bd hb0 h (dg b (n + 1)).length).2
    have h2 : (h + 1) * b ^ ((dg b (n + 1)).length / 2) ≤ b ^ (((dg b (n + 1)).length + 1) / 2) * b ^ ((dg b (n + 1)).length / 2) := Nat.mul_le_mul_right _ hh
    rw [← Nat.pow_add, show ((dg b (n + 1)).length + 1) / 2 + (dg b (n + 1)).length / 2 = (dg b (n + 1)).length by omega] at h2
    omega
  have nn : ∀ v, v < 2 ^ 20 → nnL v = lN v := by
    intro v hv
    unfold nnL
    rw [if_neg (by unfold TOP; omega)]
  have hlow : ∀ H, H = (n + 1) / b ^ ((dg b (n + 1)).length / 2) → n + 1 < (H + 1) * b ^ ((dg b (n + 1)).length / 2) := by
    intro H hH
    rw [hH, Nat.mul_comm]
    exact Nat.lt_mul_div_succ _ (pw_pos hb0 _)
  generalize hH : (n + 1) / b ^ ((dg b (n + 1)).length / 2) = H at *
  by_cases z : n + 1 ≤ mirN b H (dg b (n + 1)).length
  · rw [if_pos z]
    exact ⟨_, by omega, bd _ hup, nn _ (bd _ hup)⟩
  · rw [if_neg z]
    have q := hnx (by omega)
    have := (mirN_bd hb0 (H + 1) (dg b (n + 1)).length).1
    have h5 := hlow H rfl
    exact ⟨_, by omega, bd _ q, nn _ (bd _ q)⟩
theorem PL_512 {b : Nat} (hb : bOK b) : (PL b 10000).length < 512 := by
  have h := PL_len hb 10000 (by omega)
  have k : ∀ b, 2 ≤ b → b ≤ 16 → atoN b 10000 < 513 := by
    intro b h1 h2
    have : b = 2 ∨ b = 3 ∨ b = 4 ∨ b = 5 ∨ b = 6 ∨ b = 7 ∨ b = 8 ∨ b = 9 ∨ b = 10 ∨ b = 11 ∨ b = 12 ∨ b = 13 ∨ b = 14 ∨ b = 15 ∨ b = 16 := by omega
    rcases this with rfl | rfl | rfl | rfl | rfl | rfl | rfl | rfl | rfl | rfl | rfl | rfl | rfl | rfl | rfl <;> decide +kernel
  have := k b hb.1 hb.2
  omega
theorem PL_pre (b : Nat) {n m : Nat} (h : n ≤ m) : ∃ t, PL b m = PL b n ++ t := by
  induction m with
  | zero => rw [show n = 0 by omega]; exact ⟨[], rfl⟩
  | succ m ih =>
    rcases Nat.lt_or_ge m n with z | z
    · rw [show n = m + 1 by omega]; exact ⟨[], (List.append_nil _).symm⟩
    · obtain ⟨t, ht⟩ := ih z
      conv => enter [1, t]; lhs; unfold PL
      by_cases q : pal b (m + 1)
      · exact ⟨t ++ [m + 1], by rw [if_pos q, ht, List.append_assoc]⟩
      · exact ⟨t, by rw [if_neg q, ht]⟩
