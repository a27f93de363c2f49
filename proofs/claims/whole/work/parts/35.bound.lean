/-! how great turned and sorted numbers are; falling is no less than rising -/
def vl (b : Nat) (l : List Nat) (a : Nat) : Nat := l.foldl (fun a d => a * b + d) a
theorem vl_acc (b : Nat) : ∀ (l : List Nat) (a : Nat), vl b l a = a * b ^ l.length + vl b l 0
  | [], a => by simp [vl]
  | d :: l, a => by
    have h1 := vl_acc b l (a * b + d)
    have h2 := vl_acc b l (0 * b + d)
    show vl b l (a * b + d) = a * b ^ (l.length + 1) + vl b l (0 * b + d)
    rw [h1, h2, Nat.zero_mul, Nat.zero_add, Nat.pow_succ, Nat.add_mul]
    have : a * b * b ^ l.length = a * (b ^ l.length * b) := by rw [Nat.mul_assoc, Nat.mul_comm b]
    omega
theorem vl_lt {b : Nat} (hb : 0 < b) : ∀ (l : List Nat) (a : Nat), (∀ d ∈ l, d < b) → vl b l a < (a + 1) * b ^ l.length
  | [], a, _ => by simp [vl]
  | d :: l, a, h => by
    have h1 := vl_lt hb l (a * b + d) (fun t ht => h t (List.mem_cons_of_mem _ ht))
    have hd := h d List.mem_cons_self
    show vl b l (a * b + d) < (a + 1) * b ^ (l.length + 1)
    have h2 : (a * b + d + 1) * b ^ l.length ≤ ((a + 1) * b) * b ^ l.length := Nat.mul_le_mul_right _ (by rw [Nat.add_mul, Nat.one_mul]; omega)
    have h3 : (a + 1) * b ^ (l.length + 1) = (a + 1) * b * b ^ l.length := by rw [Nat.pow_succ, Nat.mul_assoc, Nat.mul_comm b]
    omega
theorem vl_app (b : Nat) (l1 l2 : List Nat) (a : Nat) : vl b (l1 ++ l2) a = vl b l2 (vl b l1 a) := List.foldl_append
theorem rp_vl (b d : Nat) : ∀ (c a : Nat), rp b d c a = vl b (List.replicate c d) a
  | 0, _ => rfl
  | c + 1, a => rp_vl b d c (a * b + d)
theorem rp_snoc (b d : Nat) : ∀ (c a : Nat), rp b d (c + 1) a = rp b d c a * b + d
  | 0, _ => rfl
  | c + 1, a => rp_snoc b d c (a * b + d)
def ascR (ct : Nat → Nat) : Nat → Nat → List Nat
  | 0, _ => []
  | r + 1, d => List.replicate (ct d) d ++ ascR ct r (d + 1)
def dsc (ct : Nat → Nat) : Nat → List Nat
  | 0 => []
  | k + 1 => List.replicate (ct k) k ++ dsc ct k
theorem srt_vl (b : Nat) (ct : Nat → Nat) : ∀ (r d u w : Nat), b = d + r → srt b ct r d u w = (vl b (ascR ct r d) u, vl b (dsc ct r) w)
  | 0, _, _, _, _ => rfl
  | r + 1, d, u, w, h => by
    show srt b ct r (d + 1) _ _ = _
    rw [srt_vl b ct r (d + 1) _ _ (by omega), show b - 1 - d = r by omega, rp_vl, rp_vl]
    show _ = (vl b (List.replicate (ct d) d ++ ascR ct r (d + 1)) u, vl b (List.replicate (ct r) r ++ dsc ct r) w)
    rw [vl_app, vl_app]
theorem ascR_snoc (ct : Nat → Nat) : ∀ (r d : Nat), ascR ct (r + 1) d = ascR ct r d ++ List.replicate (ct (d + r)) (d + r)
  | 0, d => by simp [ascR]
  | r + 1, d => by
    show List.replicate (ct d) d ++ ascR ct (r + 1) (d + 1) = _
    rw [ascR_snoc ct r (d + 1), ← List.append_assoc, show d + 1 + r = d + (r + 1) by omega]
    rfl
theorem add_copies {b z : Nat} (hb : 1 ≤ b) : ∀ (c U D L : Nat), U ≤ D → U * (b - 1) + z ≤ z * b ^ L → rp b z c U ≤ vl b (List.replicate c z) 0 * b ^ L + D ∧ rp b z c U * (b - 1) + z ≤ z * b ^ (L + c)
  | 0, U, D, L, h1, h2 => by
    refine ⟨?_, h2⟩
    show U ≤ 0 * b ^ L + D
    omega
  | c + 1, U, D, L, h1, h2 => by
    obtain ⟨i1, i2⟩ := add_copies hb c U D L h1 h2
    rw [rp_snoc]
    have e1 : vl b (List.replicate (c + 1) z) 0 = z * b ^ c + vl b (List.replicate c z) 0 := by
      show vl b (List.replicate c z) (0 * b + z) = _
      rw [vl_acc, List.length_replicate, Nat.zero_mul, Nat.zero_add]
    have e2 : b ^ (L + c) = b ^ c * b ^ L := by rw [Nat.add_comm L, Nat.pow_add]
    generalize rp b z c U = X at i1 i2 ⊢
    rw [e2] at i2
    constructor
    · rw [e1, Nat.add_mul, Nat.mul_assoc]
      have e3 : X * b = X * (b - 1) + X := by
        have : b = (b - 1) + 1 := by omega
        conv => lhs; rw [this]
        rw [Nat.mul_add, Nat.mul_one]
      omega
    · have e4 : (X * b + z) * (b - 1) + z = b * (X * (b - 1) + z) := by
        obtain ⟨m, rfl⟩ : ∃ m, b = m + 1 := ⟨b - 1, by omega⟩
        rw [Nat.add_sub_cancel, Nat.add_mul, Nat.mul_add (m + 1)]
        have : X * (m + 1) * m = (m + 1) * (X * m) := by rw [Nat.mul_comm X, Nat.mul_assoc]
        rw [this, Nat.mul_comm (m + 1) z, Nat.mul_add z m 1, Nat.mul_one]
        omega
      rw [e4, show L + (c + 1) = (c + L) + 1 by omega, Nat.pow_succ, Nat.pow_add]
      have := Nat.mul_le_mul_left b i2
      have e5 : b * (z * (b ^ c * b ^ L)) = z * (b ^ c * b ^ L * b) := by rw [Nat.mul_left_comm, Nat.mul_comm b]
      omega
theorem up_le_dn {b : Nat} (hb : 1 ≤ b) (ct : Nat → Nat) : ∀ k : Nat, vl b (ascR ct k 0) 0 ≤ vl b (dsc ct k) 0 ∧ (ascR ct k 0).length = (dsc ct k).length ∧ ∀ z, k ≤ z + 1 → vl b (ascR ct k 0) 0 * (b - 1) + z ≤ z * b ^ (dsc ct k).length
  | 0 => by
    refine ⟨Nat.le_refl _, rfl, fun z _ => ?_⟩
    show 0 * (b - 1) + z ≤ z * b ^ 0
    rw [Nat.zero_mul, Nat.pow_zero, Nat.mul_one]
    omega
  | k + 1 => by
    obtain ⟨i1, i2, i3⟩ := up_le_dn hb ct k
    have key := add_copies hb (z := k) (ct k) _ _ _ i1 (i3 k (by omega))
    have eU : vl b (ascR ct (k + 1) 0) 0 = rp b k (ct k) (vl b (ascR ct k 0) 0) := by
      rw [ascR_snoc, vl_app, Nat.zero_add, rp_vl]
    have eD : vl b (dsc ct (k + 1)) 0 = vl b (List.replicate (ct k) k) 0 * b ^ (dsc ct k).length + vl b (dsc ct k) 0 := by
      show vl b (List.replicate (ct k) k ++ dsc ct k) 0 = _
      rw [vl_app, vl_acc]
    have eL : (dsc ct (k + 1)).length = (dsc ct k).length + ct k := by
      show (List.replicate (ct k) k ++ dsc ct k).length = _
      rw [List.length_append, List.length_replicate, Nat.add_comm]
    refine ⟨by rw [eU, eD]; exact key.1, ?_, fun z hz => ?_⟩
    · rw [eL, ascR_snoc, List.length_append, List.length_replicate, i2, Nat.zero_add]
    · rw [eU, eL]
      have h1 := key.2
      have hp : 1 ≤ b ^ ((dsc ct k).length + ct k) := Nat.pos_of_ne_zero (by
        intro h
        have := Nat.pow_eq_zero.mp h
        omega)
      generalize b ^ ((dsc ct k).length + ct k) = P at h1 hp ⊢
      generalize rp b k (ct k) (vl b (ascR ct k 0) 0) * (b - 1) = Y at h1 ⊢
      obtain ⟨m, rfl⟩ : ∃ m, z = k + m := ⟨z - k, by omega⟩
      rw [Nat.add_mul]
      have : m ≤ m * P := Nat.le_mul_of_pos_right m hp
      omega
theorem dsc_mem (ct : Nat → Nat) : ∀ (k d : Nat), d ∈ dsc ct k → d < k
  | 0, _, h => by cases h
  | k + 1, d, h => by
    rcases List.mem_append.mp h with h | h
    · rw [(List.mem_replicate.mp h).2]; omega
    · have := dsc_mem ct k d h; omega
theorem dsc_cons (t : Nat) (ds : List Nat) : ∀ k, (dsc (fun d => (t :: ds).count d) k).length = (dsc (fun d => ds.count d) k).length + if t < k then 1 else 0
  | 0 => rfl
  | k + 1 => by
    show (List.replicate ((t :: ds).count k) k ++ dsc (fun d => (t :: ds).count d) k).length = (List.replicate (ds.count k) k ++ dsc (fun d => ds.count d) k).length + _
    rw [List.length_append, List.length_append, List.length_replicate, List.length_replicate, dsc_cons t ds k, List.count_cons]
    by_cases h : t = k
    · subst h
      rw [if_pos (beq_self_eq_true t), if_neg (by omega), if_pos (by omega)]
      omega
    · rw [if_neg (by simpa using h)]
      by_cases h2 : t < k
      · rw [if_pos h2, if_pos (by omega)]; omega
      · rw [if_neg h2, if_neg (by omega)]; omega
theorem dsc_len {b : Nat} : ∀ (ds : List Nat), (∀ d ∈ ds, d < b) → (dsc (fun d => ds.count d) b).length = ds.length
  | [], _ => by
    have : ∀ k, (dsc (fun d => ([] : List Nat).count d) k).length = 0 := by
      intro k
      induction k with
      | zero => rfl
      | succ k ih =>
        show (List.replicate 0 k ++ dsc (fun d => ([] : List Nat).count d) k).length = 0
        rw [List.length_append, ih]
        rfl
    exact this b
  | t :: ds, h => by
    rw [dsc_cons, dsc_len ds (fun d hd => h d (List.mem_cons_of_mem _ hd)), if_pos (h t List.mem_cons_self), List.length_cons]
theorem dl_ge {b : Nat} (hb : 2 ≤ b) : ∀ (k n : Nat), n < 2 ^ k → n ≠ 0 → b ^ ((dl b k n).length - 1) ≤ n
  | 0, n, h, h0 => by
    have : n = 0 := by simpa using h
    exact absurd this h0
  | k + 1, n, h, h0 => by
    unfold dl
    rw [if_neg h0, List.length_cons, Nat.add_sub_cancel]
    by_cases hq : n / b = 0
    · rw [hq, dl_0, List.length_nil, Nat.pow_zero]; omega
    · have ih := dl_ge hb k (n / b) (div_half hb h) hq
      have hne : (dl b k (n / b)).length ≠ 0 := by
        intro z
        have hd := div_half hb h
        cases k with
        | zero => rw [Nat.pow_zero] at hd; omega
        | succ k =>
          unfold dl at z
          rw [if_neg hq, List.length_cons] at z
          omega
      obtain ⟨m, hm⟩ : ∃ m, (dl b k (n / b)).length = m + 1 := ⟨(dl b k (n / b)).length - 1, by omega⟩
      rw [hm, Nat.add_sub_cancel] at ih
      rw [hm, Nat.pow_succ]
      have := Nat.mul_le_mul_right b ih
      have h3 := Nat.div_mul_le_self n b
      omega
theorem dg_pow {b n : Nat} (hb : 2 ≤ b) (h : n < 2 ^ 64) : b ^ (dg b n).length ≤ b * (n + 1) := by
  by_cases h0 : n = 0
  · subst h0
    unfold dg
    rw [Nat.zero_div, dl_0]
    show b ^ 1 ≤ b * 1
    rw [Nat.pow_one]; omega
  · rw [dg_eq hb h0 h]
    have h1 := dl_ge hb 64 n h h0
    have hp : (dl b 64 n).length ≠ 0 := by rw [dl_pos hb h0 h, List.length_cons]; omega
    obtain ⟨m, hm⟩ : ∃ m, (dl b 64 n).length = m + 1 := ⟨_, Nat.succ_pred_eq_of_ne_zero hp |>.symm⟩
    rw [hm, Nat.add_sub_cancel] at h1
    rw [hm, Nat.pow_succ, Nat.mul_comm]
    exact Nat.mul_le_mul_left b (by omega)
