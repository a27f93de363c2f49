/-! numbers by their figures: lists of figures, arrays that hold them -/
/-- the figures of n, its last one first; none for 0 -/
def dl (b : Nat) : Nat → Nat → List Nat
  | 0, _ => []
  | k + 1, n => if n = 0 then [] else (n % b) :: dl b k (n / b)
/-- the figures of n, its last one first; 0 has one -/
def dg (b n : Nat) : List Nat := (n % b) :: dl b 64 (n / b)
theorem dl_0 (b k : Nat) : dl b k 0 = [] := by cases k <;> simp [dl]
theorem div_half {b n k : Nat} (hb : 2 ≤ b) (h : n < 2 ^ (k + 1)) : n / b < 2 ^ k := by
  have h1 : n / b ≤ n / 2 := Nat.div_le_div_left hb (by omega)
  have h2 : 2 ^ (k + 1) = 2 * 2 ^ k := by rw [Nat.pow_succ, Nat.mul_comm]
  omega
theorem dl_fuel {b : Nat} (hb : 2 ≤ b) : ∀ (k j n : Nat), n < 2 ^ k → n < 2 ^ j → dl b k n = dl b j n
  | 0, j, n, h, _ => by
    have : n = 0 := by simpa using h
    subst this
    rw [dl_0, dl_0]
  | k + 1, 0, n, _, h => by
    have : n = 0 := by simpa using h
    subst this
    rw [dl_0, dl_0]
  | k + 1, j + 1, n, h, h' => by
    unfold dl
    by_cases hn : n = 0
    · rw [if_pos hn, if_pos hn]
    · rw [if_neg hn, if_neg hn, dl_fuel hb k j (n / b) (div_half hb h) (div_half hb h')]
theorem dl_pos {b : Nat} (hb : 2 ≤ b) {n : Nat} (h0 : n ≠ 0) (h : n < 2 ^ 64) : dl b 64 n = (n % b) :: dl b 64 (n / b) := by
  have e : dl b 64 n = if n = 0 then [] else (n % b) :: dl b 63 (n / b) := rfl
  rw [e, if_neg h0, dl_fuel hb 63 64 (n / b) (div_half hb h) (Nat.lt_of_lt_of_le (div_half hb h) (by decide))]
theorem dg_eq {b : Nat} (hb : 2 ≤ b) {n : Nat} (h0 : n ≠ 0) (h : n < 2 ^ 64) : dg b n = dl b 64 n := (dl_pos hb h0 h).symm
theorem dl_len {b : Nat} (hb : 2 ≤ b) : ∀ (j k n : Nat), n < 2 ^ j → (dl b k n).length ≤ j
  | _, 0, _, _ => Nat.zero_le _
  | 0, k + 1, n, h => by
    have : n = 0 := by simpa using h
    subst this
    simp [dl]
  | j + 1, k + 1, n, h => by
    unfold dl
    by_cases hn : n = 0
    · rw [if_pos hn]; exact Nat.zero_le _
    · rw [if_neg hn, List.length_cons]
      have := dl_len hb j k (n / b) (div_half hb h)
      omega
theorem dl_lt {b : Nat} (hb : 0 < b) : ∀ (k n d : Nat), d ∈ dl b k n → d < b
  | 0, _, _, h => by simp [dl] at h
  | k + 1, n, d, h => by
    unfold dl at h
    by_cases hn : n = 0
    · rw [if_pos hn] at h; cases h
    · rw [if_neg hn] at h
      rcases List.mem_cons.mp h with e | h
      · rw [e]; exact Nat.mod_lt _ hb
      · exact dl_lt hb k (n / b) d h
theorem dg_lt {b n d : Nat} (hb : 0 < b) (h : d ∈ dg b n) : d < b := by
  rcases List.mem_cons.mp h with e | h
  · rw [e]; exact Nat.mod_lt _ hb
  · exact dl_lt hb _ _ _ h
theorem dg_len {b n j : Nat} (hb : 2 ≤ b) (h : n < 2 ^ (j + 1)) : (dg b n).length ≤ j + 1 := by
  unfold dg
  rw [List.length_cons]
  have := dl_len hb j 64 (n / b) (div_half hb h)
  omega
theorem dg_pos (b n : Nat) : 0 < (dg b n).length := by unfold dg; rw [List.length_cons]; omega
/-- an array that gets the list written into it from place j on -/
def putL (a : Nat → Int32) (j : Nat) : List Nat → Nat → Int32
  | [] => a
  | d :: ds => putL (upd a j (nI d)) (j + 1) ds
theorem putL_lo : ∀ (ds : List Nat) (a : Nat → Int32) (j i : Nat), i < j → putL a j ds i = a i
  | [], _, _, _, _ => rfl
  | d :: ds, a, j, i, h => by
    unfold putL
    rw [putL_lo ds _ (j + 1) i (by omega), pk_un (by omega)]
theorem putL_at : ∀ (ds : List Nat) (a : Nat → Int32) (j i : Nat) (h : i < ds.length), putL a j ds (j + i) = nI ds[i]
  | d :: ds, a, j, 0, h => by
    unfold putL
    rw [putL_lo ds _ (j + 1) (j + 0) (by omega)]
    exact pk_us
  | d :: ds, a, j, i + 1, h => by
    unfold putL
    have := putL_at ds (upd a j (nI d)) (j + 1) i (by simpa using h)
    rw [show j + (i + 1) = j + 1 + i by omega, this]
    rfl
theorem putL_at0 (ds : List Nat) (a : Nat → Int32) (i : Nat) (h : i < ds.length) : putL a 0 ds i = nI ds[i] := by
  have := putL_at ds a 0 i h
  rwa [Nat.zero_add] at this
