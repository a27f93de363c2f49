/-! which numbers SUM and SORTED come to: fewer than there are slots -/
def nxL (d : Nat) (p : Nat → List (List Nat)) : Nat → List (List Nat)
  | 0 => [[]]
  | k + 1 => (nxL d p k).map (fun l => d :: l) ++ p (k + 1)
def ML : Nat → Nat → List (List Nat)
  | 0 => fun k => if k = 0 then [[]] else []
  | b + 1 => nxL b (ML b)
def nxC (p : Nat → Nat) : Nat → Nat
  | 0 => 1
  | k + 1 => nxC p k + p (k + 1)
def MC : Nat → Nat → Nat
  | 0 => fun k => if k = 0 then 1 else 0
  | b + 1 => nxC (MC b)
theorem nxL_len {d : Nat} {p : Nat → List (List Nat)} {q : Nat → Nat} (h : ∀ k, (p k).length = q k) : ∀ k, (nxL d p k).length = nxC q k
  | 0 => rfl
  | k + 1 => by
    show ((nxL d p k).map (fun l => d :: l) ++ p (k + 1)).length = nxC q k + q (k + 1)
    rw [List.length_append, List.length_map, nxL_len h k, h]
theorem ML_len : ∀ b k, (ML b k).length = MC b k
  | 0, k => by
    show (if k = 0 then [[]] else [] : List (List Nat)).length = if k = 0 then 1 else 0
    by_cases z : k = 0
    · rw [if_pos z, if_pos z]; rfl
    · rw [if_neg z, if_neg z]; rfl
  | b + 1, k => nxL_len (ML_len b) k
theorem nxL_mem {b : Nat} (ih : ∀ (k : Nat) (l : List Nat), l.length = k → (∀ x ∈ l, x < b) → ∃ l', l' ∈ ML b k ∧ l'.Perm l) : ∀ (k : Nat) (l : List Nat), l.length = k → (∀ x ∈ l, x < b + 1) → ∃ l', l' ∈ nxL b (ML b) k ∧ l'.Perm l
  | 0, l, h, _ => by
    have e : l = [] := List.length_eq_zero_iff.mp h
    subst e
    exact ⟨[], List.mem_cons_self, List.Perm.refl _⟩
  | k + 1, l, h, hl => by
    by_cases z : b ∈ l
    · obtain ⟨l', h1, h2⟩ := nxL_mem ih k (l.erase b) (by rw [List.length_erase_of_mem z, h, Nat.add_sub_cancel]) (fun x hx => hl x (List.mem_of_mem_erase hx))
      exact ⟨b :: l', List.mem_append_left _ (List.mem_map.mpr ⟨l', h1, rfl⟩), (h2.cons b).trans (List.perm_cons_erase z).symm⟩
    · obtain ⟨l', h1, h2⟩ := ih (k + 1) l h (fun x hx => by
        have q1 := hl x hx
        have q2 : x ≠ b := fun q => z (q ▸ hx)
        omega)
      exact ⟨l', List.mem_append_right _ h1, h2⟩
theorem ML_mem : ∀ (b k : Nat) (l : List Nat), l.length = k → (∀ x ∈ l, x < b) → ∃ l', l' ∈ ML b k ∧ l'.Perm l
  | 0, k, l, h, hl => by
    cases l with
    | nil =>
      have e : k = 0 := by rw [← h]; rfl
      subst e
      exact ⟨[], List.mem_cons_self, List.Perm.refl _⟩
    | cons x l => exact absurd (hl x List.mem_cons_self) (Nat.not_lt_zero _)
  | b + 1, k, l, h, hl => nxL_mem (ML_mem b) k l h hl
def gSt (b : Nat) (tb : Nat → Nat) (st : Nat) (l : List Nat) : Nat := if st = 0 then l.foldl (fun a d => a + tb d) 0 else (srt b (fun d => l.count d) b 0 0 0).2 - (srt b (fun d => l.count d) b 0 0 0).1
theorem fold_perm {tb : Nat → Nat} {l m : List Nat} (h : l.Perm m) : ∀ a, l.foldl (fun a d => a + tb d) a = m.foldl (fun a d => a + tb d) a := by
  induction h with
  | nil => intro a; rfl
  | cons x _ ih => intro a; exact ih _
  | swap x y l =>
    intro a
    show l.foldl _ (a + tb y + tb x) = l.foldl _ (a + tb x + tb y)
    rw [show a + tb y + tb x = a + tb x + tb y by omega]
  | trans _ _ ih1 ih2 => intro a; rw [ih1, ih2]
theorem gSt_perm {b st : Nat} {tb : Nat → Nat} {l m : List Nat} (h : l.Perm m) : gSt b tb st l = gSt b tb st m := by
  unfold gSt
  have e : (fun d => l.count d) = (fun d => m.count d) := funext (fun d => h.count_eq d)
  rw [fold_perm h, e]
theorem gSt_step {b st n : Nat} {tb : Nat → Nat} (hst : st = 0 ∨ st = 3) : stepN b tb st n = gSt b tb st (dg b n) := by
  rcases hst with rfl | rfl
  · rfl
  · rfl
def WB (b : Nat) : Nat := [0, 0, 22, 13, 10, 9, 8, 7, 7, 7, 6, 6, 6, 6, 5, 5, 5].getD b 0
theorem WB_ok : ∀ b, b < 17 → 2 ≤ b → 20000 < b ^ WB b ∧ WB b * 100000 < b ^ WB b ∧ b ^ WB b ≤ 2 ^ 24 ∧ 1 ≤ WB b ∧ ((List.range (WB b)).map (fun k => MC b (k + 1))).sum < 32768 := by decide +kernel
def BB (b : Nat) : Nat := b ^ WB b
def DB (b : Nat) (tb : Nat → Nat) (st : Nat) : List Nat := (((List.range (WB b)).map (fun k => ML b (k + 1))).flatten).map (gSt b tb st)
theorem DB_len {b st : Nat} {tb : Nat → Nat} (hb : bOK b) : (DB b tb st).length < 32768 := by
  unfold DB
  rw [List.length_map, List.length_flatten, List.map_map]
  have e : (List.length ∘ fun k => ML b (k + 1)) = fun k => MC b (k + 1) := funext (fun k => ML_len b (k + 1))
  rw [e]
  exact (WB_ok b (by have := hb.2; omega) hb.1).2.2.2.2
theorem dg_W {b n w : Nat} (hb : bOK b) (hn : n < 2 ^ 62) (hw : 1 ≤ w) (h : n < b ^ w) : (dg b n).length ≤ w := by
  have hp := dg_pos b n
  obtain ⟨h1, h2⟩ := (len_iff hb hp hn).mp rfl
  rcases Nat.lt_or_ge w (dg b n).length with z | z
  · rcases h1 with q | q
    · omega
    · have : b ^ w ≤ b ^ ((dg b n).length - 1) := Nat.pow_le_pow_right (by have := hb.1; omega) (by omega)
      omega
  · exact z
theorem srtN_lt {b n : Nat} (hb : bOK b) : srtN b n < b ^ (dg b n).length := by
  unfold srtN
  rw [srt_vl b _ b 0 0 0 (by omega)]
  have h1 : vl b (dsc (fun d => (dg b n).count d) b) 0 < (0 + 1) * b ^ (dsc (fun d => (dg b n).count d) b).length := vl_lt (by have := hb.1; omega) _ 0 (fun d h => dsc_mem _ b d h)
  rw [dsc_len _ (dg_b hb)] at h1
  dsimp only
  omega
theorem DB_step {b st n : Nat} {tb : Nat → Nat} (hb : bOK b) (ht : tbB tb) (hst : st = 0 ∨ st = 3) (hn : n < BB b) : stepN b tb st n < BB b ∧ stepN b tb st n ∈ DB b tb st := by
  obtain ⟨w1, w2, w3, w4, w5⟩ := WB_ok b (by have := hb.2; omega) hb.1
  unfold BB at *
  have hl := dg_W (n := n) (w := WB b) hb (by omega) w4 hn
  have hp := dg_pos b n
  have hb1 := hb.1
  refine ⟨?_, ?_⟩
  · rcases hst with rfl | rfl
    · have h1 := fold_add_le ht (dg b n) 0 (dg_16 hb)
      have h2 : (dg b n).length * 100000 ≤ WB b * 100000 := Nat.mul_le_mul_right _ hl
      show sumN b tb n < _
      unfold sumN
      omega
    · have h1 := srtN_lt (n := n) hb
      have h2 : b ^ (dg b n).length ≤ b ^ WB b := Nat.pow_le_pow_right (by omega) hl
      show srtN b n < _
      omega
  · obtain ⟨l', h1, h2⟩ := ML_mem b (dg b n).length (dg b n) rfl (dg_b hb)
    rw [gSt_step hst, ← gSt_perm h2]
    unfold DB
    refine List.mem_map.mpr ⟨l', List.mem_flatten.mpr ⟨ML b (dg b n).length, List.mem_map.mpr ⟨(dg b n).length - 1, List.mem_range.mpr (by omega), ?_⟩, h1⟩, rfl⟩
    rw [show (dg b n).length - 1 + 1 = (dg b n).length by omega]
/-- all that is wanted of a step whose numbers are few -/
def AM (s : Nat → Nat) (B : Nat) (D : List Nat) : Prop := (∀ x, x < B → s x < B ∧ s x ∈ D) ∧ D.length < 32768 ∧ 20000 < B ∧ B ≤ 2 ^ 24
theorem AM_of {b st : Nat} {tb : Nat → Nat} (hb : bOK b) (ht : tbB tb) (hst : st = 0 ∨ st = 3) : AM (stepN b tb st) (BB b) (DB b tb st) := by
  obtain ⟨w1, w2, w3, w4, w5⟩ := WB_ok b (by have := hb.2; omega) hb.1
  exact ⟨fun x hx => DB_step hb ht hst hx, DB_len hb, w1, w3⟩
