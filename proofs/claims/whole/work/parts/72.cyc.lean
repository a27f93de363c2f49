/-! chains that come round after any number of steps -/
def CY (s : Nat → Nat) (x t r : Nat) : Prop := 0 < r ∧ it s (t + r) x = it s t x ∧ ∀ i j, i < j → j < t + r → it s i x ≠ it s j x
theorem CY_one {s : Nat → Nat} {x t r t' r' : Nat} (h : CY s x t r) (g : CY s x t' r') : t = t' ∧ r = r' := by
  obtain ⟨h1, h3, h4⟩ := h
  obtain ⟨g1, g3, g4⟩ := g
  have e1 : ¬ t + r < t' + r' := fun z => g4 t (t + r) (by omega) z h3.symm
  have e2 : ¬ t' + r' < t + r := fun z => h4 t' (t' + r') (by omega) z g3.symm
  have e3 : t + r = t' + r' := by omega
  have e4 : it s t x = it s t' x := by rw [← h3, ← g3, e3]
  have e5 : ¬ t < t' := fun z => h4 t t' z (by omega) e4
  have e6 : ¬ t' < t := fun z => g4 t' t z (by omega) e4.symm
  omega
theorem it_s1 (s : Nat → Nat) (i x : Nat) : it s (i + 1) x = it s i (s x) := by
  rw [Nat.add_comm]
  exact it_add s 1 i x
theorem CY_shift {s : Nat → Nat} {x t r : Nat} (h : CY s x (t + 1) r) : CY s (s x) t r := by
  obtain ⟨h1, h2, h3⟩ := h
  refine ⟨h1, ?_, fun i j hij hj => ?_⟩
  · rw [← it_s1, ← it_s1, show t + r + 1 = t + 1 + r by omega]
    exact h2
  · rw [← it_s1, ← it_s1]
    exact h3 (i + 1) (j + 1) (by omega) (by omega)
theorem CY_cyc {s : Nat → Nat} {x r : Nat} (h : CY s x 0 r) : CY s (s x) 0 r := by
  obtain ⟨h1, h2, h3⟩ := h
  rw [Nat.zero_add] at h2 h3
  have h2' : it s r x = x := h2
  refine ⟨h1, ?_, fun i j hij hj => ?_⟩
  · rw [← it_s1, ← it_s1, Nat.zero_add, Nat.zero_add]
    show s (it s r x) = s x
    rw [h2']
  · rw [Nat.zero_add] at hj
    rw [← it_s1, ← it_s1]
    rcases Nat.lt_or_ge (j + 1) r with z | z
    · exact h3 (i + 1) (j + 1) (by omega) z
    · have e : j + 1 = r := by omega
      rw [e, h2']
      exact fun q => h3 0 (i + 1) (by omega) (by omega) q.symm
theorem CY_at {s : Nat → Nat} {x t r : Nat} (h : CY s x t r) : ∀ i, CY s (it s i x) (t - i) r
  | 0 => h
  | i + 1 => by
    have ih := CY_at h i
    show CY s (s (it s i x)) (t - (i + 1)) r
    rcases Nat.lt_or_ge i t with z | z
    · rw [show t - i = (t - (i + 1)) + 1 by omega] at ih
      exact CY_shift ih
    · rw [show t - i = 0 by omega] at ih
      rw [show t - (i + 1) = 0 by omega]
      exact CY_cyc ih
/-- the least number L of a round of r -/
def CL (s : Nat → Nat) (L r : Nat) : Prop := CY s L 0 r ∧ ∀ i, L ≤ it s i L
theorem CY_ret {s : Nat → Nat} {L r : Nat} (h : CY s L 0 r) (d : Nat) : ∃ j, it s j (it s d L) = L := by
  obtain ⟨h1, h2, h3⟩ := h
  have e := it_per (s := s) (n := L) (i := 0) (d := r) h2 d 0 (Nat.le_refl _)
  refine ⟨d * r - d, ?_⟩
  have hd : d ≤ d * r := Nat.le_mul_of_pos_right d h1
  rw [← it_add, show d + (d * r - d) = 0 + d * r by omega, e]
  rfl
/-- x comes to L -/
def CM (s : Nat → Nat) (x L : Nat) : Prop := ∃ k, it s k x = L
theorem CM_back {s : Nat → Nat} {x L i : Nat} (h : CM s (it s i x) L) : CM s x L := by
  obtain ⟨k, h⟩ := h
  exact ⟨i + k, by rw [it_add]; exact h⟩
theorem CM_on {s : Nat → Nat} {x L r i : Nat} (hL : CL s L r) (h : CM s x L) : CM s (it s i x) L := by
  obtain ⟨k, h⟩ := h
  rcases Nat.lt_or_ge k i with z | z
  · obtain ⟨j, hj⟩ := CY_ret hL.1 (i - k)
    refine ⟨j, ?_⟩
    rw [show i = k + (i - k) by omega, it_add, h]
    exact hj
  · exact ⟨k - i, by rw [← it_add, show i + (k - i) = k by omega]; exact h⟩
theorem CM_one {s : Nat → Nat} {x L L' r r' : Nat} (hL : CL s L r) (hL' : CL s L' r') (h : CM s x L) (h' : CM s x L') : L = L' := by
  have key : ∀ {L L' r r' k k' : Nat}, CL s L r → CL s L' r' → k ≤ k' → it s k x = L → it s k' x = L' → L = L' := by
    intro L L' r r' k k' hL hL' hk e e'
    have e2 : it s (k' - k) L = L' := by rw [← e, ← it_add, show k + (k' - k) = k' by omega, e']
    have l1 : L ≤ L' := by rw [← e2]; exact hL.2 _
    obtain ⟨j, hj⟩ := CY_ret hL.1 (k' - k)
    rw [e2] at hj
    have l2 : L' ≤ L := by
      have := hL'.2 j
      rwa [hj] at this
    omega
  obtain ⟨k, e⟩ := h
  obtain ⟨k', e'⟩ := h'
  rcases Nat.le_total k k' with z | z
  · exact key hL hL' z e e'
  · exact (key hL' hL z e' e).symm
/-- who comes to L has its round -/
theorem CY_rnd {s : Nat → Nat} {x L t r r' : Nat} (h : CY s x t r) (hL : CL s L r') (hm : CM s x L) : r = r' := by
  obtain ⟨k, e⟩ := hm
  have h1 := CY_at h k
  rw [e] at h1
  exact (CY_one h1 hL.1).2
/-- a new round is walked: x, and r numbers behind the tail t; its least number -/
theorem CL_new {s : Nat → Nat} {x t r L i : Nat} (h : CY s x t r) (hi : i < r) (e : it s (t + i) x = L) (hmin : ∀ j, j < r → L ≤ it s (t + j) x) : CL s L r ∧ CM s x L := by
  have h1 := CY_at h (t + i)
  rw [e, show t - (t + i) = 0 by omega] at h1
  refine ⟨⟨h1, fun j => ?_⟩, t + i, e⟩
  have hb : it s 0 (it s t x) = it s r (it s t x) := by
    rw [← it_add s t r x]
    exact h.2.1.symm
  obtain ⟨k', q1, q2⟩ := it_back h.1 hb (i + j)
  rw [← it_add, ← it_add] at q2
  rw [← e, ← it_add, show t + i + j = t + (i + j) by omega, q2, e]
  exact hmin k' q1
theorem AM_it {s : Nat → Nat} {B : Nat} {D : List Nat} (hA : AM s B D) {x : Nat} (hx : x < B) : ∀ i, it s i x < B ∧ it s (i + 1) x ∈ D
  | 0 => ⟨hx, (hA.1 x hx).2⟩
  | i + 1 => by
    have ih := AM_it hA hx i
    have h1 : it s (i + 1) x < B := (hA.1 _ ih.1).1
    exact ⟨h1, (hA.1 _ h1).2⟩
theorem dis_bd {s : Nat → Nat} {B : Nat} {D : List Nat} (hA : AM s B D) {x k : Nat} (hx : x < B) (hd : x ∈ D) (h : ∀ i j, i < j → j < k → it s i x ≠ it s j x) : k ≤ D.length := by
  have h1 := nodup_len ((List.range k).map (fun i => it s i x)) D (by
    rw [List.nodup_iff_pairwise_ne, List.pairwise_iff_getElem]
    intro i j hi hj hij q
    rw [List.length_map, List.length_range] at hi hj
    rw [List.getElem_map, List.getElem_map, List.getElem_range, List.getElem_range] at q
    exact h i j hij hj q) (by
    intro y hy
    obtain ⟨i, hi, rfl⟩ := List.mem_map.mp hy
    cases i with
    | zero => exact hd
    | succ i => exact (AM_it hA hx i).2)
  rwa [List.length_map, List.length_range] at h1
theorem CL_D {s : Nat → Nat} {B : Nat} {D : List Nat} (hA : AM s B D) {L r : Nat} (hL : L < B) (h : CL s L r) : L ∈ D := by
  have e := h.1.2.1
  rw [Nat.zero_add] at e
  have h1 := (AM_it hA hL (r - 1)).2
  rw [show r - 1 + 1 = r by have := h.1.1; omega, e] at h1
  exact h1
/-- the chain as it is told -/
theorem CY_CH {s : Nat → Nat} {x t r : Nat} (h : CY s x t r) (ht : ∀ i, it s i x ≤ TOP) : CH s x (if t + r ≤ 300 then t else 301) (if t + r ≤ 300 then r else 0) := by
  obtain ⟨h1, h2, h3⟩ := h
  by_cases z : t + r ≤ 300
  · rw [if_pos z, if_pos z]
    exact Or.inl ⟨h1, z, h2, h3, fun i _ => ht i⟩
  · rw [if_neg z, if_neg z]
    exact Or.inr ⟨rfl, Nat.le_refl _, fun i j hij hj => h3 i j hij (by omega), fun i _ => ht i, Or.inl rfl⟩
