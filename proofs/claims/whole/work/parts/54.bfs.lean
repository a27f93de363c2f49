/-! the walk over remainders, told apart from both sides' arrays -/
theorem pigeon : ∀ (N : Nat) (l : List Nat), l.Nodup → (∀ x ∈ l, x < N) → l.length ≤ N
  | 0, l, _, h => by
    cases l with
    | nil => exact Nat.le_refl _
    | cons x l => exact absurd (h x List.mem_cons_self) (Nat.not_lt_zero _)
  | N + 1, l, hn, h => by
    by_cases m : N ∈ l
    · have h1 := pigeon N (l.erase N) (hn.erase N) (fun x hx => by
        have hx' := (List.Nodup.mem_erase_iff hn).mp hx
        have := h x hx'.2
        have := hx'.1
        omega)
      rw [List.length_erase_of_mem m] at h1
      omega
    · have h1 := pigeon N l hn (fun x hx => by
        have := h x hx
        have : x ≠ N := fun e => m (e ▸ hx)
        omega)
      omega
abbrev QE : Type := Nat × Nat × Nat × Nat
def qg (Q : List QE) (i : Nat) : QE := Q.getD i (0, 0, 0, 0)
theorem qg_l {Q : List QE} {e : QE} {i : Nat} (h : i < Q.length) : qg (Q ++ [e]) i = qg Q i := by
  unfold qg
  rw [List.getD_eq_getElem?_getD, List.getD_eq_getElem?_getD, List.getElem?_append_left h]
theorem qg_r {Q : List QE} {e : QE} : qg (Q ++ [e]) Q.length = e := by
  unfold qg
  rw [List.getD_eq_getElem?_getD, List.getElem?_append_right (Nat.le_refl _), Nat.sub_self]
  rfl
def has (Q : List QE) (r v : Nat) : Prop := ∃ i, i < Q.length ∧ (qg Q i).1 = r ∧ (qg Q i).2.1 = v
def hasB (Q : List QE) (r v : Nat) : Bool := (List.range Q.length).any (fun i => decide ((qg Q i).1 = r ∧ (qg Q i).2.1 = v))
theorem hasB_iff (Q : List QE) (r v : Nat) : hasB Q r v = true ↔ has Q r v := by
  unfold hasB has
  rw [List.any_eq_true]
  constructor
  · rintro ⟨i, hi, h⟩
    exact ⟨i, List.mem_range.mp hi, of_decide_eq_true h⟩
  · rintro ⟨i, hi, h⟩
    exact ⟨i, List.mem_range.mpr hi, decide_eq_true h⟩
def qput (Q : List QE) (r v p d : Nat) : List QE := if hasB Q r v = true then Q else Q ++ [(r, v, p, d)]
/-- states in bounds, none twice, each behind the one it came from -/
def OKQ (n R b : Nat) (Q : List QE) : Prop := (∀ i, i < Q.length → (qg Q i).1 < n ∧ (qg Q i).2.1 < R ∧ (qg Q i).2.2.1 ≤ i ∧ (qg Q i).2.2.2 < b) ∧ ∀ i j, i < j → j < Q.length → ¬ ((qg Q i).1 = (qg Q j).1 ∧ (qg Q i).2.1 = (qg Q j).2.1)
theorem enc_inj {R r v r' v' : Nat} (hv : v < R) (hv' : v' < R) (h : r * R + v = r' * R + v') : r = r' ∧ v = v' := by
  have h0 : 0 < R := by omega
  have e1 : (r * R + v) / R = r := by rw [Nat.mul_comm, Nat.mul_add_div h0, Nat.div_eq_of_lt hv, Nat.add_zero]
  have e2 : (r' * R + v') / R = r' := by rw [Nat.mul_comm, Nat.mul_add_div h0, Nat.div_eq_of_lt hv', Nat.add_zero]
  have : r = r' := by rw [← e1, ← e2, h]
  subst this
  exact ⟨rfl, by omega⟩
theorem enc_lt {n R r v : Nat} (hr : r < n) (hv : v < R) : r * R + v < n * R := by
  have : (r + 1) * R ≤ n * R := Nat.mul_le_mul_right R hr
  rw [Nat.add_mul, Nat.one_mul] at this
  omega
theorem OKQ_len {n R b : Nat} {Q : List QE} (h : OKQ n R b Q) : Q.length ≤ n * R := by
  have := pigeon (n * R) ((List.range Q.length).map (fun i => (qg Q i).1 * R + (qg Q i).2.1)) (by
    rw [List.nodup_iff_pairwise_ne, List.pairwise_iff_getElem]
    intro i j hi hj hij e
    rw [List.length_map, List.length_range] at hi hj
    rw [List.getElem_map, List.getElem_map, List.getElem_range, List.getElem_range] at e
    exact h.2 i j hij hj (enc_inj (h.1 i hi).2.1 (h.1 j hj).2.1 e)) (by
    intro x hx
    obtain ⟨i, hi, rfl⟩ := List.mem_map.mp hx
    have hi' := List.mem_range.mp hi
    exact enc_lt (h.1 i hi').1 (h.1 i hi').2.1)
  rwa [List.length_map, List.length_range] at this
theorem has_l {Q : List QE} {e : QE} {r v : Nat} (h : has Q r v) : has (Q ++ [e]) r v := by
  obtain ⟨i, hi, h1⟩ := h
  exact ⟨i, by rw [List.length_append, List.length_singleton]; omega, by rw [qg_l hi]; exact h1⟩
theorem has_app {Q : List QE} {e : QE} {r v : Nat} : has (Q ++ [e]) r v ↔ has Q r v ∨ (e.1 = r ∧ e.2.1 = v) := by
  constructor
  · rintro ⟨i, hi, h⟩
    rw [List.length_append, List.length_singleton] at hi
    by_cases z : i = Q.length
    · rw [z, qg_r] at h; exact Or.inr h
    · rw [qg_l (by omega)] at h; exact Or.inl ⟨i, by omega, h⟩
  · rintro (h | h)
    · exact has_l h
    · exact ⟨Q.length, by rw [List.length_append, List.length_singleton]; omega, by rw [qg_r]; exact h⟩
theorem OKQ_put {n R b : Nat} {Q : List QE} {r v p d : Nat} (h : OKQ n R b Q) (hr : r < n) (hv : v < R) (hp : p ≤ Q.length) (hd : d < b) : OKQ n R b (qput Q r v p d) := by
  unfold qput
  by_cases z : hasB Q r v = true
  · rw [if_pos z]; exact h
  · rw [if_neg z]
    have z' : ¬ has Q r v := fun q => z ((hasB_iff _ _ _).mpr q)
    refine ⟨fun i hi => ?_, fun i j hij hj => ?_⟩
    · rw [List.length_append, List.length_singleton] at hi
      by_cases e : i = Q.length
      · subst e; rw [qg_r]; exact ⟨hr, hv, hp, hd⟩
      · rw [qg_l (by omega)]; exact h.1 i (by omega)
    · rw [List.length_append, List.length_singleton] at hj
      by_cases e : j = Q.length
      · subst e
        rw [qg_r, qg_l hij]
        exact fun q => z' ⟨i, hij, q⟩
      · rw [qg_l (by omega), qg_l (by omega)]; exact h.2 i j hij (by omega)
theorem qput_len {Q : List QE} {r v p d : Nat} : Q.length ≤ (qput Q r v p d).length := by
  unfold qput
  split
  · exact Nat.le_refl _
  · rw [List.length_append]; omega
theorem qput_get {Q : List QE} {r v p d i : Nat} (h : i < Q.length) : qg (qput Q r v p d) i = qg Q i := by
  unfold qput
  split
  · rfl
  · exact qg_l h
/-- the allowed figures below b, in order -/
def Dl (al : Nat → Bool) : Nat → List Nat
  | 0 => []
  | d + 1 => if al d = true then Dl al d ++ [d] else Dl al d
def rk (al : Nat → Bool) (d : Nat) : Nat := (Dl al d).length
theorem Dl_le (al : Nat → Bool) : ∀ b, (Dl al b).length ≤ b
  | 0 => Nat.le_refl _
  | b + 1 => by
    have := Dl_le al b
    unfold Dl
    split
    · rw [List.length_append, List.length_singleton]; omega
    · omega
theorem Dl_at (al : Nat → Bool) : ∀ b k, k < (Dl al b).length → (Dl al b).getD k 0 < b ∧ al ((Dl al b).getD k 0) = true ∧ rk al ((Dl al b).getD k 0) = k
  | 0, k, h => absurd h (Nat.not_lt_zero _)
  | b + 1, k, h => by
    have ih := Dl_at al b k
    unfold Dl at h ⊢
    by_cases z : al b = true
    · rw [if_pos z] at h ⊢
      rw [List.length_append, List.length_singleton] at h
      by_cases e : k = (Dl al b).length
      · have : (Dl al b ++ [b]).getD k 0 = b := by
          rw [e, List.getD_eq_getElem?_getD, List.getElem?_append_right (Nat.le_refl _), Nat.sub_self]; rfl
        rw [this]
        exact ⟨by omega, z, e.symm⟩
      · have : (Dl al b ++ [b]).getD k 0 = (Dl al b).getD k 0 := by
          rw [List.getD_eq_getElem?_getD, List.getElem?_append_left (by omega), ← List.getD_eq_getElem?_getD]
        rw [this]
        obtain ⟨h1, h2, h3⟩ := ih (by omega)
        exact ⟨by omega, h2, h3⟩
    · rw [if_neg z] at h ⊢
      obtain ⟨h1, h2, h3⟩ := ih h
      exact ⟨by omega, h2, h3⟩
def nxv (K v k d : Nat) : Nat := if K = 0 then 0 else if K = 1 then v ||| 2 ^ k else v + d
/-- one figure put behind; s: at the start, where 0 is none -/
def expd (al : Nat → Bool) (K n R b r v p : Nat) (s : Bool) (Q : List QE) (d : Nat) : List QE := if al d = true ∧ nxv K v (rk al d) d < R ∧ ¬ (s = true ∧ d = 0) then qput Q ((r * b + d) % n) (nxv K v (rk al d) d) p d else Q
def EX (al : Nat → Bool) (K n R b r v p : Nat) (s : Bool) (Q : List QE) : Nat → List QE
  | 0 => Q
  | d + 1 => expd al K n R b r v p s (EX al K n R b r v p s Q d) d
theorem EX_Dl (al : Nat → Bool) (K n R b r v p : Nat) (s : Bool) (Q : List QE) : ∀ d, (Dl al d).foldl (expd al K n R b r v p s) Q = EX al K n R b r v p s Q d
  | 0 => rfl
  | d + 1 => by
    have ih := EX_Dl al K n R b r v p s Q d
    unfold Dl
    by_cases z : al d = true
    · rw [if_pos z, List.foldl_append, ih]
      rfl
    · rw [if_neg z, ih]
      show _ = expd al K n R b r v p s (EX al K n R b r v p s Q d) d
      unfold expd
      rw [if_neg (fun q => z q.1)]
theorem EX_ok {al : Nat → Bool} {K n R b r v p : Nat} {s : Bool} {Q : List QE} (hn : 0 < n) (h : OKQ n R b Q) (hp : p ≤ Q.length) : ∀ d, d ≤ b → OKQ n R b (EX al K n R b r v p s Q d) ∧ Q.length ≤ (EX al K n R b r v p s Q d).length ∧ ∀ i, i < Q.length → qg (EX al K n R b r v p s Q d) i = qg Q i
  | 0, _ => ⟨h, Nat.le_refl _, fun _ _ => rfl⟩
  | d + 1, hd => by
    obtain ⟨h1, h2, h3⟩ := EX_ok hn h hp d (by omega)
    have e : EX al K n R b r v p s Q (d + 1) = expd al K n R b r v p s (EX al K n R b r v p s Q d) d := rfl
    rw [e]
    unfold expd
    by_cases z : al d = true ∧ nxv K v (rk al d) d < R ∧ ¬ (s = true ∧ d = 0)
    · rw [if_pos z]
      refine ⟨OKQ_put h1 (Nat.mod_lt _ hn) z.2.1 (by omega) (by omega), Nat.le_trans h2 qput_len, fun i hi => ?_⟩
      rw [qput_get (by omega)]; exact h3 i hi
    · rw [if_neg z]; exact ⟨h1, h2, h3⟩
/-- the walk -/
def BF (al : Nat → Bool) (K n R b : Nat) : Nat → Nat → List QE → List QE
  | 0, _, Q => Q
  | f + 1, k, Q => if k < Q.length ∧ hasB Q 0 (R - 1) = false then BF al K n R b f (k + 1) (EX al K n R b (qg Q k).1 (qg Q k).2.1 (k + 1) false Q b) else Q
def BQ (al : Nat → Bool) (K n R b : Nat) : List QE := BF al K n R b (n * R + 1) 0 (EX al K n R b 0 0 0 true [] b)
theorem OKQ_nil (n R b : Nat) : OKQ n R b [] := ⟨fun i hi => absurd hi (Nat.not_lt_zero _), fun i j _ hj => absurd hj (Nat.not_lt_zero _)⟩
theorem BF_ok {al : Nat → Bool} {K n R b : Nat} (hn : 0 < n) : ∀ (f k : Nat) (Q : List QE), OKQ n R b Q → OKQ n R b (BF al K n R b f k Q)
  | 0, _, _, h => h
  | f + 1, k, Q, h => by
    unfold BF
    by_cases z : k < Q.length ∧ hasB Q 0 (R - 1) = false
    · rw [if_pos z]
      exact BF_ok hn f (k + 1) _ (EX_ok hn h (by omega) b (Nat.le_refl _)).1
    · rw [if_neg z]; exact h
theorem BQ_ok {al : Nat → Bool} {K n R b : Nat} (hn : 0 < n) : OKQ n R b (BQ al K n R b) := BF_ok hn _ _ _ (EX_ok hn (OKQ_nil n R b) (Nat.zero_le _) b (Nat.le_refl _)).1
/-- how far behind the start, and who stands so many before -/
def dpf (Q : List QE) : Nat → Nat → Nat
  | 0, _ => 0
  | f + 1, i => if (qg Q i).2.2.1 = 0 then 0 else dpf Q f ((qg Q i).2.2.1 - 1) + 1
def anc (Q : List QE) : Nat → Nat → Nat
  | 0, i => i
  | j + 1, i => anc Q j ((qg Q i).2.2.1 - 1)
theorem dpf_fuel {n R b : Nat} {Q : List QE} (h : OKQ n R b Q) : ∀ (f g i : Nat), i < Q.length → i < f → i < g → dpf Q f i = dpf Q g i
  | 0, _, _, _, q, _ => absurd q (Nat.not_lt_zero _)
  | _ + 1, 0, _, _, _, q => absurd q (Nat.not_lt_zero _)
  | f + 1, g + 1, i, hi, hf, hg => by
    have hp := (h.1 i hi).2.2.1
    unfold dpf
    by_cases z : (qg Q i).2.2.1 = 0
    · rw [if_pos z, if_pos z]
    · rw [if_neg z, if_neg z, dpf_fuel h f g _ (by omega) (by omega) (by omega)]
def dp (Q : List QE) (i : Nat) : Nat := dpf Q (i + 1) i
theorem dp_rec {n R b : Nat} {Q : List QE} (h : OKQ n R b Q) {i : Nat} (hi : i < Q.length) : dp Q i = if (qg Q i).2.2.1 = 0 then 0 else dp Q ((qg Q i).2.2.1 - 1) + 1 := by
  have hp := (h.1 i hi).2.2.1
  have e : dp Q i = if (qg Q i).2.2.1 = 0 then 0 else dpf Q i ((qg Q i).2.2.1 - 1) + 1 := rfl
  rw [e]
  by_cases z : (qg Q i).2.2.1 = 0
  · rw [if_pos z, if_pos z]
  · rw [if_neg z, if_neg z]
    unfold dp
    rw [dpf_fuel h i ((qg Q i).2.2.1 - 1 + 1) _ (by omega) (by omega) (by omega)]
theorem dp_le {n R b : Nat} {Q : List QE} (h : OKQ n R b Q) : ∀ (m i : Nat), i ≤ m → i < Q.length → dp Q i ≤ i
  | 0, i, him, hi => by
    rw [dp_rec h hi, if_pos (by have := (h.1 i hi).2.2.1; omega)]; exact Nat.zero_le _
  | m + 1, i, him, hi => by
    have hp := (h.1 i hi).2.2.1
    rw [dp_rec h hi]
    by_cases z : (qg Q i).2.2.1 = 0
    · rw [if_pos z]; exact Nat.zero_le _
    · rw [if_neg z]
      have := dp_le h m ((qg Q i).2.2.1 - 1) (by omega) (by omega)
      omega
/-- the answer for the j-th figure -/
def bfA (Q : List QE) (g : Nat) (j : Int32) : Int32 := if j = (-1 : Int32) then nI (dp Q g + 1) else if j < nI (dp Q g + 1) then nI (qg Q (anc Q (dp Q g - j.toNatClampNeg) g)).2.2.2 else (-4 : Int32)
