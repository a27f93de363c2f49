/-! loops by a relation: state and answer at a distance k from the end -/
theorem lp_by {σ ε : Type} {B : (σ → Option ε) → σ → Option ε} (T : Nat → σ → ε → Prop) (step : ∀ (rec : σ → Option ε) (k : Nat) (x : σ) (e : ε), T k x e → (∀ (j : Nat) (y : σ) (e' : ε), j < k → T j y e' → rec y = some e') → B rec x = some e) : ∀ (F k : Nat) (x : σ) (e : ε), T k x e → k < F → lp B F x = some e := by
  intro F
  induction F with
  | zero => intro k x e _ h; exact absurd h (Nat.not_lt_zero _)
  | succ F ih => intro k x e hT hk; exact step (lp B F) k x e hT (fun j y e' hj hT' => ih j y e' hT' (by omega))
/-- the same where the answer is only known to be of a kind -/
theorem lp_ex {σ ε : Type} {B : (σ → Option ε) → σ → Option ε} (I : Nat → σ → Prop) (P : σ → ε → Prop) (step : ∀ (rec : σ → Option ε) (k : Nat) (x : σ), I k x → (∀ (j : Nat) (y : σ), j < k → I j y → ∃ e, rec y = some e ∧ P y e) → ∃ e, B rec x = some e ∧ P x e) : ∀ (F k : Nat) (x : σ), I k x → k < F → ∃ e, lp B F x = some e ∧ P x e := by
  intro F
  induction F with
  | zero => intro k x _ h; exact absurd h (Nat.not_lt_zero _)
  | succ F ih => intro k x hT hk; exact step (lp B F) k x hT (fun j y hj hT' => ih j y hT' (by omega))
theorem bind_s {α β : Type} {o : Option α} {x : α} {k : α → Option β} (h : o = some x) : o.bind k = k x := by rw [h]; rfl
theorem lN_ne0 {n : Nat} (h0 : 0 < n) (h : n < 2 ^ 63) : ¬ lN n = 0 := fun e => by
  have := (pk_lEQ (a := n) (b := 0) h (by omega)).mp e
  omega
theorem lN_pos {n : Nat} (h : n < 2 ^ 63) : (0 : Int64) < lN n ↔ 0 < n := pk_lLT (a := 0) (b := n) (by omega) h
theorem lN_clamp {n : Nat} (h : n < 2 ^ 63) : (lN n).toInt = (n : Int) := pk_lT h
theorem in_ok {c N : Nat} (h : c < N) (hN : N < 2 ^ 31) : ¬ (nI c < 0 ∨ N ≤ (nI c).toNatClampNeg) := nI_in h hN
theorem drop_cons {α : Type} {l : List α} {i : Nat} (h : i < l.length) : l.drop i = l[i] :: l.drop (i + 1) := List.drop_eq_getElem_cons h
