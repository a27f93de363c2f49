/-! the walk in the reference -/
theorem fa_and (a b : Nat) : nI a &&& nI b = nI (a &&& b) := by
  apply Int32.toBitVec_inj.1
  show BitVec.ofNat 32 a &&& BitVec.ofNat 32 b = BitVec.ofNat 32 (a &&& b)
  apply BitVec.eq_of_getLsbD_eq
  intro i hi
  simp [hi]
theorem fa_or (a b : Nat) : nI a ||| nI b = nI (a ||| b) := by
  apply Int32.toBitVec_inj.1
  show BitVec.ofNat 32 a ||| BitVec.ofNat 32 b = BitVec.ofNat 32 (a ||| b)
  apply BitVec.eq_of_getLsbD_eq
  intro i hi
  simp [hi]
theorem sh31 : ∀ d, d < 17 → (((nI d &&& 31).toBitVec.smod 32).toNat = d) := by decide +kernel
theorem one_shl {k : Nat} (h : k < 17) : (1 : Int32) <<< (nI k &&& 31) = nI (2 ^ k) := by
  have hp : 1 * 2 ^ k < 2 ^ 32 := by
    have := Nat.pow_le_pow_right (show 0 < 2 by omega) (show k ≤ 16 by omega)
    omega
  have := pk_shlN (n := 1) (nI k &&& 31) k (sh31 k h) hp
  rwa [Nat.one_mul] at this
theorem bitI {a d : Nat} (ha : a < 2 ^ 31) (hd : d < 17) : (nI a >>> (nI d &&& 31)) &&& (1 : Int32) = nI (a / 2 ^ d % 2) := by
  rw [pk_shrN ha (nI d &&& 31) d (sh31 d hd)]
  exact pk_andN (m := 1) (Nat.lt_of_le_of_lt (Nat.div_le_self a _) (by omega)) 1 (by decide)
theorem m4 {x : Nat} (h : x < 2 ^ 31) : ¬ nI x = (-4 : Int32) := fun q => by
  have := congrArg Int32.toInt q
  rw [nI_toInt h] at this
  have e : (-4 : Int32).toInt = -4 := rfl
  omega
theorem m2 {x : Nat} (h : x < 2 ^ 31) : ¬ nI x = (-2 : Int32) := fun q => by
  have := congrArg Int32.toInt q
  rw [nI_toInt h] at this
  have e : (-2 : Int32).toInt = -2 := rfl
  omega
theorem m1 {x : Nat} (h : x < 2 ^ 31) : ¬ nI x = (-1 : Int32) := fun q => by
  have := congrArg Int32.toInt q
  rw [nI_toInt h] at this
  have e : (-1 : Int32).toInt = -1 := rfl
  omega
/-- what a walk is over: kind, rules, bounds -/
def WK (K n R b : Nat) : Prop := K ≤ 2 ∧ 1 ≤ n ∧ 1 ≤ R ∧ n * R ≤ 51200 ∧ n ≤ 2000 ∧ R ≤ 256 ∧ bOK b
theorem nxv_lt {K v k d : Nat} (hv : v < 256) (hk : k < 16) (hd : d < 16) : nxv K v k d < 2 ^ 16 := by
  unfold nxv
  split
  · omega
  · split
    · exact Nat.or_lt_two_pow (by omega) (Nat.pow_lt_pow_right (by omega) (by omega))
    · omega
theorem rk_le (al : Nat → Bool) (d : Nat) : rk al d ≤ d := Dl_le al d
/-- the marks of the allowed figures and their places -/
def alM (al : Nat → Bool) (A : Int32) (bit : Nat → Int32) (b : Nat) : Prop := ∀ d, d < b → (A >>> (nI d &&& 31)) &&& (1 : Int32) = nI (if al d = true then 1 else 0) ∧ bit d = nI (rk al d)
theorem p_beside {F K n R b v d : Nat} {al : Nat → Bool} {A : Int32} {bit : Nat → Int32} (hW : WK K n R b) (hA : alM al A bit b) (hv : v < R) (hd : d < b) : f_X11_beside F (nI v) (nI d) (nI K) (nI R) A bit = some (if al d = true ∧ nxv K v (rk al d) d < R then nI (nxv K v (rk al d) d) else (-4 : Int32)) := by
  obtain ⟨w1, w2, w3, w4, w5, w6, w7⟩ := hW
  have hb2 := w7.2
  have hr := rk_le al d
  have hx := nxv_lt (K := K) (v := v) (k := rk al d) (d := d) (by omega) (by omega) (by omega)
  unfold f_X11_beside
  rw [(hA d hd).1]
  by_cases z : al d = true
  · rw [if_pos z, if_neg (by decide)]
    have fin : f_X11_beside_J49 F (nI R) (nI (nxv K v (rk al d) d)) = some (if al d = true ∧ nxv K v (rk al d) d < R then nI (nxv K v (rk al d) d) else (-4 : Int32)) := by
      unfold f_X11_beside_J49 f_X11_beside_J64
      rcases Nat.lt_or_ge (nxv K v (rk al d) d) R with y | y
      · rw [if_neg (nI_ge y (by omega)), if_pos ⟨z, y⟩]
      · rw [if_pos (nI_le y (by omega)), if_neg (fun q => by have := q.2; omega)]
    have hK : K = 0 ∨ K = 1 ∨ K = 2 := by omega
    rcases hK with rfl | rfl | rfl
    · rw [if_pos nI_0]; exact fin
    · rw [if_neg (by decide), if_pos nI_one, ck_pos (in_ok (by omega) (by omega)), nI_clamp (by omega), (hA d hd).2, one_shl (by omega), fa_or]
      exact fin
    · rw [if_neg (by decide), if_neg (by decide), nI_add]; exact fin
  · rw [if_neg z, if_pos nI_0, if_neg (fun q => z q.1)]
def enR (R : Nat) (e : QE) : Nat := e.1 * R + e.2.1
/-- the arrays of the reference hold the walk -/
def RM (n R : Nat) (Q : List QE) (came by' queue : Nat → Int32) (met : Int32) : Prop := met = nI Q.length ∧ (∀ i, i < Q.length → queue i = nI (enR R (qg Q i)) ∧ came (enR R (qg Q i)) = (if (qg Q i).2.2.1 = 0 then (-2 : Int32) else nI (enR R (qg Q ((qg Q i).2.2.1 - 1)))) ∧ by' (enR R (qg Q i)) = nI (qg Q i).2.2.2) ∧ ∀ r v, r < n → v < R → ¬ has Q r v → came (r * R + v) = (-4 : Int32)
theorem RM_meet {F K n R b r v p d : Nat} {Q : List QE} {came by' queue : Nat → Int32} {met fr : Int32} (hW : WK K n R b) (hQ : OKQ n R b Q) (hM : RM n R Q came by' queue met) (hr : r < n) (hv : v < R) (hp : p ≤ Q.length) (hfr : fr = if p = 0 then (-2 : Int32) else nI (enR R (qg Q (p - 1)))) : ∃ came2 by2 queue2 met2, f_X11_meet F (nI (r * R + v)) fr (nI d) came by' queue met = some (came2, by2, queue2, met2) ∧ RM n R (qput Q r v p d) came2 by2 queue2 met2 := by
  obtain ⟨w1, w2, w3, w4, w5, w6, w7⟩ := hW
  obtain ⟨h1, h2, h3⟩ := hM
  have hlen := OKQ_len hQ
  have hen := enc_lt hr hv
  have hin : ∀ i, i < Q.length → enR R (qg Q i) < n * R := fun i hi => enc_lt (hQ.1 i hi).1 (hQ.1 i hi).2.1
  unfold f_X11_meet f_X11_meet_J45 qput
  rw [ck_pos (in_ok (by omega) (by omega)), nI_clamp (by omega)]
  by_cases z : has Q r v
  · rw [if_pos ((hasB_iff _ _ _).mpr z), if_neg]
    · exact ⟨_, _, _, _, rfl, h1, h2, h3⟩
    · obtain ⟨i, hi, e1, e2⟩ := z
      have : enR R (qg Q i) = r * R + v := by unfold enR; rw [e1, e2]
      rw [← this, (h2 i hi).2.1]
      split
      · decide
      · have hp' := (hQ.1 i hi).2.2.1
        exact m4 (by have := hin ((qg Q i).2.2.1 - 1) (by omega); omega)
  · have zl : Q.length < n * R := by
      have := OKQ_len (OKQ_put (p := 0) (d := 0) hQ hr hv (Nat.zero_le _) (by have := w7.1; omega))
      unfold qput at this
      rw [if_neg (fun q => z ((hasB_iff _ _ _).mp q)), List.length_append, List.length_singleton] at this
      omega
    rw [if_neg (fun q => z ((hasB_iff _ _ _).mp q)), if_pos (h3 r v hr hv z), ck_pos (show ¬ (nI (r * R + v) < 0 ∨ 51200 ≤ r * R + v) from fun q => q.elim (nI_pos (by omega)) (by omega)), ck_pos (show ¬ (nI (r * R + v) < 0 ∨ 51200 ≤ r * R + v) from fun q => q.elim (nI_pos (by omega)) (by omega)), h1, ck_pos (in_ok (by omega) (by omega)), nI_clamp (by omega), nI_1]
    refine ⟨_, _, _, _, rfl, by rw [List.length_append, List.length_singleton], fun i hi => ?_, fun r' v' hr' hv' hh => ?_⟩
    · rw [List.length_append, List.length_singleton] at hi
      by_cases e : i = Q.length
      · subst e
        rw [qg_r]
        have ee : enR R (r, v, p, d) = r * R + v := rfl
        rw [ee, pk_us, pk_us, pk_us]
        refine ⟨rfl, ?_, rfl⟩
        rw [hfr]
        by_cases y : p = 0
        · rw [if_pos y, if_pos y]
        · rw [if_neg y, if_neg y]
          dsimp only
          rw [qg_l (by omega)]
      · have hne : enR R (qg Q i) ≠ r * R + v := fun q => by
          have := enc_inj (hQ.1 i (by omega)).2.1 hv q
          exact z ⟨i, by omega, this⟩
        obtain ⟨a1, a2, a3⟩ := h2 i (by omega)
        have hp' := (hQ.1 i (by omega)).2.2.1
        rw [qg_l (by omega), pk_un (show i ≠ Q.length from e), pk_un hne, pk_un hne]
        refine ⟨a1, ?_, a3⟩
        rw [a2]
        by_cases y : (qg Q i).2.2.1 = 0
        · rw [if_pos y, if_pos y]
        · rw [if_neg y, if_neg y, qg_l (by omega)]
    · rw [has_app] at hh
      have hne : r' * R + v' ≠ r * R + v := fun q => by
        have := enc_inj hv' hv q
        exact hh (Or.inr ⟨this.1.symm, this.2.symm⟩)
      rw [pk_un hne]
      exact h3 r' v' hr' hv' (fun q => hh (Or.inl q))
