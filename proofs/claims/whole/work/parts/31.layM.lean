/-! the reference's figures, and what the steps make of them -/
theorem lay_J {F b m j : Nat} {figs : Nat → Int32} {rec : (Int64 × Int32 × (Nat → Int32)) → Option (Int32 × (Nat → Int32))} (hb : 2 ≤ b) (hb2 : b ≤ 16) (hm : m < 2 ^ 62) (hj : j < 64) :
    f_X11_lay_J20 F (nI b) rec (lN m) (nI j) figs = rec (lN (m / b), nI (j + 1), upd figs j (nI (m % b))) := by
  have e1 : (nI b).toInt64 = lN b := nI_l (by omega)
  have e2 : lN m / lN b = lN (m / b) := pk_lDiv (by omega) (by omega) (by omega)
  have e3 : lN m - lN m / lN b * lN b = lN (m % b) := pk_lRem (by omega) (by omega) (by omega)
  have e4 : (nI j).toNatClampNeg = j := nI_clamp (by omega)
  have h0 : ¬ lN b = 0 := fun h => by
    have := (pk_lEQ (a := b) (b := 0) (by omega) (by omega)).mp h
    omega
  have h1 : ¬ (nI j < 0 ∨ 64 ≤ (nI j).toNatClampNeg) := nI_in hj (by omega)
  unfold f_X11_lay_J20
  rw [e1, ck_pos h0, ck_pos h1, ck_pos h0, e3, e2, e4, lN_i, nI_1]
theorem lay_loop {F b : Nat} (hb : 2 ≤ b) (hb2 : b ≤ 16) {G m j : Nat} {figs : Nat → Int32} (hm : m < 2 ^ 62) (hj : 0 < j) (hl : j + (dl b 64 m).length ≤ 63) (hG : (dl b 64 m).length < G) : lp (f_X11_lay_B7 F (nI b)) G (lN m, nI j, figs) = some (nI (j + (dl b 64 m).length), putL figs j (dl b 64 m)) := by
  refine lp_by (fun k x e => ∃ m j figs, x = (lN m, nI j, figs) ∧ m < 2 ^ 62 ∧ 0 < j ∧ j + (dl b 64 m).length ≤ 63 ∧ (dl b 64 m).length = k ∧ e = (nI (j + (dl b 64 m).length), putL figs j (dl b 64 m))) ?_ G _ _ _ ⟨m, j, figs, rfl, hm, hj, hl, rfl, rfl⟩ hG
  rintro rec k x e ⟨m, j, figs, rfl, hm, hj, hl, rfl, rfl⟩ hrec
  unfold f_X11_lay_B7
  dsimp only
  by_cases h0 : m = 0
  · subst h0
    have c1 : ¬ (0 : Int64) < lN 0 := by decide
    have c2 : ¬ nI j = 0 := nI_ne0 hj (by omega)
    rw [if_neg c1, if_neg c2, dl_0]
    rfl
  · have c1 : (0 : Int64) < lN m := (lN_pos (by omega)).mpr (by omega)
    rw [if_pos c1, lay_J hb hb2 hm (by omega)]
    have e := dl_pos hb h0 (by omega)
    rw [e] at hl hrec ⊢
    rw [List.length_cons] at hl hrec ⊢
    have hd : m / b < 2 ^ 62 := Nat.lt_of_le_of_lt (Nat.div_le_self m b) hm
    refine hrec _ _ _ (Nat.lt_succ_self _) ⟨m / b, j + 1, _, rfl, hd, by omega, by omega, rfl, ?_⟩
    rw [show j + 1 + (dl b 64 (m / b)).length = j + ((dl b 64 (m / b)).length + 1) by omega]
    rfl
theorem p_lay {F b n : Nat} {many : Int32} {figs : Nat → Int32} (hF : 70 ≤ F) (hb : 2 ≤ b) (hb2 : b ≤ 16) (hn : n < 2 ^ 62) : f_X11_lay F (lN n) (nI b) many figs = some (nI (dg b n).length, putL figs 0 (dg b n)) := by
  have hd : n / b < 2 ^ 61 := div_half hb hn
  have hlen := dl_len hb 61 64 (n / b) hd
  have key : lp (f_X11_lay_B7 F (nI b)) F (lN n, (0 : Int32), figs) = some (nI (dg b n).length, putL figs 0 (dg b n)) := by
    obtain ⟨k, rfl⟩ : ∃ k, F = k + 1 := ⟨F - 1, by omega⟩
    rw [lp_succ]
    have hJ := lay_J (F := k + 1) (figs := figs) (rec := lp (f_X11_lay_B7 (k + 1) (nI b)) k) hb hb2 hn (j := 0) (by omega)
    have hR : lp (f_X11_lay_B7 (k + 1) (nI b)) k (lN (n / b), nI (0 + 1), upd figs 0 (nI (n % b))) = some (nI (dg b n).length, putL figs 0 (dg b n)) := by
      rw [lay_loop hb hb2 (by omega) (by omega) (by omega) (by omega)]
      unfold dg
      rw [List.length_cons, Nat.add_comm 1]
      rfl
    generalize lp (f_X11_lay_B7 (k + 1) (nI b)) k = rec at hJ hR ⊢
    unfold f_X11_lay_B7
    dsimp only
    by_cases c1 : (0 : Int64) < lN n
    · rw [if_pos c1]; exact hJ.trans hR
    · rw [if_neg c1, if_pos rfl]; exact hJ.trans hR
  unfold f_X11_lay
  rw [key]
  rfl
