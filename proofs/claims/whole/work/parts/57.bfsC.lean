/-! the walk in the class -/
theorem take_sn {α : Type} : ∀ (l : List α) (k : Nat) (d : α), l[k]? = some d → l.take (k + 1) = l.take k ++ [d]
  | [], k, d, h => by rw [List.getElem?_nil] at h; cases h
  | a :: l, 0, d, h => by
    rw [List.getElem?_cons_zero] at h
    cases h
    rfl
  | a :: l, k + 1, d, h => by
    rw [List.getElem?_cons_succ] at h
    show a :: l.take (k + 1) = a :: (l.take k ++ [d])
    rw [take_sn l k d h]
def enC (n : Nat) (e : QE) : Nat := e.2.1 * n + e.1
def frC (n : Nat) (Q : List QE) (p : Nat) : Nat := if p = 0 then 51200 else enC n (qg Q (p - 1))
/-- the arrays of the class hold the walk -/
def RC (n R : Nat) (Q : List QE) (s : (Nat → Int32) × (Nat → Int32) × Int32) : Prop := s.2.2 = nI Q.length ∧ (∀ i, i < Q.length → s.1 i = nI (enC n (qg Q i)) ∧ s.2.1 (enC n (qg Q i)) = nI (16 * frC n Q (qg Q i).2.2.1 + (qg Q i).2.2.2)) ∧ ∀ r v, r < n → v < R → ¬ has Q r v → s.2.1 (v * n + r) = (-1 : Int32)
abbrev R3 : Type := (Nat → Int32) × (Nat → Int32) × Int32
theorem enC_lt {n R b : Nat} {Q : List QE} (hQ : OKQ n R b Q) (hn : n * R ≤ 51200) {i : Nat} (hi : i < Q.length) : enC n (qg Q i) < 51200 ∧ enC n (qg Q i) < R * n := by
  have h := enc_lt (hQ.1 i hi).2.1 (hQ.1 i hi).1
  have e : R * n = n * R := Nat.mul_comm R n
  unfold enC
  omega
theorem frC_le {n R b : Nat} {Q : List QE} (hQ : OKQ n R b Q) (hn : n * R ≤ 51200) {p : Nat} (hp : p ≤ Q.length) : frC n Q p ≤ 51200 := by
  unfold frC
  by_cases z : p = 0
  · rw [if_pos z]; omega
  · rw [if_neg z]
    have := (enC_lt hQ hn (i := p - 1) (by omega)).1
    omega
theorem frC_app {n : Nat} {Q : List QE} {e : QE} {p : Nat} (hp : p ≤ Q.length) : frC n (Q ++ [e]) p = frC n Q p := by
  unfold frC
  by_cases z : p = 0
  · rw [if_pos z, if_pos z]
  · rw [if_neg z, if_neg z, qg_l (by omega)]
theorem RC_has {n R b r v : Nat} {Q : List QE} {s : R3} (hQ : OKQ n R b Q) (hb : b ≤ 16) (hn : n * R ≤ 51200) (h : RC n R Q s) (hr : r < n) (hv : v < R) : s.2.1 (v * n + r) = (-1 : Int32) ↔ ¬ has Q r v := by
  obtain ⟨h1, h2, h3⟩ := h
  constructor
  · rintro e ⟨i, hi, e1, e2⟩
    have : enC n (qg Q i) = v * n + r := by unfold enC; rw [e1, e2]
    rw [← this, (h2 i hi).2] at e
    have hd := (hQ.1 i hi).2.2.2
    have hp := (hQ.1 i hi).2.2.1
    have := frC_le hQ hn (p := (qg Q i).2.2.1) (by omega)
    exact m1 (by omega) e
  · exact h3 r v hr hv
theorem RC_put {F K n R b r v p d : Nat} {Q : List QE} {s : R3} {x4 : Int32} {rec : (Int32 × (Nat → Int32) × (Nat → Int32) × Int32) → Option ((Nat → Int32) × (Nat → Int32) × Int32)} (hW : WK K n R b) (hQ : OKQ n R b Q) (hM : RC n R Q s) (hr : r < n) (hv : v < R) (hd : d < b) (hp : p ≤ Q.length) : ∃ s' : R3, f_X7_spread_J89 F (nI (frC n Q p)) (nI b) (nI n) (nI r) rec x4 (nI d) (nI v) s.1 s.2.1 s.2.2 = rec (x4 + 1, s'.1, s'.2.1, s'.2.2) ∧ RC n R (qput Q ((r * b + d) % n) v p d) s' := by
  obtain ⟨w1, w2, w3, w4, w5, w6, w7⟩ := hW
  have hb2 := w7.2
  have hmm := hM
  obtain ⟨h1, h2, h3⟩ := hM
  have hlen := OKQ_len hQ
  have hR : R * n = n * R := Nat.mul_comm R n
  have hm : (r * b + d) % n < n := Nat.mod_lt _ (by omega)
  have hen := enc_lt hv hm
  have hrb : r * b ≤ 2000 * 16 := Nat.mul_le_mul (by omega) (by omega)
  have hin : ∀ i, i < Q.length → enC n (qg Q i) < R * n := fun i hi => (enC_lt hQ w4 hi).2
  have hfr := frC_le hQ w4 hp
  have eto : (nI v * nI n) + (((nI r * nI b) + nI d) - ((nI r * nI b) + nI d) / nI n * nI n) = nI (v * n + (r * b + d) % n) := by
    rw [pk_mul, pk_mul, nI_add, pk_rem (by omega) (by omega) (by omega), nI_add]
  have e16 : (16 : Int32) * nI (frC n Q p) + nI d = nI (16 * frC n Q p + d) := by
    rw [show (16 : Int32) = nI 16 from rfl, pk_mul, nI_add]
  unfold f_X7_spread_J89 f_X7_spread_J171 qput
  rw [ck_pos (nI_ne0 (by omega) (by omega)), eto, ck_pos (in_ok (by omega) (by omega)), nI_clamp (by omega)]
  have hmh := RC_has hQ hb2 w4 hmm hm hv
  by_cases z : has Q ((r * b + d) % n) v
  · rw [if_pos ((hasB_iff _ _ _).mpr z), if_neg (fun q => hmh.mp q z)]
    exact ⟨s, rfl, hmm⟩
  · have zl : Q.length < n * R := by
      have := OKQ_len (OKQ_put (p := 0) (d := 0) hQ hm hv (Nat.zero_le _) (by have := w7.1; omega))
      unfold qput at this
      rw [if_neg (fun q => z ((hasB_iff _ _ _).mp q)), List.length_append, List.length_singleton] at this
      omega
    have hck : ¬ (nI (v * n + (r * b + d) % n) < 0 ∨ 51200 ≤ v * n + (r * b + d) % n) := fun q => q.elim (nI_pos (by omega)) (by omega)
    rw [if_neg (fun q => z ((hasB_iff _ _ _).mp q)), if_pos (hmh.mpr z), h1, if_neg (show ¬ (51200 : Int32) ≤ nI Q.length from nI_ge (a := Q.length) (b := 51200) (by omega) (by omega)), ck_pos hck, ck_pos (in_ok (by omega) (by omega)), nI_clamp (by omega), nI_1, e16]
    refine ⟨(upd s.1 Q.length (nI (v * n + (r * b + d) % n)), upd s.2.1 (v * n + (r * b + d) % n) (nI (16 * frC n Q p + d)), nI (Q.length + 1)), rfl, by rw [List.length_append, List.length_singleton], fun i hi => ?_, fun r' v' hr' hv' hh => ?_⟩
    · rw [List.length_append, List.length_singleton] at hi
      dsimp only
      by_cases e : i = Q.length
      · subst e
        rw [qg_r]
        have ee : enC n ((r * b + d) % n, v, p, d) = v * n + (r * b + d) % n := rfl
        rw [ee, pk_us, pk_us]
        dsimp only
        rw [frC_app hp]
        exact ⟨rfl, rfl⟩
      · have hne : enC n (qg Q i) ≠ v * n + (r * b + d) % n := fun q => by
          have := enc_inj (hQ.1 i (by omega)).1 hm q
          exact z ⟨i, by omega, this.2, this.1⟩
        obtain ⟨a1, a2⟩ := h2 i (by omega)
        have hp' := (hQ.1 i (by omega)).2.2.1
        rw [qg_l (by omega), pk_un (show i ≠ Q.length from e), pk_un hne, frC_app (by omega)]
        exact ⟨a1, a2⟩
    · rw [has_app] at hh
      have hne : v' * n + r' ≠ v * n + (r * b + d) % n := fun q => by
        have := enc_inj hr' hm q
        exact hh (Or.inr ⟨this.2.symm, this.1.symm⟩)
      dsimp only
      rw [pk_un hne]
      exact h3 r' v' hr' hv' (fun q => hh (Or.inl q))
theorem p_ruleAfter {F K v k d : Nat} (hK : K ≤ 2) (hk : k < 17) : f_X7_ruleAfter F (nI v) (nI k) (nI d) (nI K) = some (nI (nxv K v k d)) := by
  unfold f_X7_ruleAfter f_X7_ruleAfter_J31 nxv
  have h : K = 0 ∨ K = 1 ∨ K = 2 := by omega
  rcases h with rfl | rfl | rfl
  · rw [if_neg (by decide), if_neg (by decide), if_pos rfl]; rfl
  · rw [if_pos (by decide), if_neg (by decide), if_pos rfl, one_shl hk, fa_or]
  · rw [if_neg (by decide), if_pos (by decide), if_neg (by decide), if_neg (by decide), nI_add]
theorem expd_ok {al : Nat → Bool} {K n R b r v p : Nat} {s : Bool} {Q : List QE} {d : Nat} (hn : 0 < n) (h : OKQ n R b Q) (hp : p ≤ Q.length) (hd : d < b) : OKQ n R b (expd al K n R b r v p s Q d) ∧ Q.length ≤ (expd al K n R b r v p s Q d).length ∧ ∀ i, i < Q.length → qg (expd al K n R b r v p s Q d) i = qg Q i := by
  unfold expd
  by_cases z : al d = true ∧ nxv K v (rk al d) d < R ∧ ¬ (s = true ∧ d = 0)
  · rw [if_pos z]
    exact ⟨OKQ_put h (Nat.mod_lt _ hn) z.2.1 hp hd, qput_len, fun i hi => qput_get hi⟩
  · rw [if_neg z]; exact ⟨h, Nat.le_refl _, fun _ _ => rfl⟩
theorem fold_ok {al : Nat → Bool} {K n R b r v p : Nat} {s : Bool} (hn : 0 < n) : ∀ (l : List Nat) (Q : List QE), OKQ n R b Q → p ≤ Q.length → (∀ d ∈ l, d < b) → OKQ n R b (l.foldl (expd al K n R b r v p s) Q) ∧ Q.length ≤ (l.foldl (expd al K n R b r v p s) Q).length ∧ ∀ i, i < Q.length → qg (l.foldl (expd al K n R b r v p s) Q) i = qg Q i
  | [], Q, h, _, _ => ⟨h, Nat.le_refl _, fun _ _ => rfl⟩
  | d :: l, Q, h, hp, hl => by
    obtain ⟨a1, a2, a3⟩ := expd_ok (al := al) (K := K) (r := r) (v := v) (s := s) hn h hp (hl d List.mem_cons_self)
    obtain ⟨b1, b2, b3⟩ := fold_ok (al := al) (K := K) (r := r) (v := v) (p := p) (s := s) hn l _ a1 (by omega) (fun t ht => hl t (List.mem_cons_of_mem _ ht))
    rw [List.foldl_cons]
    refine ⟨b1, by omega, fun i hi => ?_⟩
    rw [b3 i (by omega), a3 i hi]
def alC (al : Nat → Bool) (arr : Nat → Int32) (b : Nat) : Prop := ∀ k, k < (Dl al b).length → arr k = nI ((Dl al b).getD k 0)
theorem Dl_mem {al : Nat → Bool} {b d : Nat} (h : d ∈ Dl al b) : d < b := by
  obtain ⟨k, hk, e⟩ := List.mem_iff_getElem.mp h
  have := (Dl_at al b k hk).1
  rw [List.getD_eq_getElem?_getD, List.getElem?_eq_getElem hk] at this
  rw [← e]
  exact this
theorem spreadL {F K n R b r v p : Nat} {al : Nat → Bool} {arr : Nat → Int32} {Q : List QE} {s0 : R3} (hW : WK K n R b) (hA : alC al arr b) (hQ : OKQ n R b Q) (hr : r < n) (hv : v < R) (hp : p ≤ Q.length) (h0 : RC n R Q s0) {G : Nat} (hG : 100 < G) : ∃ s : R3, lp (f_X7_spread_B37 F (nI (frC n Q p)) arr (nI (Dl al b).length) (nI K) (nI b) (nI n) (nI R) (nI r) (nI v)) G ((0 : Int32), s0.1, s0.2.1, s0.2.2) = some (s.1, s.2.1, s.2.2) ∧ RC n R (EX al K n R b r v p (decide (p = 0)) Q b) s := by
  have hW' := hW
  obtain ⟨w1, w2, w3, w4, w5, w6, w7⟩ := hW
  have hb1 := w7.1
  have hb2 := w7.2
  have hDl := Dl_le al b
  have hlen := OKQ_len hQ
  have hfr := frC_le hQ w4 hp
  obtain ⟨s, h1, h2⟩ := up_lp (B := f_X7_spread_B37 F (nI (frC n Q p)) arr (nI (Dl al b).length) (nI K) (nI b) (nI n) (nI R) (nI r) (nI v)) (Dl al b).length (fun i (s : R3) => (nI i, s.1, s.2.1, s.2.2)) (fun s => (s.1, s.2.1, s.2.2)) (fun i s => RC n R (((Dl al b).take i).foldl (expd al K n R b r v p (decide (p = 0))) Q) s) (by
    intro rec i s hi hI
    obtain ⟨hQ', hl', hg'⟩ := fold_ok (al := al) (K := K) (r := r) (v := v) (p := p) (s := decide (p = 0)) (show 0 < n by omega) ((Dl al b).take i) Q hQ hp (fun d hd => Dl_mem (List.mem_of_mem_take hd))
    have hget : (Dl al b)[i]? = some ((Dl al b).getD i 0) := by
      rw [List.getD_eq_getElem?_getD, List.getElem?_eq_getElem hi]; rfl
    obtain ⟨d1, d2, d3⟩ := Dl_at al b i hi
    have ha := hA i hi
    rw [take_sn _ _ _ hget, List.foldl_append, List.foldl_cons, List.foldl_nil]
    generalize hdd : (Dl al b).getD i 0 = d at d1 d2 d3 ha ⊢
    generalize hQQ : ((Dl al b).take i).foldl (expd al K n R b r v p (decide (p = 0))) Q = Q' at hQ' hl' hg' hI ⊢
    have hfe : frC n Q p = frC n Q' p := by
      unfold frC
      by_cases z : p = 0
      · rw [if_pos z, if_pos z]
      · rw [if_neg z, if_neg z, hg' _ (by omega)]
    have hx := nxv_lt (K := K) (v := v) (k := i) (d := d) (by omega) (by omega) (by omega)
    unfold f_X7_spread_B37 expd
    dsimp only
    rw [if_neg (nI_ge hi (by omega)), ck_pos (in_ok (by omega) (by omega)), nI_clamp (by omega), ha, p_ruleAfter w1 (by omega), Option.bind_some, d3, hfe]
    by_cases y : nxv K v i d < R
    · obtain ⟨s', e1, e2⟩ := RC_put (F := F) (K := K) (x4 := nI i) (rec := rec) hW' hQ' hI hr y d1 (show p ≤ Q'.length by omega)
      rw [if_neg (nI_ge y (by omega))]
      by_cases x : p = 0
      · have hf5 : nI (frC n Q' p) = (51200 : Int32) := by unfold frC; rw [if_pos x]; rfl
        by_cases u : d = 0
        · rw [if_pos hf5, if_pos (show nI d = (0 : Int32) by rw [u]; rfl), if_neg (show ¬ (al d = true ∧ nxv K v i d < R ∧ ¬ (decide (p = 0) = true ∧ d = 0)) from fun q => q.2.2 ⟨decide_eq_true x, u⟩)]
          exact ⟨s, hI, by unfold f_X7_spread_J171; rw [nI_1]⟩
        · rw [if_pos hf5, if_neg (nI_ne0 (by omega) (by omega)), e1, if_pos ⟨d2, y, fun q => u q.2⟩, nI_1]
          exact ⟨s', e2, rfl⟩
      · have hf5 : ¬ nI (frC n Q' p) = (51200 : Int32) := fun q => by
          have h5 : frC n Q' p < 51200 := by
            unfold frC
            rw [if_neg x]
            exact (enC_lt hQ' w4 (i := p - 1) (by omega)).1
          have := (nI_eq (a := frC n Q' p) (b := 51200) (by omega) (by omega)).mp q
          omega
        rw [if_neg hf5, e1, if_pos ⟨d2, y, fun q => x (of_decide_eq_true q.1)⟩, nI_1]
        exact ⟨s', e2, rfl⟩
    · rw [if_pos (nI_le (by omega) (by omega)), if_neg (fun q => y q.2.1)]
      exact ⟨s, hI, by unfold f_X7_spread_J171; rw [nI_1]⟩) (by
    intro rec s hI
    unfold f_X7_spread_B37
    dsimp only
    rw [if_pos (nI_le (Nat.le_refl _) (by omega))]) G 0 s0 (Nat.zero_le _) h0 (by omega)
  rw [List.take_length, EX_Dl] at h1
  exact ⟨s, h2, h1⟩
theorem p_spreadS {F K n R b : Nat} {al : Nat → Bool} {arr : Nat → Int32} {Q : List QE} {s0 : R3} (hF : 100 < F) (hW : WK K n R b) (hA : alC al arr b) (hQ : OKQ n R b Q) (h0 : RC n R Q s0) : ∃ s : R3, f_X7_spread F (51200 : Int32) s0.1 s0.2.1 arr (nI (Dl al b).length) (nI K) (nI b) (nI n) (nI R) s0.2.2 = some (s.1, s.2.1, s.2.2) ∧ RC n R (EX al K n R b 0 0 0 true Q b) s := by
  have hW' := hW
  obtain ⟨w1, w2, w3, w4, w5, w6, w7⟩ := hW
  obtain ⟨s, e, h⟩ := spreadL (F := F) (r := 0) (v := 0) (p := 0) hW' hA hQ (by omega) (by omega) (Nat.zero_le _) h0 (G := F) hF
  have e' : lp (f_X7_spread_B37 F (51200 : Int32) arr (nI (Dl al b).length) (nI K) (nI b) (nI n) (nI R) (0 : Int32) (0 : Int32)) F ((0 : Int32), s0.1, s0.2.1, s0.2.2) = _ := e
  refine ⟨s, ?_, h⟩
  unfold f_X7_spread f_X7_spread_J16 f_X7_spread_J33
  rw [if_pos rfl, if_pos rfl, e']
  rfl
theorem p_spreadI {F K n R b k : Nat} {al : Nat → Bool} {arr : Nat → Int32} {Q : List QE} {s0 : R3} (hF : 100 < F) (hW : WK K n R b) (hA : alC al arr b) (hQ : OKQ n R b Q) (hk : k < Q.length) (h0 : RC n R Q s0) : ∃ s : R3, f_X7_spread F (nI (enC n (qg Q k))) s0.1 s0.2.1 arr (nI (Dl al b).length) (nI K) (nI b) (nI n) (nI R) s0.2.2 = some (s.1, s.2.1, s.2.2) ∧ RC n R (EX al K n R b (qg Q k).1 (qg Q k).2.1 (k + 1) false Q b) s := by
  have hW' := hW
  obtain ⟨w1, w2, w3, w4, w5, w6, w7⟩ := hW
  obtain ⟨s, e, h⟩ := spreadL (F := F) (r := (qg Q k).1) (v := (qg Q k).2.1) (p := k + 1) hW' hA hQ (hQ.1 k hk).1 (hQ.1 k hk).2.1 (by omega) h0 (G := F) hF
  have hf : frC n Q (k + 1) = enC n (qg Q k) := by unfold frC; rw [if_neg (by omega), Nat.add_sub_cancel]
  have hd : decide (k + 1 = 0) = false := decide_eq_false (by omega)
  rw [hf] at e
  rw [hd] at h
  have hlt := (enC_lt hQ w4 hk).1
  have h5 : ¬ nI (enC n (qg Q k)) = (51200 : Int32) := fun q => by
    have := (nI_eq (a := enC n (qg Q k)) (b := 51200) (by omega) (by omega)).mp q
    omega
  have em : enC n (qg Q k) % n = (qg Q k).1 := enR_mod (hQ.1 k hk).1
  have ed : enC n (qg Q k) / n = (qg Q k).2.1 := enR_div (hQ.1 k hk).1
  refine ⟨s, ?_, h⟩
  unfold f_X7_spread f_X7_spread_J16 f_X7_spread_J33
  rw [if_neg h5, ck_pos (nI_ne0 (by omega) (by omega)), if_neg h5, ck_pos (nI_ne0 (by omega) (by omega)), pk_rem (by omega) (by omega) (by omega), pk_div (by omega) (by omega) (by omega), em, ed, e]
  rfl
theorem walkC {F K n R b : Nat} {al : Nat → Bool} {arr : Nat → Int32} (hF : 100 < F) (hW : WK K n R b) (hA : alC al arr b) : ∀ (f k : Nat) (Q : List QE) (s0 : R3) (G : Nat), OKQ n R b Q → k ≤ Q.length → RC n R Q s0 → n * R + 1 ≤ k + f → f < G → ∃ s : R3, lp (f_X7_walk_B47 F arr (nI (Dl al b).length) (nI K) (nI b) (nI n) (nI R) (nI ((R - 1) * n))) G (nI k, s0.1, s0.2.1, s0.2.2) = some (s.1, s.2.1, s.2.2) ∧ RC n R (BF al K n R b f k Q) s
  | 0, k, Q, s0, G, hQ, hk, _, hf, _ => by
    have := OKQ_len hQ
    omega
  | f + 1, k, Q, s0, 0, hQ, hk, _, hf, hG => absurd hG (Nat.not_lt_zero _)
  | f + 1, k, Q, s0, G + 1, hQ, hk, hM, hf, hG => by
    have hW' := hW
    obtain ⟨w1, w2, w3, w4, w5, w6, w7⟩ := hW
    have hlen := OKQ_len hQ
    have hg1 := enc_lt (show R - 1 < R by omega) (show 0 < n by omega)
    have hRn : R * n = n * R := Nat.mul_comm R n
    have ih := walkC hF hW' hA f (k + 1) (EX al K n R b (qg Q k).1 (qg Q k).2.1 (k + 1) false Q b)
    rw [lp_succ]
    generalize hrec : lp (f_X7_walk_B47 F arr (nI (Dl al b).length) (nI K) (nI b) (nI n) (nI R) (nI ((R - 1) * n))) G = rec
    unfold f_X7_walk_B47 BF
    dsimp only
    rw [hM.1]
    by_cases z : k < Q.length
    · have hmh := RC_has (r := 0) (v := R - 1) hQ w7.2 w4 hM (by omega) (by omega)
      rw [Nat.add_zero] at hmh
      rw [if_neg (show ¬ (51200 : Int32) ≤ nI k from nI_ge (a := k) (b := 51200) (by omega) (by omega)), if_neg (nI_ge z (by omega)), ck_pos (in_ok (by omega) (by omega)), nI_clamp (n := (R - 1) * n) (by omega)]
      by_cases y : has Q 0 (R - 1)
      · rw [if_neg (fun q => hmh.mp q y), if_neg (fun q => by
          have := (hasB_iff Q 0 (R - 1)).mpr y
          rw [this] at q
          exact absurd q.2 (by decide))]
        exact ⟨s0, by rw [hM.1], hM⟩
      · rw [if_pos (hmh.mpr y), if_pos ⟨z, by
          cases e : hasB Q 0 (R - 1) with
          | false => rfl
          | true => exact absurd ((hasB_iff Q 0 (R - 1)).mp e) y⟩, ck_pos (in_ok (by omega) (by omega)), nI_clamp (by omega), (hM.2.1 k z).1]
        obtain ⟨s1, e1, e2⟩ := p_spreadI (F := F) (arr := arr) hF hW' hA hQ z hM
        rw [hM.1] at e1
        rw [e1, Option.bind_some, nI_1]
        have hok := EX_ok (al := al) (K := K) (r := (qg Q k).1) (v := (qg Q k).2.1) (p := k + 1) (s := false) (show 0 < n by omega) hQ (by omega) b (Nat.le_refl _)
        obtain ⟨s2, e3, e4⟩ := ih s1 G hok.1 (by omega) e2 (by omega) (by omega)
        rw [hrec] at e3
        exact ⟨s2, e3, e4⟩
    · by_cases z5 : (51200 : Int32) ≤ nI k
      · rw [if_pos z5, if_neg (fun q => z q.1)]
        exact ⟨s0, by rw [hM.1], hM⟩
      · rw [if_neg z5, if_pos (nI_le (by omega) (by omega)), if_neg (fun q => z q.1)]
        exact ⟨s0, by rw [hM.1], hM⟩
theorem clrC {F n R : Nat} {fr queue : Nat → Int32} {met : Int32} (h : R * n ≤ 51200) {G : Nat} (hG : 51201 < G) : ∃ fr', lp (f_X7_walk_B2 F (nI n) (nI R) queue met) G ((0 : Int32), fr) = some fr' ∧ ∀ i, i < R * n → fr' i = (-1 : Int32) := by
  obtain ⟨s, h1, h2⟩ := up_lp (B := f_X7_walk_B2 F (nI n) (nI R) queue met) (R * n) (fun i s => (nI i, s)) (fun s => s) (fun i s => ∀ j, j < i → s j = (-1 : Int32)) (by
    intro rec i s hi hI
    refine ⟨upd s i (-1 : Int32), fun j hj => ?_, ?_⟩
    · by_cases e : j = i
      · subst e; exact pk_us
      · rw [pk_un e]; exact hI j (by omega)
    · unfold f_X7_walk_B2
      dsimp only
      rw [pk_mul, if_neg (nI_ge hi (by omega)), if_neg (show ¬ (51200 : Int32) ≤ nI i from nI_ge (a := i) (b := 51200) (by omega) (by omega)), ck_pos (in_ok (by omega) (by omega)), nI_clamp (by omega), nI_1]) (by
    intro rec s hI
    unfold f_X7_walk_B2
    dsimp only
    rw [pk_mul, if_pos (nI_le (Nat.le_refl _) (by omega))]) G 0 fr (Nat.zero_le _) (fun j hj => absurd hj (Nat.not_lt_zero _)) (by omega)
  exact ⟨s, h2, h1⟩
theorem p_walk {F K n R b : Nat} {al : Nat → Bool} {arr queue fr : Nat → Int32} {qd : Int32} (hF : 60000 ≤ F) (hW : WK K n R b) (hA : alC al arr b) : ∃ s : R3, f_X7_walk F queue fr arr (nI (Dl al b).length) (nI K) (nI b) (nI n) (nI R) qd (nI ((R - 1) * n)) = some (s.1, s.2.1, s.2.2) ∧ RC n R (BQ al K n R b) s := by
  have hW' := hW
  obtain ⟨w1, w2, w3, w4, w5, w6, w7⟩ := hW
  have hRn : R * n = n * R := Nat.mul_comm R n
  obtain ⟨f1, e1, h1⟩ := clrC (F := F) (fr := fr) (queue := queue) (met := qd) (n := n) (R := R) (by omega) (G := F) (by omega)
  obtain ⟨s1, e2, h2⟩ := p_spreadS (F := F) (s0 := (queue, f1, (0 : Int32))) (by omega) hW' hA (OKQ_nil n R b) ⟨rfl, fun i hi => absurd hi (Nat.not_lt_zero _), fun r v hr hv _ => h1 _ (enc_lt hv hr)⟩
  have hok := EX_ok (al := al) (K := K) (b := b) (r := 0) (v := 0) (p := 0) (s := true) (show 0 < n by omega) (OKQ_nil n R b) (Nat.zero_le _) b (Nat.le_refl _)
  obtain ⟨s2, e3, h3⟩ := walkC (F := F) (by omega) hW' hA (n * R + 1) 0 _ s1 F hok.1 (Nat.zero_le _) h2 (by omega) (by omega)
  have e3' : lp (f_X7_walk_B47 F arr (nI (Dl al b).length) (nI K) (nI b) (nI n) (nI R) (nI ((R - 1) * n))) F ((0 : Int32), s1.1, s1.2.1, s1.2.2) = _ := e3
  refine ⟨s2, ?_, h3⟩
  unfold f_X7_walk
  dsimp only at e2
  rw [e1, Option.bind_some, e2, Option.bind_some]
  dsimp only
  rw [e3', Option.bind_some]
/-- how many figures: the class's count -/
theorem sizeC {F n R b : Nat} {Q : List QE} {s : R3} (hQ : OKQ n R b Q) (hb : b ≤ 16) (hn : n * R ≤ 51200) (h : RC n R Q s) : ∀ (G c i : Nat), i < Q.length → i + 1 < G → c + dp Q i + 1 ≤ 51200 → lp (f_X7_measure_B24 F s.2.1) G (nI (enC n (qg Q i)), nI c) = some (nI (c + dp Q i + 1))
  | 0, _, _, _, hG, _ => absurd hG (Nat.not_lt_zero _)
  | G + 1, c, i, hi, hG, hc => by
    have hen := (enC_lt hQ hn hi).1
    have hp := (hQ.1 i hi).2.2.1
    have hd := (hQ.1 i hi).2.2.2
    have hfr := frC_le hQ hn (p := (qg Q i).2.2.1) (by omega)
    have ih := sizeC (F := F) hQ hb hn h G (c + 1) ((qg Q i).2.2.1 - 1)
    have h5 : ¬ nI (enC n (qg Q i)) = (51200 : Int32) := fun q => by
      have := (nI_eq (a := enC n (qg Q i)) (b := 51200) (by omega) (by omega)).mp q
      omega
    have hrc := dp_rec hQ hi
    rw [lp_succ]
    obtain ⟨G', rfl⟩ : ∃ G', G = G' + 1 := ⟨G - 1, by omega⟩
    have hend : ∀ c', lp (f_X7_measure_B24 F s.2.1) (G' + 1) ((51200 : Int32), c') = some c' := fun c' => by
      rw [lp_succ]
      unfold f_X7_measure_B24
      rw [if_pos rfl]
    generalize lp (f_X7_measure_B24 F s.2.1) (G' + 1) = rec at ih hend ⊢
    unfold f_X7_measure_B24
    dsimp only
    rw [if_neg h5, if_neg (show ¬ (51200 : Int32) ≤ nI c from nI_ge (a := c) (b := 51200) (by omega) (by omega)), ck_pos (in_ok (by omega) (by omega)), ck_pos (by decide), nI_clamp (by omega), (h.2.1 i hi).2, show (16 : Int32) = nI 16 from rfl, pk_div (by omega) (by omega) (by omega), show (16 * frC n Q (qg Q i).2.2.1 + (qg Q i).2.2.2) / 16 = frC n Q (qg Q i).2.2.1 by omega, nI_1]
    by_cases z : (qg Q i).2.2.1 = 0
    · rw [if_pos z] at hrc
      rw [z, hrc, Nat.add_zero]
      exact hend _
    · rw [if_neg z] at hrc
      have e : frC n Q (qg Q i).2.2.1 = enC n (qg Q ((qg Q i).2.2.1 - 1)) := by unfold frC; rw [if_neg z]
      rw [e, ih (by omega) (by omega) (by omega)]
      congr 2
      omega
theorem ancC {F n R b : Nat} {Q : List QE} {s : R3} (j : Nat) (hj : j < 60000) (hQ : OKQ n R b Q) (hb : b ≤ 16) (hn : n * R ≤ 51200) (h : RC n R Q s) : ∀ (m G i : Nat), i < Q.length → m ≤ dp Q i → m < 60000 → m < G → anc Q m i < Q.length ∧ lp (f_X7_figureAt_B47 F (nI j) s.2.1) G (nI (enC n (qg Q i)), nI (j + m)) = some (nI (enC n (qg Q (anc Q m i))))
  | _, 0, _, _, _, _, hG => absurd hG (Nat.not_lt_zero _)
  | 0, G + 1, i, hi, _, _, _ => by
    refine ⟨hi, ?_⟩
    rw [lp_succ]
    unfold f_X7_figureAt_B47
    dsimp only
    rw [if_pos (nI_le (by omega) (by omega))]
    rfl
  | m + 1, G + 1, i, hi, hm, hm6, hG => by
    have hen := (enC_lt hQ hn hi).1
    have hp := (hQ.1 i hi).2.2.1
    have hd := (hQ.1 i hi).2.2.2
    have hfr := frC_le hQ hn (p := (qg Q i).2.2.1) (by omega)
    rw [dp_rec hQ hi] at hm
    by_cases z : (qg Q i).2.2.1 = 0
    · rw [if_pos z] at hm; omega
    · rw [if_neg z] at hm
      obtain ⟨i1, i2⟩ := ancC (F := F) j hj hQ hb hn h m G ((qg Q i).2.2.1 - 1) (by omega) (by omega) (by omega) (by omega)
      refine ⟨i1, ?_⟩
      have e : frC n Q (qg Q i).2.2.1 = enC n (qg Q ((qg Q i).2.2.1 - 1)) := by unfold frC; rw [if_neg z]
      rw [lp_succ]
      generalize lp (f_X7_figureAt_B47 F (nI j) s.2.1) G = rec at i2 ⊢
      unfold f_X7_figureAt_B47
      dsimp only
      rw [if_neg (nI_ge (by omega) (by omega)), ck_pos (in_ok (by omega) (by omega)), ck_pos (by decide), nI_clamp (by omega), (h.2.1 i hi).2, show (16 : Int32) = nI 16 from rfl, pk_div (by omega) (by omega) (by omega), show (16 * frC n Q (qg Q i).2.2.1 + (qg Q i).2.2.2) / 16 = frC n Q (qg Q i).2.2.1 by omega, e, show j + (m + 1) = j + m + 1 by omega, pk_m1, i2]
      rfl
theorem p_measure {F K n R b : Nat} {al : Nat → Bool} {s : R3} {l0 : Int32} (hF : 60000 ≤ F) (hW : WK K n R b) (hM : RC n R (BQ al K n R b) s) : ∃ len, f_X7_measure F s.2.1 (nI ((R - 1) * n)) l0 = some len ∧ ∀ j : Int32, (-1 : Int32) ≤ j → ∃ r, f_X7_figureAt F j s.2.1 (nI ((R - 1) * n)) len = some r ∧ bfS (BQ al K n R b) R j r := by
  have hW' := hW
  obtain ⟨w1, w2, w3, w4, w5, w6, w7⟩ := hW
  have hRn : R * n = n * R := Nat.mul_comm R n
  have hQ : OKQ n R b (BQ al K n R b) := BQ_ok (by omega)
  have hlen := OKQ_len hQ
  have hg1 := enc_lt (show R - 1 < R by omega) (show 0 < n by omega)
  have hmh := RC_has (r := 0) (v := R - 1) hQ w7.2 w4 hM (by omega) (by omega)
  rw [Nat.add_zero] at hmh
  generalize hB : BQ al K n R b = Q at *
  unfold f_X7_measure
  rw [ck_pos (in_ok (by omega) (by omega)), nI_clamp (n := (R - 1) * n) (by omega)]
  by_cases y : has Q 0 (R - 1)
  · have y' := y
    obtain ⟨g, g1, g2, g3⟩ := y'
    have hen : enC n (qg Q g) = (R - 1) * n := by unfold enC; rw [g2, g3]; omega
    have hdp := dp_le hQ g g (Nat.le_refl _) g1
    have hsz := sizeC (F := F) hQ w7.2 w4 hM F 0 g g1 (by omega) (by omega)
    rw [hen] at hsz
    have hsz' : lp (f_X7_measure_B24 F s.2.1) F (nI ((R - 1) * n), (0 : Int32)) = _ := hsz
    rw [if_neg (fun q => hmh.mp q y), hsz', Option.bind_some, show 0 + dp Q g + 1 = dp Q g + 1 by omega]
    refine ⟨_, rfl, fun j hj => ?_⟩
    unfold f_X7_figureAt f_X7_figureAt_J32
    rw [if_neg (nI_ne0 (by omega) (by omega))]
    by_cases z1 : j = (-1 : Int32)
    · rw [if_pos z1]
      exact ⟨_, rfl, Or.inr ⟨g, g1, g2, g3, by unfold bfA; rw [if_pos z1]⟩⟩
    · rw [if_neg z1, if_neg (ge_m1 hj z1)]
      obtain ⟨k, hk, rfl⟩ := nI_of (ge_m1 hj z1)
      by_cases z2 : k < dp Q g + 1
      · rw [if_pos (nI_lt z2 (by omega)), nI_pred]
        obtain ⟨a1, a2⟩ := ancC (F := F) k (by omega) hQ w7.2 w4 hM (dp Q g - k) F g g1 (by omega) (by omega) (by omega)
        rw [hen, show k + (dp Q g - k) = dp Q g by omega] at a2
        have hen2 := (enC_lt hQ w4 a1).1
        have hd := (hQ.1 _ a1).2.2.2
        have hp := (hQ.1 _ a1).2.2.1
        have hb2 := w7.2
        have hfr := frC_le hQ w4 (p := (qg Q (anc Q (dp Q g - k) g)).2.2.1) (by omega)
        rw [a2, Option.bind_some, ck_pos (in_ok (by omega) (by omega)), ck_pos (by decide), nI_clamp (n := enC n (qg Q (anc Q (dp Q g - k) g))) (by omega), (hM.2.1 _ a1).2, show (16 : Int32) = nI 16 from rfl, pk_rem (by omega) (by omega) (by omega), show (16 * frC n Q (qg Q (anc Q (dp Q g - k) g)).2.2.1 + (qg Q (anc Q (dp Q g - k) g)).2.2.2) % 16 = (qg Q (anc Q (dp Q g - k) g)).2.2.2 by omega]
        refine ⟨_, rfl, Or.inr ⟨g, g1, g2, g3, ?_⟩⟩
        unfold bfA
        rw [if_neg z1, if_pos (nI_lt z2 (by omega)), nI_clamp hk]
      · rw [if_neg (nI_nlt (by omega) (by omega))]
        refine ⟨_, rfl, Or.inr ⟨g, g1, g2, g3, ?_⟩⟩
        unfold bfA
        rw [if_neg z1, if_neg (nI_nlt (by omega) (by omega))]
  · rw [if_pos (hmh.mpr y)]
    refine ⟨_, rfl, fun j hj => ?_⟩
    unfold f_X7_figureAt
    rw [if_pos rfl]
    exact ⟨_, rfl, Or.inl ⟨y, rfl⟩⟩
