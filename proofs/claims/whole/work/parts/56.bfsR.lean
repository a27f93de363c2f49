/-! the walk in the reference: its loops, and its answer -/
theorem up_lp {σ ε S : Type} {B : (σ → Option ε) → σ → Option ε} (N : Nat) (emb : Nat → S → σ) (out : S → ε) (I : Nat → S → Prop) (hs : ∀ (rec : σ → Option ε) (i : Nat) (s : S), i < N → I i s → ∃ s', I (i + 1) s' ∧ B rec (emb i s) = rec (emb (i + 1) s')) (he : ∀ (rec : σ → Option ε) (s : S), I N s → B rec (emb N s) = some (out s)) : ∀ (G i : Nat) (s : S), i ≤ N → I i s → N - i < G → ∃ s', I N s' ∧ lp B G (emb i s) = some (out s')
  | 0, _, _, _, _, h => absurd h (Nat.not_lt_zero _)
  | G + 1, i, s, hi, hI, hG => by
    rw [lp_succ]
    rcases Nat.lt_or_ge i N with z | z
    · obtain ⟨s1, h1, h2⟩ := hs (lp B G) i s z hI
      obtain ⟨s2, h3, h4⟩ := up_lp N emb out I hs he G (i + 1) s1 z h1 (by omega)
      exact ⟨s2, h3, by rw [h2, h4]⟩
    · have e : i = N := by omega
      subst e
      exact ⟨s, hI, he _ s hI⟩
theorem clrR {F n R : Nat} {came by' queue : Nat → Int32} {met : Int32} (h : n * R ≤ 51200) {G : Nat} (hG : 51201 < G) : ∃ came', lp (f_X11_search_B2 F (nI n) (nI R) by' queue met) G ((0 : Int32), came) = some came' ∧ ∀ i, i < n * R → came' i = (-4 : Int32) := by
  obtain ⟨s, h1, h2⟩ := up_lp (B := f_X11_search_B2 F (nI n) (nI R) by' queue met) (n * R) (fun i s => (nI i, s)) (fun s => s) (fun i s => ∀ j, j < i → s j = (-4 : Int32)) (by
    intro rec i s hi hI
    refine ⟨upd s i (-4 : Int32), fun j hj => ?_, ?_⟩
    · by_cases e : j = i
      · subst e; exact pk_us
      · rw [pk_un e]; exact hI j (by omega)
    · unfold f_X11_search_B2
      dsimp only
      rw [pk_mul, if_neg (nI_ge hi (by omega)), ck_pos (in_ok (by omega) (by omega)), nI_clamp (by omega), nI_1]) (by
    intro rec s hI
    unfold f_X11_search_B2
    dsimp only
    rw [pk_mul, if_pos (nI_le (Nat.le_refl _) (by omega))]) G 0 came (Nat.zero_le _) (fun j hj => absurd hj (Nat.not_lt_zero _)) (by omega)
  exact ⟨s, h2, h1⟩
abbrev R4 : Type := (Nat → Int32) × (Nat → Int32) × (Nat → Int32) × Int32
def RM4 (n R : Nat) (Q : List QE) (s : R4) : Prop := RM n R Q s.1 s.2.1 s.2.2.1 s.2.2.2
theorem RM_has {n R b r v : Nat} {Q : List QE} {s : R4} (hQ : OKQ n R b Q) (hn : n * R ≤ 51200) (h : RM4 n R Q s) (hr : r < n) (hv : v < R) : s.1 (r * R + v) = (-4 : Int32) ↔ ¬ has Q r v := by
  obtain ⟨h1, h2, h3⟩ := h
  constructor
  · rintro e ⟨i, hi, e1, e2⟩
    have : enR R (qg Q i) = r * R + v := by unfold enR; rw [e1, e2]
    rw [← this, (h2 i hi).2.1] at e
    revert e
    split
    · decide
    · have hp' := (hQ.1 i hi).2.2.1
      have := enc_lt (hQ.1 ((qg Q i).2.2.1 - 1) (by omega)).1 (hQ.1 ((qg Q i).2.2.1 - 1) (by omega)).2.1
      exact m4 (by unfold enR; omega)
  · exact h3 r v hr hv
theorem firstR {F K n R b : Nat} {al : Nat → Bool} {A : Int32} {bit came by' queue : Nat → Int32} (hW : WK K n R b) (hA : alM al A bit b) (h0 : ∀ i, i < n * R → came i = (-4 : Int32)) {G : Nat} (hG : 100 < G) : ∃ s : R4, lp (f_X11_search_B33 F (nI n) (nI b) (nI K) (nI R) A bit) G ((1 : Int32), came, by', queue, (0 : Int32)) = some (s.1, s.2.1, s.2.2.1, s.2.2.2) ∧ RM4 n R (EX al K n R b 0 0 0 true [] b) s := by
  have hW' := hW
  obtain ⟨w1, w2, w3, w4, w5, w6, w7⟩ := hW
  have hb1 := w7.1
  have hb2 := w7.2
  obtain ⟨s, h1, h2⟩ := up_lp (B := f_X11_search_B33 F (nI n) (nI b) (nI K) (nI R) A bit) b (fun i (s : R4) => (nI i, s.1, s.2.1, s.2.2.1, s.2.2.2)) (fun s => (s.1, s.2.1, s.2.2.1, s.2.2.2)) (fun i s => 1 ≤ i ∧ RM4 n R (EX al K n R b 0 0 0 true [] i) s) (by
    intro rec i s hi hI
    obtain ⟨hi1, hI⟩ := hI
    have hQ := (EX_ok (al := al) (K := K) (r := 0) (v := 0) (p := 0) (s := true) (show 0 < n by omega) (OKQ_nil n R b) (Nat.zero_le _) i (by omega)).1
    have hbs : f_X11_beside F (0 : Int32) (nI i) (nI K) (nI R) A bit = _ := p_beside (F := F) hW' hA (v := 0) (show 0 < R by omega) hi
    have hx := nxv_lt (K := K) (v := 0) (k := rk al i) (d := i) (by omega) (by have := rk_le al i; omega) (by omega)
    unfold f_X11_search_B33 f_X11_search_J71
    dsimp only
    rw [if_neg (nI_ge hi (by omega)), hbs, Option.bind_some, nI_1]
    have eE : EX al K n R b 0 0 0 true [] (i + 1) = expd al K n R b 0 0 0 true (EX al K n R b 0 0 0 true [] i) i := rfl
    rw [eE]
    unfold expd
    by_cases z : al i = true ∧ nxv K 0 (rk al i) i < R
    · rw [if_pos z, if_neg (m4 (by omega)), ck_pos (nI_ne0 (by omega) (by omega)), pk_rem (by omega) (by omega) (by omega), pk_mul, nI_add, if_pos ⟨z.1, z.2, fun q => by omega⟩, Nat.zero_mul, Nat.zero_add]
      obtain ⟨c2, b2, q2, m2, e, hM⟩ := RM_meet (F := F) (r := i % n) (v := nxv K 0 (rk al i) i) (p := 0) (d := i) (fr := -2) hW' hQ hI (Nat.mod_lt _ (by omega)) z.2 (Nat.zero_le _) (by rw [if_pos rfl])
      exact ⟨(c2, b2, q2, m2), ⟨by omega, hM⟩, by rw [e]; rfl⟩
    · rw [if_neg z, if_pos rfl, if_neg (fun q => z ⟨q.1, q.2.1⟩)]
      exact ⟨s, ⟨by omega, hI⟩, rfl⟩) (by
    intro rec s hI
    unfold f_X11_search_B33
    dsimp only
    rw [if_pos (nI_le (Nat.le_refl _) (by omega))]) G 1 (came, by', queue, (0 : Int32)) (by omega) ⟨Nat.le_refl _, by
      have eE : EX al K n R b 0 0 0 true [] 1 = [] := by
        show expd al K n R b 0 0 0 true [] 0 = []
        unfold expd
        rw [if_neg (fun q => q.2.2 ⟨rfl, rfl⟩)]
      rw [eE]
      exact ⟨rfl, fun i hi => absurd hi (Nat.not_lt_zero _), fun r v hr hv _ => h0 _ (enc_lt hr hv)⟩⟩ (by omega)
  exact ⟨s, h2, h1.2⟩
theorem enR_mod {R r v : Nat} (hv : v < R) : (r * R + v) % R = v := by
  rw [Nat.mul_comm, Nat.mul_add_mod, Nat.mod_eq_of_lt hv]
theorem enR_div {R r v : Nat} (hv : v < R) : (r * R + v) / R = r := by
  rw [Nat.mul_comm, Nat.mul_add_div (by omega), Nat.div_eq_of_lt hv, Nat.add_zero]
theorem innerR {F K n R b k : Nat} {al : Nat → Bool} {A : Int32} {bit : Nat → Int32} {Q : List QE} {s0 : R4} (hW : WK K n R b) (hA : alM al A bit b) (hQ : OKQ n R b Q) (hk : k < Q.length) (h0 : RM4 n R Q s0) {G : Nat} (hG : 100 < G) : ∃ s : R4, lp (f_X11_search_B103 F (nI n) (nI b) (nI K) (nI R) A bit (nI k)) G ((0 : Int32), s0.1, s0.2.1, s0.2.2.1, s0.2.2.2) = some (s.1, s.2.1, s.2.2.1, s.2.2.2) ∧ RM4 n R (EX al K n R b (qg Q k).1 (qg Q k).2.1 (k + 1) false Q b) s := by
  have hW' := hW
  obtain ⟨w1, w2, w3, w4, w5, w6, w7⟩ := hW
  have hb1 := w7.1
  have hb2 := w7.2
  have hlen := OKQ_len hQ
  have hr := (hQ.1 k hk).1
  have hv := (hQ.1 k hk).2.1
  obtain ⟨s, h1, h2⟩ := up_lp (B := f_X11_search_B103 F (nI n) (nI b) (nI K) (nI R) A bit (nI k)) b (fun i (s : R4) => (nI i, s.1, s.2.1, s.2.2.1, s.2.2.2)) (fun s => (s.1, s.2.1, s.2.2.1, s.2.2.2)) (fun i s => RM4 n R (EX al K n R b (qg Q k).1 (qg Q k).2.1 (k + 1) false Q i) s) (by
    intro rec i s hi hI
    obtain ⟨hQ', hl', hg'⟩ := EX_ok (al := al) (K := K) (r := (qg Q k).1) (v := (qg Q k).2.1) (p := k + 1) (s := false) (show 0 < n by omega) hQ (show k + 1 ≤ Q.length by omega) i (by omega)
    have hbs := p_beside (F := F) hW' hA hv hi
    have hx := nxv_lt (K := K) (v := (qg Q k).2.1) (k := rk al i) (d := i) (by omega) (by have := rk_le al i; omega) (by omega)
    have hq : s.2.2.1 k = nI ((qg Q k).1 * R + (qg Q k).2.1) := by
      have := (hI.2.1 k (by omega)).1
      rw [hg' k hk] at this
      exact this
    have hen := enc_lt hr hv
    unfold f_X11_search_B103 f_X11_search_J175
    dsimp only
    have hcl : (nI k).toNatClampNeg = k := nI_clamp (by omega)
    have hck : ¬ (nI k < 0 ∨ 51200 ≤ k) := fun q => q.elim (nI_pos (by omega)) (by omega)
    rw [if_neg (nI_ge hi (by omega)), hcl, hq, ck_pos hck, ck_pos (nI_ne0 (by omega) (by omega)), pk_rem (by omega) (by omega) (by omega), enR_mod hv, hbs, Option.bind_some, nI_1]
    have eE : EX al K n R b (qg Q k).1 (qg Q k).2.1 (k + 1) false Q (i + 1) = expd al K n R b (qg Q k).1 (qg Q k).2.1 (k + 1) false (EX al K n R b (qg Q k).1 (qg Q k).2.1 (k + 1) false Q i) i := rfl
    rw [eE]
    unfold expd
    have hrb : (qg Q k).1 * b ≤ 2000 * 16 := Nat.mul_le_mul (by omega) (by omega)
    by_cases z : al i = true ∧ nxv K (qg Q k).2.1 (rk al i) i < R
    · rw [if_pos z, if_neg (m4 (by omega)), ck_pos hck, ck_pos (nI_ne0 (by omega) (by omega)), ck_pos (nI_ne0 (by omega) (by omega)), ck_pos hck, pk_div (by omega) (by omega) (by omega), enR_div hv, pk_mul, nI_add, pk_rem (by omega) (by omega) (by omega), pk_mul, nI_add, if_pos ⟨z.1, z.2, fun q => by have := q.1; cases this⟩]
      obtain ⟨c2, b2, q2, m2, e, hM⟩ := RM_meet (F := F) (r := ((qg Q k).1 * b + i) % n) (v := nxv K (qg Q k).2.1 (rk al i) i) (p := k + 1) (d := i) (fr := nI ((qg Q k).1 * R + (qg Q k).2.1)) hW' hQ' hI (Nat.mod_lt _ (by omega)) z.2 (by omega) (by rw [if_neg (by omega), Nat.add_sub_cancel, hg' k hk]; rfl)
      exact ⟨(c2, b2, q2, m2), hM, by rw [e]; rfl⟩
    · rw [if_neg z, if_pos rfl, if_neg (fun q => z ⟨q.1, q.2.1⟩)]
      exact ⟨s, hI, rfl⟩) (by
    intro rec s hI
    unfold f_X11_search_B103
    dsimp only
    rw [if_pos (nI_le (Nat.le_refl _) (by omega))]) G 0 s0 (by omega) h0 (by omega)
  exact ⟨s, h2, h1⟩
theorem walkR {F K n R b : Nat} {al : Nat → Bool} {A : Int32} {bit : Nat → Int32} (hF : 100 < F) (hW : WK K n R b) (hA : alM al A bit b) : ∀ (f k : Nat) (Q : List QE) (s0 : R4) (G : Nat), OKQ n R b Q → k ≤ Q.length → RM4 n R Q s0 → n * R + 1 ≤ k + f → f < G → ∃ s : R4, lp (f_X11_search_B79 F (nI n) (nI b) (nI K) (nI R) (nI (R - 1)) A bit) G (nI k, s0.1, s0.2.1, s0.2.2.1, s0.2.2.2) = some (s.1, s.2.1, s.2.2.1, s.2.2.2) ∧ RM4 n R (BF al K n R b f k Q) s
  | 0, k, Q, s0, G, hQ, hk, _, hf, _ => by
    have := OKQ_len hQ
    omega
  | f + 1, k, Q, s0, 0, hQ, hk, _, hf, hG => absurd hG (Nat.not_lt_zero _)
  | f + 1, k, Q, s0, G + 1, hQ, hk, hM, hf, hG => by
    have hW' := hW
    obtain ⟨w1, w2, w3, w4, w5, w6, w7⟩ := hW
    have hlen := OKQ_len hQ
    have hR : R ≤ n * R := Nat.le_mul_of_pos_left R (by omega)
    have ih := walkR hF hW' hA f (k + 1) (EX al K n R b (qg Q k).1 (qg Q k).2.1 (k + 1) false Q b)
    rw [lp_succ]
    generalize hrec : lp (f_X11_search_B79 F (nI n) (nI b) (nI K) (nI R) (nI (R - 1)) A bit) G = rec
    unfold f_X11_search_B79 BF
    dsimp only
    rw [hM.1]
    by_cases z : k < Q.length
    · have hmh := RM_has (r := 0) (v := R - 1) hQ w4 hM (by omega) (by omega)
      rw [Nat.zero_mul, Nat.zero_add] at hmh
      rw [if_neg (nI_ge z (by omega)), ck_pos (in_ok (by omega) (by omega)), nI_clamp (by omega)]
      by_cases y : has Q 0 (R - 1)
      · rw [if_neg (fun q => hmh.mp q y), if_neg (fun q => by
          have := (hasB_iff Q 0 (R - 1)).mpr y
          rw [this] at q
          exact absurd q.2 (by decide))]
        exact ⟨s0, by rw [hM.1], hM⟩
      · rw [if_pos (hmh.mpr y), if_pos ⟨z, by
          cases e : hasB Q 0 (R - 1) with
          | false => rfl
          | true => exact absurd ((hasB_iff Q 0 (R - 1)).mp e) y⟩]
        obtain ⟨s1, e1, e2⟩ := innerR (F := F) (G := F) (al := al) (A := A) (bit := bit) hW' hA hQ z hM hF
        rw [hM.1] at e1
        rw [e1, Option.bind_some, nI_1]
        have hok := EX_ok (al := al) (K := K) (r := (qg Q k).1) (v := (qg Q k).2.1) (p := k + 1) (s := false) (show 0 < n by omega) hQ (by omega) b (Nat.le_refl _)
        obtain ⟨s2, e3, e4⟩ := ih s1 G hok.1 (by omega) e2 (by omega) (by omega)
        rw [hrec] at e3
        exact ⟨s2, e3, e4⟩
    · rw [if_pos (nI_le (by omega) (by omega)), if_neg (fun q => z q.1)]
      exact ⟨s0, by rw [hM.1], hM⟩
theorem p_searchM {F K n R b : Nat} {al : Nat → Bool} {A : Int32} {bit came by' queue : Nat → Int32} {met : Int32} (hF : 60000 ≤ F) (hW : WK K n R b) (hA : alM al A bit b) : ∃ s : R4, f_X11_search F (nI n) (nI b) came by' queue (nI K) (nI R) (nI (R - 1)) A bit met = some (if hasB (BQ al K n R b) 0 (R - 1) = true then nI (R - 1) else (-4 : Int32), s.1, s.2.1, s.2.2.1, s.2.2.2) ∧ RM4 n R (BQ al K n R b) s := by
  have hW' := hW
  obtain ⟨w1, w2, w3, w4, w5, w6, w7⟩ := hW
  have hR : R ≤ n * R := Nat.le_mul_of_pos_left R (by omega)
  obtain ⟨c1, e1, h1⟩ := clrR (F := F) (came := came) (by' := by') (queue := queue) (met := met) (n := n) (R := R) w4 (G := F) (by omega)
  obtain ⟨s1, e2, h2⟩ := firstR (F := F) (by' := by') (queue := queue) hW' hA h1 (G := F) (by omega)
  have hok := EX_ok (al := al) (K := K) (b := b) (r := 0) (v := 0) (p := 0) (s := true) (show 0 < n by omega) (OKQ_nil n R b) (Nat.zero_le _) b (Nat.le_refl _)
  obtain ⟨s2, e3, h3⟩ := walkR (F := F) (by omega) hW' hA (n * R + 1) 0 _ s1 F hok.1 (Nat.zero_le _) h2 (by omega) (by omega)
  have e3' : lp (f_X11_search_B79 F (nI n) (nI b) (nI K) (nI R) (nI (R - 1)) A bit) F ((0 : Int32), s1.1, s1.2.1, s1.2.2.1, s1.2.2.2) = _ := e3
  have hQ : OKQ n R b (BQ al K n R b) := BQ_ok (by omega)
  have hmh := RM_has (r := 0) (v := R - 1) hQ w4 h3 (by omega) (by omega)
  rw [Nat.zero_mul, Nat.zero_add] at hmh
  refine ⟨s2, ?_, h3⟩
  unfold f_X11_search f_X11_search_J210
  rw [e1, Option.bind_some, e2, Option.bind_some]
  dsimp only
  rw [e3', Option.bind_some]
  dsimp only
  rw [ck_pos (in_ok (by omega) (by omega)), nI_clamp (by omega)]
  by_cases y : has (BQ al K n R b) 0 (R - 1)
  · rw [if_neg (fun q => hmh.mp q y), if_pos ((hasB_iff _ _ _).mpr y)]
  · rw [if_pos (hmh.mpr y), if_neg (fun q => y ((hasB_iff _ _ _).mp q))]
/-- how many figures: the reference's count -/
theorem sizeR {F n R b : Nat} {Q : List QE} {s : R4} {x3 : Int32} (hQ : OKQ n R b Q) (hn : n * R ≤ 51200) (h : RM4 n R Q s) : ∀ (G c i : Nat), i < Q.length → i < G → lp (f_X11_figureOf_B21 F x3 s.1 s.2.1 s.2.2.1 s.2.2.2) G (nI (c + 1), nI (enR R (qg Q i))) = some (nI (c + 1 + dp Q i))
  | 0, _, _, _, hG => absurd hG (Nat.not_lt_zero _)
  | G + 1, c, i, hi, hG => by
    have hen := enc_lt (hQ.1 i hi).1 (hQ.1 i hi).2.1
    have hen' : enR R (qg Q i) < n * R := hen
    have hp := (hQ.1 i hi).2.2.1
    have ih := sizeR (F := F) (x3 := x3) hQ hn h G (c + 1) ((qg Q i).2.2.1 - 1)
    rw [lp_succ]
    generalize lp (f_X11_figureOf_B21 F x3 s.1 s.2.1 s.2.2.1 s.2.2.2) G = rec at ih ⊢
    unfold f_X11_figureOf_B21
    dsimp only
    rw [ck_pos (in_ok (by omega) (by omega)), nI_clamp (by omega), (h.2.1 i hi).2.1, dp_rec hQ hi]
    by_cases z : (qg Q i).2.2.1 = 0
    · rw [if_pos z, if_pos rfl, if_pos z, Nat.add_zero]
    · have hen2 := enc_lt (hQ.1 ((qg Q i).2.2.1 - 1) (by omega)).1 (hQ.1 ((qg Q i).2.2.1 - 1) (by omega)).2.1
      have hen2' : enR R (qg Q ((qg Q i).2.2.1 - 1)) < n * R := hen2
      rw [if_neg z, if_neg (m2 (by omega)), ck_pos (show ¬ (nI (enR R (qg Q i)) < 0 ∨ 51200 ≤ enR R (qg Q i)) from fun q => q.elim (nI_pos (by omega)) (by omega)), nI_1, ih (by omega) (by omega), if_neg z]
      congr 2
      omega
theorem ancR {F n R b : Nat} {Q : List QE} {s : R4} (j : Nat) (hj : j < 60000) (hQ : OKQ n R b Q) (hn : n * R ≤ 51200) (h : RM4 n R Q s) : ∀ (m G i : Nat), i < Q.length → m ≤ dp Q i → m < 60000 → m < G → anc Q m i < Q.length ∧ lp (f_X11_figureOf_B81 F (nI j) s.1 s.2.1 s.2.2.1 s.2.2.2) G (nI (enR R (qg Q i)), nI (j + m)) = some (nI (enR R (qg Q (anc Q m i))))
  | _, 0, _, _, _, _, hG => absurd hG (Nat.not_lt_zero _)
  | 0, G + 1, i, hi, _, _, _ => by
    refine ⟨hi, ?_⟩
    rw [lp_succ]
    unfold f_X11_figureOf_B81
    dsimp only
    rw [if_pos (nI_le (by omega) (by omega))]
    rfl
  | m + 1, G + 1, i, hi, hm, hm6, hG => by
    have hen := enc_lt (hQ.1 i hi).1 (hQ.1 i hi).2.1
    have hen' : enR R (qg Q i) < n * R := hen
    have hp := (hQ.1 i hi).2.2.1
    rw [dp_rec hQ hi] at hm
    by_cases z : (qg Q i).2.2.1 = 0
    · rw [if_pos z] at hm; omega
    · rw [if_neg z] at hm
      obtain ⟨i1, i2⟩ := ancR (F := F) j hj hQ hn h m G ((qg Q i).2.2.1 - 1) (by omega) (by omega) (by omega) (by omega)
      refine ⟨i1, ?_⟩
      rw [lp_succ]
      generalize lp (f_X11_figureOf_B81 F (nI j) s.1 s.2.1 s.2.2.1 s.2.2.2) G = rec at i2 ⊢
      unfold f_X11_figureOf_B81
      dsimp only
      rw [if_neg (nI_ge (by omega) (by omega)), ck_pos (in_ok (by omega) (by omega)), nI_clamp (by omega), (h.2.1 i hi).2.1, if_neg z, show j + (m + 1) = j + m + 1 by omega, pk_m1, i2]
      rfl
theorem ge_m1 {j : Int32} (h : (-1 : Int32) ≤ j) (h1 : ¬ j = (-1 : Int32)) : ¬ j < 0 := by
  intro z
  rw [Int32.le_iff_toInt_le] at h
  rw [Int32.lt_iff_toInt_lt] at z
  have e0 : (0 : Int32).toInt = 0 := rfl
  have e1 : (-1 : Int32).toInt = -1 := rfl
  exact h1 (Int32.toInt_inj.mp (by omega))
/-- what both sides answer -/
def bfS (Q : List QE) (R : Nat) (j r : Int32) : Prop := (¬ has Q 0 (R - 1) ∧ r = (-4 : Int32)) ∨ ∃ g, g < Q.length ∧ (qg Q g).1 = 0 ∧ (qg Q g).2.1 = R - 1 ∧ r = bfA Q g j
theorem bfS_one {n R b : Nat} {Q : List QE} (hQ : OKQ n R b Q) {j r r' : Int32} (h : bfS Q R j r) (h' : bfS Q R j r') : r = r' := by
  rcases h with ⟨h1, rfl⟩ | ⟨g, g1, g2, g3, rfl⟩
  · rcases h' with ⟨_, rfl⟩ | ⟨g, g1, g2, g3, rfl⟩
    · rfl
    · exact absurd ⟨g, g1, g2, g3⟩ h1
  · rcases h' with ⟨h1, rfl⟩ | ⟨g', g1', g2', g3', rfl⟩
    · exact absurd ⟨g, g1, g2, g3⟩ h1
    · have e : g = g' := by
        rcases Nat.lt_trichotomy g g' with z | z | z
        · exact absurd ⟨by rw [g2, g2'], by rw [g3, g3']⟩ (hQ.2 g g' z g1')
        · exact z
        · exact absurd ⟨by rw [g2, g2'], by rw [g3, g3']⟩ (hQ.2 g' g z g1)
      rw [e]
theorem p_figureOf {F K n R b : Nat} {al : Nat → Bool} {A j : Int32} {bit came by' queue : Nat → Int32} {met : Int32} (hF : 60000 ≤ F) (hW : WK K n R b) (hA : alM al A bit b) (hj : (-1 : Int32) ≤ j) : ∃ (r : Int32) (s : R4), f_X11_figureOf F (nI n) j (nI b) came by' queue (nI K) (nI R) (nI (R - 1)) A bit met = some (r, s.1, s.2.1, s.2.2.1, s.2.2.2) ∧ bfS (BQ al K n R b) R j r := by
  have hW' := hW
  obtain ⟨w1, w2, w3, w4, w5, w6, w7⟩ := hW
  obtain ⟨s, e1, h1⟩ := p_searchM (F := F) (came := came) (by' := by') (queue := queue) (met := met) hF hW' hA
  have hQ : OKQ n R b (BQ al K n R b) := BQ_ok (by omega)
  have hlen := OKQ_len hQ
  unfold f_X11_figureOf f_X11_figureOf_J59 f_X11_figureOf_J71
  rw [e1, Option.bind_some]
  dsimp only
  by_cases y : has (BQ al K n R b) 0 (R - 1)
  · have y' := y
    obtain ⟨g, g1, g2, g3⟩ := y'
    have hen : enR R (qg (BQ al K n R b) g) = R - 1 := by unfold enR; rw [g2, g3]; omega
    have hdp := dp_le hQ g g (Nat.le_refl _) g1
    have hsz := sizeR (F := F) (x3 := nI (R - 1)) hQ w4 h1 F 0 g g1 (by omega)
    rw [hen] at hsz
    have hsz' : lp (f_X11_figureOf_B21 F (nI (R - 1)) s.1 s.2.1 s.2.2.1 s.2.2.2) F ((1 : Int32), nI (R - 1)) = _ := hsz
    rw [if_pos ((hasB_iff _ _ _).mpr y), if_neg (m4 (by omega)), hsz', Option.bind_some, show 0 + 1 + dp (BQ al K n R b) g = dp (BQ al K n R b) g + 1 by omega]
    by_cases z1 : j = (-1 : Int32)
    · rw [if_pos z1, if_pos z1]
      exact ⟨_, s, rfl, Or.inr ⟨g, g1, g2, g3, by unfold bfA; rw [if_pos z1]⟩⟩
    · rw [if_neg z1, if_neg z1]
      obtain ⟨k, hk, rfl⟩ := nI_of (ge_m1 hj z1)
      by_cases z2 : k < dp (BQ al K n R b) g + 1
      · rw [if_pos (nI_lt z2 (by omega)), nI_pred]
        obtain ⟨a1, a2⟩ := ancR (F := F) k (by omega) hQ w4 h1 (dp (BQ al K n R b) g - k) F g g1 (by omega) (by omega) (by omega)
        rw [hen, show k + (dp (BQ al K n R b) g - k) = dp (BQ al K n R b) g by omega] at a2
        have hen2 := enc_lt (hQ.1 _ a1).1 (hQ.1 _ a1).2.1
        have hen2' : enR R (qg (BQ al K n R b) (anc (BQ al K n R b) (dp (BQ al K n R b) g - k) g)) < n * R := hen2
        rw [a2, Option.bind_some, ck_pos (in_ok (by omega) (by omega)), nI_clamp (by omega), (h1.2.1 _ a1).2.2]
        refine ⟨_, s, rfl, Or.inr ⟨g, g1, g2, g3, ?_⟩⟩
        unfold bfA
        rw [if_neg z1, if_pos (nI_lt z2 (by omega)), nI_clamp hk]
      · rw [if_neg (nI_nlt (by omega) (by omega))]
        refine ⟨_, s, rfl, Or.inr ⟨g, g1, g2, g3, ?_⟩⟩
        unfold bfA
        rw [if_neg z1, if_neg (nI_nlt (by omega) (by omega))]
  · rw [if_neg (fun q => y ((hasB_iff _ _ _).mp q)), if_pos rfl]
    exact ⟨_, s, rfl, Or.inl ⟨y, rfl⟩⟩
