/-! the slots: what stands in them, how it is found and put -/
theorem l_tn {n : Nat} (h : n < 2 ^ 64) : (lN n).toBitVec.toNat = n := Nat.mod_eq_of_lt h
theorem key_ok {T x : Nat} (hT : T < 2 ^ 30) (hx : x < 2 ^ 32) : ((nI T).toInt64 <<< ((32 : Int32).toInt64 &&& 63)) ||| lN x = lN (T * 2 ^ 32 + x) := by
  rw [nI_l (by omega)]
  apply Int64.toBitVec_inj.mp
  apply BitVec.eq_of_toNat_eq
  have hs : ((((32 : Int32).toInt64 &&& 63)).toBitVec.smod 64).toNat = 32 := by decide
  have h1 : (lN T <<< ((32 : Int32).toInt64 &&& 63)).toBitVec.toNat = T <<< 32 := by
    show ((lN T).toBitVec <<< ((((32 : Int32).toInt64 &&& 63)).toBitVec.smod 64).toNat).toNat = _
    rw [hs, BitVec.toNat_shiftLeft, l_tn (by omega), Nat.mod_eq_of_lt (by rw [Nat.shiftLeft_eq]; omega)]
  rw [Int64.toBitVec_or, BitVec.toNat_or, h1, l_tn (by omega), l_tn (by omega), ← Nat.shiftLeft_add_eq_or_of_lt hx, Nat.shiftLeft_eq]
theorem shr_ok {v : Nat} (hv : v < 2 ^ 63) : lN v >>> ((32 : Int32).toInt64 &&& 63) = lN (v / 2 ^ 32) := by
  apply Int64.toInt_inj.mp
  have h2 : v / 2 ^ 32 ≤ v := Nat.div_le_self _ _
  have hs : ((((32 : Int32).toInt64 &&& 63)).toBitVec.smod 64).toNat = 32 := by decide
  show ((lN v).toBitVec.sshiftRight ((((32 : Int32).toInt64 &&& 63)).toBitVec.smod 64).toNat).toInt = _
  rw [hs, BitVec.toInt_sshiftRight]
  show (lN v).toInt >>> 32 = _
  rw [pk_lT hv, pk_lT (by omega), Int.shiftRight_eq_div_pow]
  rfl
def hsh (x : Nat) : Nat := ((lN x * (40503 : Int64)) >>> ((4 : Int32).toInt64 &&& 63)).toInt32.toBitVec.toNat % 2 ^ 15
theorem hsh_ok (x : Nat) : ((lN x * (40503 : Int64)) >>> ((4 : Int32).toInt64 &&& 63)).toInt32 &&& (32767 : Int32) = nI (hsh x) := pk_and _ 15 (by decide)
theorem hsh_lt (x : Nat) : hsh x < 32768 := Nat.mod_lt _ (by decide)
/-- where the search for x under the stamp T begins -/
def hq (T x : Nat) : Nat := hsh (T * 2 ^ 32 + x)
theorem hq_lt (T x : Nat) : hq T x < 32768 := hsh_lt _
def stp (kv : Nat → Nat) (T x i : Nat) : Prop := kv i = T * 2 ^ 32 + x ∨ kv i / 2 ^ 32 ≠ T
def PS (kv : Nat → Nat) (T x d : Nat) : Prop := d < 32768 ∧ stp kv T x ((hq T x + d) % 32768) ∧ ∀ d', d' < d → ¬ stp kv T x ((hq T x + d') % 32768)
theorem PS_one {kv : Nat → Nat} {T x d d' : Nat} (h : PS kv T x d) (h' : PS kv T x d') : d = d' := by
  rcases Nat.lt_trichotomy d d' with z | z | z
  · exact absurd h.2.1 (h'.2.2 d z)
  · exact z
  · exact absurd h'.2.1 (h.2.2 d' z)
theorem p_slotFor {F T x : Nat} {kv : Nat → Nat} {keys : Nat → Int64} (hF : 40000 ≤ F) (hT : T < 2 ^ 20) (hx : x < 2 ^ 32) (hk : ∀ i, i < 32768 → keys i = lN (kv i) ∧ kv i < 2 ^ 62) : (∃ d, PS kv T x d ∧ f_X8_slotFor F (lN (T * 2 ^ 32 + x)) keys (nI T) = some (nI ((hq T x + d) % 32768))) ∨ ((∀ d, d < 32768 → ¬ stp kv T x ((hq T x + d) % 32768)) ∧ f_X8_slotFor F (lN (T * 2 ^ 32 + x)) keys (nI T) = some (-1 : Int32)) := by
  have hh := hq_lt T x
  obtain ⟨e, h1, h2⟩ := lp_ex (B := f_X8_slotFor_B16 F (lN (T * 2 ^ 32 + x)) keys (nI T)) (fun q y => ∃ d, y = (nI ((hq T x + d) % 32768), nI d) ∧ d ≤ 32768 ∧ (∀ d', d' < d → ¬ stp kv T x ((hq T x + d') % 32768)) ∧ q = 32768 - d) (fun _ e => (∃ d, PS kv T x d ∧ e = .inl (nI ((hq T x + d) % 32768))) ∨ ((∀ d, d < 32768 → ¬ stp kv T x ((hq T x + d) % 32768)) ∧ e = .inr ())) (by
    rintro rec q y ⟨d, rfl, hd, hno, rfl⟩ hrec
    unfold f_X8_slotFor_B16 f_X8_slotFor_J52
    dsimp only
    rcases Nat.lt_or_ge d 32768 with z | z
    · have hi : (hq T x + d) % 32768 < 32768 := Nat.mod_lt _ (by omega)
      obtain ⟨k1, k2⟩ := hk _ hi
      rw [if_neg (show ¬ (32768 : Int32) ≤ nI d from nI_ge (a := d) (b := 32768) z (by omega)), ck_pos (in_ok hi (by omega)), nI_clamp (by omega), k1]
      by_cases y1 : kv ((hq T x + d) % 32768) = T * 2 ^ 32 + x
      · rw [if_pos (by rw [y1])]
        exact ⟨_, rfl, Or.inl ⟨d, ⟨z, Or.inl y1, hno⟩, rfl⟩⟩
      · rw [if_neg (fun q => y1 ((pk_lEQ (by omega) (by omega)).mp q)), ck_pos (show ¬ (nI ((hq T x + d) % 32768) < 0 ∨ 32768 ≤ (hq T x + d) % 32768) from fun q => q.elim (nI_pos (by omega)) (by omega)), shr_ok (by omega), nI_l (by omega)]
        by_cases y2 : kv ((hq T x + d) % 32768) / 2 ^ 32 = T
        · rw [if_pos (by rw [y2]), nI_1, nI_1, pk_andN (by omega) 15 (by decide)]
          refine hrec (32768 - (d + 1)) _ (by omega) ⟨d + 1, ?_, z, fun d' hd' => ?_, rfl⟩
          · rw [show ((hq T x + d) % 32768 + 1) % 2 ^ 15 = (hq T x + (d + 1)) % 32768 by omega]
          · rcases Nat.lt_or_ge d' d with v | v
            · exact hno d' v
            · have : d' = d := by omega
              subst this
              exact fun q => q.elim y1 (fun q => q y2)
        · rw [if_neg (fun q => y2 ((pk_lEQ (by omega) (by omega)).mp q))]
          exact ⟨_, rfl, Or.inl ⟨d, ⟨z, Or.inr y2, hno⟩, rfl⟩⟩
    · have : d = 32768 := by omega
      subst this
      rw [if_pos (by decide)]
      exact ⟨_, rfl, Or.inr ⟨hno, rfl⟩⟩) F 32768 (nI ((hq T x + 0) % 32768), nI 0) ⟨0, rfl, by omega, fun d' h => absurd h (Nat.not_lt_zero _), rfl⟩ (by omega)
  rw [show (hq T x + 0) % 32768 = hq T x by omega] at h1
  have hu : f_X8_slotFor F (lN (T * 2 ^ 32 + x)) keys (nI T) = Sum.elim (fun r => some r) (fun _ => some (-1 : Int32)) e := by
    have h1' : lp (f_X8_slotFor_B16 F (lN (T * 2 ^ 32 + x)) keys (nI T)) F (nI (hq T x), (0 : Int32)) = some e := h1
    unfold f_X8_slotFor
    rw [hsh_ok, show hsh (T * 2 ^ 32 + x) = hq T x from rfl, h1', Option.bind_some]
  rcases h2 with ⟨d, g1, rfl⟩ | ⟨g1, rfl⟩
  · exact Or.inl ⟨d, g1, hu⟩
  · exact Or.inr ⟨g1, hu⟩
def TINV (kv : Nat → Nat) (T : Nat) : Prop := ∀ i, i < 32768 → kv i / 2 ^ 32 = T → ∃ d, PS kv T (kv i % 2 ^ 32) d ∧ (hq T (kv i % 2 ^ 32) + d) % 32768 = i
abbrev SM : Type := Nat → Option (Int32 × Int32)
/-- a table that anything may stand in -/
def TAB0 (T : Nat) (keys : Nat → Int64) : Prop := ∃ kv : Nat → Nat, ∀ i, i < 32768 → keys i = lN (kv i) ∧ kv i < (T + 1) * 2 ^ 32
/-- a table of the stamp T that holds m -/
def TAB (T : Nat) (keys : Nat → Int64) (tails homes : Nat → Int32) (m : SM) : Prop := ∃ kv : Nat → Nat, (∀ i, i < 32768 → keys i = lN (kv i) ∧ kv i < (T + 1) * 2 ^ 32) ∧ TINV kv T ∧ ∀ x t h, m x = some (t, h) ↔ x < 2 ^ 32 ∧ ∃ i, i < 32768 ∧ kv i = T * 2 ^ 32 + x ∧ tails i = t ∧ homes i = h
theorem TAB_0 {T : Nat} {keys : Nat → Int64} {tails homes : Nat → Int32} {m : SM} (h : TAB T keys tails homes m) : TAB0 T keys := ⟨h.choose, h.choose_spec.1⟩
theorem TAB0_new : TAB0 0 (fun _ => 0) := ⟨fun _ => 0, fun _ _ => ⟨rfl, by show 0 < (0 + 1) * 2 ^ 32; omega⟩⟩
theorem TAB_renew {T : Nat} {keys : Nat → Int64} (tails homes : Nat → Int32) (h : TAB0 T keys) : TAB (T + 1) keys tails homes (fun _ => none) := by
  obtain ⟨kv, h⟩ := h
  refine ⟨kv, fun i hi => ⟨(h i hi).1, Nat.lt_of_lt_of_le (h i hi).2 (Nat.mul_le_mul_right _ (by omega))⟩, fun i hi q => ?_, fun x t ho => ⟨(fun q => by cases q), fun q => ?_⟩⟩
  · have := (h i hi).2
    omega
  · obtain ⟨_, i, hi, q, _⟩ := q
    have := (h i hi).2
    omega
theorem find_some {F T x : Nat} {keys : Nat → Int64} {tails homes : Nat → Int32} {m : SM} {t ho : Int32} (hF : 40000 ≤ F) (hT : T < 2 ^ 20) (h : TAB T keys tails homes m) (hm : m x = some (t, ho)) : ∃ i, i < 32768 ∧ f_X8_find F (lN x) keys (nI T) = some (nI i) ∧ tails i = t ∧ homes i = ho := by
  obtain ⟨kv, hk, hI, hM⟩ := h
  obtain ⟨hx, i, hi, e1, e2, e3⟩ := (hM x t ho).mp hm
  obtain ⟨d, hd, hdi⟩ := hI i hi (by omega)
  have ex : kv i % 2 ^ 32 = x := by omega
  rw [ex] at hd hdi
  refine ⟨i, hi, ?_, e2, e3⟩
  rcases p_slotFor (F := F) (kv := kv) hF hT hx (fun i hi => ⟨(hk i hi).1, by have := (hk i hi).2; omega⟩) with ⟨d', g1, g2⟩ | ⟨g1, g2⟩
  · have := PS_one hd g1
    subst this
    rw [hdi] at g2
    unfold f_X8_find f_X8_find_J36 f_X8_keyOf
    rw [key_ok (by omega) hx, Option.bind_some, g2, Option.bind_some, if_neg (nI_pos (by omega)), ck_pos (in_ok hi (by omega)), nI_clamp (by omega), if_pos (by rw [(hk i hi).1, e1])]
  · exact absurd hd.2.1 (g1 d hd.1)
theorem find_none {F T x : Nat} {keys : Nat → Int64} {tails homes : Nat → Int32} {m : SM} (hF : 40000 ≤ F) (hT : T < 2 ^ 20) (hx : x < 2 ^ 32) (h : TAB T keys tails homes m) (hm : m x = none) : f_X8_find F (lN x) keys (nI T) = some (-1 : Int32) := by
  obtain ⟨kv, hk, hI, hM⟩ := h
  rcases p_slotFor (F := F) (kv := kv) hF hT hx (fun i hi => ⟨(hk i hi).1, by have := (hk i hi).2; omega⟩) with ⟨d, g1, g2⟩ | ⟨g1, g2⟩
  · have hi : (hq T x + d) % 32768 < 32768 := Nat.mod_lt _ (by omega)
    generalize hi0 : (hq T x + d) % 32768 = i at *
    have hne : ¬ kv i = T * 2 ^ 32 + x := fun q => by
      have := (hM x (tails i) (homes i)).mpr ⟨hx, i, hi, q, rfl, rfl⟩
      rw [hm] at this
      cases this
    obtain ⟨k1, k2⟩ := hk i hi
    unfold f_X8_find f_X8_find_J35 f_X8_find_J36 f_X8_keyOf
    rw [key_ok (by omega) hx, Option.bind_some, g2, Option.bind_some, if_neg (nI_pos (by omega)), ck_pos (in_ok hi (by omega)), nI_clamp (by omega), k1, if_neg (fun q => hne ((pk_lEQ (by omega) (by omega)).mp q))]
  · unfold f_X8_find f_X8_find_J35 f_X8_find_J36 f_X8_keyOf
    rw [key_ok (by omega) hx, Option.bind_some, g2, Option.bind_some, if_pos (by decide)]
def mput (m : SM) (x : Nat) (t h : Int32) : SM := fun y => if y = x then some (t, h) else m y
theorem p_put {F T x : Nat} {keys : Nat → Int64} {tails homes : Nat → Int32} {m : SM} {D : List Nat} (t ho : Int32) (hF : 40000 ≤ F) (hT : T < 2 ^ 20) (hx : x < 2 ^ 32) (h : TAB T keys tails homes m) (hD : ∀ y, m y ≠ none → y ∈ D) (hL : D.length < 32768) : ∃ keys' tails' homes', f_X8_put F (lN x) t ho keys tails homes (nI T) = some ((1 : Int32), keys', tails', homes') ∧ TAB T keys' tails' homes' (mput m x t ho) := by
  obtain ⟨kv, hk, hI, hM⟩ := h
  have hh := hq_lt T x
  rcases p_slotFor (F := F) (kv := kv) hF hT hx (fun i hi => ⟨(hk i hi).1, by have := (hk i hi).2; omega⟩) with ⟨d, g1, g2⟩ | ⟨g1, g2⟩
  · have hi : (hq T x + d) % 32768 < 32768 := Nat.mod_lt _ (by omega)
    have hPS := g1
    obtain ⟨g3, g4, g5⟩ := g1
    -- a slot with x in it is that slot
    have own : ∀ j, j < 32768 → kv j = T * 2 ^ 32 + x → j = (hq T x + d) % 32768 := by
      intro j hj q
      obtain ⟨d2, q1, q2⟩ := hI j hj (by omega)
      have ex : kv j % 2 ^ 32 = x := by omega
      rw [ex] at q1 q2
      rw [← q2, PS_one q1 hPS]
    have hne : ∀ d', d' < d → (hq T x + d') % 32768 ≠ (hq T x + d) % 32768 := fun d' hd' q => g5 d' hd' (by rw [q]; exact g4)
    generalize hi0 : (hq T x + d) % 32768 = i at *
    refine ⟨vp_updL keys i (lN (T * 2 ^ 32 + x)), upd tails i t, upd homes i ho, ?_, fun j => if j = i then T * 2 ^ 32 + x else kv j, fun j hj => ?_, fun j hj hl => ?_, fun y t' h' => ?_⟩
    · have hin : ¬ (nI i < 0 ∨ 32768 ≤ i) := fun q => q.elim (nI_pos (by omega)) (by omega)
      unfold f_X8_put f_X8_keyOf
      rw [key_ok (by omega) hx, Option.bind_some, g2, Option.bind_some, if_pos (nI_pos' (by omega)), nI_clamp (by omega), ck_pos hin, ck_pos hin, ck_pos hin]
    · dsimp only
      by_cases z : j = i
      · rw [if_pos z, z]; exact ⟨pk_uLs, by omega⟩
      · rw [if_neg z, pk_uLn z]; exact hk j hj
    · dsimp only at hl ⊢
      by_cases z : j = i
      · rw [if_pos z]
        have ex : (T * 2 ^ 32 + x) % 2 ^ 32 = x := by omega
        rw [ex]
        refine ⟨d, ⟨g3, ?_, fun d' hd' => ?_⟩, by rw [hi0, z]⟩
        · left
          show (if (hq T x + d) % 32768 = i then T * 2 ^ 32 + x else kv ((hq T x + d) % 32768)) = T * 2 ^ 32 + x
          rw [if_pos hi0]
        · have q1 := g5 d' hd'
          have q2 := hne d' hd'
          unfold stp at q1 ⊢
          dsimp only
          rw [if_neg q2]
          exact q1
      · rw [if_neg z] at hl ⊢
        obtain ⟨d2, q1, q2⟩ := hI j hj hl
        have hyx : kv j % 2 ^ 32 ≠ x := fun q => z (own j hj (by omega))
        refine ⟨d2, ⟨q1.1, ?_, fun d' hd' => ?_⟩, q2⟩
        · have := q1.2.1
          unfold stp at this ⊢
          dsimp only
          rw [q2] at this ⊢
          rw [if_neg z]
          exact this
        · have q3 := q1.2.2 d' hd'
          unfold stp at q3 ⊢
          dsimp only
          by_cases v : (hq T (kv j % 2 ^ 32) + d') % 32768 = i
          · rw [if_pos v]
            omega
          · rw [if_neg v]
            exact q3
    · dsimp only
      unfold mput
      by_cases z : y = x
      · rw [if_pos z]
        subst z
        constructor
        · intro q
          injection q with q
          injection q with q1 q2
          exact ⟨hx, i, hi, by rw [if_pos rfl], by rw [pk_us, q1], by rw [pk_us, q2]⟩
        · rintro ⟨_, j, hj, q1, q2, q3⟩
          have hji : j = i := by
            by_cases v : j = i
            · exact v
            · rw [if_neg v] at q1
              exact own j hj q1
          subst hji
          rw [pk_us] at q2 q3
          rw [q2, q3]
      · rw [if_neg z, hM y t' h']
        constructor
        · rintro ⟨hy, j, hj, q1, q2, q3⟩
          have hji : j ≠ i := fun q => by
            subst q
            rcases g4 with v | v
            · omega
            · exact v (by omega)
          exact ⟨hy, j, hj, by rw [if_neg hji]; exact q1, by rw [pk_un hji]; exact q2, by rw [pk_un hji]; exact q3⟩
        · rintro ⟨hy, j, hj, q1, q2, q3⟩
          have hji : j ≠ i := fun q => by
            rw [if_pos q] at q1
            omega
          rw [if_neg hji] at q1
          rw [pk_un hji] at q2 q3
          exact ⟨hy, j, hj, q1, q2, q3⟩
  · exfalso
    have live : ∀ i, i < 32768 → kv i / 2 ^ 32 = T := fun i hi => by
      have q := g1 ((i + 32768 - hq T x) % 32768) (Nat.mod_lt _ (by omega))
      rw [show (hq T x + (i + 32768 - hq T x) % 32768) % 32768 = i by omega] at q
      have : ¬ kv i / 2 ^ 32 ≠ T := fun v => q (Or.inr v)
      omega
    have h1 := nodup_len ((List.range 32768).map (fun i => kv i % 2 ^ 32)) D (by
      rw [List.nodup_iff_pairwise_ne, List.pairwise_iff_getElem]
      intro i j hi hj hij q
      rw [List.length_map, List.length_range] at hi hj
      rw [List.getElem_map, List.getElem_map, List.getElem_range, List.getElem_range] at q
      obtain ⟨d1, p1, p2⟩ := hI i hi (live i hi)
      obtain ⟨d2, r1, r2⟩ := hI j hj (live j hj)
      rw [← q] at r1 r2
      have := PS_one p1 r1
      rw [this, r2] at p2
      omega) (by
      intro y hy
      obtain ⟨i, hi, rfl⟩ := List.mem_map.mp hy
      have hi' := List.mem_range.mp hi
      have hl := live i hi'
      refine hD _ (fun q => ?_)
      have := (hM (kv i % 2 ^ 32) (tails i) (homes i)).mpr ⟨Nat.mod_lt _ (by omega), i, hi', by omega, rfl, rfl⟩
      rw [q] at this
      cases this)
    rw [List.length_map, List.length_range] at h1
    omega
