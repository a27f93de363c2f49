/-! the parts with rounds, bounds, changes of the version -/
theorem jf_app : ∀ (A B : List va_W), jf (A ++ B) = jf A ++ jf B
  | [], B => rfl
  | a :: A, B => by
    show a ++ jf (A ++ B) = (a ++ jf A) ++ jf B
    rw [jf_app A B, List.append_assoc]
theorem Sel_J2 {G A B : List va_W} (is : List Nat) (hs : is.map (fun i => G[i]?) = (A ++ B).map some) (hn : va_nd is = true) : Sel (jn G) (jn A ++ jn B) := by
  rw [jn_eq, jn_eq, jn_eq, ← jf_app]
  exact Sel_G is hs hn
theorem Sel_J3 {G A B : List va_W} (is : List Nat) (hs : is.map (fun i => (A ++ B)[i]?) = G.map some) (hn : va_nd is = true) : Sel (jn A ++ jn B) (jn G) := by
  rw [jn_eq, jn_eq, jn_eq, ← jf_app]
  exact Sel_G is hs hn
theorem Sel_appL {v v' : va_W} (w : va_W) (h : Sel v v') : Sel (w ++ v) (w ++ v') := Sel_trans (Sel_sw w v) (Sel_trans (Sel_app w h) (Sel_sw v' w))
theorem Sel_last {a b c d v v' : va_W} (h : Sel v v') : Sel (jn [a, b, c, d, v]) (jn [a, b, c, d, v']) := Sel_appL a (Sel_appL b (Sel_appL c (Sel_appL d h)))
/-- one step's rounds move the slots: what the other step's rounds are then -/
theorem oY_move {cy : Nat → ClassId} {aG aP b : Nat} {tb : Nat → Nat} {V T T' st : Nat} {keys keys' : Nat → Int64} {tails homes tails' homes' : Nat → Int32} {oS oS' o : Option Nat} {c c' d : Int32} {k n : Nat} {w v : va_W} (hT : T < 2 ^ 20) (h0 : TAB0 T' keys') (hoS : oS ≠ none → oS' = oS) (hex : c = nI T → d ≠ nI T) (htr : (c' = nI T' ∧ ((c = nI T ∧ T' = T) ∨ T' = T + 1)) ∨ (T' = T ∧ keys' = keys ∧ tails' = tails ∧ homes' = homes ∧ (c' = c ∨ c' = (-1 : Int32)))) (h : oY cy aG aP b tb V T st keys tails homes oS o d k n w v) : oY cy aG aP b tb V T' st keys' tails' homes' oS' o d k n w v ∧ (c' = nI T' → d ≠ nI T') := by
  have hd : (d = (-1 : Int32) ∨ ∃ T0, T0 ≤ T ∧ d = nI T0) := by
    rcases h with ⟨_, _, _, _, _, q⟩ | ⟨q, qC, u, aS, tl, known, yv, ho, size, NN, leasts, lengths, firstBy, order, p1, p2, p3, p4, p5, p6, p7⟩
    · exact Or.inl q
    · exact p6
  have hle : T ≤ T' ∧ T' ≤ T + 1 := by
    rcases htr with ⟨_, ⟨_, q⟩ | q⟩ | ⟨q, _⟩ <;> omega
  have hne : c' = nI T' → d ≠ nI T' := by
    intro hc
    rcases htr with ⟨_, ⟨q1, q2⟩ | q⟩ | ⟨q, _, _, _, q5⟩
    · rw [q2]; exact hex q1
    · rcases hd with v | ⟨T0, v1, v2⟩
      · rw [v]; exact m1_nI (by omega)
      · rw [v2]
        intro z
        have := (nI_eq (by omega) (by omega)).mp z
        omega
    · rw [q]
      rcases q5 with v | v
      · exact hex (by rw [← v, hc, q])
      · rw [v] at hc
        exact absurd hc (m1_nI (by omega))
  refine ⟨?_, hne⟩
  rcases h with ⟨p1, p2, p3, p4, p5, p6⟩ | ⟨q, qC, u, aS, tl, known, yv, ho, size, NN, leasts, lengths, firstBy, order, p1, p2, p3, p4, p5, p6, p7, p8, p9⟩
  · exact Or.inl ⟨p1, p2, p3, p4, p5, p6⟩
  · refine Or.inr ⟨q, qC, u, aS, tl, known, yv, ho, size, NN, leasts, lengths, firstBy, order, p1, ?_, p3, p4, p5, ?_, ?_, p8, p9⟩
    · rw [hoS (by rw [p2]; exact fun z => by cases z)]; exact p2
    · rcases p6 with z | ⟨T0, z1, z2⟩
      · exact Or.inl z
      · exact Or.inr ⟨T0, by omega, z2⟩
    · rcases p7 with z | ⟨j, z1, z2, z3⟩
      · exact Or.inl z
      · refine Or.inr ⟨j, z1, z2, fun e => ?_⟩
        obtain ⟨K, Z, ls, ln, fb, od, g1, g2, g3, g4, g5, g6, g7⟩ := z3 e
        refine ⟨K, Z, ls, ln, fb, od, g1, g2, g3, g4, g5, g6, ?_⟩
        rcases htr with ⟨q1, _⟩ | ⟨q1, q2, q3, q4, _⟩
        · exact Or.inr ⟨hne q1, h0⟩
        · rw [q1, q2, q3, q4]; exact g7
theorem OP_Y0 {F : Nat} {cy : Nat → ClassId} {aG aP aR b : Nat} {tb : Nat → Nat} {V N : Nat} {oS oB oE oN oL : Option Nat} {xw : Nat → Option Nat} {C S : Nat} {w : va_W} (h : OP F cy aG aP aR b tb V N oS oB oE oN oL xw C S w) (hN : N < 2 ^ 19) : ∃ (T : Nat) (keys : Nat → Int64) (tails homes : Nat → Int32) (c : Int32) (kS nS k n : Nat) (uS u v wr : va_W), Sel w (jn [uS, u, v, wr]) ∧ T ≤ N ∧ oSl cy oS T keys tails homes kS nS uS ∧ oY cy aG aP b tb V T 0 keys tails homes oS (xw 0) c k n u v ∧ kS + k ≤ C ∧ nS + n ≤ S ∧ ∀ (oS' : Option Nat) (xw' : Nat → Option Nat) (T' : Nat) (keys' : Nat → Int64) (tails' homes' : Nat → Int32) (c' : Int32) (kS' nS' k' n' : Nat) (uS' u' v' : va_W), (oS ≠ none → oS' = oS) → (∀ j, j ≠ 0 → xw' j = xw j) → ((c' = nI T' ∧ ((c = nI T ∧ T' = T) ∨ T' = T + 1)) ∨ (T' = T ∧ keys' = keys ∧ tails' = tails ∧ homes' = homes ∧ (c' = c ∨ c' = (-1 : Int32)))) → oSl cy oS' T' keys' tails' homes' kS' nS' uS' → oY cy aG aP b tb V T' 0 keys' tails' homes' oS' (xw' 0) c' k' n' u' v' → ∃ w', Sel (jn [wr, uS', u', v']) w' ∧ OP F cy aG aP aR b tb V (N + 1) oS' oB oE oN oL xw' (C - (kS + k) + (kS' + k')) (S - (nS + n) + (nS' + n')) w' := by
  obtain ⟨T, keys, tails, homes, c0, c3, kS, nS, kB, nB, kE, nE, kN, nN, kL, nL, k0, n0, k1, n1, k2, n2, k3, n3, k4, n4, k5, n5, wS, wB, wE, wN, wL, w0, v0, w1, w2, w3, v3, w4, w5, rfl, hT, hS, hB, hE, hN, hL, h0, h1, h2, h3, h4, h5, hcc, rfl, rfl⟩ := h
  refine ⟨T, keys, tails, homes, c0, kS, nS, k0, n0, wS, w0, v0, jn [wB, wE, wN, wL, w1, w2, w3, v3, w4, w5], ?_, hT, hS, h0, by omega, by omega, fun oS' xw' T' keys' tails' homes' c' kS' nS' k' n' uS' u' v' hoS hxw htr hS' h' => ?_⟩
  · have e : jn [wS, w0, v0, jn [wB, wE, wN, wL, w1, w2, w3, v3, w4, w5]] = jn [wS, w0, v0, wB, wE, wN, wL, w1, w2, w3, v3, w4, w5] := by rw [jn_eq, jn_eq, jn_eq]; simp only [jf, List.append_assoc, List.append_nil]
    rw [e]
    exact Sel_J (G := [wS, wB, wE, wN, wL, w0, v0, w1, w2, w3, v3, w4, w5]) (G' := [wS, w0, v0, wB, wE, wN, wL, w1, w2, w3, v3, w4, w5]) [0, 5, 6, 1, 2, 3, 4, 7, 8, 9, 10, 11, 12] rfl (by decide)
  · rw [← hxw 1 (by decide)] at h1
    rw [← hxw 2 (by decide)] at h2
    rw [← hxw 3 (by decide)] at h3
    rw [← hxw 4 (by decide)] at h4
    rw [← hxw 5 (by decide)] at h5
    obtain ⟨hm1, hm2⟩ := oY_move (c := c0) (c' := c') (show T < 2 ^ 20 by omega) hS'.1 hoS hcc htr h3
    have hT' : T' ≤ N + 1 := by
      rcases htr with ⟨_, ⟨_, q⟩ | q⟩ | ⟨q, _⟩ <;> omega
    refine ⟨jn [uS', wB, wE, wN, wL, u', v', w1, w2, w3, v3, w4, w5], ?_, ⟨T', keys', tails', homes', c', c3, kS', nS', kB, nB, kE, nE, kN, nN, kL, nL, k', n', k1, n1, k2, n2, k3, n3, k4, n4, k5, n5, uS', wB, wE, wN, wL, u', v', w1, w2, w3, v3, w4, w5, rfl, hT', hS', hB, hE, hN, hL, h', h1, h2, hm1, h4, h5, hm2, by omega, by omega⟩⟩
    have e : jn [jn [wB, wE, wN, wL, w1, w2, w3, v3, w4, w5], uS', u', v'] = jn [wB, wE, wN, wL, w1, w2, w3, v3, w4, w5, uS', u', v'] := by rw [jn_eq, jn_eq, jn_eq]; simp only [jf, List.append_assoc, List.append_nil]
    rw [e]
    exact Sel_J (G := [wB, wE, wN, wL, w1, w2, w3, v3, w4, w5, uS', u', v']) (G' := [uS', wB, wE, wN, wL, u', v', w1, w2, w3, v3, w4, w5]) [10, 0, 1, 2, 3, 11, 12, 4, 5, 6, 7, 8, 9] rfl (by decide)
theorem OP_Y3 {F : Nat} {cy : Nat → ClassId} {aG aP aR b : Nat} {tb : Nat → Nat} {V N : Nat} {oS oB oE oN oL : Option Nat} {xw : Nat → Option Nat} {C S : Nat} {w : va_W} (h : OP F cy aG aP aR b tb V N oS oB oE oN oL xw C S w) (hN : N < 2 ^ 19) : ∃ (T : Nat) (keys : Nat → Int64) (tails homes : Nat → Int32) (c : Int32) (kS nS k n : Nat) (uS u v wr : va_W), Sel w (jn [uS, u, v, wr]) ∧ T ≤ N ∧ oSl cy oS T keys tails homes kS nS uS ∧ oY cy aG aP b tb V T 3 keys tails homes oS (xw 3) c k n u v ∧ kS + k ≤ C ∧ nS + n ≤ S ∧ ∀ (oS' : Option Nat) (xw' : Nat → Option Nat) (T' : Nat) (keys' : Nat → Int64) (tails' homes' : Nat → Int32) (c' : Int32) (kS' nS' k' n' : Nat) (uS' u' v' : va_W), (oS ≠ none → oS' = oS) → (∀ j, j ≠ 3 → xw' j = xw j) → ((c' = nI T' ∧ ((c = nI T ∧ T' = T) ∨ T' = T + 1)) ∨ (T' = T ∧ keys' = keys ∧ tails' = tails ∧ homes' = homes ∧ (c' = c ∨ c' = (-1 : Int32)))) → oSl cy oS' T' keys' tails' homes' kS' nS' uS' → oY cy aG aP b tb V T' 3 keys' tails' homes' oS' (xw' 3) c' k' n' u' v' → ∃ w', Sel (jn [wr, uS', u', v']) w' ∧ OP F cy aG aP aR b tb V (N + 1) oS' oB oE oN oL xw' (C - (kS + k) + (kS' + k')) (S - (nS + n) + (nS' + n')) w' := by
  obtain ⟨T, keys, tails, homes, c0, c3, kS, nS, kB, nB, kE, nE, kN, nN, kL, nL, k0, n0, k1, n1, k2, n2, k3, n3, k4, n4, k5, n5, wS, wB, wE, wN, wL, w0, v0, w1, w2, w3, v3, w4, w5, rfl, hT, hS, hB, hE, hN, hL, h0, h1, h2, h3, h4, h5, hcc, rfl, rfl⟩ := h
  refine ⟨T, keys, tails, homes, c3, kS, nS, k3, n3, wS, w3, v3, jn [wB, wE, wN, wL, w0, v0, w1, w2, w4, w5], ?_, hT, hS, h3, by omega, by omega, fun oS' xw' T' keys' tails' homes' c' kS' nS' k' n' uS' u' v' hoS hxw htr hS' h' => ?_⟩
  · have e : jn [wS, w3, v3, jn [wB, wE, wN, wL, w0, v0, w1, w2, w4, w5]] = jn [wS, w3, v3, wB, wE, wN, wL, w0, v0, w1, w2, w4, w5] := by rw [jn_eq, jn_eq, jn_eq]; simp only [jf, List.append_assoc, List.append_nil]
    rw [e]
    exact Sel_J (G := [wS, wB, wE, wN, wL, w0, v0, w1, w2, w3, v3, w4, w5]) (G' := [wS, w3, v3, wB, wE, wN, wL, w0, v0, w1, w2, w4, w5]) [0, 9, 10, 1, 2, 3, 4, 5, 6, 7, 8, 11, 12] rfl (by decide)
  · rw [← hxw 0 (by decide)] at h0
    rw [← hxw 1 (by decide)] at h1
    rw [← hxw 2 (by decide)] at h2
    rw [← hxw 4 (by decide)] at h4
    rw [← hxw 5 (by decide)] at h5
    obtain ⟨hm1, hm2⟩ := oY_move (c := c3) (c' := c') (show T < 2 ^ 20 by omega) hS'.1 hoS (fun q1 q2 => hcc q2 q1) htr h0
    have hT' : T' ≤ N + 1 := by
      rcases htr with ⟨_, ⟨_, q⟩ | q⟩ | ⟨q, _⟩ <;> omega
    refine ⟨jn [uS', wB, wE, wN, wL, w0, v0, w1, w2, u', v', w4, w5], ?_, ⟨T', keys', tails', homes', c0, c', kS', nS', kB, nB, kE, nE, kN, nN, kL, nL, k0, n0, k1, n1, k2, n2, k', n', k4, n4, k5, n5, uS', wB, wE, wN, wL, w0, v0, w1, w2, u', v', w4, w5, rfl, hT', hS', hB, hE, hN, hL, hm1, h1, h2, h', h4, h5, (fun q1 q2 => hm2 q2 q1), by omega, by omega⟩⟩
    have e : jn [jn [wB, wE, wN, wL, w0, v0, w1, w2, w4, w5], uS', u', v'] = jn [wB, wE, wN, wL, w0, v0, w1, w2, w4, w5, uS', u', v'] := by rw [jn_eq, jn_eq, jn_eq]; simp only [jf, List.append_assoc, List.append_nil]
    rw [e]
    exact Sel_J (G := [wB, wE, wN, wL, w0, v0, w1, w2, w4, w5, uS', u', v']) (G' := [uS', wB, wE, wN, wL, w0, v0, w1, w2, u', v', w4, w5]) [10, 0, 1, 2, 3, 4, 5, 6, 7, 11, 12, 8, 9] rfl (by decide)
theorem OP_Y {F : Nat} {cy : Nat → ClassId} {aG aP aR b : Nat} {tb : Nat → Nat} {V N : Nat} {oS oB oE oN oL : Option Nat} {xw : Nat → Option Nat} {C S : Nat} {w : va_W} (h : OP F cy aG aP aR b tb V N oS oB oE oN oL xw C S w) (hN : N < 2 ^ 19) {st : Nat} (hst : st = 0 ∨ st = 3) : ∃ (T : Nat) (keys : Nat → Int64) (tails homes : Nat → Int32) (c : Int32) (kS nS k n : Nat) (uS u v wr : va_W), Sel w (jn [uS, u, v, wr]) ∧ T ≤ N ∧ oSl cy oS T keys tails homes kS nS uS ∧ oY cy aG aP b tb V T st keys tails homes oS (xw st) c k n u v ∧ kS + k ≤ C ∧ nS + n ≤ S ∧ ∀ (oS' : Option Nat) (xw' : Nat → Option Nat) (T' : Nat) (keys' : Nat → Int64) (tails' homes' : Nat → Int32) (c' : Int32) (kS' nS' k' n' : Nat) (uS' u' v' : va_W), (oS ≠ none → oS' = oS) → (∀ j, j ≠ st → xw' j = xw j) → ((c' = nI T' ∧ ((c = nI T ∧ T' = T) ∨ T' = T + 1)) ∨ (T' = T ∧ keys' = keys ∧ tails' = tails ∧ homes' = homes ∧ (c' = c ∨ c' = (-1 : Int32)))) → oSl cy oS' T' keys' tails' homes' kS' nS' uS' → oY cy aG aP b tb V T' st keys' tails' homes' oS' (xw' st) c' k' n' u' v' → ∃ w', Sel (jn [wr, uS', u', v']) w' ∧ OP F cy aG aP aR b tb V (N + 1) oS' oB oE oN oL xw' (C - (kS + k) + (kS' + k')) (S - (nS + n) + (nS' + n')) w' := by
  rcases hst with rfl | rfl
  · exact OP_Y0 h hN
  · exact OP_Y3 h hN
theorem oY_bd {cy : Nat → ClassId} {aG aP b : Nat} {tb : Nat → Nat} {V T st : Nat} {keys : Nat → Int64} {tails homes : Nat → Int32} {oS o : Option Nat} {c : Int32} {k n : Nat} {w v : va_W} (h : oY cy aG aP b tb V T st keys tails homes oS o c k n w v) : k ≤ 131016 ∧ n ≤ 268099 := by
  rcases h with ⟨_, _, _, h1, h2, _⟩ | ⟨q, qC, u, aS, tl, known, yv, ho, size, NN, leasts, lengths, firstBy, order, p1, p2, p3, p4, ⟨j, hj, rfl⟩, p6, p7, p8, p9⟩
  · omega
  · have h1 : 2 ^ j ≤ 2 ^ 11 := Nat.pow_le_pow_right (by omega) hj
    omega
theorem OP_bd {F : Nat} {cy : Nat → ClassId} {aG aP aR b : Nat} {tb : Nat → Nat} {V N : Nat} {oS oB oE oN oL : Option Nat} {xw : Nat → Option Nat} {C S : Nat} {w : va_W} (h : OP F cy aG aP aR b tb V N oS oB oE oN oL xw C S w) : C ≤ 262100 ∧ S ≤ 1000000 := by
  obtain ⟨T, keys, tails, homes, c0, c3, kS, nS, kB, nB, kE, nE, kN, nN, kL, nL, k0, n0, k1, n1, k2, n2, k3, n3, k4, n4, k5, n5, wS, wB, wE, wN, wL, w0, v0, w1, w2, w3, v3, w4, w5, rfl, hT, hS, hB, hE, hN, hL, h0, h1, h2, h3, h4, h5, hcc, rfl, rfl⟩ := h
  have bS : kS ≤ 4 ∧ nS ≤ 98308 := by
    rcases hS with ⟨_, ⟨_, _, q1, q2, _⟩ | ⟨_, _, _, q1, q2⟩⟩ <;> omega
  have bB : kB ≤ 3 ∧ nB ≤ 10518 := by
    rcases hB with ⟨_, _, q1, q2⟩ | ⟨_, _, _, _, _, _, _, _, q1, q2⟩ <;> omega
  have bE : kE ≤ 4 ∧ nE ≤ 102428 := by
    rcases hE with ⟨_, _, q1, q2⟩ | ⟨_, _, _, _, _, q1, q2⟩ <;> omega
  have bN : kN ≤ 5 ∧ nN ≤ 90 := by
    rcases hN with ⟨_, _, q1, q2⟩ | ⟨_, _, _, _, _, _, _, _, _, _, _, _, _, _, _, q1, q2⟩ <;> omega
  have bL : kL ≤ 3 ∧ nL ≤ 40006 := by
    rcases hL with ⟨_, _, q1, q2⟩ | ⟨_, _, _, _, _, _, _, q1, q2⟩ <;> omega
  have b1 : k1 ≤ 2 ∧ n1 ≤ 3008 := by
    rcases h1 with ⟨_, _, q1, q2⟩ | ⟨_, _, _, _, _, _, _, q1, q2⟩ <;> omega
  have b2 : k2 ≤ 2 ∧ n2 ≤ 3008 := by
    rcases h2 with ⟨_, _, q1, q2⟩ | ⟨_, _, _, _, _, _, _, q1, q2⟩ <;> omega
  have b4 : k4 ≤ 2 ∧ n4 ≤ 3008 := by
    rcases h4 with ⟨_, _, q1, q2⟩ | ⟨_, _, _, _, _, _, _, q1, q2⟩ <;> omega
  have b5 : k5 ≤ 2 ∧ n5 ≤ 3008 := by
    rcases h5 with ⟨_, _, q1, q2⟩ | ⟨_, _, _, _, _, _, _, q1, q2⟩ <;> omega
  have b0 := oY_bd h0
  have b3 := oY_bd h3
  omega
theorem OP_mo {F : Nat} {cy : Nat → ClassId} {aG aP aR b : Nat} {tb : Nat → Nat} {V N : Nat} {oS oB oE oN oL : Option Nat} {xw : Nat → Option Nat} {C S : Nat} {w : va_W} (h : OP F cy aG aP aR b tb V N oS oB oE oN oL xw C S w) {N' : Nat} (hN : N ≤ N') : OP F cy aG aP aR b tb V N' oS oB oE oN oL xw C S w := by
  obtain ⟨T, keys, tails, homes, c0, c3, kS, nS, kB, nB, kE, nE, kN, nN, kL, nL, k0, n0, k1, n1, k2, n2, k3, n3, k4, n4, k5, n5, wS, wB, wE, wN, wL, w0, v0, w1, w2, w3, v3, w4, w5, rfl, hT, hS, hB, hE, hNa, hL, h0, h1, h2, h3, h4, h5, hcc, rfl, rfl⟩ := h
  exact ⟨T, keys, tails, homes, c0, c3, kS, nS, kB, nB, kE, nE, kN, nN, kL, nL, k0, n0, k1, n1, k2, n2, k3, n3, k4, n4, k5, n5, wS, wB, wE, wN, wL, w0, v0, w1, w2, w3, v3, w4, w5, rfl, (Nat.le_trans hT hN), hS, hB, hE, hNa, hL, h0, h1, h2, h3, h4, h5, hcc, by omega, by omega⟩
theorem ver_up {lv : Int32} {V : Nat} {G G' : Prop} (h : verOK lv V G) : verOK lv (V + 1) G' := by
  rcases h with z | ⟨k, z1, z2, z3⟩
  · exact Or.inl z
  · exact Or.inr ⟨k, by omega, z2, fun q => by omega⟩
theorem oZ_up {cy : Nat → ClassId} {aG aP b b' : Nat} {tb tb' : Nat → Nat} {V st : Nat} {o : Option Nat} {k n : Nat} {w : va_W} (h : oZ cy aG aP b tb V st o k n w) : oZ cy aG aP b' tb' (V + 1) st o k n w := by
  rcases h with z | ⟨q, tails, known, zv, z1, z2, z3, z4⟩
  · exact Or.inl z
  · exact Or.inr ⟨q, tails, known, zv, z1, z2, ver_up z3, z4⟩
theorem oY_up {cy : Nat → ClassId} {aG aP b b' : Nat} {tb tb' : Nat → Nat} {V T st : Nat} {keys : Nat → Int64} {tails homes : Nat → Int32} {oS o : Option Nat} {c : Int32} {k n : Nat} {w v : va_W} (h : oY cy aG aP b tb V T st keys tails homes oS o c k n w v) : oY cy aG aP b' tb' (V + 1) T st keys tails homes oS o c k n w v := by
  rcases h with z | ⟨q, qC, u, aS, tl, known, yv, ho, size, NN, leasts, lengths, firstBy, order, p1, p2, p3, p4, p5, p6, p7, p8⟩
  · exact Or.inl z
  · exact Or.inr ⟨q, qC, u, aS, tl, known, yv, ho, size, NN, leasts, lengths, firstBy, order, p1, p2, p3, p4, p5, p6, ver_up p7, p8⟩
theorem oLi_up {cy : Nat → ClassId} {aG b b' : Nat} {tb tb' : Nat → Nat} {V : Nat} {o : Option Nat} {k n : Nat} {w : va_W} (h : oLi cy aG b tb V o k n w) : oLi cy aG b' tb' (V + 1) o k n w := by
  rcases h with z | ⟨q, lv, sums, rc, z1, z2, z3, z4⟩
  · exact Or.inl z
  · exact Or.inr ⟨q, lv, sums, rc, z1, z2, ver_up z3, z4⟩
theorem OP_ver {F : Nat} {cy : Nat → ClassId} {aG aP aR b : Nat} {tb : Nat → Nat} {V N : Nat} {oS oB oE oN oL : Option Nat} {xw : Nat → Option Nat} {C S : Nat} {w : va_W} (h : OP F cy aG aP aR b tb V N oS oB oE oN oL xw C S w) (b' : Nat) (tb' : Nat → Nat) : OP F cy aG aP aR b' tb' (V + 1) N oS oB oE oN oL xw C S w := by
  obtain ⟨T, keys, tails, homes, c0, c3, kS, nS, kB, nB, kE, nE, kN, nN, kL, nL, k0, n0, k1, n1, k2, n2, k3, n3, k4, n4, k5, n5, wS, wB, wE, wN, wL, w0, v0, w1, w2, w3, v3, w4, w5, rfl, hT, hS, hB, hE, hN, hL, h0, h1, h2, h3, h4, h5, hcc, rfl, rfl⟩ := h
  exact ⟨T, keys, tails, homes, c0, c3, kS, nS, kB, nB, kE, nE, kN, nN, kL, nL, k0, n0, k1, n1, k2, n2, k3, n3, k4, n4, k5, n5, wS, wB, wE, wN, wL, w0, v0, w1, w2, w3, v3, w4, w5, rfl, hT, hS, hB, hE, hN, oLi_up hL, oY_up h0, oZ_up h1, oZ_up h2, oY_up h3, oZ_up h4, oZ_up h5, hcc, by omega, by omega⟩
/-- a new object has none of them -/
theorem OP_new (F : Nat) (cy : Nat → ClassId) (aG aP aR b : Nat) (tb : Nat → Nat) (V N : Nat) : OP F cy aG aP aR b tb V N none none none none none (fun _ => none) 0 0 [] := by
  exact ⟨0, (fun _ => 0), (fun _ => 0), (fun _ => 0), (-1 : Int32), (-1 : Int32), 0, 0, 0, 0, 0, 0, 0, 0, 0, 0, 0, 0, 0, 0, 0, 0, 0, 0, 0, 0, 0, 0, [], [], [], [], [], [], [], [], [], [], [], [], [], rfl, Nat.zero_le _, ⟨TAB0_new, Or.inl ⟨rfl, rfl, rfl, rfl, rfl, rfl, rfl, rfl⟩⟩, Or.inl ⟨rfl, rfl, rfl, rfl⟩, Or.inl ⟨rfl, rfl, rfl, rfl⟩, Or.inl ⟨rfl, rfl, rfl, rfl⟩, Or.inl ⟨rfl, rfl, rfl, rfl⟩, Or.inl ⟨rfl, rfl, rfl, rfl, rfl, rfl⟩, Or.inl ⟨rfl, rfl, rfl, rfl⟩, Or.inl ⟨rfl, rfl, rfl, rfl⟩, Or.inl ⟨rfl, rfl, rfl, rfl, rfl, rfl⟩, Or.inl ⟨rfl, rfl, rfl, rfl⟩, Or.inl ⟨rfl, rfl, rfl, rfl⟩, fun q => absurd q (by decide), rfl, rfl⟩
/-- a FigurePlay -/
def XS (F : Nat) (cy : Nat → ClassId) (b : Nat) (tb : Nat → Nat) (N aX C S : Nat) (w : va_W) : Prop := ∃ (V : Nat) (qX qG qP qR : Nat → Nat) (oS oB oE oN oL : Option Nat) (xw : Nat → Option Nat) (worth row many : Nat → Int32) (told : Nat → Int64) (sz pt pr : Int32) (wO : va_W), aX = qX 0 ∧ w = jn [gX cy qX (qG 0) (qP 0) (qR 0) oS oB oE oN oL xw, gG cy qG (nI b) worth row many (nI V), gP cy qP told sz pt pr, gR cy qR (qG 0), wO] ∧ bOK b ∧ tbOK worth tb ∧ V ≤ N ∧ OP F cy (qG 0) (qP 0) (qR 0) b tb V N oS oB oE oN oL xw C S wO
/-- a FigurePlayModel -/
def MS' (cy : Nat → ClassId) (b : Nat) (tb : Nat → Nat) (aM : Nat) (w : va_W) : Prop := ∃ (qM : Nat → Nat) (m_f : Nat → Int32) (m_many : Int32) (m_figures : Nat → Int32) (m_tail : Int32) (m_round : Int32) (m_rounds : Int32) (m_leasts : Nat → Int64) (m_likes : Int32) (m_like : Nat → Int32) (m_isTwo : Nat → Int32) (m_came : Nat → Int32) (m_by : Nat → Int32) (m_queue : Nat → Int32) (m_kind : Int32) (m_parts : Int32) (m_wanted : Int32) (m_allowed : Int32) (m_bitOf : Nat → Int32) (m_met : Int32) (m_row : Nat → Int32) (m_narrows : Int32) (m_narrow : Nat → Int64) (m_isMade : Nat → Int32), aM = qM 0 ∧ w = gM cy qM (nI b) m_f m_many m_figures m_tail m_round m_rounds m_leasts m_likes m_like m_isTwo m_came m_by m_queue m_kind m_parts m_wanted m_allowed m_bitOf m_met m_row m_narrows m_narrow m_isMade ∧ tbOK m_f tb
