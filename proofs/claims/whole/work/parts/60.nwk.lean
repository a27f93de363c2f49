/-! how many numbers are what their figures make: counted by the kernel -/
/-- one figure taken out of a list -/
def erO (a : Nat) : List Nat → Option (List Nat)
  | [] => none
  | x :: t => cond (Nat.beq x a) (some t) ((erO a t).map (fun u => x :: u))
def chkD (b : Nat) : Nat → Nat → List Nat → Bool
  | 0, _, _ => true
  | w + 1, s, l => match erO (Nat.mod s b) l with
    | none => false
    | some u => chkD b w (Nat.div s b) u
noncomputable def nwl (b e lo hi w : Nat) (k : Nat) : Nat → Nat → Nat → List Nat → List Nat :=
  Nat.rec (motive := fun _ => Nat → Nat → Nat → List Nat → List Nat) (fun _ _ _ _ => [])
    (fun _ ih d o s l => cond (Nat.beq o 0) (cond (chkD b w s l) [s] [])
      (cond (Nat.ble lo (Nat.add s (Nat.mul o (Nat.pow d e))))
        (List.append (cond (Nat.ble (Nat.add s (Nat.pow d e)) hi) (ih d (Nat.pred o) (Nat.add s (Nat.pow d e)) (d :: l)) []) (cond (Nat.beq d 0) [] (ih (Nat.pred d) o s l)))
        [])) k
noncomputable def nwc (b w e : Nat) : List Nat := nwl b e (cond (Nat.beq w 1) 0 (Nat.pow b (Nat.pred w))) (Nat.pred (Nat.pow b w)) w 23 (Nat.pred b) w 0 []
theorem nwk_2 : ∀ w, w < 7 → ∀ e, e < 7 → Nat.ble (nwc 2 w e).length 31 = true := by decide +kernel
theorem nwk_3 : ∀ w, w < 7 → ∀ e, e < 7 → Nat.ble (nwc 3 w e).length 31 = true := by decide +kernel
theorem nwk_4 : ∀ w, w < 7 → ∀ e, e < 7 → Nat.ble (nwc 4 w e).length 31 = true := by decide +kernel
theorem nwk_5 : ∀ w, w < 7 → ∀ e, e < 7 → Nat.ble (nwc 5 w e).length 31 = true := by decide +kernel
theorem nwk_6 : ∀ w, w < 7 → ∀ e, e < 7 → Nat.ble (nwc 6 w e).length 31 = true := by decide +kernel
theorem nwk_7 : ∀ w, w < 7 → ∀ e, e < 7 → Nat.ble (nwc 7 w e).length 31 = true := by decide +kernel
theorem nwk_8 : ∀ w, w < 7 → ∀ e, e < 7 → Nat.ble (nwc 8 w e).length 31 = true := by decide +kernel
theorem nwk_9 : ∀ w, w < 7 → ∀ e, e < 7 → Nat.ble (nwc 9 w e).length 31 = true := by decide +kernel
theorem nwk_10 : ∀ w, w < 7 → ∀ e, e < 7 → Nat.ble (nwc 10 w e).length 31 = true := by decide +kernel
theorem nwk_11 : ∀ w, w < 7 → ∀ e, e < 7 → Nat.ble (nwc 11 w e).length 31 = true := by decide +kernel
theorem nwk_12_0 : ∀ e, e < 7 → Nat.ble (nwc 12 0 e).length 31 = true := by decide +kernel
theorem nwk_12_1 : ∀ e, e < 7 → Nat.ble (nwc 12 1 e).length 31 = true := by decide +kernel
theorem nwk_12_2 : ∀ e, e < 7 → Nat.ble (nwc 12 2 e).length 31 = true := by decide +kernel
theorem nwk_12_3 : ∀ e, e < 7 → Nat.ble (nwc 12 3 e).length 31 = true := by decide +kernel
theorem nwk_12_4 : ∀ e, e < 7 → Nat.ble (nwc 12 4 e).length 31 = true := by decide +kernel
theorem nwk_12_5_0 : Nat.ble (nwc 12 5 0).length 31 = true := by decide +kernel
theorem nwk_12_5_1 : Nat.ble (nwc 12 5 1).length 31 = true := by decide +kernel
theorem nwk_12_5_2 : Nat.ble (nwc 12 5 2).length 31 = true := by decide +kernel
theorem nwk_12_5_3 : Nat.ble (nwc 12 5 3).length 31 = true := by decide +kernel
theorem nwk_12_5_4 : Nat.ble (nwc 12 5 4).length 31 = true := by decide +kernel
theorem nwk_12_5_5 : Nat.ble (nwc 12 5 5).length 31 = true := by decide +kernel
theorem nwk_12_5_6 : Nat.ble (nwc 12 5 6).length 31 = true := by decide +kernel
theorem nwk_12_5 : ∀ e, e < 7 → Nat.ble (nwc 12 5 e).length 31 = true := by
  intro e h
  have q : e = 0 ∨ e = 1 ∨ e = 2 ∨ e = 3 ∨ e = 4 ∨ e = 5 ∨ e = 6 := by omega
  rcases q with rfl | rfl | rfl | rfl | rfl | rfl | rfl
  · exact nwk_12_5_0
  · exact nwk_12_5_1
  · exact nwk_12_5_2
  · exact nwk_12_5_3
  · exact nwk_12_5_4
  · exact nwk_12_5_5
  · exact nwk_12_5_6
theorem nwk_12_6_0 : Nat.ble (nwc 12 6 0).length 31 = true := by decide +kernel
theorem nwk_12_6_1 : Nat.ble (nwc 12 6 1).length 31 = true := by decide +kernel
theorem nwk_12_6_2 : Nat.ble (nwc 12 6 2).length 31 = true := by decide +kernel
theorem nwk_12_6_3 : Nat.ble (nwc 12 6 3).length 31 = true := by decide +kernel
theorem nwk_12_6_4 : Nat.ble (nwc 12 6 4).length 31 = true := by decide +kernel
theorem nwk_12_6_5 : Nat.ble (nwc 12 6 5).length 31 = true := by decide +kernel
theorem nwk_12_6_6 : Nat.ble (nwc 12 6 6).length 31 = true := by decide +kernel
theorem nwk_12_6 : ∀ e, e < 7 → Nat.ble (nwc 12 6 e).length 31 = true := by
  intro e h
  have q : e = 0 ∨ e = 1 ∨ e = 2 ∨ e = 3 ∨ e = 4 ∨ e = 5 ∨ e = 6 := by omega
  rcases q with rfl | rfl | rfl | rfl | rfl | rfl | rfl
  · exact nwk_12_6_0
  · exact nwk_12_6_1
  · exact nwk_12_6_2
  · exact nwk_12_6_3
  · exact nwk_12_6_4
  · exact nwk_12_6_5
  · exact nwk_12_6_6
theorem nwk_12 : ∀ w, w < 7 → ∀ e, e < 7 → Nat.ble (nwc 12 w e).length 31 = true := by
  intro w h
  have q : w = 0 ∨ w = 1 ∨ w = 2 ∨ w = 3 ∨ w = 4 ∨ w = 5 ∨ w = 6 := by omega
  rcases q with rfl | rfl | rfl | rfl | rfl | rfl | rfl
  · exact nwk_12_0
  · exact nwk_12_1
  · exact nwk_12_2
  · exact nwk_12_3
  · exact nwk_12_4
  · exact nwk_12_5
  · exact nwk_12_6
theorem nwk_13_0 : ∀ e, e < 7 → Nat.ble (nwc 13 0 e).length 31 = true := by decide +kernel
theorem nwk_13_1 : ∀ e, e < 7 → Nat.ble (nwc 13 1 e).length 31 = true := by decide +kernel
theorem nwk_13_2 : ∀ e, e < 7 → Nat.ble (nwc 13 2 e).length 31 = true := by decide +kernel
theorem nwk_13_3 : ∀ e, e < 7 → Nat.ble (nwc 13 3 e).length 31 = true := by decide +kernel
theorem nwk_13_4 : ∀ e, e < 7 → Nat.ble (nwc 13 4 e).length 31 = true := by decide +kernel
theorem nwk_13_5_0 : Nat.ble (nwc 13 5 0).length 31 = true := by decide +kernel
theorem nwk_13_5_1 : Nat.ble (nwc 13 5 1).length 31 = true := by decide +kernel
theorem nwk_13_5_2 : Nat.ble (nwc 13 5 2).length 31 = true := by decide +kernel
theorem nwk_13_5_3 : Nat.ble (nwc 13 5 3).length 31 = true := by decide +kernel
theorem nwk_13_5_4 : Nat.ble (nwc 13 5 4).length 31 = true := by decide +kernel
theorem nwk_13_5_5 : Nat.ble (nwc 13 5 5).length 31 = true := by decide +kernel
theorem nwk_13_5_6 : Nat.ble (nwc 13 5 6).length 31 = true := by decide +kernel
theorem nwk_13_5 : ∀ e, e < 7 → Nat.ble (nwc 13 5 e).length 31 = true := by
  intro e h
  have q : e = 0 ∨ e = 1 ∨ e = 2 ∨ e = 3 ∨ e = 4 ∨ e = 5 ∨ e = 6 := by omega
  rcases q with rfl | rfl | rfl | rfl | rfl | rfl | rfl
  · exact nwk_13_5_0
  · exact nwk_13_5_1
  · exact nwk_13_5_2
  · exact nwk_13_5_3
  · exact nwk_13_5_4
  · exact nwk_13_5_5
  · exact nwk_13_5_6
theorem nwk_13_6_0 : Nat.ble (nwc 13 6 0).length 31 = true := by decide +kernel
theorem nwk_13_6_1 : Nat.ble (nwc 13 6 1).length 31 = true := by decide +kernel
theorem nwk_13_6_2 : Nat.ble (nwc 13 6 2).length 31 = true := by decide +kernel
theorem nwk_13_6_3 : Nat.ble (nwc 13 6 3).length 31 = true := by decide +kernel
theorem nwk_13_6_4 : Nat.ble (nwc 13 6 4).length 31 = true := by decide +kernel
theorem nwk_13_6_5 : Nat.ble (nwc 13 6 5).length 31 = true := by decide +kernel
theorem nwk_13_6_6 : Nat.ble (nwc 13 6 6).length 31 = true := by decide +kernel
theorem nwk_13_6 : ∀ e, e < 7 → Nat.ble (nwc 13 6 e).length 31 = true := by
  intro e h
  have q : e = 0 ∨ e = 1 ∨ e = 2 ∨ e = 3 ∨ e = 4 ∨ e = 5 ∨ e = 6 := by omega
  rcases q with rfl | rfl | rfl | rfl | rfl | rfl | rfl
  · exact nwk_13_6_0
  · exact nwk_13_6_1
  · exact nwk_13_6_2
  · exact nwk_13_6_3
  · exact nwk_13_6_4
  · exact nwk_13_6_5
  · exact nwk_13_6_6
theorem nwk_13 : ∀ w, w < 7 → ∀ e, e < 7 → Nat.ble (nwc 13 w e).length 31 = true := by
  intro w h
  have q : w = 0 ∨ w = 1 ∨ w = 2 ∨ w = 3 ∨ w = 4 ∨ w = 5 ∨ w = 6 := by omega
  rcases q with rfl | rfl | rfl | rfl | rfl | rfl | rfl
  · exact nwk_13_0
  · exact nwk_13_1
  · exact nwk_13_2
  · exact nwk_13_3
  · exact nwk_13_4
  · exact nwk_13_5
  · exact nwk_13_6
theorem nwk_14_0 : ∀ e, e < 7 → Nat.ble (nwc 14 0 e).length 31 = true := by decide +kernel
theorem nwk_14_1 : ∀ e, e < 7 → Nat.ble (nwc 14 1 e).length 31 = true := by decide +kernel
theorem nwk_14_2 : ∀ e, e < 7 → Nat.ble (nwc 14 2 e).length 31 = true := by decide +kernel
theorem nwk_14_3 : ∀ e, e < 7 → Nat.ble (nwc 14 3 e).length 31 = true := by decide +kernel
theorem nwk_14_4 : ∀ e, e < 7 → Nat.ble (nwc 14 4 e).length 31 = true := by decide +kernel
theorem nwk_14_5_0 : Nat.ble (nwc 14 5 0).length 31 = true := by decide +kernel
theorem nwk_14_5_1 : Nat.ble (nwc 14 5 1).length 31 = true := by decide +kernel
theorem nwk_14_5_2 : Nat.ble (nwc 14 5 2).length 31 = true := by decide +kernel
theorem nwk_14_5_3 : Nat.ble (nwc 14 5 3).length 31 = true := by decide +kernel
theorem nwk_14_5_4 : Nat.ble (nwc 14 5 4).length 31 = true := by decide +kernel
theorem nwk_14_5_5 : Nat.ble (nwc 14 5 5).length 31 = true := by decide +kernel
theorem nwk_14_5_6 : Nat.ble (nwc 14 5 6).length 31 = true := by decide +kernel
theorem nwk_14_5 : ∀ e, e < 7 → Nat.ble (nwc 14 5 e).length 31 = true := by
  intro e h
  have q : e = 0 ∨ e = 1 ∨ e = 2 ∨ e = 3 ∨ e = 4 ∨ e = 5 ∨ e = 6 := by omega
  rcases q with rfl | rfl | rfl | rfl | rfl | rfl | rfl
  · exact nwk_14_5_0
  · exact nwk_14_5_1
  · exact nwk_14_5_2
  · exact nwk_14_5_3
  · exact nwk_14_5_4
  · exact nwk_14_5_5
  · exact nwk_14_5_6
theorem nwk_14_6_0 : Nat.ble (nwc 14 6 0).length 31 = true := by decide +kernel
theorem nwk_14_6_1 : Nat.ble (nwc 14 6 1).length 31 = true := by decide +kernel
theorem nwk_14_6_2 : Nat.ble (nwc 14 6 2).length 31 = true := by decide +kernel
theorem nwk_14_6_3 : Nat.ble (nwc 14 6 3).length 31 = true := by decide +kernel
theorem nwk_14_6_4 : Nat.ble (nwc 14 6 4).length 31 = true := by decide +kernel
theorem nwk_14_6_5 : Nat.ble (nwc 14 6 5).length 31 = true := by decide +kernel
theorem nwk_14_6_6 : Nat.ble (nwc 14 6 6).length 31 = true := by decide +kernel
theorem nwk_14_6 : ∀ e, e < 7 → Nat.ble (nwc 14 6 e).length 31 = true := by
  intro e h
  have q : e = 0 ∨ e = 1 ∨ e = 2 ∨ e = 3 ∨ e = 4 ∨ e = 5 ∨ e = 6 := by omega
  rcases q with rfl | rfl | rfl | rfl | rfl | rfl | rfl
  · exact nwk_14_6_0
  · exact nwk_14_6_1
  · exact nwk_14_6_2
  · exact nwk_14_6_3
  · exact nwk_14_6_4
  · exact nwk_14_6_5
  · exact nwk_14_6_6
theorem nwk_14 : ∀ w, w < 7 → ∀ e, e < 7 → Nat.ble (nwc 14 w e).length 31 = true := by
  intro w h
  have q : w = 0 ∨ w = 1 ∨ w = 2 ∨ w = 3 ∨ w = 4 ∨ w = 5 ∨ w = 6 := by omega
  rcases q with rfl | rfl | rfl | rfl | rfl | rfl | rfl
  · exact nwk_14_0
  · exact nwk_14_1
  · exact nwk_14_2
  · exact nwk_14_3
  · exact nwk_14_4
  · exact nwk_14_5
  · exact nwk_14_6
theorem nwk_15_0 : ∀ e, e < 7 → Nat.ble (nwc 15 0 e).length 31 = true := by decide +kernel
theorem nwk_15_1 : ∀ e, e < 7 → Nat.ble (nwc 15 1 e).length 31 = true := by decide +kernel
theorem nwk_15_2 : ∀ e, e < 7 → Nat.ble (nwc 15 2 e).length 31 = true := by decide +kernel
theorem nwk_15_3 : ∀ e, e < 7 → Nat.ble (nwc 15 3 e).length 31 = true := by decide +kernel
theorem nwk_15_4 : ∀ e, e < 7 → Nat.ble (nwc 15 4 e).length 31 = true := by decide +kernel
theorem nwk_15_5_0 : Nat.ble (nwc 15 5 0).length 31 = true := by decide +kernel
theorem nwk_15_5_1 : Nat.ble (nwc 15 5 1).length 31 = true := by decide +kernel
theorem nwk_15_5_2 : Nat.ble (nwc 15 5 2).length 31 = true := by decide +kernel
theorem nwk_15_5_3 : Nat.ble (nwc 15 5 3).length 31 = true := by decide +kernel
theorem nwk_15_5_4 : Nat.ble (nwc 15 5 4).length 31 = true := by decide +kernel
theorem nwk_15_5_5 : Nat.ble (nwc 15 5 5).length 31 = true := by decide +kernel
theorem nwk_15_5_6 : Nat.ble (nwc 15 5 6).length 31 = true := by decide +kernel
theorem nwk_15_5 : ∀ e, e < 7 → Nat.ble (nwc 15 5 e).length 31 = true := by
  intro e h
  have q : e = 0 ∨ e = 1 ∨ e = 2 ∨ e = 3 ∨ e = 4 ∨ e = 5 ∨ e = 6 := by omega
  rcases q with rfl | rfl | rfl | rfl | rfl | rfl | rfl
  · exact nwk_15_5_0
  · exact nwk_15_5_1
  · exact nwk_15_5_2
  · exact nwk_15_5_3
  · exact nwk_15_5_4
  · exact nwk_15_5_5
  · exact nwk_15_5_6
theorem nwk_15_6_0 : Nat.ble (nwc 15 6 0).length 31 = true := by decide +kernel
theorem nwk_15_6_1 : Nat.ble (nwc 15 6 1).length 31 = true := by decide +kernel
theorem nwk_15_6_2 : Nat.ble (nwc 15 6 2).length 31 = true := by decide +kernel
theorem nwk_15_6_3 : Nat.ble (nwc 15 6 3).length 31 = true := by decide +kernel
theorem nwk_15_6_4 : Nat.ble (nwc 15 6 4).length 31 = true := by decide +kernel
theorem nwk_15_6_5 : Nat.ble (nwc 15 6 5).length 31 = true := by decide +kernel
theorem nwk_15_6_6 : Nat.ble (nwc 15 6 6).length 31 = true := by decide +kernel
theorem nwk_15_6 : ∀ e, e < 7 → Nat.ble (nwc 15 6 e).length 31 = true := by
  intro e h
  have q : e = 0 ∨ e = 1 ∨ e = 2 ∨ e = 3 ∨ e = 4 ∨ e = 5 ∨ e = 6 := by omega
  rcases q with rfl | rfl | rfl | rfl | rfl | rfl | rfl
  · exact nwk_15_6_0
  · exact nwk_15_6_1
  · exact nwk_15_6_2
  · exact nwk_15_6_3
  · exact nwk_15_6_4
  · exact nwk_15_6_5
  · exact nwk_15_6_6
theorem nwk_15 : ∀ w, w < 7 → ∀ e, e < 7 → Nat.ble (nwc 15 w e).length 31 = true := by
  intro w h
  have q : w = 0 ∨ w = 1 ∨ w = 2 ∨ w = 3 ∨ w = 4 ∨ w = 5 ∨ w = 6 := by omega
  rcases q with rfl | rfl | rfl | rfl | rfl | rfl | rfl
  · exact nwk_15_0
  · exact nwk_15_1
  · exact nwk_15_2
  · exact nwk_15_3
  · exact nwk_15_4
  · exact nwk_15_5
  · exact nwk_15_6
theorem nwk_16_0 : ∀ e, e < 7 → Nat.ble (nwc 16 0 e).length 31 = true := by decide +kernel
theorem nwk_16_1 : ∀ e, e < 7 → Nat.ble (nwc 16 1 e).length 31 = true := by decide +kernel
theorem nwk_16_2 : ∀ e, e < 7 → Nat.ble (nwc 16 2 e).length 31 = true := by decide +kernel
theorem nwk_16_3 : ∀ e, e < 7 → Nat.ble (nwc 16 3 e).length 31 = true := by decide +kernel
theorem nwk_16_4 : ∀ e, e < 7 → Nat.ble (nwc 16 4 e).length 31 = true := by decide +kernel
theorem nwk_16_5_0 : Nat.ble (nwc 16 5 0).length 31 = true := by decide +kernel
theorem nwk_16_5_1 : Nat.ble (nwc 16 5 1).length 31 = true := by decide +kernel
theorem nwk_16_5_2 : Nat.ble (nwc 16 5 2).length 31 = true := by decide +kernel
theorem nwk_16_5_3 : Nat.ble (nwc 16 5 3).length 31 = true := by decide +kernel
theorem nwk_16_5_4 : Nat.ble (nwc 16 5 4).length 31 = true := by decide +kernel
theorem nwk_16_5_5 : Nat.ble (nwc 16 5 5).length 31 = true := by decide +kernel
theorem nwk_16_5_6 : Nat.ble (nwc 16 5 6).length 31 = true := by decide +kernel
theorem nwk_16_5 : ∀ e, e < 7 → Nat.ble (nwc 16 5 e).length 31 = true := by
  intro e h
  have q : e = 0 ∨ e = 1 ∨ e = 2 ∨ e = 3 ∨ e = 4 ∨ e = 5 ∨ e = 6 := by omega
  rcases q with rfl | rfl | rfl | rfl | rfl | rfl | rfl
  · exact nwk_16_5_0
  · exact nwk_16_5_1
  · exact nwk_16_5_2
  · exact nwk_16_5_3
  · exact nwk_16_5_4
  · exact nwk_16_5_5
  · exact nwk_16_5_6
theorem nwk_16_6_0 : Nat.ble (nwc 16 6 0).length 31 = true := by decide +kernel
theorem nwk_16_6_1 : Nat.ble (nwc 16 6 1).length 31 = true := by decide +kernel
theorem nwk_16_6_2 : Nat.ble (nwc 16 6 2).length 31 = true := by decide +kernel
theorem nwk_16_6_3 : Nat.ble (nwc 16 6 3).length 31 = true := by decide +kernel
theorem nwk_16_6_4 : Nat.ble (nwc 16 6 4).length 31 = true := by decide +kernel
theorem nwk_16_6_5 : Nat.ble (nwc 16 6 5).length 31 = true := by decide +kernel
theorem nwk_16_6_6 : Nat.ble (nwc 16 6 6).length 31 = true := by decide +kernel
theorem nwk_16_6 : ∀ e, e < 7 → Nat.ble (nwc 16 6 e).length 31 = true := by
  intro e h
  have q : e = 0 ∨ e = 1 ∨ e = 2 ∨ e = 3 ∨ e = 4 ∨ e = 5 ∨ e = 6 := by omega
  rcases q with rfl | rfl | rfl | rfl | rfl | rfl | rfl
  · exact nwk_16_6_0
  · exact nwk_16_6_1
  · exact nwk_16_6_2
  · exact nwk_16_6_3
  · exact nwk_16_6_4
  · exact nwk_16_6_5
  · exact nwk_16_6_6
theorem nwk_16 : ∀ w, w < 7 → ∀ e, e < 7 → Nat.ble (nwc 16 w e).length 31 = true := by
  intro w h
  have q : w = 0 ∨ w = 1 ∨ w = 2 ∨ w = 3 ∨ w = 4 ∨ w = 5 ∨ w = 6 := by omega
  rcases q with rfl | rfl | rfl | rfl | rfl | rfl | rfl
  · exact nwk_16_0
  · exact nwk_16_1
  · exact nwk_16_2
  · exact nwk_16_3
  · exact nwk_16_4
  · exact nwk_16_5
  · exact nwk_16_6
theorem nwk_all {b w e : Nat} (hb : bOK b) (hw : w < 7) (he : e < 7) : (nwc b w e).length ≤ 31 := by
  obtain ⟨h1, h2⟩ := hb
  apply Nat.le_of_ble_eq_true
  have q : b = 2 ∨ b = 3 ∨ b = 4 ∨ b = 5 ∨ b = 6 ∨ b = 7 ∨ b = 8 ∨ b = 9 ∨ b = 10 ∨ b = 11 ∨ b = 12 ∨ b = 13 ∨ b = 14 ∨ b = 15 ∨ b = 16 := by omega
  rcases q with rfl | rfl | rfl | rfl | rfl | rfl | rfl | rfl | rfl | rfl | rfl | rfl | rfl | rfl | rfl
  · exact nwk_2 w hw e he
  · exact nwk_3 w hw e he
  · exact nwk_4 w hw e he
  · exact nwk_5 w hw e he
  · exact nwk_6 w hw e he
  · exact nwk_7 w hw e he
  · exact nwk_8 w hw e he
  · exact nwk_9 w hw e he
  · exact nwk_10 w hw e he
  · exact nwk_11 w hw e he
  · exact nwk_12 w hw e he
  · exact nwk_13 w hw e he
  · exact nwk_14 w hw e he
  · exact nwk_15 w hw e he
  · exact nwk_16 w hw e he
