/-! answers that are cells; Arrays.copyOf to a greater length -/
abbrev kQr (D : va_G) (cy : Nat → ClassId) (w1 : Nat → va_W) (A : Nat → Prop) : Array Value → State → Outcome → State → Prop := va_Qr (fun (_ : Unit) => True) (fun _ a t => kPost D cy A (w1 a) t) A
theorem kI_g {ι : Type} {w : va_W} {w1 : ι → va_W} (n : Nat) (hn : ∀ u, (w1 u).length = n) : kIn w w [] w1 w1 (List.range w.length) [] (List.range n) := ⟨k_range w, rfl, k_nd_range _, rfl, fun i h => (List.not_mem_nil h).elim, k_nd_range _, fun u => by rw [← hn u]; exact k_range (w1 u)⟩
theorem kent_r {l : Launch} {y : MethodName} {ws ws' : List Cond} {rm : Room} {D : va_G} {cy : Nat → ClassId} {av : List Value} {w : va_W} {w1 : Nat → va_W} {cc : ByteArray} {maxL : Nat} {rt : FieldType} (hrt : (∃ n, rt = .object n) ∨ ∃ t, rt = .array t) (hy : plainName y.cls = true) (hw : ws = Cond.code y cc maxL (some rt) :: ws') (hn : (lg_sl av).length ≤ maxL)
    (body : ∀ (p : Program) (e : Env) (s : State) (m : MethodId) (ar : Array Value) (below : List Frame) (meth : Method) (c : Code) (A : Nat → Prop) (Q : State → Prop) (ls : Array Slot), kX p s m ar meth c cc maxL (some rt) ws y.cls y.name → (∀ q, s.heap.size ≤ q → A q) → va_K D vwCl (kT cy) s → kN s →
      (∀ (a : Nat) (pc : Nat) (H : Heap) (locs : List Loc) (ls : Array Slot), decode cc pc = .ok (.areturn, 1) → va_P D vwCl (w1 a) H → va_D A (w1 a) → va_S A s.heap H locs → W p l e rm s m ar below meth c H locs rm.cells rm.slots Q (F0 m pc ls [.ref a])) →
      va_P D vwCl w s.heap → va_D A w → va_S A s.heap s.heap [] → lv_has ls maxL (lv_args 0 av) → W p l e rm s m ar below meth c s.heap [] 0 0 Q (F0 m 0 ls [])) : kM l y ws rm D cy av w (kQr D cy w1) := by
  refine k_ent hy hw hn ?_
  intro p e s m ar below meth c A ls C hA hK hN hP hD hS hl
  refine body p e s m ar below meth c A _ ls C hA hK hN (fun a pc H locs ls hd hP1 hD1 hS1 => ?_) hP hD hS hl
  obtain ⟨hx, hb, -, hr, -, -, hlocks, -⟩ := C
  exact W.aret (v := .ref a) hx hb hr hrt (Or.inr ⟨a, rfl⟩) (fun t ht hW => ⟨⟨(), a, rfl, trivial, by rw [ht]; exact hP1, va_K.moved hW.alike hK, hD1⟩, hS1.F ht⟩) hS1.2.2 hd hlocks
theorem kc_r {p : Program} {l : Launch} {e : Env} {R : Room} {s : State} {m : MethodId} {ar : Array Value} {below : List Frame} {meth : Method} {c : Code} {H : Heap} {locs : List Loc} {cells slots : Nat} {Q : State → Prop} {pc : Nat} {ls : Array Slot} {rest st0 : List Value} {A : Nat → Prop} {D : va_G} {cy : Nat → ClassId} {w wc wr : va_W} {wc1 w2 : Nat → va_W} {isC isR isP : List Nat} {a : Array Value} {mc ms : Nat} (run : va_Run p l e R s m ar below meth c H locs cells slots mc ms (F0 m pc ls st0) rest (kQr D cy wc1 (va_A wc H.size) a) (va_A wc H.size)) (hP : va_P D vwCl w H) (hD : va_D A w) (hS : va_S A s.heap H locs) (hA : ∀ q, s.heap.size ≤ q → A q) (hI : kIn w wc wr wc1 w2 isC isR isP)
    (kk : ∀ (q : Nat) (H1 : Heap) (locs1 : List Loc), va_P D vwCl (w2 q) H1 → va_D A (w2 q) → va_S A s.heap H1 locs1 → W p l e R s m ar below meth c H1 locs1 (cells + mc) (slots + ms) Q (F0 m (pc + 3) ls (.ref q :: rest))) : W p l e R s m ar below meth c H locs cells slots Q (F0 m pc ls st0) := by
  have hF := va_free (wc := wc) hD hS hA isC hI.1
  refine va_callr run hS (fun q _ h => hF q h) hF (fun x u t H1 locs1 ht hvm hw hB hz1 hk1 hS1 => ?_)
  obtain ⟨h1, h2⟩ := k_join hP hD hI hF hk1 ht hB
  exact kk u H1 locs1 h1 h2 hS1
abbrev rmCp (N : Nat) : Room := { frames := 1, cells := 1, slots := N, locals := 60 }
set_option maxHeartbeats 400000 in
set_option maxRecDepth 100000 in
theorem c_copyI {l : Launch} {D : va_G} {cy : Nat → ClassId} {a0 n0 N : Nat} {f : Nat → Int32} {x : Int32} (h0 : ¬ x < 0) (hN : x.toNatClampNeg = N) (h : n0 < N) (h2 : N ≤ 100000) : kM l yJ7_copyOf_59c91 wsJ7_copyOf_59c91 (rmCp N) D cy [.ref a0, .int x] [(a0, .inl (cy 0, n0, .inl f))] (kQr D cy (fun q => [(a0, .inl (cy 0, n0, .inl f)), (q, .inl (cy 0, N, .inl (va_cpy f (fun _ => 0) 0 0 n0)))])) := by
  refine kent_r (cc := cJ7_copyOf_59c91) (maxL := 3) (rt := .array .int) (Or.inr ⟨_, rfl⟩) (by decide) rfl (Nat.le_of_ble_eq_true rfl) ?_
  intro p e0 s m ar below meth c A Q ls ⟨hx, hb, hml, hr, hts, hown, hlocks, hnm⟩ hA hK hN2 hQ hP hD hS hl
  have hl : lv_has ls 3 [(0, .ref a0), (1, .int x)] := hl
  have hown : s.vm.findClass RJ7 = some m.cls := hown
  have ex : x = Int32.ofNat N := by
    obtain ⟨j, hj, e⟩ := nI_of h0
    rw [e, nI_clamp hj] at hN
    rw [e, hN]; rfl
  have harr : (Cond.arrayClass (newarray.typeOf .int)).before ar s = true := hts (.arrayClass .int) (by decide +kernel)
  refine lv_iload_n hx hb dJ7_copyOf_59c91_0 rfl (lv_at hl 1 rfl) ?_
  refine lv_aload_n hx hb dJ7_copyOf_59c91_1 rfl (lv_at hl 0 rfl) ?_
  refine va_alen (v := Int32.ofNat n0) hx hb hK hP 0 0 rfl rfl rfl dJ7_copyOf_59c91_2 ?_
  refine lv_icmp_ne (tgt := 14) hx hb dJ7_copyOf_59c91_3 (by decide) (fun c1 => ?_) (fun c1 => ?_)
  · refine lv_iload_n hx hb dJ7_copyOf_59c91_14 rfl (lv_at hl 1 rfl) ?_
    refine va_newa (a0 := (N, .inl (fun _ => 0))) (N' := N) (atype := .int) hx hb harr (ty := .int) rfl hK hP hD hS hA (fun _ => rfl) h0 hN (by show N * 4 ≤ _; omega) (Nat.le_refl 1) (by show 0 + N ≤ N; omega) dJ7_copyOf_59c91_15 (fun q cA H hK1 hP hD hS => ?_)
    have e1 : s.vm.findClass ("[" ++ (FieldType.int).toString) = some cA := (hK1.2 4 _ rfl).2
    have e2 : s.vm.findClass ("[" ++ (FieldType.int).toString) = some (cy 0) := (hK.2 0 _ rfl).2
    have e3 : cA = cy 0 := Option.some.inj (e1.symm.trans e2)
    subst e3
    have hP : va_P D vwCl [(a0, .inl (cy 0, n0, .inl f)), (q, .inl (cy 0, N, .inl (fun _ => 0)))] H := hP
    have hD : va_D A [(a0, .inl (cy 0, n0, .inl f)), (q, .inl (cy 0, N, .inl (fun _ => 0)))] := hD
    refine W.widen (k := 1) (n := N) (by omega) (by omega) ?_
    refine lv_astore_n (lv' := [(2, .ref q), (0, .ref a0), (1, .int x)]) hx hb dJ7_copyOf_59c91_17 rfl hl (by decide) rfl (fun ls hl => ?_)
    refine lv_aload_n hx hb dJ7_copyOf_59c91_18 rfl (lv_at hl 1 rfl) ?_
    refine lv_iconst (v := (0 : Int32)) hx hb dJ7_copyOf_59c91_19 (by decide) ?_
    refine lv_aload_n hx hb dJ7_copyOf_59c91_20 rfl (lv_at hl 0 rfl) ?_
    refine lv_iconst (v := (0 : Int32)) hx hb dJ7_copyOf_59c91_21 (by decide) ?_
    refine lv_aload_n hx hb dJ7_copyOf_59c91_22 rfl (lv_at hl 1 rfl) ?_
    refine va_alen (v := Int32.ofNat n0) hx hb hK hP 0 0 rfl rfl rfl dJ7_copyOf_59c91_23 ?_
    refine lv_iload_n hx hb dJ7_copyOf_59c91_24 rfl (lv_at hl 2 rfl) ?_
    refine va_mmin hx hb (hml.trans hl.1.symm) hown (hts (.methodLink RJ7 304 Lib.Math.min.name) (by decide +kernel)) (hts (.static Lib.Math.min.name) (by decide +kernel)) (hts (.initialized "java/lang/Math") (by decide +kernel)) (hts (.code Lib.Math.min.name Lib.Math.min.code 2 (some .int)) (by decide +kernel)) (Nat.le_of_ble_eq_true rfl) (Nat.le_of_ble_eq_true rfl) (Nat.le_refl 1) (Nat.le_refl N) dJ7_copyOf_59c91_25 ?_
    have hmin : (if x < Int32.ofNat n0 then x else Int32.ofNat n0) = nI n0 := by
      rw [if_neg]
      · rfl
      · rw [ex]; exact nI_nlt (Nat.le_of_lt h) (by omega)
    rw [hmin]
    have hcl : (nI n0).toNatClampNeg = n0 := nI_clamp (by omega)
    have hz : (0 : Int32).toNatClampNeg = 0 := rfl
    refine va_copyi hx hb (hml.trans hl.1.symm) hown (hts (.methodLink RJ7 150 arraycopyName) (by decide +kernel)) (hts (.native arraycopyName) (by decide +kernel)) (hts (.static arraycopyName) (by decide +kernel)) (hts (.initialized "java/lang/System") (by decide +kernel)) hK hP hD hS 0 1 0 0 (ty := .int) rfl rfl rfl rfl rfl (sp := 0) (dp := 0) (n := nI n0) (by decide) (by decide) (nI_pos (by omega)) (by rw [hcl, hz]; omega) (by rw [hcl, hz]; omega) (fun _ _ => rfl) (Nat.le_of_ble_eq_true rfl) (Nat.le_of_ble_eq_true rfl) dJ7_copyOf_59c91_28 (fun H locs hP hD hS => ?_)
    rw [hcl, hz] at hP hD
    have hP : va_P D vwCl [(a0, .inl (cy 0, n0, .inl f)), (q, .inl (cy 0, N, .inl (va_cpy f (fun _ => 0) 0 0 n0)))] H := hP
    have hD : va_D A [(a0, .inl (cy 0, n0, .inl f)), (q, .inl (cy 0, N, .inl (va_cpy f (fun _ => 0) 0 0 n0)))] := hD
    refine lv_aload_n hx hb dJ7_copyOf_59c91_31 rfl (lv_at hl 0 rfl) ?_
    exact hQ q 32 _ _ _ dJ7_copyOf_59c91_32 hP hD hS
  · refine absurd c1 (fun c1 => ?_)
    have e1 : x.toNatClampNeg = n0 := by rw [c1]; exact nI_clamp (by omega)
    omega
set_option maxHeartbeats 400000 in
set_option maxRecDepth 100000 in
theorem c_copyL {l : Launch} {D : va_G} {cy : Nat → ClassId} {a0 n0 N : Nat} {f : Nat → Int64} {x : Int32} (h0 : ¬ x < 0) (hN : x.toNatClampNeg = N) (h : n0 < N) (h2 : N ≤ 100000) : kM l yJ7_copyOf_c38d5 wsJ7_copyOf_c38d5 (rmCp N) D cy [.ref a0, .int x] [(a0, .inl (cy 1, n0, .inr (.inl f)))] (kQr D cy (fun q => [(a0, .inl (cy 1, n0, .inr (.inl f))), (q, .inl (cy 1, N, .inr (.inl (va_cpy f (fun _ => 0) 0 0 n0))))])) := by
  refine kent_r (cc := cJ7_copyOf_c38d5) (maxL := 3) (rt := .array .long) (Or.inr ⟨_, rfl⟩) (by decide) rfl (Nat.le_of_ble_eq_true rfl) ?_
  intro p e0 s m ar below meth c A Q ls ⟨hx, hb, hml, hr, hts, hown, hlocks, hnm⟩ hA hK hN2 hQ hP hD hS hl
  have hl : lv_has ls 3 [(0, .ref a0), (1, .int x)] := hl
  have hown : s.vm.findClass RJ7 = some m.cls := hown
  have ex : x = Int32.ofNat N := by
    obtain ⟨j, hj, e⟩ := nI_of h0
    rw [e, nI_clamp hj] at hN
    rw [e, hN]; rfl
  have harr : (Cond.arrayClass (newarray.typeOf .long)).before ar s = true := hts (.arrayClass .long) (by decide +kernel)
  refine lv_iload_n hx hb dJ7_copyOf_c38d5_0 rfl (lv_at hl 1 rfl) ?_
  refine lv_aload_n hx hb dJ7_copyOf_c38d5_1 rfl (lv_at hl 0 rfl) ?_
  refine va_alen (v := Int32.ofNat n0) hx hb hK hP 0 1 rfl rfl rfl dJ7_copyOf_c38d5_2 ?_
  refine lv_icmp_ne (tgt := 14) hx hb dJ7_copyOf_c38d5_3 (by decide) (fun c1 => ?_) (fun c1 => ?_)
  · refine lv_iload_n hx hb dJ7_copyOf_c38d5_14 rfl (lv_at hl 1 rfl) ?_
    refine va_newa (a0 := (N, .inr (.inl (fun _ => 0)))) (N' := N) (atype := .long) hx hb harr (ty := .long) rfl hK hP hD hS hA (fun _ => rfl) h0 hN (by show N * 8 ≤ _; omega) (Nat.le_refl 1) (by show 0 + N ≤ N; omega) dJ7_copyOf_c38d5_15 (fun q cA H hK1 hP hD hS => ?_)
    have e1 : s.vm.findClass ("[" ++ (FieldType.long).toString) = some cA := (hK1.2 4 _ rfl).2
    have e2 : s.vm.findClass ("[" ++ (FieldType.long).toString) = some (cy 1) := (hK.2 1 _ rfl).2
    have e3 : cA = cy 1 := Option.some.inj (e1.symm.trans e2)
    subst e3
    have hP : va_P D vwCl [(a0, .inl (cy 1, n0, .inr (.inl f))), (q, .inl (cy 1, N, .inr (.inl (fun _ => 0))))] H := hP
    have hD : va_D A [(a0, .inl (cy 1, n0, .inr (.inl f))), (q, .inl (cy 1, N, .inr (.inl (fun _ => 0))))] := hD
    refine W.widen (k := 1) (n := N) (by omega) (by omega) ?_
    refine lv_astore_n (lv' := [(2, .ref q), (0, .ref a0), (1, .int x)]) hx hb dJ7_copyOf_c38d5_17 rfl hl (by decide) rfl (fun ls hl => ?_)
    refine lv_aload_n hx hb dJ7_copyOf_c38d5_18 rfl (lv_at hl 1 rfl) ?_
    refine lv_iconst (v := (0 : Int32)) hx hb dJ7_copyOf_c38d5_19 (by decide) ?_
    refine lv_aload_n hx hb dJ7_copyOf_c38d5_20 rfl (lv_at hl 0 rfl) ?_
    refine lv_iconst (v := (0 : Int32)) hx hb dJ7_copyOf_c38d5_21 (by decide) ?_
    refine lv_aload_n hx hb dJ7_copyOf_c38d5_22 rfl (lv_at hl 1 rfl) ?_
    refine va_alen (v := Int32.ofNat n0) hx hb hK hP 0 1 rfl rfl rfl dJ7_copyOf_c38d5_23 ?_
    refine lv_iload_n hx hb dJ7_copyOf_c38d5_24 rfl (lv_at hl 2 rfl) ?_
    refine va_mmin hx hb (hml.trans hl.1.symm) hown (hts (.methodLink RJ7 304 Lib.Math.min.name) (by decide +kernel)) (hts (.static Lib.Math.min.name) (by decide +kernel)) (hts (.initialized "java/lang/Math") (by decide +kernel)) (hts (.code Lib.Math.min.name Lib.Math.min.code 2 (some .int)) (by decide +kernel)) (Nat.le_of_ble_eq_true rfl) (Nat.le_of_ble_eq_true rfl) (Nat.le_refl 1) (Nat.le_refl N) dJ7_copyOf_c38d5_25 ?_
    have hmin : (if x < Int32.ofNat n0 then x else Int32.ofNat n0) = nI n0 := by
      rw [if_neg]
      · rfl
      · rw [ex]; exact nI_nlt (Nat.le_of_lt h) (by omega)
    rw [hmin]
    have hcl : (nI n0).toNatClampNeg = n0 := nI_clamp (by omega)
    have hz : (0 : Int32).toNatClampNeg = 0 := rfl
    refine va_copyl hx hb (hml.trans hl.1.symm) hown (hts (.methodLink RJ7 150 arraycopyName) (by decide +kernel)) (hts (.native arraycopyName) (by decide +kernel)) (hts (.static arraycopyName) (by decide +kernel)) (hts (.initialized "java/lang/System") (by decide +kernel)) hK hP hD hS 0 1 1 1 (ty := .long) rfl rfl rfl rfl rfl (sp := 0) (dp := 0) (n := nI n0) (by decide) (by decide) (nI_pos (by omega)) (by rw [hcl, hz]; omega) (by rw [hcl, hz]; omega) (fun _ _ => rfl) (Nat.le_of_ble_eq_true rfl) (Nat.le_of_ble_eq_true rfl) dJ7_copyOf_c38d5_28 (fun H locs hP hD hS => ?_)
    rw [hcl, hz] at hP hD
    have hP : va_P D vwCl [(a0, .inl (cy 1, n0, .inr (.inl f))), (q, .inl (cy 1, N, .inr (.inl (va_cpy f (fun _ => 0) 0 0 n0))))] H := hP
    have hD : va_D A [(a0, .inl (cy 1, n0, .inr (.inl f))), (q, .inl (cy 1, N, .inr (.inl (va_cpy f (fun _ => 0) 0 0 n0))))] := hD
    refine lv_aload_n hx hb dJ7_copyOf_c38d5_31 rfl (lv_at hl 0 rfl) ?_
    exact hQ q 32 _ _ _ dJ7_copyOf_c38d5_32 hP hD hS
  · refine absurd c1 (fun c1 => ?_)
    have e1 : x.toNatClampNeg = n0 := by rw [c1]; exact nI_clamp (by omega)
    omega
