/-! THE CLAIM OUT OF ONE WALK OF THE LAW'S BODY. Your part is whole_start (and what it stands on); all else here is the same for every law, but numbers. -/
def R_law : String := "FigurePlayLaw"
def lw_P (b : Addr) (xs : List Int32) (args : Array Value) (s : State) : Prop := args = #[.ref b] ∧ s.IntsAt b xs ∧ xs.length ≤ 3072 ∧ (Jvm.Cond.and given_1 narrow_1).before args s = true
def lw_Q (_ : Array Value) (s : State) (o : Outcome) (t : State) : Prop := o = .returned (some (.int 1)) ∧ Framed s o t [] 600000 7302250
def lw_Z (below : List Frame) (a : Array Value) (s : State) : State → Prop := fun t => ∃ o, t.status = .running ∧ Ended t below o ∧ lw_Q a s o t
/-- the law's own end, with 1 on the stack, nothing written that was there before, its room as the claim has it -/
theorem lw_ret {p : Program} {l : Launch} {e : Env} {s : State} {m : MethodId} {below : List Frame} {meth : Method} {c : Code} {b : Nat} (hx : p.tables.exec = Jvm.exec) (hb : c.code = code) (hr : meth.sig.returnType = ret) (hlocks : meth.locks = false) {pc : Nat} {H : Heap} {ls : Array Slot} (hdg : decode code pc = .ok (.ireturn, 1)) : W p l e room_1 s m #[Value.ref b] below meth c H [] 600000 7302250 (lw_Z below #[Value.ref b] s) (F0 m pc ls [.int 1]) := by
  intro T hT X
  obtain ⟨fs, hret, hrun, hended, hW, hframe⟩ := X.leave (v := some (.int 1)) (hlocks := hlocks) (fun h => by rw [hr] at h; cases h)
  have hmeth' : T.vm.method? m = some meth := X.method'
  refine ⟨T.setFrames fs, ?_, .returned (some (.int 1)), hrun, hended, rfl, ⟨_, rfl⟩, hW, hframe⟩
  jvm_step X.here [X.here.top, hx, hb, hdg, hmeth', hr, ret, narrow_b1]
  (try refine ⟨rfl, ?_⟩); (try refine ⟨rfl, ?_⟩)
  first | (intro acts; rw [hret _ acts rfl rfl rfl]) | rw [hret _ _ rfl rfl rfl]
  exact Steps.refl _
/-- what holds at the law's entry: the machine, the code, the tables' words (any of lw_tbl by 'hts w (by decide +kernel)'), the script of L ints xs at the cell b, what the Statement gives of the start (any of its parts by flat_of_before) -/
def lw_At (p : Program) (s : State) (m : MethodId) (meth : Method) (c : Code) (b L : Nat) (xs : Nat → Int32) : Prop :=
  p.tables.exec = Jvm.exec ∧ c.code = code ∧ meth.sig.returnType = ret ∧ c.maxLocals = 4 ∧ s.vm.findClass R_law = some m.cls ∧ (∀ w ∈ lw_tbl, w.before #[Value.ref b] s = true) ∧ va_X b L xs s s.heap ∧ b < s.heap.size ∧ meth.locks = false ∧ (Jvm.Cond.and given_1 narrow_1).before #[Value.ref b] s = true
theorem XS_mo {F : Nat} {cy : Nat → ClassId} {b : Nat} {tb : Nat → Nat} {N aX C S : Nat} {w : va_W} (h : XS F cy b tb N aX C S w) : XS F cy b tb (N + 1) aX C S w := by
  obtain ⟨V, qX, qG, qP, qR, oS, oB, oE, oN, oL, xw, worth, row, many, told, sz, pt, pr, wO, e1, e2, hb, hw, hV, hO⟩ := h
  exact ⟨V, qX, qG, qP, qR, oS, oB, oE, oN, oL, xw, worth, row, many, told, sz, pt, pr, wO, e1, e2, hb, hw, by omega, OP_mo hO (by omega)⟩
theorem XS_bd {F : Nat} {cy : Nat → ClassId} {b : Nat} {tb : Nat → Nat} {N aX C S : Nat} {w : va_W} (h : XS F cy b tb N aX C S w) : C ≤ 262100 ∧ S ≤ 1000000 := by
  obtain ⟨V, qX, qG, qP, qR, oS, oB, oE, oN, oL, xw, worth, row, many, told, sz, pt, pr, wO, e1, e2, hb, hw, hV, hO⟩ := h
  exact OP_bd hO
theorem lw_neg : ∀ k, k < 6 → (Int32.ofNat k - 6).toInt < 0 := by decide
theorem lw_lt {L N : Nat} (hL : L ≤ 3072) (hN : 6 * N ≤ L) (h : ¬ Int32.ofNat L - 6 < nI (6 * N)) : 6 * N + 6 ≤ L := by
  rcases Nat.lt_or_ge L 6 with z | z
  · refine absurd (Int32.lt_iff_toInt_lt.mpr ?_) h
    have := lw_neg L z
    rw [nI_toInt (by omega)]
    omega
  · have e : Int32.ofNat L - 6 = nI (L - 6) := by
      have h6 := nI_add (L - 6) 6
      rw [show L - 6 + 6 = L by omega] at h6
      show nI L - nI 6 = nI (L - 6)
      rw [← h6]
      exact Int32.add_sub_cancel _ _
    rw [e] at h
    rcases Nat.lt_or_ge (L - 6) (6 * N) with y | y
    · exact absurd (nI_lt y (by omega)) h
    · omega
theorem lw_32 {j : Nat} (h : j < 2 ^ 5) : j = 0 ∨ j = 1 ∨ j = 2 ∨ j = 3 ∨ j = 4 ∨ j = 5 ∨ j = 6 ∨ j = 7 ∨ j = 8 ∨ j = 9 ∨ j = 10 ∨ j = 11 ∨ j = 12 ∨ j = 13 ∨ j = 14 ∨ j = 15 ∨ j = 16 ∨ j = 17 ∨ j = 18 ∨ j = 19 ∨ j = 20 ∨ j = 21 ∨ j = 22 ∨ j = 23 ∨ j = 24 ∨ j = 25 ∨ j = 26 ∨ j = 27 ∨ j = 28 ∨ j = 29 ∨ j = 30 ∨ j = 31 := by omega
set_option maxHeartbeats 4000000 in
theorem law_loop {p : Program} {l : Launch} {e : Env} {s : State} {m : MethodId} {below : List Frame} {meth : Method} {c : Code} {D : va_G} {cy : Nat → ClassId} {a L : Nat} {xs : Nat → Int32} {F aX aM : Nat} (hL : L ≤ 3072) (hr : meth.sig.returnType = ret) (hlocks : meth.locks = false) (Sx : CallFix p m c cL_law 4 s #[Value.ref a] wsL_law RL) (hX : va_X a L xs s s.heap) (hbl : a < s.heap.size) (hK : va_K D vwCl (kT cy) s) (hN : kN s) (hF : 20000000 ≤ F) :
    ∀ (n N b : Nat) (tb : Nat → Nat) (C S : Nat) (w v : va_W) (H : Heap) (locs : List Loc) (ls : Array Slot), 6 * N ≤ L → L < 6 * N + 6 * n → XS F cy b tb N aX C S w → MS' cy b tb aM v → va_P D vwCl (w ++ v) H → va_D (fun q : Nat => s.heap.size ≤ q) (w ++ v) → va_S (fun q : Nat => s.heap.size ≤ q) s.heap H locs → lv_has ls 4 [(0, .ref a), (1, .ref aX), (2, .ref aM), (3, .int (nI (6 * N)))] → W p l e room_1 s m #[Value.ref a] below meth c H locs (22 + C) (214352 + S) (lw_Z below #[Value.ref a] s) (F0 m 18 ls []) := by
  obtain ⟨hx, hb, hml, hown, hts⟩ := id Sx
  have hbA : ¬ (fun q : Nat => s.heap.size ≤ q) a := Nat.not_le.mpr hbl
  intro n
  induction n with
  | zero =>
    intro N b tb C S w v H locs ls h1 h2
    exact absurd h2 (by omega)
  | succ n ih =>
    intro N b tb C S w v H locs ls h1 h2 hXS hMS hP hD hS hl
    have hbd := XS_bd hXS
    refine lv_iload_n hx hb dL_law_18 rfl (lv_at hl 3 rfl) ?_
    refine lv_aload_n hx hb dL_law_19 rfl (lv_at hl 0 rfl) ?_
    refine va_slen hx hb hX hbl hbA hS dL_law_20 ?_
    refine lv_bipush (v := 6) hx hb dL_law_21 (by decide) ?_
    refine lv_isub hx hb dL_law_23 ?_
    refine lv_icmp_gt (tgt := 1414) hx hb dL_law_24 (by decide) (fun _ => ?_) (fun c1 => ?_)
    · refine lv_iconst (v := 1) hx hb dL_law_1414 (by decide) ?_
      refine va_forget (fun q hq => hS.2.2 q hq) ?_
      refine W.widen (k := 600000) (n := 7302250) (by omega) (by omega) ?_
      exact lw_ret hx hb hr hlocks dL_law_1415
    · have hlt : 6 * N + 6 ≤ L := lw_lt hL h1 c1
      have hi : vp_in (nI (6 * N) + 1) L ∧ vp_in (nI (6 * N) + 2) L ∧ vp_in (nI (6 * N) + 3) L ∧ vp_in (nI (6 * N) + 4) L ∧ vp_in (nI (6 * N) + 5) L := by
        refine ⟨?_, ?_, ?_, ?_, ?_⟩
        · rw [show nI (6 * N) + 1 = nI (6 * N + 1) from nI_add _ 1]; exact vp_in_nI (by omega) (by omega)
        · rw [show nI (6 * N) + 2 = nI (6 * N + 2) from nI_add _ 2]; exact vp_in_nI (by omega) (by omega)
        · rw [show nI (6 * N) + 3 = nI (6 * N + 3) from nI_add _ 3]; exact vp_in_nI (by omega) (by omega)
        · rw [show nI (6 * N) + 4 = nI (6 * N + 4) from nI_add _ 4]; exact vp_in_nI (by omega) (by omega)
        · rw [show nI (6 * N) + 5 = nI (6 * N + 5) from nI_add _ 5]; exact vp_in_nI (by omega) (by omega)
      refine lv_aload_n hx hb dL_law_27 rfl (lv_at hl 0 rfl) ?_
      refine lv_iload_n hx hb dL_law_28 rfl (lv_at hl 3 rfl) ?_
      refine va_sld hx hb hX hbl hbA hS (vp_in_nI (show 6 * N < L by omega) (by omega)) dL_law_29 ?_
      refine lv_bipush (v := 31) hx hb dL_law_30 (by decide) ?_
      refine lv_iand hx hb dL_law_32 ?_
      obtain ⟨j, hj, ej⟩ := pk_andE (xs (nI (6 * N)).toNatClampNeg) (m := 31) 5 (by decide)
      rw [ej]
      have kk : ∀ (b' : Nat) (tb' : Nat → Nat) (C' S' : Nat) (w' v' : va_W) (H : Heap) (locs : List Loc), XS F cy b' tb' (N + 1) aX C' S' w' → MS' cy b' tb' aM v' → va_P D vwCl (w' ++ v') H → va_D (fun q : Nat => s.heap.size ≤ q) (w' ++ v') → va_S (fun q : Nat => s.heap.size ≤ q) s.heap H locs → W p l e room_1 s m #[Value.ref a] below meth c H locs (22 + C') (214352 + S') (lw_Z below #[Value.ref a] s) (F0 m 1408 ls []) := by
        intro b' tb' C' S' w' v' H locs hX' hM' hP hD hS
        refine lv_iinc (v := nI (6 * (N + 1))) (lv' := [(3, .int (nI (6 * (N + 1)))), (0, .ref a), (1, .ref aX), (2, .ref aM)]) hx hb dL_law_1408 hl (k := 3) rfl (by rw [show Int32.ofInt 6 = nI 6 by decide]; exact (nI_add (6 * N) 6).trans (congrArg nI (by omega))) (by decide) rfl (fun ls hl => ?_)
        refine lv_goto (tgt := 18) hx hb dL_law_1411 (by decide) ?_
        exact ih (N + 1) b' tb' C' S' w' v' H locs ls (by omega) (by omega) hX' hM' hP hD hS (lv_sub hl [1, 2, 3, 0] rfl)
      rcases lw_32 hj with rfl | rfl | rfl | rfl | rfl | rfl | rfl | rfl | rfl | rfl | rfl | rfl | rfl | rfl | rfl | rfl | rfl | rfl | rfl | rfl | rfl | rfl | rfl | rfl | rfl | rfl | rfl | rfl | rfl | rfl | rfl | rfl
      · exact lv_tableIn (off := 119) (tgt := 152) hx hb dL_law_33 (by decide +kernel) (by decide +kernel) (by decide +kernel) (by decide) (law_0 Sx hX hbl hK hN hF (by omega) hi hXS hMS hP hD hS hl kk)
      · exact lv_tableIn (off := 142) (tgt := 175) hx hb dL_law_33 (by decide +kernel) (by decide +kernel) (by decide +kernel) (by decide) (law_1 Sx hX hbl hK hN hF (by omega) hi hXS hMS hP hD hS hl kk)
      · exact lv_tableIn (off := 175) (tgt := 208) hx hb dL_law_33 (by decide +kernel) (by decide +kernel) (by decide +kernel) (by decide) (law_2 Sx hX hbl hK hN hF (by omega) hi hXS hMS hP hD hS hl kk)
      · exact lv_tableIn (off := 238) (tgt := 271) hx hb dL_law_33 (by decide +kernel) (by decide +kernel) (by decide +kernel) (by decide) (law_3 Sx hX hbl hK hN hF (by omega) hi hXS hMS hP hD hS hl kk)
      · exact lv_tableIn (off := 302) (tgt := 335) hx hb dL_law_33 (by decide +kernel) (by decide +kernel) (by decide +kernel) (by decide) (law_4 Sx hX hbl hK hN hF (by omega) hi hXS hMS hP hD hS hl kk)
      · exact lv_tableIn (off := 375) (tgt := 408) hx hb dL_law_33 (by decide +kernel) (by decide +kernel) (by decide +kernel) (by decide) (law_5 Sx hX hbl hK hN hF (by omega) hi hXS hMS hP hD hS hl kk)
      · exact lv_tableIn (off := 449) (tgt := 482) hx hb dL_law_33 (by decide +kernel) (by decide +kernel) (by decide +kernel) (by decide) (law_6 Sx hX hbl hK hN hF (by omega) hi hXS hMS hP hD hS hl kk)
      · exact lv_tableIn (off := 493) (tgt := 526) hx hb dL_law_33 (by decide +kernel) (by decide +kernel) (by decide +kernel) (by decide) (law_7 Sx hX hbl hK hN hF (by omega) hi hXS hMS hP hD hS hl kk)
      · exact lv_tableIn (off := 536) (tgt := 569) hx hb dL_law_33 (by decide +kernel) (by decide +kernel) (by decide +kernel) (by decide) (law_8 Sx hX hbl hK hN hF (by omega) hi hXS hMS hP hD hS hl kk)
      · exact lv_tableIn (off := 579) (tgt := 612) hx hb dL_law_33 (by decide +kernel) (by decide +kernel) (by decide +kernel) (by decide) (law_9 Sx hX hbl hK hN hF (by omega) hi hXS hMS hP hD hS hl kk)
      · exact lv_tableIn (off := 622) (tgt := 655) hx hb dL_law_33 (by decide +kernel) (by decide +kernel) (by decide +kernel) (by decide) (law_10 Sx hX hbl hK hN hF (by omega) hi hXS hMS hP hD hS hl kk)
      · exact lv_tableIn (off := 705) (tgt := 738) hx hb dL_law_33 (by decide +kernel) (by decide +kernel) (by decide +kernel) (by decide) (law_11 Sx hX hbl hK hN hF (by omega) hi hXS hMS hP hD hS hl kk)
      · exact lv_tableIn (off := 788) (tgt := 821) hx hb dL_law_33 (by decide +kernel) (by decide +kernel) (by decide +kernel) (by decide) (law_12 Sx hX hbl hK hN hF (by omega) hi hXS hMS hP hD hS hl kk)
      · exact lv_tableIn (off := 841) (tgt := 874) hx hb dL_law_33 (by decide +kernel) (by decide +kernel) (by decide +kernel) (by decide) (law_13 Sx hX hbl hK hN hF (by omega) hi hXS hMS hP hD hS hl kk)
      · exact lv_tableIn (off := 895) (tgt := 928) hx hb dL_law_33 (by decide +kernel) (by decide +kernel) (by decide +kernel) (by decide) (law_14 Sx hX hbl hK hN hF (by omega) hi hXS hMS hP hD hS hl kk)
      · exact lv_tableIn (off := 949) (tgt := 982) hx hb dL_law_33 (by decide +kernel) (by decide +kernel) (by decide +kernel) (by decide) (law_15 Sx hX hbl hK hN hF (by omega) hi hXS hMS hP hD hS hl kk)
      · exact lv_tableIn (off := 1003) (tgt := 1036) hx hb dL_law_33 (by decide +kernel) (by decide +kernel) (by decide +kernel) (by decide) (law_16 Sx hX hbl hK hN hF (by omega) hi hXS hMS hP hD hS hl kk)
      · exact lv_tableIn (off := 1026) (tgt := 1059) hx hb dL_law_33 (by decide +kernel) (by decide +kernel) (by decide +kernel) (by decide) (law_17 Sx hX hbl hK hN hF (by omega) hi hXS hMS hP hD hS hl kk)
      · exact lv_tableIn (off := 1080) (tgt := 1113) hx hb dL_law_33 (by decide +kernel) (by decide +kernel) (by decide +kernel) (by decide) (law_18 Sx hX hbl hK hN hF (by omega) hi hXS hMS hP hD hS hl kk)
      · exact lv_tableIn (off := 1123) (tgt := 1156) hx hb dL_law_33 (by decide +kernel) (by decide +kernel) (by decide +kernel) (by decide) (law_19 Sx hX hbl hK hN hF (by omega) hi hXS hMS hP hD hS hl kk)
      · exact lv_tableIn (off := 1166) (tgt := 1199) hx hb dL_law_33 (by decide +kernel) (by decide +kernel) (by decide +kernel) (by decide) (law_20 Sx hX hbl hK hN hF (by omega) hi hXS hMS hP hD hS hl kk)
      · exact lv_tableIn (off := 1209) (tgt := 1242) hx hb dL_law_33 (by decide +kernel) (by decide +kernel) (by decide +kernel) (by decide) (law_21 Sx hX hbl hK hN hF (by omega) hi hXS hMS hP hD hS hl kk)
      · exact lv_tableIn (off := 1242) (tgt := 1275) hx hb dL_law_33 (by decide +kernel) (by decide +kernel) (by decide +kernel) (by decide) (law_22 Sx hX hbl hK hN hF (by omega) hi hXS hMS hP hD hS hl kk)
      · exact lv_tableIn (off := 1286) (tgt := 1319) hx hb dL_law_33 (by decide +kernel) (by decide +kernel) (by decide +kernel) (by decide) (law_23 Sx hX hbl hK hN hF (by omega) hi hXS hMS hP hD hS hl kk)
      · exact lv_tableIn (off := 1319) (tgt := 1352) hx hb dL_law_33 (by decide +kernel) (by decide +kernel) (by decide +kernel) (by decide) (law_24 Sx hX hbl hK hN hF (by omega) hi hXS hMS hP hD hS hl kk)
      · exact lv_tableIn (off := 1352) (tgt := 1385) hx hb dL_law_33 (by decide +kernel) (by decide +kernel) (by decide +kernel) (by decide) (law_25 Sx hX hbl hK hN hF (by omega) hi hXS hMS hP hD hS hl kk)
      · exact lv_tableOut (tgt := 1408) hx hb dL_law_33 (Or.inr (by decide +kernel)) (by decide) (kk b tb C S w v H locs (XS_mo hXS) hMS hP hD hS)
      · exact lv_tableOut (tgt := 1408) hx hb dL_law_33 (Or.inr (by decide +kernel)) (by decide) (kk b tb C S w v H locs (XS_mo hXS) hMS hP hD hS)
      · exact lv_tableOut (tgt := 1408) hx hb dL_law_33 (Or.inr (by decide +kernel)) (by decide) (kk b tb C S w v H locs (XS_mo hXS) hMS hP hD hS)
      · exact lv_tableOut (tgt := 1408) hx hb dL_law_33 (Or.inr (by decide +kernel)) (by decide) (kk b tb C S w v H locs (XS_mo hXS) hMS hP hD hS)
      · exact lv_tableOut (tgt := 1408) hx hb dL_law_33 (Or.inr (by decide +kernel)) (by decide) (kk b tb C S w v H locs (XS_mo hXS) hMS hP hD hS)
      · exact lv_tableOut (tgt := 1408) hx hb dL_law_33 (Or.inr (by decide +kernel)) (by decide) (kk b tb C S w v H locs (XS_mo hXS) hMS hP hD hS)
