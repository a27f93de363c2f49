/-! worlds as groups of cells: some of them chosen, in another order -/
def Sel (w w' : va_W) : Prop := ∃ g : Nat → Nat, (∀ (k : Nat) (q : Nat × va_E), w'[k]? = some q → w[g k]? = some q) ∧ ∀ (i j : Nat) (p q : Nat × va_E), w'[i]? = some p → w'[j]? = some q → g i = g j → i = j
theorem Sel_P {D : va_G} {cl : List vw_C} {w w' : va_W} {H : Heap} (h : Sel w w') (hP : va_P D cl w H) : va_P D cl w' H := by
  obtain ⟨g, h1, _⟩ := h
  exact hP.by g h1
theorem Sel_D {A : Nat → Prop} {w w' : va_W} (h : Sel w w') (hD : va_D A w) : va_D A w' := by
  obtain ⟨g, h1, h2⟩ := h
  exact ⟨fun i j p q hi hj e => h2 i j p q hi hj (hD.1 _ _ p q (h1 i p hi) (h1 j q hj) e), fun k q hk => hD.2 _ q (h1 k q hk)⟩
theorem Sel_refl (w : va_W) : Sel w w := ⟨id, fun _ _ h => h, fun _ _ _ _ _ _ h => h⟩
theorem Sel_trans {a b c : va_W} (h1 : Sel a b) (h2 : Sel b c) : Sel a c := by
  obtain ⟨g1, p1, q1⟩ := h1
  obtain ⟨g2, p2, q2⟩ := h2
  exact ⟨fun k => g1 (g2 k), fun k q h => p1 _ q (p2 k q h), fun i j p q hi hj e => q2 i j p q hi hj (q1 _ _ p q (p2 i p hi) (p2 j q hj) e)⟩
def off : List va_W → Nat → Nat
  | [], _ => 0
  | _ :: _, 0 => 0
  | w :: G, a + 1 => w.length + off G a
def jf : List va_W → va_W
  | [] => []
  | w :: G => w ++ jf G
theorem jf_at : ∀ (G : List va_W) (a o : Nat) (w : va_W) (q : Nat × va_E), G[a]? = some w → w[o]? = some q → (jf G)[off G a + o]? = some q
  | [], a, o, w, q, h, _ => by simp at h
  | v :: G, 0, o, w, q, h, hq => by
    rw [List.getElem?_cons_zero] at h
    injection h with h
    subst h
    show (v ++ jf G)[0 + o]? = some q
    rw [Nat.zero_add, List.getElem?_append_left (List.getElem?_eq_some_iff.mp hq).1]
    exact hq
  | v :: G, a + 1, o, w, q, h, hq => by
    rw [List.getElem?_cons_succ] at h
    have ih := jf_at G a o w q h hq
    show (v ++ jf G)[v.length + off G a + o]? = some q
    rw [List.getElem?_append_right (by omega), show v.length + off G a + o - v.length = off G a + o by omega]
    exact ih
theorem jf_of : ∀ (G : List va_W) (k : Nat) (q : Nat × va_E), (jf G)[k]? = some q → ∃ a o w, G[a]? = some w ∧ w[o]? = some q ∧ k = off G a + o
  | [], k, q, h => by simp [jf] at h
  | v :: G, k, q, h => by
    have h' : (v ++ jf G)[k]? = some q := h
    rcases Nat.lt_or_ge k v.length with z | z
    · rw [List.getElem?_append_left z] at h'
      exact ⟨0, k, v, rfl, h', by show k = 0 + k; omega⟩
    · rw [List.getElem?_append_right z] at h'
      obtain ⟨a, o, w, h1, h2, h3⟩ := jf_of G _ q h'
      exact ⟨a + 1, o, w, by rw [List.getElem?_cons_succ]; exact h1, h2, by show k = v.length + off G a + o; omega⟩
theorem off_inj : ∀ (G : List va_W) (a a' o o' : Nat) (w w' : va_W), G[a]? = some w → G[a']? = some w' → o < w.length → o' < w'.length → off G a + o = off G a' + o' → a = a' ∧ o = o'
  | [], a, _, _, _, w, _, h, _, _, _, _ => by simp at h
  | v :: G, 0, 0, o, o', w, w', _, _, _, _, e => by
    have e' : 0 + o = 0 + o' := e
    exact ⟨rfl, by omega⟩
  | v :: G, 0, a' + 1, o, o', w, w', h, _, ho, _, e => by
    rw [List.getElem?_cons_zero] at h
    injection h with h
    subst h
    have e' : 0 + o = v.length + off G a' + o' := e
    omega
  | v :: G, a + 1, 0, o, o', w, w', _, h, _, ho, e => by
    rw [List.getElem?_cons_zero] at h
    injection h with h
    subst h
    have e' : v.length + off G a + o = 0 + o' := e
    omega
  | v :: G, a + 1, a' + 1, o, o', w, w', h, h', ho, ho', e => by
    rw [List.getElem?_cons_succ] at h h'
    have e' : v.length + off G a + o = v.length + off G a' + o' := e
    obtain ⟨h1, h2⟩ := off_inj G a a' o o' w w' h h' ho ho' (by omega)
    exact ⟨by omega, h2⟩
theorem Sel_G {G G' : List va_W} (is : List Nat) (hs : is.map (fun i => G[i]?) = G'.map some) (hn : va_nd is = true) : Sel (jf G) (jf G') := by
  have key : ∀ (k : Nat) (w : va_W), G'[k]? = some w → ∃ i, is[k]? = some i ∧ G[i]? = some w := by
    intro k w hk
    have h1 : (is.map (fun i => G[i]?))[k]? = some (some w) := by rw [hs, List.getElem?_map, hk]; rfl
    rw [List.getElem?_map] at h1
    cases hi : is[k]? with
    | none => rw [hi] at h1; cases h1
    | some i => rw [hi] at h1; exact ⟨i, rfl, Option.some.inj h1⟩
  have pick : ∀ k : Nat, ∃ p : Nat, ∀ q, (jf G')[k]? = some q → ∃ a o w i, G'[a]? = some w ∧ w[o]? = some q ∧ k = off G' a + o ∧ is[a]? = some i ∧ G[i]? = some w ∧ p = off G i + o := by
    intro k
    cases h : (jf G')[k]? with
    | none => exact ⟨0, fun q hq => by cases hq⟩
    | some q0 =>
      obtain ⟨a, o, w, h1, h2, h3⟩ := jf_of G' k q0 h
      obtain ⟨i, h4, h5⟩ := key a w h1
      refine ⟨off G i + o, fun q hq => ?_⟩
      injection hq with hq
      subst hq
      exact ⟨a, o, w, i, h1, h2, h3, h4, h5, rfl⟩
  refine ⟨fun k => (pick k).choose, fun k q hk => ?_, fun i j p q hi hj e => ?_⟩
  · obtain ⟨a, o, w, i, h1, h2, h3, h4, h5, h6⟩ := (pick k).choose_spec q hk
    show (jf G)[(pick k).choose]? = some q
    rw [h6]
    exact jf_at G i o w q h5 h2
  · obtain ⟨a, o, w, x, h1, h2, h3, h4, h5, h6⟩ := (pick i).choose_spec p hi
    obtain ⟨a', o', w', x', g1, g2, g3, g4, g5, g6⟩ := (pick j).choose_spec q hj
    have e' : off G x + o = off G x' + o' := by rw [← h6, ← g6]; exact e
    obtain ⟨r1, r2⟩ := off_inj G x x' o o' w w' h5 g5 (List.getElem?_eq_some_iff.mp h2).1 (List.getElem?_eq_some_iff.mp g2).1 e'
    subst r1
    have := va_nd_inj is hn a a' x h4 g4
    rw [h3, g3, this, r2]
/-- groups without the empty end -/
def jn : List va_W → va_W
  | [] => []
  | [w] => w
  | w :: v :: G => w ++ jn (v :: G)
theorem jn_eq : ∀ (G : List va_W), jn G = jf G
  | [] => rfl
  | [w] => (List.append_nil w).symm
  | w :: v :: G => by
    show w ++ jn (v :: G) = w ++ jf (v :: G)
    rw [jn_eq (v :: G)]
theorem Sel_J {G G' : List va_W} (is : List Nat) (hs : is.map (fun i => G[i]?) = G'.map some) (hn : va_nd is = true) : Sel (jn G) (jn G') := by
  rw [jn_eq, jn_eq]
  exact Sel_G is hs hn
theorem Sel_sw (a b : va_W) : Sel (a ++ b) (b ++ a) := Sel_J (G := [a, b]) (G' := [b, a]) [1, 0] rfl (by decide)
theorem Sel_app {w w' : va_W} (v : va_W) (h : Sel w w') : Sel (w ++ v) (w' ++ v) := by
  obtain ⟨g, h1, h2⟩ := h
  refine ⟨fun k => if k < w'.length then g k else w.length + (k - w'.length), fun k q hk => ?_, fun i j p q hi hj e => ?_⟩
  · dsimp only
    by_cases z : k < w'.length
    · rw [List.getElem?_append_left z] at hk
      have := h1 k q hk
      rw [if_pos z, List.getElem?_append_left (List.getElem?_eq_some_iff.mp this).1]
      exact this
    · rw [List.getElem?_append_right (by omega)] at hk
      rw [if_neg z, List.getElem?_append_right (by omega), show w.length + (k - w'.length) - w.length = k - w'.length by omega]
      exact hk
  · dsimp only at e
    by_cases z : i < w'.length
    · rw [List.getElem?_append_left z] at hi
      have hgi := (List.getElem?_eq_some_iff.mp (h1 i p hi)).1
      rw [if_pos z] at e
      by_cases y : j < w'.length
      · rw [List.getElem?_append_left y] at hj
        rw [if_pos y] at e
        exact h2 i j p q hi hj e
      · rw [if_neg y] at e
        omega
    · rw [if_neg z] at e
      by_cases y : j < w'.length
      · rw [List.getElem?_append_left y] at hj
        have hgj := (List.getElem?_eq_some_iff.mp (h1 j q hj)).1
        rw [if_pos y] at e
        omega
      · rw [if_neg y] at e
        omega
/-! a call whose cells stand first in the world -/
theorem kI_C (wc wr : va_W) : (List.range wc.length).map (fun i => (wc ++ wr)[i]?) = wc.map some := by
  apply List.ext_getElem?
  intro k
  rw [List.getElem?_map, List.getElem?_map]
  rcases Nat.lt_or_ge k wc.length with z | z
  · rw [List.getElem?_range z, Option.map_some, List.getElem?_append_left z, List.getElem?_eq_getElem z]
    rfl
  · rw [List.getElem?_eq_none (by rw [List.length_range]; exact z), List.getElem?_eq_none z]
    rfl
theorem kI_R (wc wr : va_W) : ((List.range wr.length).map (fun i => wc.length + i)).map (fun i => (wc ++ wr)[i]?) = wr.map some := by
  apply List.ext_getElem?
  intro k
  rw [List.getElem?_map, List.getElem?_map, List.getElem?_map]
  rcases Nat.lt_or_ge k wr.length with z | z
  · rw [List.getElem?_range z, Option.map_some, Option.map_some, List.getElem?_append_right (by omega), show wc.length + k - wc.length = k by omega, List.getElem?_eq_getElem z]
    rfl
  · rw [List.getElem?_eq_none (by rw [List.length_range]; exact z), List.getElem?_eq_none z]
    rfl
theorem kI_nR (a n : Nat) : va_nd ((List.range n).map (fun i => a + i)) = true := by
  refine k_nd_of _ ?_
  rw [List.nodup_iff_pairwise_ne, List.pairwise_iff_getElem]
  intro i j hi hj hij q
  rw [List.length_map, List.length_range] at hi hj
  rw [List.getElem_map, List.getElem_map, List.getElem_range, List.getElem_range] at q
  omega
theorem kI_d (wc wr : va_W) : ∀ i ∈ (List.range wr.length).map (fun i => wc.length + i), i ∉ List.range wc.length := by
  intro i hi hc
  obtain ⟨j, hj, rfl⟩ := List.mem_map.mp hi
  have := List.mem_range.mp hc
  omega
section KA
variable {p : Program} {l : Launch} {e : Env} {R : Room} {s : State} {m : MethodId} {ar : Array Value} {below : List Frame} {meth : Method} {c : Code} {H : Heap} {locs : List Loc} {cells slots : Nat} {Q : State → Prop}
variable {pc : Nat} {ls : Array Slot} {rest st0 : List Value} {A : Nat → Prop} {D : va_G} {cy : Nat → ClassId} {wc wr : va_W}
theorem kA_join {ι : Type} {wc1 : ι → va_W} {H1 : Heap} (hP : va_P D vwCl (wc ++ wr) H) (hD : va_D A (wc ++ wr)) (hF : ∀ q, va_A wc H.size q → A q) (hk : ∀ q : Nat, q < H.size → ¬ va_A wc H.size q → H1[q]? = H[q]?) {u : ι} {t : State} (ht : t.heap = H1) (hB : kPost D cy (va_A wc H.size) (wc1 u) t) : va_P D vwCl (wr ++ wc1 u) H1 ∧ va_D A (wr ++ wc1 u) := by
  obtain ⟨hP1, -, hD1⟩ := hB
  rw [ht] at hP1
  exact va_join hP hD (List.range wc.length) ((List.range wr.length).map (fun i => wc.length + i)) (kI_C wc wr) (kI_R wc wr) (kI_nR _ _) (kI_d wc wr) hk hF hP1 hD1
theorem kA_i {ι : Type} {wc1 : ι → va_W} {r : Int32} {a : Array Value} {mc ms : Nat} (run : va_Run p l e R s m ar below meth c H locs cells slots mc ms (F0 m pc ls st0) rest (kQi D cy wc1 r (va_A wc H.size) a) (va_A wc H.size)) (hP : va_P D vwCl (wc ++ wr) H) (hD : va_D A (wc ++ wr)) (hS : va_S A s.heap H locs) (hA : ∀ q, s.heap.size ≤ q → A q)
    (kk : ∀ (u : ι) (H1 : Heap) (locs1 : List Loc), va_P D vwCl (wr ++ wc1 u) H1 → va_D A (wr ++ wc1 u) → va_S A s.heap H1 locs1 → W p l e R s m ar below meth c H1 locs1 (cells + mc) (slots + ms) Q (F0 m (pc + 3) ls (.int r :: rest))) : W p l e R s m ar below meth c H locs cells slots Q (F0 m pc ls st0) := by
  have hF := va_free (wc := wc) hD hS hA (List.range wc.length) (kI_C wc wr)
  refine va_calli run hS (fun q _ h => hF q h) hF (fun x u t H1 locs1 ht hvm hw hB hz1 hk1 hS1 => ?_)
  subst hw
  obtain ⟨h1, h2⟩ := kA_join hP hD hF hk1 ht hB
  exact kk u H1 locs1 h1 h2 hS1
theorem kA_l {ι : Type} {wc1 : ι → va_W} {r : Int64} {a : Array Value} {mc ms : Nat} (run : va_Run p l e R s m ar below meth c H locs cells slots mc ms (F0 m pc ls st0) rest (kQl D cy wc1 r (va_A wc H.size) a) (va_A wc H.size)) (hP : va_P D vwCl (wc ++ wr) H) (hD : va_D A (wc ++ wr)) (hS : va_S A s.heap H locs) (hA : ∀ q, s.heap.size ≤ q → A q)
    (kk : ∀ (u : ι) (H1 : Heap) (locs1 : List Loc), va_P D vwCl (wr ++ wc1 u) H1 → va_D A (wr ++ wc1 u) → va_S A s.heap H1 locs1 → W p l e R s m ar below meth c H1 locs1 (cells + mc) (slots + ms) Q (F0 m (pc + 3) ls (.long r :: rest))) : W p l e R s m ar below meth c H locs cells slots Q (F0 m pc ls st0) := by
  have hF := va_free (wc := wc) hD hS hA (List.range wc.length) (kI_C wc wr)
  refine va_calll run hS (fun q _ h => hF q h) hF (fun x u t H1 locs1 ht hvm hw hB hz1 hk1 hS1 => ?_)
  subst hw
  obtain ⟨h1, h2⟩ := kA_join hP hD hF hk1 ht hB
  exact kk u H1 locs1 h1 h2 hS1
theorem kA_v {ι : Type} {wc1 : ι → va_W} {a : Array Value} {mc ms : Nat} (run : va_Run p l e R s m ar below meth c H locs cells slots mc ms (F0 m pc ls st0) rest (kQv D cy wc1 (va_A wc H.size) a) (va_A wc H.size)) (hP : va_P D vwCl (wc ++ wr) H) (hD : va_D A (wc ++ wr)) (hS : va_S A s.heap H locs) (hA : ∀ q, s.heap.size ≤ q → A q)
    (kk : ∀ (u : ι) (H1 : Heap) (locs1 : List Loc), va_P D vwCl (wr ++ wc1 u) H1 → va_D A (wr ++ wc1 u) → va_S A s.heap H1 locs1 → W p l e R s m ar below meth c H1 locs1 (cells + mc) (slots + ms) Q (F0 m (pc + 3) ls rest)) : W p l e R s m ar below meth c H locs cells slots Q (F0 m pc ls st0) := by
  have hF := va_free (wc := wc) hD hS hA (List.range wc.length) (kI_C wc wr)
  refine va_callv run hS (fun q _ h => hF q h) hF (fun u t H1 locs1 ht hvm hw hB hz1 hk1 hS1 => ?_)
  obtain ⟨h1, h2⟩ := kA_join hP hD hF hk1 ht hB
  exact kk u H1 locs1 h1 h2 hS1
end KA
/-! a method of an object that stands in the world: what it answers, and what holds behind it -/
def XCi (l : Launch) (D : va_G) (cy : Nat → ClassId) (y : MethodName) (ws : List Cond) (ci b : Nat) (av : List Value) (w : va_W) (r : Int32) (C S : Nat) (Post : Nat → Nat → va_W → Prop) : Prop := ∃ (ι : Type) (rm : Room) (wc wr : va_W) (wc1 : ι → va_W), Sel w (wc ++ wr) ∧ kM l y ws rm D cy (.ref b :: av) wc (kQi D cy wc1 r) ∧ rm.frames ≤ 20 ∧ rm.locals ≤ 400 ∧ (∃ (q0 : Nat) (fs : List Value), wc[q0]? = some ((b, .inr (ci, fs)) : Nat × va_E)) ∧ C + rm.cells ≤ 500000 ∧ S + rm.slots ≤ 7000000 ∧ ∀ u, ∃ w', Sel (wr ++ wc1 u) w' ∧ Post (C + rm.cells) (S + rm.slots) w'
def XCl (l : Launch) (D : va_G) (cy : Nat → ClassId) (y : MethodName) (ws : List Cond) (ci b : Nat) (av : List Value) (w : va_W) (r : Int64) (C S : Nat) (Post : Nat → Nat → va_W → Prop) : Prop := ∃ (ι : Type) (rm : Room) (wc wr : va_W) (wc1 : ι → va_W), Sel w (wc ++ wr) ∧ kM l y ws rm D cy (.ref b :: av) wc (kQl D cy wc1 r) ∧ rm.frames ≤ 20 ∧ rm.locals ≤ 400 ∧ (∃ (q0 : Nat) (fs : List Value), wc[q0]? = some ((b, .inr (ci, fs)) : Nat × va_E)) ∧ C + rm.cells ≤ 500000 ∧ S + rm.slots ≤ 7000000 ∧ ∀ u, ∃ w', Sel (wr ++ wc1 u) w' ∧ Post (C + rm.cells) (S + rm.slots) w'
