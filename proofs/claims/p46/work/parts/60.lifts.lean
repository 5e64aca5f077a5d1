/-! the adders over both kernels -/
def Pk (z b : Nat) (B : Bg) (μ : Mem) (sz : Nat) (av : List Value) : Array Value → State → Prop := va_Pc av (fun U => (Tb (B.r z) U ∧ Em B.D z b (B.cy 2) U) ∧ U.heap.size = sz ∧ KB z b B μ U.heap)
theorem Pk.blind {z b : Nat} {B : Bg} {μ : Mem} {sz : Nat} {av : List Value} : FrameBlind (Pk z b B μ sz av) := fun _ _ _ _ h => ⟨h.1, ⟨Tb.call h.2.1.1, Em.call h.2.1.2⟩, h.2.2⟩
def Ak (B : Bg) (sz : Nat) : Nat → Prop := fun q => Ka B q ∨ sz ≤ q
/-- v0 comes back; both kernels are there, of shape S', with the memory μ' -/
def Qk (z b : Nat) (B : Bg) (sz : Nat) (v0 : Int32) (S' : Sh) (μ' : Mem) : Array Value → State → Outcome → State → Prop := va_Qi (fun (v : Int32) (_ : Unit) => v = v0) (fun _ t => ∃ ad' : Nat → Nat, (KB z b (ad', S') μ' t.heap ∧ ∀ p, Ka (ad', S') p → Ka B p ∨ sz ≤ p) ∧ ad' 272 = B.ad 272) (Ak B sz)
theorem kb_off {z b : Nat} {B : Bg} {μ : Mem} {H : Heap} (h : KB z b B μ H) {L : List Nat} {wc : va_W} (hw : L.map (fun k => (B.ad k, obB z B μ k)) = wc) (hLi : ∀ k ∈ L, inB B k) {k : Nat} (hk : inB B k) (hL : k ∉ L) : ¬ va_A wc H.size (B.ad k) := by
  rintro (⟨i, e, h1⟩ | h1)
  · rw [← hw, List.getElem?_map] at h1
    cases hx : L[i]? with
    | none => rw [hx] at h1; cases h1
    | some x =>
      rw [hx] at h1
      have e1 : (B.ad x, obB z B μ x) = (B.ad k, e) := Option.some.inj h1
      have hxm := List.mem_of_getElem? hx
      have := h.1 x k (hLi x hxm) hk (congrArg Prod.fst e1)
      exact hL (this ▸ hxm)
  · exact absurd (h.2.1 k hk).2.lt (Nat.not_lt.mpr h1)
theorem kb_lift {l : Launch} {y : MethodName} {ws : List Cond} {rm : Room} {mc ms z b : Nat} {B : Bg} {μ : Mem} {sz : Nat} {av : List Value} {wc : va_W} {BB : Unit → State → Prop} {v0 : Int32} {S' : Sh} {μ' : Mem} (L : List Nat) (hw : L.map (fun k => (B.ad k, obB z B μ k)) = wc) (hL : L.Nodup) (hLi : ∀ k ∈ L, inB B k)
    (M : Met l y ws rm (Xe B.D (B.r z).tys z b (B.cy 2) av (fun H9 => H9.size = sz) wc) (va_Qi (fun (v : Int32) (_ : Unit) => v = v0) BB (va_A wc sz)) mc ms (va_A wc sz))
    (hB : ∀ s t : State, KB z b B μ s.heap → s.heap.size = sz → b ≤ s.heap.size → BB () t → (∀ k, inB B k → k ∉ L → va_at B.D vwCl (B.ad k, obB z B μ k) t.heap) → ∃ ad' : Nat → Nat, (KB z b (ad', S') μ' t.heap ∧ ∀ p, Ka (ad', S') p → Ka B p ∨ sz ≤ p) ∧ ad' 272 = B.ad 272) : Met l y ws rm (Pk z b B μ sz av) (Qk z b B sz v0 S' μ') mc ms (Ak B sz) := by
  refine Met.conseq (fun args s hv => ?_)
  obtain ⟨ha, ⟨hT, hE⟩, hsz, hK⟩ := hv
  have hsub : ∀ q, va_A wc sz q → Ak B sz q := by
    rintro q (⟨i, e, h1⟩ | h1)
    · rw [← hw, List.getElem?_map] at h1
      cases hx : L[i]? with
      | none => rw [hx] at h1; cases h1
      | some x =>
        rw [hx] at h1
        have e1 : (B.ad x, obB z B μ x) = (q, e) := Option.some.inj h1
        exact Or.inl ⟨x, hLi x (List.mem_of_getElem? hx), (congrArg Prod.fst e1).symm⟩
    · exact Or.inr h1
  have hP : va_P B.D vwCl wc s.heap := by
    rw [← hw]
    refine P_of (fun q hq => ?_)
    obtain ⟨k, hk, rfl⟩ := List.mem_map.mp hq
    exact (hK.2.1 k (hLi k hk)).2
  have hD : va_D (fun q => b ≤ q) wc := by
    rw [← hw]
    refine ⟨fun i j p q hi hj e => ?_, fun i q hi => ?_⟩
    · rw [List.getElem?_map] at hi hj
      cases hx : L[i]? with
      | none => rw [hx] at hi; cases hi
      | some x =>
        cases hy : L[j]? with
        | none => rw [hy] at hj; cases hj
        | some y =>
          rw [hx] at hi
          rw [hy] at hj
          have e1 : (B.ad x, obB z B μ x) = p := Option.some.inj hi
          have e2 : (B.ad y, obB z B μ y) = q := Option.some.inj hj
          have e3 : B.ad x = B.ad y := by rw [← e1, ← e2] at e; exact e
          have := hK.1 x y (hLi x (List.mem_of_getElem? hx)) (hLi y (List.mem_of_getElem? hy)) e3
          subst this
          exact nodup_inj _ hL i j x hx hy
    · rw [List.getElem?_map] at hi
      cases hx : L[i]? with
      | none => rw [hx] at hi; cases hi
      | some x =>
        rw [hx] at hi
        have e1 : (B.ad x, obB z B μ x) = q := Option.some.inj hi
        rw [← e1]
        exact (hK.2.1 x (hLi x (List.mem_of_getElem? hx))).1
  refine ⟨_, _, _, M, ⟨ha, ⟨Tb.t3 hT, hE⟩, hsz, hP, hD⟩, fun o t h => ?_, hsub⟩
  obtain ⟨⟨v, u, h1, h2, h3⟩, h4, h5⟩ := h
  refine ⟨⟨v, (), h1, h2, hB s t hK hsz hE.2.2.1 h3 (fun k hk hkL => (hK.2.1 k hk).2.kept (h5 _ (hK.2.1 k hk).2.lt ?_))⟩, h4, fun q q1 q2 => h5 q q1 (fun q3 => q2 (hsub q q3))⟩
  rw [← hsz]
  exact kb_off hK hw hLi hk hkL
theorem new_of {wc ws' : va_W} {sz : Nat} (hD : va_D (va_A wc sz) ws') (pos : List Nat) (hpos : pos.map (fun j => (ws'[j]?).map Prod.fst) = wc.map (fun p => some p.1)) {i : Nat} {q : Nat × va_E} (hi : ws'[i]? = some q) (hni : i ∉ pos) : sz ≤ q.1 := by
  refine va_A.new (hD.2 i q hi) (fun k p hk e => ?_)
  have h1 : (pos.map (fun j => (ws'[j]?).map Prod.fst))[k]? = some (some p.1) := by rw [hpos, List.getElem?_map, hk]; rfl
  rw [List.getElem?_map] at h1
  cases hx : pos[k]? with
  | none => rw [hx] at h1; cases h1
  | some j =>
    rw [hx] at h1
    have h2 : (ws'[j]?).map Prod.fst = some p.1 := Option.some.inj h1
    cases hy : ws'[j]? with
    | none => rw [hy] at h2; cases h2
    | some p' =>
      rw [hy] at h2
      have h3 : p'.1 = p.1 := Option.some.inj h2
      have := hD.1 j i p' q hy hi (h3.trans e)
      exact hni (this ▸ List.mem_of_getElem? hx)
section
variable {z : Nat} {B : Bg} {μ : Mem}
theorem o272 : obB z B μ 272 = .inr (9, [.ref (B.ad 112), .ref (B.ad 266), .ref (B.ad 0), .ref (B.ad 300)]) := by
  unfold obB
  rw [if_pos (by decide), obF, r_ad (by decide), r_ad (by decide), r_ad (by decide)]
  rfl
theorem o0 : obB z B μ 0 = .inr (8, [.ref (B.ad 112), .ref (B.ad 266), .ref (B.ad 98), .ref (B.ad 100), .ref (B.ad 97), .int (μ 0 5), .int (μ 0 6), .int (μ 0 7), .int (μ 0 8), .int (μ 0 9)]) := by
  unfold obB
  rw [if_pos (by decide), obW]
  unfold fsW
  rw [r_ad (by decide), r_ad (by decide), r_ad (by decide), r_ad (by decide), r_ad (by decide)]
theorem o300 : obB z B μ 300 = .inr (8, [.ref (B.ad 112), .ref (B.ad 566), .ref (B.ad 398), .ref (B.ad 400), .ref (B.ad 397), .int (μ 0 5), .int (μ 0 6), .int (μ 0 7), .int (μ 0 8), .int (μ 0 9)]) := by
  unfold obB
  rw [if_neg (by decide), show 300 - 300 = 0 from rfl, obW]
  unfold fsW
  rw [t_ad, t_ad, t_ad, t_ad, t_ad]
  rfl
theorem o98 : obB z B μ 98 = obL (B.ad 99) (B.sz 0) := by
  unfold obB
  rw [if_pos (by decide), szR, r_ad (by decide)]
  rfl
theorem o100 : obB z B μ 100 = obL (B.ad 101) (B.sz 1) := by
  unfold obB
  rw [if_pos (by decide), szS, r_ad (by decide)]
  rfl
theorem o398 : obB z B μ 398 = obL (B.ad 399) (B.sz 0) := by
  unfold obB
  rw [if_neg (by decide), szR, t_ad]
  rfl
theorem o400 : obB z B μ 400 = obL (B.ad 401) (B.sz 1) := by
  unfold obB
  rw [if_neg (by decide), szS, t_ad]
  rfl
theorem o112 : obB z B μ 112 = obL (B.ad 113) (B.sz 2) := by
  unfold obB
  rw [if_pos (by decide), szC, r_ad (by decide)]
  rfl
theorem o266 : obB z B μ 266 = obL (B.ad 267) B.t0 := by
  unfold obB
  rw [if_pos (by decide), szT, r_ad (by decide)]
  rfl
theorem o99 : obB z B μ 99 = .inl (B.cy 2, 10, .inr (.inr (.inr (.inr (fnL (B.r z) (B.sz 0) 102))))) := by
  unfold obB
  rw [if_pos (by decide), roR]
  rfl
theorem o101 : obB z B μ 101 = .inl (B.cy 2, 10, .inr (.inr (.inr (.inr (fnL (B.r z) (B.sz 1) 108))))) := by
  unfold obB
  rw [if_pos (by decide), roS]
  rfl
theorem o399 : obB z B μ 399 = .inl (B.cy 2, 10, .inr (.inr (.inr (.inr (fnL (B.t z) (B.sz 0) 102))))) := by
  unfold obB
  rw [if_neg (by decide), roR]
  rfl
theorem o401 : obB z B μ 401 = .inl (B.cy 2, 10, .inr (.inr (.inr (.inr (fnL (B.t z) (B.sz 1) 108))))) := by
  unfold obB
  rw [if_neg (by decide), roS]
  rfl
theorem o113 : obB z B μ 113 = .inl (B.cy 2, 10, .inr (.inr (.inr (.inr (fnL (B.r z) (B.sz 2) 114))))) := by
  unfold obB
  rw [if_pos (by decide), roC]
  rfl
theorem fnL0 {g : Geo} {bs : Nat} : fnL g 0 bs = fun _ => none := funext (fun _ => if_neg (by omega))
theorem iB {k : Nat} (h : k < 99) : inB B k := Or.inl (Or.inl h)
theorem iB3 {k : Nat} (h : k < 99) : inB B (300 + k) := Or.inr ⟨by omega, by omega, by rw [show 300 + k - 300 = k by omega]; exact Or.inl h⟩
end
set_option maxHeartbeats 4000000 in
theorem k_X8_addResource0 (l : Launch) {z b : Nat} {B : Bg} {μ : Mem} {x1 x2 : Int32}  (hn : B.sz 0 = 0) (hez : EzB z B) (g1 : ¬ x1 < 0) (g2 : ¬ 2 < x1) (g3 : ¬ x2 < 1) (g4 : ¬ 9 < x2) (sz : Nat) : Met l yX8_addResource (ws_ yX8_addResource cX8_addResource 4 (some .int)) (rm_ 6 140 4 34) (Pk z b B μ sz [.ref (B.ad 272), .int x1, .int x2]) (Qk z b B sz 0 (shR 0 B.2) (muR 0 x1 x2 μ)) 4 34 (Ak B sz) := by
  refine kb_lift [272, 0, 300, 98, 398] (by
    show [(B.ad 272, obB z B μ 272), (B.ad 0, obB z B μ 0), (B.ad 300, obB z B μ 300), (B.ad 98, obB z B μ 98), (B.ad 398, obB z B μ 398)] = _
    rw [o272, o0, o300, o98, o398, hn, (hez.1 hn).1, (hez.1 hn).2]
    rfl) (by decide) (fun k hk => by
    simp only [List.mem_cons, List.not_mem_nil, or_false] at hk
    rcases hk with rfl | rfl | rfl | rfl | rfl
    · exact Or.inl (Or.inr (Or.inr (Or.inr (Or.inr (Or.inr (Or.inr (Or.inr (Or.inr (Or.inr (Or.inr (Or.inr (Or.inr (Or.inr (Or.inr (Or.inr (Or.inr (⟨rfl, rfl⟩)))))))))))))))))
    · exact iB (by decide)
    · exact iB3 (k := 0) (by decide)
    · exact iB (by decide)
    · exact iB3 (k := 98) (by decide)) (x_X8_addResource0 l (k0 := 0) (k2 := 2) (tys := (B.r z).tys) rfl rfl (B.ad 272) (B.ad 112) (B.ad 266) (B.ad 0) (B.ad 300) (B.ad 566) (B.ad 98) (B.ad 100) (B.ad 97) (B.ad 398) (B.ad 400) (B.ad 397) (μ 0 5) (μ 0 6) (μ 0 7) (μ 0 8) (μ 0 9) (μ 0 5) (μ 0 6) (μ 0 7) (μ 0 8) (μ 0 9) x1 x2 g1 g2 g3 g4 sz) (fun s t h hsz hb hBB hkp => ?_)
  obtain ⟨q1, q2, q3, q4, hP, hD⟩ := hBB
  have hnw : ∀ i (q : Nat × va_E), _ → i ∉ [0, 1, 2, 3, 6] → sz ≤ q.1 := fun i q hi hni => new_of hD [0, 1, 2, 3, 6] rfl (i := i) (q := q) hi hni
  have a1 : adR B 0 q2 q4 q1 q3 (102 + 0) = q1 := by unfold adR; rw [if_neg (by omega), if_neg (by omega), if_pos rfl]
  have a2 : adR B 0 q2 q4 q1 q3 (402 + 0) = q3 := by unfold adR; rw [if_neg (by omega), if_neg (by omega), if_neg (by omega), if_pos rfl]
  have a3 : adR B 0 q2 q4 q1 q3 99 = q2 := if_pos rfl
  have a4 : adR B 0 q2 q4 q1 q3 399 = q4 := by unfold adR; rw [if_neg (by decide), if_pos rfl]
  have hnew : ∀ k, NR 0 k → s.heap.size ≤ adR B 0 q2 q4 q1 q3 k := by
    rw [hsz]
    rintro k (rfl | rfl | ⟨-, rfl | rfl⟩)
    · rw [a1]; exact hnw 5 _ rfl (by decide)
    · rw [a2]; exact hnw 8 _ rfl (by decide)
    · rw [a3]; exact hnw 4 _ rfl (by decide)
    · rw [a4]; exact hnw 7 _ rfl (by decide)
  have hnn : ∀ i j, NR 0 i → NR 0 j → adR B 0 q2 q4 q1 q3 i = adR B 0 q2 q4 q1 q3 j → i = j := by
    rintro i j (rfl | rfl | ⟨-, rfl | rfl⟩) (rfl | rfl | ⟨-, rfl | rfl⟩) e9
    · rfl
    · rw [a1, a2] at e9; exact absurd (hD.1 5 8 _ _ rfl rfl e9) (by decide)
    · rw [a1, a3] at e9; exact absurd (hD.1 5 4 _ _ rfl rfl e9) (by decide)
    · rw [a1, a4] at e9; exact absurd (hD.1 5 7 _ _ rfl rfl e9) (by decide)
    · rw [a2, a1] at e9; exact absurd (hD.1 8 5 _ _ rfl rfl e9) (by decide)
    · rfl
    · rw [a2, a3] at e9; exact absurd (hD.1 8 4 _ _ rfl rfl e9) (by decide)
    · rw [a2, a4] at e9; exact absurd (hD.1 8 7 _ _ rfl rfl e9) (by decide)
    · rw [a3, a1] at e9; exact absurd (hD.1 4 5 _ _ rfl rfl e9) (by decide)
    · rw [a3, a2] at e9; exact absurd (hD.1 4 8 _ _ rfl rfl e9) (by decide)
    · rfl
    · rw [a3, a4] at e9; exact absurd (hD.1 4 7 _ _ rfl rfl e9) (by decide)
    · rw [a4, a1] at e9; exact absurd (hD.1 7 5 _ _ rfl rfl e9) (by decide)
    · rw [a4, a2] at e9; exact absurd (hD.1 7 8 _ _ rfl rfl e9) (by decide)
    · rw [a4, a3] at e9; exact absurd (hD.1 7 4 _ _ rfl rfl e9) (by decide)
    · rfl
  rw [← hsz]
  refine ⟨_, kb_R h hb hn (by decide) (fun h9 => absurd rfl h9) hnew hnn (by show va_at B.D vwCl (B.ad 98, .inr (0, [.int (nI (0 + 1)), .ref q2, .int (nI (0 + 1))])) t.heap; rw [show nI (0 + 1) = 0 + 1 from rfl]; exact hP 3 _ rfl) (by show va_at B.D vwCl (B.ad 398, .inr (0, [.int (nI (0 + 1)), .ref q4, .int (nI (0 + 1))])) t.heap; rw [show nI (0 + 1) = 0 + 1 from rfl]; exact hP 6 _ rfl) (by rw [fnL0]; exact hP 4 _ rfl) (by rw [fnL0]; exact hP 7 _ rfl) (hP 5 _ rfl) (hP 8 _ rfl) (fun k hk h1 h2 => ?_), by show adR B 0 q2 q4 q1 q3 272 = B.ad 272; unfold adR; rw [if_neg (by omega), if_neg (by omega), if_neg (by omega), if_neg (by omega)]⟩
  unfold OR at h2
  by_cases k272 : k = 272
  · rw [k272, o272]; exact hP 0 _ rfl
  by_cases k0 : k = 0
  · rw [k0, o0]; exact hP 1 _ rfl
  by_cases k300 : k = 300
  · rw [k300, o300]; exact hP 2 _ rfl
  exact hkp k hk (fun h9 => by simp only [List.mem_cons, List.not_mem_nil, or_false] at h9; omega)
set_option maxHeartbeats 4000000 in
theorem k_X8_addResource1 (l : Launch) {z b : Nat} {B : Bg} {μ : Mem} {x1 x2 : Int32} {n : Nat} (hn : B.sz 0 = n) (hn0 : n ≠ 0) (hn6 : n < 6) (hez : EzB z B) (g1 : ¬ x1 < 0) (g2 : ¬ 2 < x1) (g3 : ¬ x2 < 1) (g4 : ¬ 9 < x2) (sz : Nat) : Met l yX8_addResource (ws_ yX8_addResource cX8_addResource 4 (some .int)) (rm_ 6 140 4 34) (Pk z b B μ sz [.ref (B.ad 272), .int x1, .int x2]) (Qk z b B sz (nI n) (shR n B.2) (muR n x1 x2 μ)) 4 34 (Ak B sz) := by
  refine kb_lift [272, 0, 300, 98, 99, 398, 399] (by
    show [(B.ad 272, obB z B μ 272), (B.ad 0, obB z B μ 0), (B.ad 300, obB z B μ 300), (B.ad 98, obB z B μ 98), (B.ad 99, obB z B μ 99), (B.ad 398, obB z B μ 398), (B.ad 399, obB z B μ 399)] = _
    rw [o272, o0, o300, o98, o99, o398, o399, hn]
    rfl) (by decide) (fun k hk => by
    simp only [List.mem_cons, List.not_mem_nil, or_false] at hk
    rcases hk with rfl | rfl | rfl | rfl | rfl | rfl | rfl
    · exact Or.inl (Or.inr (Or.inr (Or.inr (Or.inr (Or.inr (Or.inr (Or.inr (Or.inr (Or.inr (Or.inr (Or.inr (Or.inr (Or.inr (Or.inr (Or.inr (Or.inr (⟨rfl, rfl⟩)))))))))))))))))
    · exact iB (by decide)
    · exact iB3 (k := 0) (by decide)
    · exact iB (by decide)
    · exact Or.inl (Or.inr (Or.inl ⟨rfl, by omega⟩))
    · exact iB3 (k := 98) (by decide)
    · exact Or.inr ⟨by decide, by decide, Or.inr (Or.inl ⟨rfl, by omega⟩)⟩) (x_X8_addResource1 l (k0 := 0) (k2 := 2) (tys := (B.r z).tys) rfl rfl (B.ad 272) (B.ad 112) (B.ad 266) (B.ad 0) (B.ad 300) (B.ad 566) (B.ad 98) (B.ad 100) (B.ad 97) (B.ad 398) (B.ad 400) (B.ad 397) (μ 0 5) (μ 0 6) (μ 0 7) (μ 0 8) (μ 0 9) (μ 0 5) (μ 0 6) (μ 0 7) (μ 0 8) (μ 0 9) x1 x2 (B.ad 99) (B.ad 399) n (fnL (B.r z) n 102) (fnL (B.t z) n 102) (by omega) (nI_lt hn6 (by decide)) g1 g2 g3 g4 sz) (fun s t h hsz hb hBB hkp => ?_)
  obtain ⟨q1, q2, hP, hD⟩ := hBB
  have hnw : ∀ i (q : Nat × va_E), _ → i ∉ [0, 1, 2, 3, 4, 6, 7] → sz ≤ q.1 := fun i q hi hni => new_of hD [0, 1, 2, 3, 4, 6, 7] rfl (i := i) (q := q) hi hni
  have a1 : adR B n (B.ad 99) (B.ad 399) q1 q2 (102 + n) = q1 := by unfold adR; rw [if_neg (by omega), if_neg (by omega), if_pos rfl]
  have a2 : adR B n (B.ad 99) (B.ad 399) q1 q2 (402 + n) = q2 := by unfold adR; rw [if_neg (by omega), if_neg (by omega), if_neg (by omega), if_pos rfl]
  have hnew : ∀ k, NR n k → s.heap.size ≤ adR B n (B.ad 99) (B.ad 399) q1 q2 k := by
    rw [hsz]
    rintro k (rfl | rfl | ⟨h9, -⟩)
    · rw [a1]; exact hnw 5 _ rfl (by decide)
    · rw [a2]; exact hnw 8 _ rfl (by decide)
    · omega
  have hnn : ∀ i j, NR n i → NR n j → adR B n (B.ad 99) (B.ad 399) q1 q2 i = adR B n (B.ad 99) (B.ad 399) q1 q2 j → i = j := by
    rintro i j (rfl | rfl | ⟨h9, -⟩) (rfl | rfl | ⟨h9, -⟩) e9
    · rfl
    · rw [a1, a2] at e9; exact absurd (hD.1 5 8 _ _ rfl rfl e9) (by decide)
    · omega
    · rw [a2, a1] at e9; exact absurd (hD.1 8 5 _ _ rfl rfl e9) (by decide)
    · rfl
    · omega
    · omega
    · omega
    · omega
  rw [← hsz]
  refine ⟨_, kb_R h hb hn hn6 (fun _ => ⟨rfl, rfl⟩) hnew hnn (by show va_at B.D vwCl (B.ad 98, .inr (0, [.int (nI (n + 1)), .ref (B.ad 99), .int (nI (n + 1))])) t.heap; rw [← nI_1]; exact hP 3 _ rfl) (by show va_at B.D vwCl (B.ad 398, .inr (0, [.int (nI (n + 1)), .ref (B.ad 399), .int (nI (n + 1))])) t.heap; rw [← nI_1]; exact hP 6 _ rfl) (by rw [show va_up (fnL (B.r z) n 102) n = va_up (fnL (B.r z) n 102) (nI n).toNatClampNeg by rw [nI_clamp (by omega)]]; exact hP 4 _ rfl) (by rw [show va_up (fnL (B.t z) n 102) n = va_up (fnL (B.t z) n 102) (nI n).toNatClampNeg by rw [nI_clamp (by omega)]]; exact hP 7 _ rfl) (hP 5 _ rfl) (hP 8 _ rfl) (fun k hk h1 h2 => ?_), by show adR B n (B.ad 99) (B.ad 399) q1 q2 272 = B.ad 272; unfold adR; rw [if_neg (by omega), if_neg (by omega), if_neg (by omega), if_neg (by omega)]⟩
  unfold OR at h2
  by_cases k272 : k = 272
  · rw [k272, o272]; exact hP 0 _ rfl
  by_cases k0 : k = 0
  · rw [k0, o0]; exact hP 1 _ rfl
  by_cases k300 : k = 300
  · rw [k300, o300]; exact hP 2 _ rfl
  exact hkp k hk (fun h9 => by simp only [List.mem_cons, List.not_mem_nil, or_false] at h9; omega)
set_option maxHeartbeats 4000000 in
theorem k_X8_addStore0 (l : Launch) {z b : Nat} {B : Bg} {μ : Mem} {x1 x2 : Int32}  (hn : B.sz 1 = 0) (hez : EzB z B) (g1 : ¬ x1 < 1) (g2 : ¬ 99 < x1) (g3 : ¬ x2 < 0) (g4 : ¬ x1 < x2) (sz : Nat) : Met l yX8_addStore (ws_ yX8_addStore cX8_addStore 4 (some .int)) (rm_ 6 140 4 28) (Pk z b B μ sz [.ref (B.ad 272), .int x1, .int x2]) (Qk z b B sz 0 (shS 0 B.2) (muS 0 x1 x2 μ)) 4 28 (Ak B sz) := by
  refine kb_lift [272, 0, 300, 100, 400] (by
    show [(B.ad 272, obB z B μ 272), (B.ad 0, obB z B μ 0), (B.ad 300, obB z B μ 300), (B.ad 100, obB z B μ 100), (B.ad 400, obB z B μ 400)] = _
    rw [o272, o0, o300, o100, o400, hn, (hez.2.1 hn).1, (hez.2.1 hn).2]
    rfl) (by decide) (fun k hk => by
    simp only [List.mem_cons, List.not_mem_nil, or_false] at hk
    rcases hk with rfl | rfl | rfl | rfl | rfl
    · exact Or.inl (Or.inr (Or.inr (Or.inr (Or.inr (Or.inr (Or.inr (Or.inr (Or.inr (Or.inr (Or.inr (Or.inr (Or.inr (Or.inr (Or.inr (Or.inr (Or.inr (⟨rfl, rfl⟩)))))))))))))))))
    · exact iB (by decide)
    · exact iB3 (k := 0) (by decide)
    · exact Or.inl (Or.inr (Or.inr (Or.inl rfl)))
    · exact Or.inr ⟨by decide, by decide, Or.inr (Or.inr (Or.inl rfl))⟩) (x_X8_addStore0 l (k0 := 0) (k2 := 2) (tys := (B.r z).tys) rfl rfl (B.ad 272) (B.ad 112) (B.ad 266) (B.ad 0) (B.ad 300) (B.ad 566) (B.ad 98) (B.ad 100) (B.ad 97) (B.ad 398) (B.ad 400) (B.ad 397) (μ 0 5) (μ 0 6) (μ 0 7) (μ 0 8) (μ 0 9) (μ 0 5) (μ 0 6) (μ 0 7) (μ 0 8) (μ 0 9) x1 x2 g1 g2 g3 g4 sz) (fun s t h hsz hb hBB hkp => ?_)
  obtain ⟨q1, q2, q3, q4, hP, hD⟩ := hBB
  have hnw : ∀ i (q : Nat × va_E), _ → i ∉ [0, 1, 2, 3, 6] → sz ≤ q.1 := fun i q hi hni => new_of hD [0, 1, 2, 3, 6] rfl (i := i) (q := q) hi hni
  have a1 : adS B 0 q2 q4 q1 q3 (108 + 0) = q1 := by unfold adS; rw [if_neg (by omega), if_neg (by omega), if_pos rfl]
  have a2 : adS B 0 q2 q4 q1 q3 (408 + 0) = q3 := by unfold adS; rw [if_neg (by omega), if_neg (by omega), if_neg (by omega), if_pos rfl]
  have a3 : adS B 0 q2 q4 q1 q3 101 = q2 := if_pos rfl
  have a4 : adS B 0 q2 q4 q1 q3 401 = q4 := by unfold adS; rw [if_neg (by decide), if_pos rfl]
  have hnew : ∀ k, NS 0 k → s.heap.size ≤ adS B 0 q2 q4 q1 q3 k := by
    rw [hsz]
    rintro k (rfl | rfl | ⟨-, rfl | rfl⟩)
    · rw [a1]; exact hnw 5 _ rfl (by decide)
    · rw [a2]; exact hnw 8 _ rfl (by decide)
    · rw [a3]; exact hnw 4 _ rfl (by decide)
    · rw [a4]; exact hnw 7 _ rfl (by decide)
  have hnn : ∀ i j, NS 0 i → NS 0 j → adS B 0 q2 q4 q1 q3 i = adS B 0 q2 q4 q1 q3 j → i = j := by
    rintro i j (rfl | rfl | ⟨-, rfl | rfl⟩) (rfl | rfl | ⟨-, rfl | rfl⟩) e9
    · rfl
    · rw [a1, a2] at e9; exact absurd (hD.1 5 8 _ _ rfl rfl e9) (by decide)
    · rw [a1, a3] at e9; exact absurd (hD.1 5 4 _ _ rfl rfl e9) (by decide)
    · rw [a1, a4] at e9; exact absurd (hD.1 5 7 _ _ rfl rfl e9) (by decide)
    · rw [a2, a1] at e9; exact absurd (hD.1 8 5 _ _ rfl rfl e9) (by decide)
    · rfl
    · rw [a2, a3] at e9; exact absurd (hD.1 8 4 _ _ rfl rfl e9) (by decide)
    · rw [a2, a4] at e9; exact absurd (hD.1 8 7 _ _ rfl rfl e9) (by decide)
    · rw [a3, a1] at e9; exact absurd (hD.1 4 5 _ _ rfl rfl e9) (by decide)
    · rw [a3, a2] at e9; exact absurd (hD.1 4 8 _ _ rfl rfl e9) (by decide)
    · rfl
    · rw [a3, a4] at e9; exact absurd (hD.1 4 7 _ _ rfl rfl e9) (by decide)
    · rw [a4, a1] at e9; exact absurd (hD.1 7 5 _ _ rfl rfl e9) (by decide)
    · rw [a4, a2] at e9; exact absurd (hD.1 7 8 _ _ rfl rfl e9) (by decide)
    · rw [a4, a3] at e9; exact absurd (hD.1 7 4 _ _ rfl rfl e9) (by decide)
    · rfl
  rw [← hsz]
  refine ⟨_, kb_S h hb hn (by decide) (fun h9 => absurd rfl h9) hnew hnn (by show va_at B.D vwCl (B.ad 100, .inr (0, [.int (nI (0 + 1)), .ref q2, .int (nI (0 + 1))])) t.heap; rw [show nI (0 + 1) = 0 + 1 from rfl]; exact hP 3 _ rfl) (by show va_at B.D vwCl (B.ad 400, .inr (0, [.int (nI (0 + 1)), .ref q4, .int (nI (0 + 1))])) t.heap; rw [show nI (0 + 1) = 0 + 1 from rfl]; exact hP 6 _ rfl) (by rw [fnL0]; exact hP 4 _ rfl) (by rw [fnL0]; exact hP 7 _ rfl) (hP 5 _ rfl) (hP 8 _ rfl) (fun k hk h1 h2 => ?_), by show adS B 0 q2 q4 q1 q3 272 = B.ad 272; unfold adS; rw [if_neg (by omega), if_neg (by omega), if_neg (by omega), if_neg (by omega)]⟩
  unfold OS at h2
  by_cases k272 : k = 272
  · rw [k272, o272]; exact hP 0 _ rfl
  by_cases k0 : k = 0
  · rw [k0, o0]; exact hP 1 _ rfl
  by_cases k300 : k = 300
  · rw [k300, o300]; exact hP 2 _ rfl
  exact hkp k hk (fun h9 => by simp only [List.mem_cons, List.not_mem_nil, or_false] at h9; omega)
set_option maxHeartbeats 4000000 in
theorem k_X8_addStore1 (l : Launch) {z b : Nat} {B : Bg} {μ : Mem} {x1 x2 : Int32} {n : Nat} (hn : B.sz 1 = n) (hn0 : n ≠ 0) (hn6 : n < 4) (hez : EzB z B) (g1 : ¬ x1 < 1) (g2 : ¬ 99 < x1) (g3 : ¬ x2 < 0) (g4 : ¬ x1 < x2) (sz : Nat) : Met l yX8_addStore (ws_ yX8_addStore cX8_addStore 4 (some .int)) (rm_ 6 140 4 28) (Pk z b B μ sz [.ref (B.ad 272), .int x1, .int x2]) (Qk z b B sz (nI n) (shS n B.2) (muS n x1 x2 μ)) 4 28 (Ak B sz) := by
  refine kb_lift [272, 0, 300, 100, 101, 400, 401] (by
    show [(B.ad 272, obB z B μ 272), (B.ad 0, obB z B μ 0), (B.ad 300, obB z B μ 300), (B.ad 100, obB z B μ 100), (B.ad 101, obB z B μ 101), (B.ad 400, obB z B μ 400), (B.ad 401, obB z B μ 401)] = _
    rw [o272, o0, o300, o100, o101, o400, o401, hn]
    rfl) (by decide) (fun k hk => by
    simp only [List.mem_cons, List.not_mem_nil, or_false] at hk
    rcases hk with rfl | rfl | rfl | rfl | rfl | rfl | rfl
    · exact Or.inl (Or.inr (Or.inr (Or.inr (Or.inr (Or.inr (Or.inr (Or.inr (Or.inr (Or.inr (Or.inr (Or.inr (Or.inr (Or.inr (Or.inr (Or.inr (Or.inr (⟨rfl, rfl⟩)))))))))))))))))
    · exact iB (by decide)
    · exact iB3 (k := 0) (by decide)
    · exact Or.inl (Or.inr (Or.inr (Or.inl rfl)))
    · exact Or.inl (Or.inr (Or.inr (Or.inr (Or.inl ⟨rfl, by omega⟩))))
    · exact Or.inr ⟨by decide, by decide, Or.inr (Or.inr (Or.inl rfl))⟩
    · exact Or.inr ⟨by decide, by decide, Or.inr (Or.inr (Or.inr (Or.inl ⟨rfl, by omega⟩)))⟩) (x_X8_addStore1 l (k0 := 0) (k2 := 2) (tys := (B.r z).tys) rfl rfl (B.ad 272) (B.ad 112) (B.ad 266) (B.ad 0) (B.ad 300) (B.ad 566) (B.ad 98) (B.ad 100) (B.ad 97) (B.ad 398) (B.ad 400) (B.ad 397) (μ 0 5) (μ 0 6) (μ 0 7) (μ 0 8) (μ 0 9) (μ 0 5) (μ 0 6) (μ 0 7) (μ 0 8) (μ 0 9) x1 x2 (B.ad 101) (B.ad 401) n (fnL (B.r z) n 108) (fnL (B.t z) n 108) (by omega) (nI_lt hn6 (by decide)) g1 g2 g3 g4 sz) (fun s t h hsz hb hBB hkp => ?_)
  obtain ⟨q1, q2, hP, hD⟩ := hBB
  have hnw : ∀ i (q : Nat × va_E), _ → i ∉ [0, 1, 2, 3, 4, 6, 7] → sz ≤ q.1 := fun i q hi hni => new_of hD [0, 1, 2, 3, 4, 6, 7] rfl (i := i) (q := q) hi hni
  have a1 : adS B n (B.ad 101) (B.ad 401) q1 q2 (108 + n) = q1 := by unfold adS; rw [if_neg (by omega), if_neg (by omega), if_pos rfl]
  have a2 : adS B n (B.ad 101) (B.ad 401) q1 q2 (408 + n) = q2 := by unfold adS; rw [if_neg (by omega), if_neg (by omega), if_neg (by omega), if_pos rfl]
  have hnew : ∀ k, NS n k → s.heap.size ≤ adS B n (B.ad 101) (B.ad 401) q1 q2 k := by
    rw [hsz]
    rintro k (rfl | rfl | ⟨h9, -⟩)
    · rw [a1]; exact hnw 5 _ rfl (by decide)
    · rw [a2]; exact hnw 8 _ rfl (by decide)
    · omega
  have hnn : ∀ i j, NS n i → NS n j → adS B n (B.ad 101) (B.ad 401) q1 q2 i = adS B n (B.ad 101) (B.ad 401) q1 q2 j → i = j := by
    rintro i j (rfl | rfl | ⟨h9, -⟩) (rfl | rfl | ⟨h9, -⟩) e9
    · rfl
    · rw [a1, a2] at e9; exact absurd (hD.1 5 8 _ _ rfl rfl e9) (by decide)
    · omega
    · rw [a2, a1] at e9; exact absurd (hD.1 8 5 _ _ rfl rfl e9) (by decide)
    · rfl
    · omega
    · omega
    · omega
    · omega
  rw [← hsz]
  refine ⟨_, kb_S h hb hn hn6 (fun _ => ⟨rfl, rfl⟩) hnew hnn (by show va_at B.D vwCl (B.ad 100, .inr (0, [.int (nI (n + 1)), .ref (B.ad 101), .int (nI (n + 1))])) t.heap; rw [← nI_1]; exact hP 3 _ rfl) (by show va_at B.D vwCl (B.ad 400, .inr (0, [.int (nI (n + 1)), .ref (B.ad 401), .int (nI (n + 1))])) t.heap; rw [← nI_1]; exact hP 6 _ rfl) (by rw [show va_up (fnL (B.r z) n 108) n = va_up (fnL (B.r z) n 108) (nI n).toNatClampNeg by rw [nI_clamp (by omega)]]; exact hP 4 _ rfl) (by rw [show va_up (fnL (B.t z) n 108) n = va_up (fnL (B.t z) n 108) (nI n).toNatClampNeg by rw [nI_clamp (by omega)]]; exact hP 7 _ rfl) (hP 5 _ rfl) (hP 8 _ rfl) (fun k hk h1 h2 => ?_), by show adS B n (B.ad 101) (B.ad 401) q1 q2 272 = B.ad 272; unfold adS; rw [if_neg (by omega), if_neg (by omega), if_neg (by omega), if_neg (by omega)]⟩
  unfold OS at h2
  by_cases k272 : k = 272
  · rw [k272, o272]; exact hP 0 _ rfl
  by_cases k0 : k = 0
  · rw [k0, o0]; exact hP 1 _ rfl
  by_cases k300 : k = 300
  · rw [k300, o300]; exact hP 2 _ rfl
  exact hkp k hk (fun h9 => by simp only [List.mem_cons, List.not_mem_nil, or_false] at h9; omega)
