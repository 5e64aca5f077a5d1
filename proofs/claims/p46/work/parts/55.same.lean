/-! BOTH KERNELS AT ONCE, while they are built -/
/-- what object k tells of others, of sizes -/
def Rf (g : Geo) (k j : Nat) : Prop := (k = 0 ∧ (j = 112 ∨ j = 266 ∨ j = 98 ∨ j = 100 ∨ j = 97)) ∨ (1 ≤ k ∧ k < 25 ∧ (j = k + 24 ∨ j = k + 48 ∨ j = k + 72)) ∨ (k = 97 ∧ 1 ≤ j ∧ j < 25) ∨ (k = 98 ∧ j = 99) ∨ (k = 99 ∧ 102 ≤ j ∧ j < 102 + g.sz 0) ∨ (k = 100 ∧ j = 101) ∨ (k = 101 ∧ 108 ≤ j ∧ j < 108 + g.sz 1) ∨ (k = 112 ∧ j = 113) ∨ (k = 113 ∧ 114 ≤ j ∧ j < 114 + g.sz 2) ∨ (114 ≤ k ∧ k < 130 ∧ j = k + 8) ∨ (130 ≤ k ∧ k < 138 ∧ 138 + 16 * (k - 130) ≤ j ∧ j < 138 + 16 * (k - 130) + g.sz (k - 120)) ∨ (k = 266 ∧ j = 267) ∨ (k = 267 ∧ 268 ≤ j ∧ j < 268 + g.tz 0) ∨ (k = 268 ∧ j = 274) ∨ (268 < k ∧ k ≠ 274 ∧ (j = 112 ∨ j = 266 ∨ j = 0 ∨ j = 273))
def Sz (k i : Nat) : Prop := ((k = 98 ∨ k = 99) ∧ i = 0) ∨ ((k = 100 ∨ k = 101) ∧ i = 1) ∨ ((k = 112 ∨ k = 113) ∧ i = 2) ∨ (122 ≤ k ∧ k < 130 ∧ i = k - 112) ∨ (130 ≤ k ∧ k < 138 ∧ i = k - 120)
theorem ob_same {g g' : Geo} {k : Nat} {m : Nat → Int32} (hcy : g'.cy = g.cy) (h : ∀ j, Rf g k j → g'.ad j = g.ad j) (hs : ∀ i, Sz k i → g'.sz i = g.sz i) (hsh : ∀ j, g'.sh k j = g.sh k j) (ht : 266 ≤ k → g'.tz 0 = g.tz 0 ∧ g'.tz 2 = g.tz 2 ∧ g'.ts 1000 = g.ts 1000 ∧ g'.ta 0 = g.ta 0) (hm : isP k → m 1 = -1) (h97 : k ≠ 97) : ob g' k m = ob g k m := by
  by_cases c0 : k = 0
  · subst c0
    rw [obW, obW]
    have e : fsW g' m = fsW g m := by
      unfold fsW
      rw [h 112 (Or.inl ⟨rfl, by decide⟩), h 266 (Or.inl ⟨rfl, by decide⟩), h 98 (Or.inl ⟨rfl, by decide⟩), h 100 (Or.inl ⟨rfl, by decide⟩), h 97 (Or.inl ⟨rfl, by decide⟩)]
    rw [e]
  by_cases c1 : k < 25
  · have E : ∀ G : Geo, ob G k m = .inr (3, fsP G k m) := fun G => by
      unfold ob
      rw [if_neg (by omega), if_pos c1]
    rw [E, E]
    have e : fsP g' k m = fsP g k m := by
      unfold fsP
      rw [hm ⟨by omega, c1⟩, h (k + 24) (Or.inr (Or.inl ⟨by omega, c1, by omega⟩)), h (k + 48) (Or.inr (Or.inl ⟨by omega, c1, by omega⟩)), h (k + 72) (Or.inr (Or.inl ⟨by omega, c1, by omega⟩))]
      rfl
    rw [e]
  by_cases c2 : k < 49
  · have E : ∀ G : Geo, ob G k m = .inl (G.cy 0, 16, .inl m) := fun G => by
      unfold ob
      rw [if_neg (by omega), if_neg (by omega), if_pos c2]
    rw [E, E]
    rw [hcy]
  by_cases c3 : k < 97
  · have E : ∀ G : Geo, ob G k m = .inl (G.cy 0, 6, .inl m) := fun G => by
      unfold ob
      rw [if_neg (by omega), if_neg (by omega), if_neg (by omega), if_pos c3]
    rw [E, E]
    rw [hcy]
  by_cases c5 : k = 98
  · have E : ∀ G : Geo, ob G k m = obL (G.ad 99) (G.sz 0) := fun G => by
      unfold ob
      rw [if_neg (by omega), if_neg (by omega), if_neg (by omega), if_neg (by omega), if_neg (by omega), if_pos c5]
    rw [E, E]
    rw [h 99 (Or.inr (Or.inr (Or.inr (Or.inl ⟨c5, rfl⟩)))), hs 0 (by unfold Sz; omega)]
  by_cases c6 : k = 99
  · have E : ∀ G : Geo, ob G k m = .inl (G.cy 2, 10, .inr (.inr (.inr (.inr (fnL G (G.sz 0) 102))))) := fun G => by
      unfold ob
      rw [if_neg (by omega), if_neg (by omega), if_neg (by omega), if_neg (by omega), if_neg (by omega), if_neg (by omega), if_pos c6]
      rfl
    rw [E, E]
    have e : fnL g' (g'.sz 0) (102) = fnL g (g.sz 0) (102) := by
      unfold fnL
      rw [hs 0 (by unfold Sz; omega)]
      funext i
      by_cases hi : i < g.sz 0
      · rw [if_pos hi, if_pos hi, h _ (Or.inr (Or.inr (Or.inr (Or.inr (Or.inl ⟨by omega, by omega, by omega⟩)))))]
      · rw [if_neg hi, if_neg hi]
    rw [hcy, e]
  by_cases c7 : k = 100
  · have E : ∀ G : Geo, ob G k m = obL (G.ad 101) (G.sz 1) := fun G => by
      unfold ob
      rw [if_neg (by omega), if_neg (by omega), if_neg (by omega), if_neg (by omega), if_neg (by omega), if_neg (by omega), if_neg (by omega), if_pos c7]
    rw [E, E]
    rw [h 101 (Or.inr (Or.inr (Or.inr (Or.inr (Or.inr (Or.inl ⟨c7, rfl⟩)))))), hs 1 (by unfold Sz; omega)]
  by_cases c8 : k = 101
  · have E : ∀ G : Geo, ob G k m = .inl (G.cy 2, 10, .inr (.inr (.inr (.inr (fnL G (G.sz 1) 108))))) := fun G => by
      unfold ob
      rw [if_neg (by omega), if_neg (by omega), if_neg (by omega), if_neg (by omega), if_neg (by omega), if_neg (by omega), if_neg (by omega), if_neg (by omega), if_pos c8]
      rfl
    rw [E, E]
    have e : fnL g' (g'.sz 1) (108) = fnL g (g.sz 1) (108) := by
      unfold fnL
      rw [hs 1 (by unfold Sz; omega)]
      funext i
      by_cases hi : i < g.sz 1
      · rw [if_pos hi, if_pos hi, h _ (Or.inr (Or.inr (Or.inr (Or.inr (Or.inr (Or.inr (Or.inl ⟨by omega, by omega, by omega⟩)))))))]
      · rw [if_neg hi, if_neg hi]
    rw [hcy, e]
  by_cases c9 : k < 108
  · have E : ∀ G : Geo, ob G k m = .inr (4, fsR m) := fun G => by
      unfold ob
      rw [if_neg (by omega), if_neg (by omega), if_neg (by omega), if_neg (by omega), if_neg (by omega), if_neg (by omega), if_neg (by omega), if_neg (by omega), if_neg (by omega), if_pos c9]
    rw [E, E]
  by_cases c10 : k < 112
  · have E : ∀ G : Geo, ob G k m = .inr (6, fsS m) := fun G => by
      unfold ob
      rw [if_neg (by omega), if_neg (by omega), if_neg (by omega), if_neg (by omega), if_neg (by omega), if_neg (by omega), if_neg (by omega), if_neg (by omega), if_neg (by omega), if_neg (by omega), if_pos c10]
    rw [E, E]
  by_cases c11 : k = 112
  · have E : ∀ G : Geo, ob G k m = obL (G.ad 113) (G.sz 2) := fun G => by
      unfold ob
      rw [if_neg (by omega), if_neg (by omega), if_neg (by omega), if_neg (by omega), if_neg (by omega), if_neg (by omega), if_neg (by omega), if_neg (by omega), if_neg (by omega), if_neg (by omega), if_neg (by omega), if_pos c11]
    rw [E, E]
    rw [h 113 (Or.inr (Or.inr (Or.inr (Or.inr (Or.inr (Or.inr (Or.inr (Or.inl ⟨c11, rfl⟩)))))))), hs 2 (by unfold Sz; omega)]
  by_cases c12 : k = 113
  · have E : ∀ G : Geo, ob G k m = .inl (G.cy 2, 10, .inr (.inr (.inr (.inr (fnL G (G.sz 2) 114))))) := fun G => by
      unfold ob
      rw [if_neg (by omega), if_neg (by omega), if_neg (by omega), if_neg (by omega), if_neg (by omega), if_neg (by omega), if_neg (by omega), if_neg (by omega), if_neg (by omega), if_neg (by omega), if_neg (by omega), if_neg (by omega), if_pos c12]
      rfl
    rw [E, E]
    have e : fnL g' (g'.sz 2) (114) = fnL g (g.sz 2) (114) := by
      unfold fnL
      rw [hs 2 (by unfold Sz; omega)]
      funext i
      by_cases hi : i < g.sz 2
      · rw [if_pos hi, if_pos hi, h _ (Or.inr (Or.inr (Or.inr (Or.inr (Or.inr (Or.inr (Or.inr (Or.inr (Or.inl ⟨by omega, by omega, by omega⟩)))))))))]
      · rw [if_neg hi, if_neg hi]
    rw [hcy, e]
  by_cases c13 : k < 122
  · have E : ∀ G : Geo, ob G k m = .inr (5, fsC G k (G.sh k)) := fun G => by
      unfold ob
      rw [if_neg (by omega), if_neg (by omega), if_neg (by omega), if_neg (by omega), if_neg (by omega), if_neg (by omega), if_neg (by omega), if_neg (by omega), if_neg (by omega), if_neg (by omega), if_neg (by omega), if_neg (by omega), if_neg (by omega), if_pos c13]
    rw [E, E]
    have e : fsC g' k (g'.sh k) = fsC g k (g.sh k) := by
      unfold fsC
      rw [h (k + 8) (Or.inr (Or.inr (Or.inr (Or.inr (Or.inr (Or.inr (Or.inr (Or.inr (Or.inr (Or.inl ⟨by omega, by omega, rfl⟩)))))))))), hsh 1]
    rw [e]
  by_cases c14 : k < 130
  · have E : ∀ G : Geo, ob G k m = obL (G.ad (k + 8)) (G.sz (k - 112)) := fun G => by
      unfold ob
      rw [if_neg (by omega), if_neg (by omega), if_neg (by omega), if_neg (by omega), if_neg (by omega), if_neg (by omega), if_neg (by omega), if_neg (by omega), if_neg (by omega), if_neg (by omega), if_neg (by omega), if_neg (by omega), if_neg (by omega), if_neg (by omega), if_pos c14]
    rw [E, E]
    rw [h (k + 8) (Or.inr (Or.inr (Or.inr (Or.inr (Or.inr (Or.inr (Or.inr (Or.inr (Or.inr (Or.inl ⟨by omega, by omega, rfl⟩)))))))))), hs (k - 112) (by unfold Sz; omega)]
  by_cases c15 : k < 138
  · have E : ∀ G : Geo, ob G k m = .inl (G.cy 2, 10, .inr (.inr (.inr (.inr (fnL G (G.sz (k - 120)) (138 + 16 * (k - 130))))))) := fun G => by
      unfold ob
      rw [if_neg (by omega), if_neg (by omega), if_neg (by omega), if_neg (by omega), if_neg (by omega), if_neg (by omega), if_neg (by omega), if_neg (by omega), if_neg (by omega), if_neg (by omega), if_neg (by omega), if_neg (by omega), if_neg (by omega), if_neg (by omega), if_neg (by omega), if_pos c15]
      rfl
    rw [E, E]
    have e : fnL g' (g'.sz (k - 120)) (138 + 16 * (k - 130)) = fnL g (g.sz (k - 120)) (138 + 16 * (k - 130)) := by
      unfold fnL
      rw [hs (k - 120) (by unfold Sz; omega)]
      funext i
      by_cases hi : i < g.sz (k - 120)
      · rw [if_pos hi, if_pos hi, h _ (Or.inr (Or.inr (Or.inr (Or.inr (Or.inr (Or.inr (Or.inr (Or.inr (Or.inr (Or.inr (Or.inl ⟨by omega, by omega, by omega, by omega⟩)))))))))))]
      · rw [if_neg hi, if_neg hi]
    rw [hcy, e]
  by_cases c16 : k < 266
  · have E : ∀ G : Geo, ob G k m = .inr (2, fsS (G.sh k)) := fun G => by
      unfold ob
      rw [if_neg (by omega), if_neg (by omega), if_neg (by omega), if_neg (by omega), if_neg (by omega), if_neg (by omega), if_neg (by omega), if_neg (by omega), if_neg (by omega), if_neg (by omega), if_neg (by omega), if_neg (by omega), if_neg (by omega), if_neg (by omega), if_neg (by omega), if_neg (by omega), if_pos c16]
    rw [E, E]
    have e : fsS (g'.sh k) = fsS (g.sh k) := by
      unfold fsS
      rw [hsh 0, hsh 1, hsh 2, hsh 3]
    rw [e]
  by_cases c17 : k = 266
  · have E : ∀ G : Geo, ob G k m = obL (G.ad 267) (G.tz 0) := fun G => by
      unfold ob
      rw [if_neg (by omega), if_neg (by omega), if_neg (by omega), if_neg (by omega), if_neg (by omega), if_neg (by omega), if_neg (by omega), if_neg (by omega), if_neg (by omega), if_neg (by omega), if_neg (by omega), if_neg (by omega), if_neg (by omega), if_neg (by omega), if_neg (by omega), if_neg (by omega), if_neg (by omega), if_pos c17]
    rw [E, E]
    rw [h 267 (Or.inr (Or.inr (Or.inr (Or.inr (Or.inr (Or.inr (Or.inr (Or.inr (Or.inr (Or.inr (Or.inr (Or.inl ⟨c17, rfl⟩)))))))))))), (ht (by omega)).1]
  by_cases c18 : k = 267
  · have E : ∀ G : Geo, ob G k m = .inl (G.cy 2, 10, .inr (.inr (.inr (.inr (fnL G (G.tz 0) 268))))) := fun G => by
      unfold ob
      rw [if_neg (by omega), if_neg (by omega), if_neg (by omega), if_neg (by omega), if_neg (by omega), if_neg (by omega), if_neg (by omega), if_neg (by omega), if_neg (by omega), if_neg (by omega), if_neg (by omega), if_neg (by omega), if_neg (by omega), if_neg (by omega), if_neg (by omega), if_neg (by omega), if_neg (by omega), if_neg (by omega), if_pos c18]
      rfl
    rw [E, E]
    have e : fnL g' (g'.tz 0) (268) = fnL g (g.tz 0) (268) := by
      unfold fnL
      rw [(ht (by omega)).1]
      funext i
      by_cases hi : i < g.tz 0
      · rw [if_pos hi, if_pos hi, h _ (Or.inr (Or.inr (Or.inr (Or.inr (Or.inr (Or.inr (Or.inr (Or.inr (Or.inr (Or.inr (Or.inr (Or.inr (Or.inl ⟨by omega, by omega, by omega⟩)))))))))))))]
      · rw [if_neg hi, if_neg hi]
    rw [hcy, e]
  by_cases c19 : k = 268
  · have E : ∀ G : Geo, ob G k m = .inr (7, fsY G) := fun G => by
      unfold ob
      rw [if_neg (by omega), if_neg (by omega), if_neg (by omega), if_neg (by omega), if_neg (by omega), if_neg (by omega), if_neg (by omega), if_neg (by omega), if_neg (by omega), if_neg (by omega), if_neg (by omega), if_neg (by omega), if_neg (by omega), if_neg (by omega), if_neg (by omega), if_neg (by omega), if_neg (by omega), if_neg (by omega), if_neg (by omega), if_pos c19]
    rw [E, E]
    have e : fsY g' = fsY g := by
      unfold fsY
      rw [(ht (by omega)).2.2.1, h 274 (Or.inr (Or.inr (Or.inr (Or.inr (Or.inr (Or.inr (Or.inr (Or.inr (Or.inr (Or.inr (Or.inr (Or.inr (Or.inr (Or.inl ⟨c19, rfl⟩))))))))))))))]
    rw [e]
  by_cases c20 : k = 274
  · have E : ∀ G : Geo, ob G k m = obL (G.ta 0) (G.tz 2) := fun G => by
      unfold ob
      rw [if_neg (by omega), if_neg (by omega), if_neg (by omega), if_neg (by omega), if_neg (by omega), if_neg (by omega), if_neg (by omega), if_neg (by omega), if_neg (by omega), if_neg (by omega), if_neg (by omega), if_neg (by omega), if_neg (by omega), if_neg (by omega), if_neg (by omega), if_neg (by omega), if_neg (by omega), if_neg (by omega), if_neg (by omega), if_neg (by omega), if_pos c20]
    rw [E, E]
    rw [(ht (by omega)).2.1, (ht (by omega)).2.2.2]
  have E : ∀ G : Geo, ob G k m = .inr (9, [.ref (G.ad 112), .ref (G.ad 266), .ref (G.ad 0), .ref (G.ad 273)]) := fun G => by
    unfold ob
    rw [if_neg (by omega), if_neg (by omega), if_neg (by omega), if_neg (by omega), if_neg (by omega), if_neg (by omega), if_neg (by omega), if_neg (by omega), if_neg (by omega), if_neg (by omega), if_neg (by omega), if_neg (by omega), if_neg (by omega), if_neg (by omega), if_neg (by omega), if_neg (by omega), if_neg (by omega), if_neg (by omega), if_neg (by omega), if_neg (by omega), if_neg (by omega)]
  rw [E, E]
  rw [h 112 (Or.inr (Or.inr (Or.inr (Or.inr (Or.inr (Or.inr (Or.inr (Or.inr (Or.inr (Or.inr (Or.inr (Or.inr (Or.inr (Or.inr ⟨by omega, by omega, by decide⟩)))))))))))))), h 266 (Or.inr (Or.inr (Or.inr (Or.inr (Or.inr (Or.inr (Or.inr (Or.inr (Or.inr (Or.inr (Or.inr (Or.inr (Or.inr (Or.inr ⟨by omega, by omega, by decide⟩)))))))))))))), h 0 (Or.inr (Or.inr (Or.inr (Or.inr (Or.inr (Or.inr (Or.inr (Or.inr (Or.inr (Or.inr (Or.inr (Or.inr (Or.inr (Or.inr ⟨by omega, by omega, by decide⟩)))))))))))))), h 273 (Or.inr (Or.inr (Or.inr (Or.inr (Or.inr (Or.inr (Or.inr (Or.inr (Or.inr (Or.inr (Or.inr (Or.inr (Or.inr (Or.inr ⟨by omega, by omega, by decide⟩))))))))))))))]
theorem at_same {g g' : Geo} {k a : Nat} {m : Nat → Int32} {H : Heap} (hD : g'.D = g.D) (hcy : g'.cy = g.cy) (h : ∀ j, Rf g k j → g'.ad j = g.ad j) (hs : ∀ i, Sz k i → g'.sz i = g.sz i) (hsh : ∀ j, g'.sh k j = g.sh k j) (ht : 266 ≤ k → g'.tz 0 = g.tz 0 ∧ g'.tz 2 = g.tz 2 ∧ g'.ts 1000 = g.ts 1000 ∧ g'.ta 0 = g.ta 0) (hm : isP k → m 1 = -1) (h1 : va_at g.D vwCl (a, ob g k m) H) : va_at g'.D vwCl (a, ob g' k m) H := by
  by_cases h97 : k = 97
  · subst h97
    rw [obPA] at h1 ⊢
    rw [hcy]
    have e : vp_cell (g.cy 1) (24, .inr (.inr (.inr (.inr (fun i => some (g'.ad (i + 1))))))) = vp_cell (g.cy 1) (24, .inr (.inr (.inr (.inr (fun i => some (g.ad (i + 1))))))) := arq_congr (fun j hj => by rw [h (j + 1) (by unfold Rf; omega)])
    exact (show H[a]? = some (vp_cell (g.cy 1) (24, .inr (.inr (.inr (.inr (fun i => some (g.ad (i + 1)))))))) from h1).trans (congrArg some e.symm)
  · rw [hD, ob_same hcy h hs hsh ht hm h97]
    exact h1
/-- which objects there are, by sizes -/
def Px (s0 s1 s2 : Nat) (sN : Nat → Nat) (t0 t1 k : Nat) : Prop := k < 99 ∨ (k = 99 ∧ 0 < s0) ∨ k = 100 ∨ (k = 101 ∧ 0 < s1) ∨ (102 ≤ k ∧ k < 108 ∧ k < 102 + s0) ∨ (108 ≤ k ∧ k < 112 ∧ k < 108 + s1) ∨ k = 112 ∨ (k = 113 ∧ 0 < s2) ∨ (114 ≤ k ∧ k < 122 ∧ k < 114 + s2) ∨ (122 ≤ k ∧ k < 130 ∧ k < 122 + s2) ∨ (130 ≤ k ∧ k < 138 ∧ k < 130 + s2 ∧ 0 < sN (k - 130)) ∨ (138 ≤ k ∧ k < 266 ∧ (k - 138) / 16 < s2 ∧ (k - 138) % 16 < sN ((k - 138) / 16)) ∨ k = 266 ∨ (k = 267 ∧ 0 < t0) ∨ (k = 268 ∧ t0 = 1) ∨ (k = 274 ∧ t0 = 1) ∨ (k = 272 ∧ t1 = 1)
theorem idx_iff {g : Geo} {k : Nat} : k ∈ g.idx ↔ Px (g.sz 0) (g.sz 1) (g.sz 2) (fun j => g.sz (10 + j)) (g.tz 0) (g.tz 1) k := by
  rw [mem_idx]
  unfold pres Px
  dsimp only
  by_cases c0 : k < 99
  · rw [if_pos c0]
    exact ⟨fun _ => by omega, fun _ => ⟨by omega, rfl⟩⟩
  by_cases c1 : k = 99
  · rw [if_neg (by omega), if_pos c1]
    rw [decide_eq_true_iff]
    omega
  by_cases c2 : k = 100
  · rw [if_neg (by omega), if_neg (by omega), if_pos c2]
    exact ⟨fun _ => by omega, fun _ => ⟨by omega, rfl⟩⟩
  by_cases c3 : k = 101
  · rw [if_neg (by omega), if_neg (by omega), if_neg (by omega), if_pos c3]
    rw [decide_eq_true_iff]
    omega
  by_cases c4 : k < 108
  · rw [if_neg (by omega), if_neg (by omega), if_neg (by omega), if_neg (by omega), if_pos c4]
    rw [decide_eq_true_iff]
    omega
  by_cases c5 : k < 112
  · rw [if_neg (by omega), if_neg (by omega), if_neg (by omega), if_neg (by omega), if_neg (by omega), if_pos c5]
    rw [decide_eq_true_iff]
    omega
  by_cases c6 : k < 113
  · rw [if_neg (by omega), if_neg (by omega), if_neg (by omega), if_neg (by omega), if_neg (by omega), if_neg (by omega), if_pos c6]
    exact ⟨fun _ => by omega, fun _ => ⟨by omega, rfl⟩⟩
  by_cases c7 : k = 113
  · rw [if_neg (by omega), if_neg (by omega), if_neg (by omega), if_neg (by omega), if_neg (by omega), if_neg (by omega), if_neg (by omega), if_pos c7]
    rw [decide_eq_true_iff]
    omega
  by_cases c8 : k < 122
  · rw [if_neg (by omega), if_neg (by omega), if_neg (by omega), if_neg (by omega), if_neg (by omega), if_neg (by omega), if_neg (by omega), if_neg (by omega), if_pos c8]
    rw [decide_eq_true_iff]
    omega
  by_cases c9 : k < 130
  · rw [if_neg (by omega), if_neg (by omega), if_neg (by omega), if_neg (by omega), if_neg (by omega), if_neg (by omega), if_neg (by omega), if_neg (by omega), if_neg (by omega), if_pos c9]
    rw [decide_eq_true_iff]
    omega
  by_cases c10 : k < 138
  · rw [if_neg (by omega), if_neg (by omega), if_neg (by omega), if_neg (by omega), if_neg (by omega), if_neg (by omega), if_neg (by omega), if_neg (by omega), if_neg (by omega), if_neg (by omega), if_pos c10]
    rw [decide_eq_true_iff, show k - 120 = 10 + (k - 130) by omega]
    omega
  by_cases c11 : k < 266
  · rw [if_neg (by omega), if_neg (by omega), if_neg (by omega), if_neg (by omega), if_neg (by omega), if_neg (by omega), if_neg (by omega), if_neg (by omega), if_neg (by omega), if_neg (by omega), if_neg (by omega), if_pos c11]
    rw [decide_eq_true_iff]
    omega
  by_cases c12 : k = 266
  · rw [if_neg (by omega), if_neg (by omega), if_neg (by omega), if_neg (by omega), if_neg (by omega), if_neg (by omega), if_neg (by omega), if_neg (by omega), if_neg (by omega), if_neg (by omega), if_neg (by omega), if_neg (by omega), if_pos c12]
    exact ⟨fun _ => by omega, fun _ => ⟨by omega, rfl⟩⟩
  by_cases c13 : k = 267
  · rw [if_neg (by omega), if_neg (by omega), if_neg (by omega), if_neg (by omega), if_neg (by omega), if_neg (by omega), if_neg (by omega), if_neg (by omega), if_neg (by omega), if_neg (by omega), if_neg (by omega), if_neg (by omega), if_neg (by omega), if_pos c13]
    rw [decide_eq_true_iff]
    omega
  by_cases c14 : k = 268
  · rw [if_neg (by omega), if_neg (by omega), if_neg (by omega), if_neg (by omega), if_neg (by omega), if_neg (by omega), if_neg (by omega), if_neg (by omega), if_neg (by omega), if_neg (by omega), if_neg (by omega), if_neg (by omega), if_neg (by omega), if_neg (by omega), if_pos c14]
    rw [decide_eq_true_iff]
    omega
  by_cases c15 : k = 274
  · rw [if_neg (by omega), if_neg (by omega), if_neg (by omega), if_neg (by omega), if_neg (by omega), if_neg (by omega), if_neg (by omega), if_neg (by omega), if_neg (by omega), if_neg (by omega), if_neg (by omega), if_neg (by omega), if_neg (by omega), if_neg (by omega), if_neg (by omega), if_pos c15]
    rw [decide_eq_true_iff]
    omega
  rw [if_neg (by omega), if_neg (by omega), if_neg (by omega), if_neg (by omega), if_neg (by omega), if_neg (by omega), if_neg (by omega), if_neg (by omega), if_neg (by omega), if_neg (by omega), if_neg (by omega), if_neg (by omega), if_neg (by omega), if_neg (by omega), if_neg (by omega), if_neg (by omega)]
  rw [decide_eq_true_iff]
  omega
