/-! the trial's memory, chosen -/
theorem at_mem {g : Geo} {k a : Nat} {m m' : Nat → Int32} {H : Heap} (hk : k ∈ g.idx) (h0 : k = 0 → ∀ j, 5 ≤ j → j < 10 → m' j = m j) (hP : isP k → ∀ j, j < 14 → m' j = m j) (hA : isA k → ∀ j, j < alen k → m' j = m j) (hR : isR g k → ∀ j, j < 7 → m' j = m j) (hS : isS g k → ∀ j, j < 4 → m' j = m j) (h : va_at g.D vwCl (a, ob g k m) H) : va_at g.D vwCl (a, ob g k m') H := by
  have hx := idx_iff.mp hk
  by_cases c0 : k = 0
  · have e : ob g k m' = ob g k m := by
      subst c0
      rw [obW, obW]
      unfold fsW
      rw [h0 rfl 5 (by decide) (by decide), h0 rfl 6 (by decide) (by decide), h0 rfl 7 (by decide) (by decide), h0 rfl 8 (by decide) (by decide), h0 rfl 9 (by decide) (by decide)]
    rw [e]; exact h
  by_cases c1 : k < 25
  · have hp : isP k := ⟨by omega, c1⟩
    have e : ob g k m' = ob g k m := by
      rw [obP hp, obP hp]
      unfold fsP
      rw [hP hp 0 (by decide), hP hp 1 (by decide), hP hp 2 (by decide), hP hp 3 (by decide), hP hp 4 (by decide), hP hp 5 (by decide), hP hp 6 (by decide), hP hp 7 (by decide), hP hp 8 (by decide), hP hp 9 (by decide), hP hp 10 (by decide), hP hp 11 (by decide), hP hp 12 (by decide), hP hp 13 (by decide)]
    rw [e]; exact h
  by_cases c2 : k < 97
  · have hp : isA k := ⟨by omega, c2⟩
    rw [obA hp] at h ⊢
    exact (show H[a]? = some (vp_cell (g.cy 0) (alen k, .inl m)) from h).trans (congrArg some (arr_congr (fun j hj => (hA hp j hj).symm)))
  by_cases c3 : 112 ≤ k
  · rw [ob_sh c3 m' m]; exact h
  by_cases c4 : 102 ≤ k
  · by_cases c5 : k < 108
    · have hp : isR g k := ⟨c4, by unfold Px at hx; omega, c5⟩
      have e : ob g k m' = ob g k m := by
        rw [obR hp, obR hp]
        unfold fsR
        rw [hR hp 0 (by decide), hR hp 1 (by decide), hR hp 2 (by decide), hR hp 3 (by decide), hR hp 4 (by decide), hR hp 5 (by decide), hR hp 6 (by decide)]
      rw [e]; exact h
    · have hp : isS g k := ⟨by omega, by unfold Px at hx; omega, by omega⟩
      have e : ob g k m' = ob g k m := by
        rw [obS hp, obS hp]
        unfold fsS
        rw [hS hp 0 (by decide), hS hp 1 (by decide), hS hp 2 (by decide), hS hp 3 (by decide)]
      rw [e]; exact h
  have e : ob g k m' = ob g k m := by
    rcases (show k = 97 ∨ k = 98 ∨ k = 99 ∨ k = 100 ∨ k = 101 by omega) with rfl | rfl | rfl | rfl | rfl
    · rw [obPA, obPA]
    · rw [szR, szR]
    · rw [roR, roR]
    · rw [szS, szS]
    · rw [roS, roS]
  rw [e]; exact h
theorem tr_mem {g : Geo} {K : Kx} {μ κ : Mem} {H : Heap} (hR : Rg g μ H) (hμ : Cst g.F K μ) (hκ : Cst g.F K κ) : ∃ μ', Rg g μ' H ∧ Ag9 (cpS g.F) μ' κ := by
  obtain ⟨f, hf⟩ : ∃ f : Mem, ∀ k j, (cpS g.F k j → f k j = μ k j) ∧ (¬ cpS g.F k j → f k j = κ k j) := ⟨fun k j => @ite _ (cpS g.F k j) (Classical.propDecidable _) (μ k j) (κ k j), fun k j => ⟨fun h => if_pos h, fun h => if_neg h⟩⟩
  refine ⟨f, ⟨fun k hk => ?_, hR.2⟩, fun k j h => (hf k j).2 h⟩
  have hco : ∀ k j, κ k j = μ k j → f k j = μ k j := fun k j e => by
    by_cases h : cpS g.F k j
    · exact (hf k j).1 h
    · exact ((hf k j).2 h).trans e
  refine at_mem hk (fun e j h1 h2 => (hf k j).1 (Or.inl ⟨e, h1, h2⟩)) (fun hp j hj => ?_) (fun hp j hj => (hf k j).1 ?_) (fun hp j hj => ?_) (fun hp j hj => ?_) (hR.1 k hk)
  · by_cases h0 : j = 0
    · refine hco k j ?_
      obtain ⟨i, rfl⟩ : ∃ i, k = i + 1 := ⟨k - 1, by have := hp.1; omega⟩
      have h2 := hp.2
      rw [h0, hκ.1 i (by omega), hμ.1 i (by omega)]
    · exact (hf k j).1 (Or.inr (Or.inl ⟨hp.1, hp.2, by omega, hj⟩))
  · obtain ⟨h1, h2⟩ := hp
    unfold alen at hj
    by_cases h3 : k < 49
    · rw [if_pos h3] at hj
      exact Or.inr (Or.inr (Or.inl ⟨h1, h3, hj⟩))
    · rw [if_neg h3] at hj
      exact Or.inr (Or.inr (Or.inr (Or.inl ⟨by omega, h2, hj⟩)))
  · obtain ⟨h1, h2, h3⟩ := hp
    by_cases h4 : 3 ≤ j
    · exact (hf k j).1 (Or.inr (Or.inr (Or.inr (Or.inr (Or.inl ⟨h1, h2, h4, hj⟩)))))
    · refine hco k j ?_
      obtain ⟨r, rfl⟩ : ∃ r, k = 102 + r := ⟨k - 102, by omega⟩
      obtain ⟨a0, a1, a2⟩ := hκ.2.1 r (by show r < g.sz 0; omega)
      obtain ⟨b0, b1, b2⟩ := hμ.2.1 r (by show r < g.sz 0; omega)
      rcases (show j = 0 ∨ j = 1 ∨ j = 2 by omega) with rfl | rfl | rfl
      · rw [a0, b0]
      · rw [a1, b1]
      · rw [a2, b2]
  · obtain ⟨h1, h2, h3⟩ := hp
    by_cases h4 : 2 ≤ j
    · exact (hf k j).1 (Or.inr (Or.inr (Or.inr (Or.inr (Or.inr ⟨h1, h2, h4, hj⟩)))))
    · refine hco k j ?_
      obtain ⟨r, rfl⟩ : ∃ r, k = 108 + r := ⟨k - 108, by omega⟩
      obtain ⟨a0, a1⟩ := hκ.2.2 r (by show r < g.sz 1; omega)
      obtain ⟨b0, b1⟩ := hμ.2.2 r (by show r < g.sz 1; omega)
      rcases (show j = 0 ∨ j = 1 by omega) with rfl | rfl
      · rw [a0, b0]
      · rw [a1, b1]
