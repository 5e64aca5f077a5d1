/-! the next time is that of the event that happens -/
theorem nt_eq {μ : Mem} {v : Int32} {q : Nat} (h : ntQ μ v) (hq : isP q) (h7 : ¬ μ q 7 = -1) (hm : ∀ k, k < 24 → ¬ μ (k + 1) 7 = -1 → (μ q 7).toInt ≤ (μ (k + 1) 7).toInt) : v = μ q 7 := by
  obtain ⟨i, rfl⟩ : ∃ i, q = i + 1 := ⟨q - 1, by have := hq.1; omega⟩
  have hi : i < 24 := by have := hq.2; omega
  rcases h with ⟨-, h9⟩ | ⟨p, hp, h8, h9, h10⟩
  · exact absurd (h9 i hi) h7
  · obtain ⟨j, rfl⟩ : ∃ j, p = j + 1 := ⟨p - 1, by have := hp.1; omega⟩
    have hj : j < 24 := by have := hp.2; omega
    rw [h8]
    exact Int32.toInt_inj.mp (Int.le_antisymm (h10 i hi h7) (hm j hj h9))
/-- where there is an event something happens -/
theorem ev_some {μ : Mem} {k : Nat} (hk : k < 24) (h : evs μ k = true) : ¬ ct (evs μ) 24 = 0 := by
  intro h0
  have h1 : ∀ n, k < n → ¬ ct (evs μ) n = 0 := by
    intro n
    induction n with
    | zero => intro h2; omega
    | succ n ih =>
      intro h2 h3
      by_cases h4 : k = n
      · subst h4
        simp [ct, h] at h3
      · exact ih (by omega) (by simp [ct] at h3; exact h3.1)
  exact h1 24 hk h0
