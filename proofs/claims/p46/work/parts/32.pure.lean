/-! THE PURE PART, 3: the writes -/
section
variable {F : Fg} {K : Kx} {X X' : Nat → Prop} {e e' q r s : Nat} {T T' N N' : Int} {μ ν ρ : Mem}
theorem isP.n0 (h : isP q) : q ≠ 0 := by have := h.1; omega
theorem isP.le (h : isP q) : 1 ≤ q ∧ q < 25 := h
/-- the memory but for the objects 0 and q -/
theorem p_schedule (hq : isP q) (st ti : Int32) : Ok (f_X7_schedule F μ q st ti) (fun ν => (∀ k, k ≠ 0 → k ≠ q → ν k = μ k) ∧ (∀ j, j ≠ 9 → ν 0 j = μ 0 j) ∧ ν 0 9 = μ 0 9 + 1 ∧ (∀ j, j ≠ 6 → j ≠ 7 → j ≠ 8 → ν q j = μ q j) ∧ ν q 6 = st ∧ ν q 7 = μ 0 6 + ti) := by
  have hq0 := hq.n0
  have hq1 := hq0.symm
  unfold f_X7_schedule
  refine ok_bnd (ok_bnd (ok_bnd (ok_bnd (ok_some ⟨fun k h0 hk => ?_, fun j hj => ?_, ?_, fun j h6 h7 h8 => ?_, ?_, ?_⟩))))
  · simp [put, h0, hk]
  · simp [put, upd, hq1, hj]
  · simp [put, upd, hq1]
  · simp [put, upd, hq0, h6, h7, h8]
  · simp [put, upd, hq0]
  · simp [put, upd, hq0, hq1]
theorem p_enter (hq : isP q) (row st : Int32) : Ok (f_X7_enter F μ q row st) (fun ν => (∀ k, k ≠ 0 → k ≠ q → ν k = μ k) ∧ (∀ j, j ≠ 9 → ν 0 j = μ 0 j) ∧ ν 0 9 = μ 0 9 + 1 ∧ (∀ j, j ≠ 6 → j ≠ 9 → j ≠ 10 → j ≠ 11 → ν q j = μ q j) ∧ ν q 6 = st ∧ ν q 9 = row ∧ ν q 11 = μ 0 9 + 1) := by
  have hq0 := hq.n0
  have hq1 := hq0.symm
  unfold f_X7_enter
  refine ok_bnd (ok_bnd (ok_bnd (ok_bnd (ok_bnd (ok_some ⟨fun k h0 hk => ?_, fun j hj => ?_, ?_, fun j h6 h7 h8 h9 => ?_, ?_, ?_, ?_⟩)))))
  · simp [put, h0, hk]
  · simp [put, upd, hq1, hj]
  · simp [put, upd, hq1]
  · simp [put, upd, hq0, h6, h7, h8, h9]
  · simp [put, upd, hq0]
  · simp [put, upd, hq0]
  · simp [put, upd, hq0, hq1]
theorem p_queueUp (hq : isP q) (hr : r < 6) (un io : Int32) (hio : io = 0 ∨ io = 1) : Ok (f_X7_queueUp F μ q (102 + r) un io) (fun ν => (∀ k, k ≠ 0 → k ≠ q → ν k = μ k) ∧ (∀ j, j ≠ 9 → ν 0 j = μ 0 j) ∧ ν 0 9 = μ 0 9 + 1 ∧ (∀ j, j ≠ 6 → j ≠ 9 → j ≠ 10 → j ≠ 11 → j ≠ 12 → j ≠ 13 → ν q j = μ q j) ∧ ν q 6 = 2 ∧ ν q 9 = μ (102 + r) 0 ∧ ν q 11 = μ 0 9 + 1 ∧ ν q 12 = un ∧ ν q 13 = io) := by
  have hq0 := hq.n0
  have hq1 := hq0.symm
  unfold f_X7_queueUp
  refine ok_bnO (p_enter hq _ _) (fun ρ h => ?_)
  obtain ⟨h1, h2, h3, h4, h5, h6, h7⟩ := h
  refine ok_ite (fun _ => ok_bnd (ok_bnd (ok_grd hio (ok_bnd (ok_some ⟨fun k h0 hk => ?_, fun j hj => ?_, ?_, fun j a1 a2 a3 a4 a5 a6 => ?_, ?_, ?_, ?_, ?_, ?_⟩))))) (fun _ => ok_bnd (ok_bnd (ok_grd hio (ok_bnd (ok_some ⟨fun k h0 hk => ?_, fun j hj => ?_, ?_, fun j a1 a2 a3 a4 a5 a6 => ?_, ?_, ?_, ?_, ?_, ?_⟩)))))
  · simp [put, hk, h1 k h0 hk]
  · simp [put, hq1, h2 j hj]
  · simp [put, hq1, h3]
  · simp [put, upd, a3, a5, a6, h4 j a1 a2 a3 a4]
  · simp [put, upd, h5]
  · simp [put, upd, h6]
  · simp [put, upd, h7]
  · simp [put, upd]
  · simp [put, upd]
  · simp [put, hk, h1 k h0 hk]
  · simp [put, hq1, h2 j hj]
  · simp [put, hq1, h3]
  · simp [put, upd, a3, a5, a6, h4 j a1 a2 a3 a4]
  · simp [put, upd, h5]
  · simp [put, upd, h6]
  · simp [put, upd, h7]
  · simp [put, upd]
  · simp [put, upd]
theorem p_giveUnits (hq : isP q) (hr : r < 6) (h0 : μ (102 + r) 0 = nI r) : Ok (f_X7_giveUnits F μ q (102 + r)) (fun ν => (∀ k, k ≠ 0 → k ≠ q → k ≠ 102 + r → k ≠ q + 48 → k ≠ q + 72 → ν k = μ k) ∧ (∀ j, j ≠ 9 → ν 0 j = μ 0 j) ∧ ν 0 9 = μ 0 9 + 1 ∧ (∀ j, j ≠ 9 → ν q j = μ q j) ∧ ν q 9 = -1 ∧ (∀ j, j ≠ 3 → ν (102 + r) j = μ (102 + r) j) ∧ ν (102 + r) 3 = μ (102 + r) 3 - μ q 12 ∧ (∀ j, j ≠ r → ν (q + 48) j = μ (q + 48) j) ∧ ν (q + 48) r = μ (q + 48) r + μ q 12) := by
  obtain ⟨q1, q2⟩ := id hq
  unfold f_X7_giveUnits
  refine ok_bnd (ok_bnd (ok_bnd ?_))
  have n1 : ¬ 102 + r = q := by omega
  have n2 : ¬ 102 + r = 0 := by omega
  have n3 : ¬ q = 102 + r := by omega
  have n4 : ¬ q = 0 := by omega
  have n5 : ¬ q + 48 = 102 + r := by omega
  have n6 : ¬ q + 48 = q := by omega
  have n7 : ¬ q + 48 = 0 := by omega
  have n8 : ¬ 0 = q := by omega
  have n9 : ¬ 0 = 102 + r := by omega
  have m1 : ¬ 0 = q + 48 := by omega
  have m2 : ¬ 0 = q + 72 := by omega
  have m3 : ¬ q = q + 48 := by omega
  have m4 : ¬ q = q + 72 := by omega
  have m5 : ¬ 102 + r = q + 48 := by omega
  have m6 : ¬ 102 + r = q + 72 := by omega
  have m7 : ¬ q + 48 = q + 72 := by omega
  have m8 : ¬ q + 72 = q + 48 := by omega
  generalize hρ : put (put (put μ 0 9 (μ 0 9 + 1)) q 9 (-1)) (102 + r) 3 _ = ρ
  have e0 : ρ (102 + r) 0 = nI r := by rw [← hρ]; simp [put, upd, n1, n2, h0]
  have e12 : ρ q 12 = μ q 12 := by rw [← hρ]; simp [put, upd, n3, n4]
  rw [e0, e12, p_at F ρ (row := q + 48) (j := r) (by rw [alen_6 (by omega)]; omega) (alen_16 _)]
  refine ok_bnO (ok_eq rfl) (fun a ha => ?_)
  rw [p_set F ρ (row := q + 48) (j := r) _ (by rw [alen_6 (by omega)]; omega) (alen_16 _)]
  refine ok_bnO (ok_eq rfl) (fun ν hν => ?_)
  refine ok_bnO (p_set_any F ν (q + 72) _ _) (fun κ hκ => ok_some ?_)
  have hk : ∀ k, k ≠ q + 72 → κ k = put ρ (q + 48) r (a + μ q 12) k := fun k h => by rw [hκ k h, hν]
  refine ⟨fun k a1 a2 a3 a4 a5 => ?_, fun j hj => ?_, ?_, fun j hj => ?_, ?_, fun j hj => ?_, ?_, fun j hj => ?_, ?_⟩
  · rw [hk k a5, ← hρ]; simp [put, a1, a2, a3, a4]
  · rw [hk 0 m2, ← hρ]; simp [put, upd, m1, n9, n8, hj]
  · rw [hk 0 m2, ← hρ]; simp [put, upd, m1, n9, n8]
  · rw [hk q m4, ← hρ]; simp [put, upd, m3, n3, n4, hj]
  · rw [hk q m4, ← hρ]; simp [put, upd, m3, n3]
  · rw [hk (102 + r) m6, ← hρ]; simp [put, upd, m5, n1, n2, hj]
  · rw [hk (102 + r) m6, ← hρ]; simp [put, upd, m5, n1, n2, n3, n4]
  · rw [hk (q + 48) m7, ← hρ]; simp [put, upd, n5, n6, n7, hj]
  · rw [hk (q + 48) m7, ha, ← hρ]; simp [put, upd, n5, n6, n7]
end
