/-! THE PURE PART, 6: seize, exchange, begin -/
section
variable {F : Fg} {K : Kx} {X X' : Nat → Prop} {e e' q r s a : Nat} {T T' N N' : Int} {μ ν ρ : Mem}
/-- who could be thrown out waits -/
theorem p_unitsToTake (hI : Cst F K μ) (h6 : F.sz 0 ≤ 6) (hr : r < F.sz 0) (t o : Nat) (ho : isP o) : Ok (f_X7_unitsToTake F μ t o (102 + r)) (fun x => ¬ x ≤ 0 → μ o 6 = 1 ∧ (μ t 2).toInt < (μ o 2).toInt) := by
  unfold f_X7_unitsToTake
  refine ok_ite (fun h1 => ok_ite (fun _ => ok_some (fun z => absurd (by decide) z)) (fun h2 => ?_)) (fun _ => ok_some (fun z => absurd (by decide) z))
  rw [(hI.2.1 r hr).1]
  refine ok_bnO (p_at_any F μ _ _) (fun a _ => ok_some (fun _ => ⟨h1, ?_⟩))
  rw [ti_le] at h2
  omega
theorem p_unitsOfVictims_l (hI : Cst F K μ) (h6 : F.sz 0 ≤ 6) (hr : r < F.sz 0) (t : Nat) : ∀ (n i : Nat) (x : Int32), i ≤ 24 → 24 < n + i → Ok (b_X7_unitsOfVictims_16 F n μ t (102 + r) x 24 (nI i)) (fun _ => True)
  | 0, i, x, h1, h2 => absurd h2 (by omega)
  | n + 1, i, x, h1, h2 => by
    rw [b_X7_unitsOfVictims_16]
    refine ok_ite (fun _ => ok_some trivial) (fun hlt => ?_)
    have hi : i < 24 := by
      rcases Nat.lt_or_ge i 24 with h | h
      · exact h
      · exact absurd ((lp_le (by omega)).mpr h) hlt
    refine ok_grd (lp_gd hi) (ok_bnd ?_)
    rw [lp_at hi]
    refine ok_bnO (p_unitsToTake hI h6 hr t (i + 1) (lp_is hi)) (fun y _ => ?_)
    rw [nI_1]
    exact p_unitsOfVictims_l hI h6 hr t n (i + 1) _ hi (by omega)
theorem p_unitsOfVictims (hI : Cst F K μ) (h6 : F.sz 0 ≤ 6) (hr : r < F.sz 0) (t : Nat) : Ok (f_X7_unitsOfVictims F μ t (102 + r)) (fun _ => True) := p_unitsOfVictims_l hI h6 hr t fu 0 0 (by decide) fu_24
theorem p_yieldsBefore (F : Fg) (μ : Mem) (t o : Nat) (x : Int32) : Ok (f_X2_yieldsBefore F μ t o x) (fun _ => True) := by
  unfold f_X2_yieldsBefore
  exact ok_ite (fun _ => ok_some trivial) (fun _ => ok_ite (fun _ => ok_bnO (p_at_any F μ _ _) (fun _ _ => ok_bnO (p_at_any F μ _ _) (fun _ _ => ok_ite (fun _ => ok_some trivial) (fun _ => ok_some trivial)))) (fun _ => ok_some trivial))
def nvQ (μ : Mem) (o : Option Nat) : Prop := o = none ∨ ∃ v, o = some v ∧ isP v ∧ μ v 6 = 1
theorem p_nextVictim_l (hI : Cst F K μ) (h6 : F.sz 0 ≤ 6) (hr : r < F.sz 0) (t : Nat) : ∀ (n i : Nat) (o : Option Nat), i ≤ 24 → 24 < n + i → nvQ μ o → Ok (b_X7_nextVictim_16 F n μ t (102 + r) o 24 (nI i)) (nvQ μ)
  | 0, i, o, h1, h2, _ => absurd h2 (by omega)
  | n + 1, i, o, h1, h2, ho => by
    rw [b_X7_nextVictim_16]
    refine ok_ite (fun _ => ?_) (fun hlt => ?_)
    · refine ok_cs (fun _ => ok_some (Or.inl rfl)) (fun v e => ?_)
      rcases ho with ho | ⟨w, ho, h3, h4⟩
      · rw [e] at ho; cases ho
      · rw [e] at ho; cases ho
        exact ok_grd h3 (ok_some (Or.inr ⟨v, rfl, h3, h4⟩))
    have hi : i < 24 := by
      rcases Nat.lt_or_ge i 24 with h | h
      · exact h
      · exact absurd ((lp_le (by omega)).mpr h) hlt
    refine ok_grd (lp_gd hi) (ok_bnd ?_)
    rw [lp_at hi]
    refine ok_bnO (p_unitsToTake hI h6 hr t (i + 1) (lp_is hi)) (fun y hy => ?_)
    rw [nI_1]
    refine ok_ite (fun _ => p_nextVictim_l hI h6 hr t n (i + 1) o hi (by omega) ho) (fun hpos => ?_)
    have hn : nvQ μ (some (i + 1)) := Or.inr ⟨i + 1, rfl, lp_is hi, (hy hpos).1⟩
    refine ok_cs (fun _ => p_nextVictim_l hI h6 hr t n (i + 1) _ hi (by omega) hn) (fun v e => ?_)
    rcases ho with ho | ⟨w, ho, h3, h4⟩
    · rw [e] at ho; cases ho
    rw [e] at ho; cases ho
    exact ok_grd h3 (ok_bnO (p_yieldsBefore F μ _ _ _) (fun _ _ => ok_ite (fun _ => p_nextVictim_l hI h6 hr t n (i + 1) _ hi (by omega) (Or.inr ⟨v, rfl, h3, h4⟩)) (fun _ => p_nextVictim_l hI h6 hr t n (i + 1) _ hi (by omega) hn)))
theorem p_nextVictim (hI : Cst F K μ) (h6 : F.sz 0 ≤ 6) (hr : r < F.sz 0) (t : Nat) : Ok (f_X7_nextVictim F μ t (102 + r)) (nvQ μ) := p_nextVictim_l hI h6 hr t fu 0 none (by decide) fu_24 (Or.inl rfl)
/-- into a queue: who is worked on, with a number of units -/
theorem i_queueUp (hC : Cfg F K) (hI : Inv F K X r T N μ) (hN : N < 2000000000) (hq : isP q) (hx : X q) (hr : r < F.sz 0) {un io : Int32} (hio : io = 0 ∨ io = 1) (hu0 : 0 ≤ un.toInt) (hu1 : un.toInt ≤ 9) :
    Ok (f_X7_queueUp F μ q (102 + r) un io) (fun ν => Inv F K (fun k => X k ∧ k ≠ q) r T (N + 1) ν ∧ Fr F q μ ν ∧ ν q 9 = nI r ∧ ν q 12 = un ∧ ν q 6 = 2 ∧ (∀ k, k ≠ 0 → k ≠ q → ν k = μ k) ∧ ν q 5 = μ q 5) := by
  have h6 := hC.1
  obtain ⟨p1, p2, p3, p4, p5, p6, p7, p8, p9⟩ := hI.p hq
  obtain ⟨x9, x7, xc⟩ := p8 hx
  have ho := hI.od
  refine ok_mono (p_queueUp hq (by omega) un io hio) (fun ν h => ?_)
  obtain ⟨a1, a2, a3, a4, a5, a6, a7, a8, a9⟩ := h
  rw [(hI.cst.2.1 r hr).1] at a6
  have e7 : (ν q 11).toInt = (μ 0 9).toInt + 1 := by
    rw [a7, ti_add (by rw [ti_1]; omega) (by rw [ti_1]; omega), ti_1]
  have f5 := a4 5 (by decide) (by decide) (by decide) (by decide) (by decide) (by decide)
  obtain ⟨g1, g2⟩ := inv_q0 (X' := fun k => X k ∧ k ≠ q) hC hI hq (by omega) hN a1 a2 a3 (a4 0 (by decide) (by decide) (by decide) (by decide) (by decide) (by decide)) (fun k _ hk => ⟨fun z => z.1, fun z => ⟨z, hk⟩⟩) ⟨by rw [a4 1 (by decide) (by decide) (by decide) (by decide) (by decide) (by decide)]; exact p1, by rw [f5]; exact p2, by rw [a4 4 (by decide) (by decide) (by decide) (by decide) (by decide) (by decide)]; exact p3, p4, p5, fun _ => by omega, by rw [a9]; exact hio, fun z => absurd rfl z.2, fun _ => Or.inr (Or.inr (Or.inl ⟨by rw [a4 7 (by decide) (by decide) (by decide) (by decide) (by decide) (by decide)]; exact x7, xc, a5, by rw [a8]; exact hu0, by rw [a8]; exact hu1, r, hr, a6⟩))⟩ (Or.inr ⟨Or.inl a6, a7⟩)
  exact ⟨g1, g2, a6, a8, a5, a1, f5⟩
/-- one that waits is thrown out -/
theorem i_throwOut (hC : Cfg F K) (hI : Inv F K X r T N μ) (hT : T ≤ 100000) (hN : N < 2000000000) (hq : isP q) (hx : ¬ X q) (h1 : μ q 6 = 1) (hr : r < F.sz 0) :
    Ok (f_X7_throwOutP F μ q (102 + r)) (fun ν => Inv F K X r T (N + 1) ν ∧ Fr F 0 μ ν ∧ ∀ k, isP k → k ≠ q → ν k = μ k ∧ ν (k + 48) = μ (k + 48)) := by
  have h6 := hC.1
  have h4 := hC.2.1
  have hU := hC.2.2.2.1 r hr
  obtain ⟨q1, q2⟩ := id hq
  obtain ⟨w9, wc, w7, w7'⟩ := (hI.p hq).inWt hx h1
  obtain ⟨p1, p2, p3, p4, p5, p6, p7, p8, p9⟩ := hI.p hq
  have hh := hI.hold hC hq hr
  have hU0 := (hI.res r hr).1
  have htm := hI.tm
  unfold f_X7_throwOutP
  rw [(hI.cst.2.1 r hr).1, p_at F μ (row := q + 48) (j := r) (by rw [alen_6 (by omega)]; omega) (alen_16 _)]
  refine ok_bnO (ok_eq rfl) (fun hd hhd => ?_)
  rw [p_set F μ (row := q + 48) (j := r) _ (by rw [alen_6 (by omega)]; omega) (alen_16 _)]
  refine ok_bnO (ok_eq rfl) (fun μ5 h5' => ok_bnd (ok_bnd (ok_bnd ?_)))
  obtain ⟨ρ, hρ⟩ : ∃ ρ, ρ = put (put (put μ5 (102 + r) 3 (μ5 (102 + r) 3 + hd)) q 5 (put μ5 (102 + r) 3 (μ5 (102 + r) 3 + hd) q 7 - put μ5 (102 + r) 3 (μ5 (102 + r) 3 + hd) 0 6)) q 7 (-1) := ⟨_, rfl⟩
  rw [← hρ]
  have n1 : ¬ q = 102 + r := by omega
  have n2 : ¬ q = q + 48 := by omega
  have n3 : ¬ 0 = 102 + r := by omega
  have n4 : ¬ 0 = q + 48 := by omega
  have hf : ∀ k, k ≠ q → k ≠ q + 48 → k ≠ 102 + r → ρ k = μ k := fun k k1 k2 k3 => by rw [hρ, h5']; simp [put, k1, k2, k3]
  have fh : ρ (q + 48) = upd (μ (q + 48)) r 0 := by rw [hρ, h5']; simp [put, show ¬ q + 48 = 102 + r by omega]
  have fr : ρ (102 + r) = upd (μ (102 + r)) 3 (μ (102 + r) 3 + hd) := by rw [hρ, h5']; simp [put, show ¬ 102 + r = q + 48 by omega, show ¬ 102 + r = q by omega]
  have fq : ρ q = upd (upd (μ q) 5 (μ q 7 - μ 0 6)) 7 (-1) := by rw [hρ, h5']; simp [put, n1, n2, n3, n4]
  have z0 : ρ 0 = μ 0 := hf 0 (by omega) (by omega) (by omega)
  have eh : (ρ (q + 48) r).toInt = 0 := by rw [fh, pk_us, ti_0]
  have eu : (ρ (102 + r) 3).toInt = (μ (102 + r) 3).toInt + (μ (q + 48) r).toInt := by rw [fr, pk_us, hhd, ti_add (by omega) (by omega)]
  have e5 : (ρ q 5).toInt = (μ q 7).toInt - (μ 0 6).toInt := by
    rw [fq, pk_un (show (5 : Nat) ≠ 7 by decide), pk_us, ti_sub (by omega) (by omega)]
  have fj : ∀ j, j ≠ r → ρ (q + 48) j = μ (q + 48) j := fun j hj => by rw [fh]; exact pk_un hj
  have gj : ∀ j, j ≠ 5 → j ≠ 7 → ρ q j = μ q j := fun j hj5 hj7 => by rw [fq, pk_un hj7, pk_un hj5]
  have f9 : ρ q 9 = -1 := by rw [gj 9 (by decide) (by decide)]; exact w9
  have f7 : ρ q 7 = -1 := by rw [fq, pk_us]
  have J : Inv F K (fun k => k = q ∨ X k) r T N ρ := inv_q hI hq (by omega) h6 (fun k hk hkq => ⟨hf _ hkq (by omega) (by omega), hf _ (by omega) (by omega) (by omega)⟩) (gj 0 (by decide) (by decide)) (Or.inl (by rw [z0])) (by rw [z0]) (by rw [z0]; exact hI.lk) (by rw [z0]; exact Int.le_refl _) (by rw [z0]; exact hI.od.2) (fun r' hr' => by
      by_cases hrr : r' = r
      · subst hrr
        refine ⟨by rw [fr]; exact pk_un (by decide), by rw [fr]; exact pk_un (by decide), by rw [fr]; exact pk_un (by decide), by rw [fr]; exact pk_un (by decide), by rw [fr]; exact pk_un (by decide), by rw [fr]; exact pk_un (by decide), by omega, by omega⟩
      · rw [hf (102 + r') (by omega) (by omega) (by omega), fj r' hrr]
        exact ⟨rfl, rfl, rfl, rfl, rfl, rfl, (hI.res r' hr').1, rfl⟩) (fun s hs => by
      rw [hf (108 + s) (by omega) (by omega) (by omega)]
      exact ⟨rfl, rfl, rfl, (hI.sto s hs).1, (hI.sto s hs).2.1⟩) (fun k _ hk => ⟨fun z => z.resolve_left hk, Or.inr⟩) ⟨by rw [gj 1 (by decide) (by decide)]; exact p1, ⟨by omega, by omega⟩, by rw [gj 4 (by decide) (by decide)]; exact p3, fun j hj => by
        by_cases hjr : j = r
        · subst hjr; omega
        · rw [fj j hjr]; exact p4 j hj, fun j hj hj2 => by
        by_cases hjr : j = r
        · omega
        · rw [fj j hjr]; exact p5 j hj hj2, fun z => absurd f9 z, by rw [gj 13 (by decide) (by decide)]; exact p7, fun _ => ⟨f9, f7, by rw [z0]; exact wc⟩, fun z => absurd (Or.inl rfl) z⟩ (Or.inl f9)
  have JF : Fr F q μ ρ := ⟨by rw [z0], by rw [z0], by rw [z0]; exact Int.le_refl _, fun r' hr' => by
    by_cases hrr : r' = r
    · subst hrr; rw [fr]; exact pk_un (by decide)
    · rw [hf (102 + r') (by omega) (by omega) (by omega)], fun k hk hkq _ _ _ => ⟨hf k hkq (by have := hk.2; omega) (by have := hk.2; omega), hf _ (by have := hk.1; omega) (by omega) (by have := hk.2; omega)⟩⟩
  have hn : ¬ (μ q 9 = -1 ∧ μ q 7 = -1 ∧ (q : Int) ≤ (μ 0 5).toInt) := fun z => by
    have := z.2.1
    rw [ti_eq, ti_m1] at this
    omega
  refine ok_bnO (i_queueUp (un := hd) hC J hN hq (Or.inl rfl) hr (Or.inr rfl) (by rw [hhd]; exact hh.1) (by rw [hhd]; omega)) (fun ν hν => ok_some ?_)
  obtain ⟨k1, k2, k3, k4, k5, k6, -⟩ := hν
  refine ⟨k1.back hx, (JF.tr k2).up hn, fun k hk hkq => ⟨?_, ?_⟩⟩
  · rw [k6 k hk.n0 hkq]
    exact hf k hkq (by have := hk.2; omega) (by have := hk.2; omega)
  · rw [k6 (k + 48) (by omega) (by have := hk.1; omega)]
    exact hf (k + 48) (by have := hk.1; omega) (by omega) (by have := hk.2; omega)
end
