/-! THE PURE PART, 11: time goes on -/
section
variable {F : Fg} {K : Kx} {X X' : Nat → Prop} {e e' q r s a j : Nat} {T T' N N' : Int} {μ ν ρ : Mem}
/-- the stores, from the i-th on, d ticks later -/
def gsQ (F : Fg) (d : Int32) (i : Nat) (μ ν : Mem) : Prop := (∀ k, ¬ (108 ≤ k ∧ k < 112) → k ≠ 0 → ν k = μ k) ∧ (∀ j, j ≠ 6 → ν 0 j = μ 0 j) ∧ ∀ s, s < F.sz 1 → (∀ j, j ≠ 3 → ν (108 + s) j = μ (108 + s) j) ∧ (i ≤ s → ν (108 + s) 3 = μ (108 + s) 3 + μ (108 + s) 2 * d) ∧ (s < i → ν (108 + s) 3 = μ (108 + s) 3)
theorem p_goTo_85 (F : Fg) (h4 : F.sz 1 ≤ 4) (th d : Int32) : ∀ (n i : Nat) (μ : Mem), i ≤ F.sz 1 → 4 < n + i → Ok (b_X7_goTo_85 F n μ th d (nI i)) (fun ν => gsQ F d i μ ν ∧ ν 0 6 = th)
  | 0, i, μ, h1, h2 => absurd h2 (by omega)
  | n + 1, i, μ, h1, h2 => by
    rw [b_X7_goTo_85]
    refine ok_ite (fun hle => ok_bnd (ok_some ⟨⟨fun k _ hk => pu_nk μ 6 th hk, fun j hj => pu_nj μ 0 th hj, fun s hs => ⟨fun j _ => by rw [pu_nk μ 6 th (show 108 + s ≠ 0 by omega)], fun h => ?_, fun _ => by rw [pu_nk μ 6 th (show 108 + s ≠ 0 by omega)]⟩⟩, pu_at μ 0 6 th⟩)) (fun hlt => ?_)
    · rw [nI_leI (by omega) (by omega)] at hle
      omega
    · rw [nI_leI (by omega) (by omega)] at hlt
      have hi : i < F.sz 1 := by omega
      refine ok_grd (nI_in hi (by omega)) (ok_bnd ?_)
      rw [nI_clamp (by omega), nI_1]
      refine ok_grd ⟨by omega, by omega, by omega⟩ (ok_bnd (ok_mono (p_goTo_85 F h4 th d n (i + 1) _ (by omega) (by omega)) (fun ν hν => ?_)))
      obtain ⟨⟨a1, a2, a3⟩, a4⟩ := hν
      refine ⟨⟨fun k hk h0 => ?_, fun j hj => ?_, fun s hs => ⟨fun j hj => ?_, fun h => ?_, fun h => ?_⟩⟩, a4⟩
      · rw [a1 k hk h0]; exact pu_nk μ 3 _ (by omega)
      · rw [a2 j hj, pu_nk μ 3 _ (show 0 ≠ 108 + i by omega)]
      · rw [(a3 s hs).1 j hj]
        by_cases hsi : s = i
        · subst hsi; exact pu_nj μ _ _ hj
        · rw [pu_nk μ 3 _ (show 108 + s ≠ 108 + i by omega)]
      · by_cases hsi : s = i
        · subst hsi
          rw [(a3 s hs).2.2 (by omega)]; exact pu_at μ _ _ _
        · rw [(a3 s hs).2.1 (by omega), pu_nk μ 3 _ (show 108 + s ≠ 108 + i by omega)]
      · rw [(a3 s hs).2.2 (by omega), pu_nk μ 3 _ (show 108 + s ≠ 108 + i by omega)]
/-- the resources, from the i-th on, and all stores, d ticks later -/
def grQ (F : Fg) (th d : Int32) (i : Nat) (μ ν : Mem) : Prop := (∀ k, ¬ (102 ≤ k ∧ k < 112) → k ≠ 0 → ν k = μ k) ∧ (∀ j, j ≠ 6 → ν 0 j = μ 0 j) ∧ ν 0 6 = th
  ∧ (∀ r, r < F.sz 0 → (∀ j, j ≠ 4 → j ≠ 5 → ν (102 + r) j = μ (102 + r) j) ∧ (i ≤ r → ν (102 + r) 4 = μ (102 + r) 4 + (μ (102 + r) 2 - μ (102 + r) 3) * d ∧ ν (102 + r) 5 = μ (102 + r) 5 + nI (ct (inr μ (nI r)) 24) * d) ∧ (r < i → ν (102 + r) 4 = μ (102 + r) 4 ∧ ν (102 + r) 5 = μ (102 + r) 5))
  ∧ ∀ s, s < F.sz 1 → (∀ j, j ≠ 3 → ν (108 + s) j = μ (108 + s) j) ∧ ν (108 + s) 3 = μ (108 + s) 3 + μ (108 + s) 2 * d
theorem p_goTo_9 (F : Fg) (h6 : F.sz 0 ≤ 6) (h4 : F.sz 1 ≤ 4) (th d : Int32) : ∀ (n i : Nat) (μ : Mem), i ≤ F.sz 0 → 6 < n + i → (∀ r, r < F.sz 0 → μ (102 + r) 0 = nI r) → Ok (b_X7_goTo_9 F n μ th d (nI i)) (grQ F th d i μ)
  | 0, i, μ, h1, h2, _ => absurd h2 (by omega)
  | n + 1, i, μ, h1, h2, hn => by
    rw [b_X7_goTo_9]
    refine ok_ite (fun hle => ?_) (fun hlt => ?_)
    · rw [nI_leI (by omega) (by omega)] at hle
      refine ok_mono (p_goTo_85 F h4 th d fu 0 μ (Nat.zero_le _) (by decide)) (fun ν hν => ?_)
      obtain ⟨⟨a1, a2, a3⟩, a4⟩ := hν
      exact ⟨fun k hk h0 => a1 k (by omega) h0, a2, a4, fun r hr => ⟨fun j _ _ => by rw [a1 (102 + r) (by omega) (by omega)], fun h => by omega, fun _ => by rw [a1 (102 + r) (by omega) (by omega)]; exact ⟨rfl, rfl⟩⟩, fun s hs => ⟨(a3 s hs).1, (a3 s hs).2.1 (Nat.zero_le _)⟩⟩
    · rw [nI_leI (by omega) (by omega)] at hlt
      have hi : i < F.sz 0 := by omega
      refine ok_grd (nI_in hi (by omega)) (ok_bnd ?_)
      rw [nI_clamp (by omega), nI_1]
      refine ok_grd ⟨by omega, by omega, by omega⟩ (ok_bnd ?_)
      obtain ⟨κ, hκ⟩ : ∃ κ, κ = put μ (102 + i) 4 (μ (102 + i) 4 + (μ (102 + i) 2 - μ (102 + i) 3) * d) := ⟨_, rfl⟩
      rw [← hκ]
      have kf : ∀ k, k ≠ 102 + i → κ k = μ k := fun k hk => by rw [hκ]; exact pu_nk μ 4 _ hk
      have kj : ∀ j, j ≠ 4 → κ (102 + i) j = μ (102 + i) j := fun j hj => by rw [hκ]; exact pu_nj μ _ _ hj
      have k4 : κ (102 + i) 4 = μ (102 + i) 4 + (μ (102 + i) 2 - μ (102 + i) 3) * d := by rw [hκ]; exact pu_at μ _ _ _
      have hin : ∀ row : Int32, ct (inr κ row) 24 = ct (inr μ row) 24 := fun row => ct_congr 24 (fun k hk => by unfold inr; rw [kf (k + 1) (by omega)])
      rw [kj 0 (by decide), hn i hi, p_countIn, hin]
      refine ok_bnO (ok_eq rfl) (fun c hc => ok_bnd ?_)
      obtain ⟨ρ, hρ⟩ : ∃ ρ, ρ = put κ (102 + i) 5 (κ (102 + i) 5 + c * d) := ⟨_, rfl⟩
      rw [← hρ]
      have rf9 : ∀ k, k ≠ 102 + i → ρ k = μ k := fun k hk => by rw [hρ, pu_nk κ 5 _ hk]; exact kf k hk
      have rj : ∀ j, j ≠ 4 → j ≠ 5 → ρ (102 + i) j = μ (102 + i) j := fun j h4 h5 => by rw [hρ, pu_nj κ _ _ h5]; exact kj j h4
      have r4 : ρ (102 + i) 4 = μ (102 + i) 4 + (μ (102 + i) 2 - μ (102 + i) 3) * d := by rw [hρ, pu_nj κ _ _ (show (4 : Nat) ≠ 5 by decide)]; exact k4
      have r5 : ρ (102 + i) 5 = μ (102 + i) 5 + nI (ct (inr μ (nI i)) 24) * d := by rw [hρ, pu_at, kj 5 (by decide), hc]
      have hin2 : ∀ row : Int32, ct (inr ρ row) 24 = ct (inr μ row) 24 := fun row => ct_congr 24 (fun k hk => by unfold inr; rw [rf9 (k + 1) (by omega)])
      refine ok_mono (p_goTo_9 F h6 h4 th d n (i + 1) ρ (by omega) (by omega) (fun r hr => ?_)) (fun ν hν => ?_)
      · by_cases hri : r = i
        · subst hri; rw [rj 0 (by decide) (by decide)]; exact hn r hr
        · rw [rf9 (102 + r) (by omega)]; exact hn r hr
      · obtain ⟨a1, a2, a3, a4, a5⟩ := hν
        refine ⟨fun k hk h0 => by rw [a1 k hk h0]; exact rf9 k (by omega), fun j hj => by rw [a2 j hj, rf9 0 (by omega)], a3, fun r hr => ⟨fun j h4' h5' => ?_, fun h => ?_, fun h => ?_⟩, fun s hs => ?_⟩
        · rw [(a4 r hr).1 j h4' h5']
          by_cases hri : r = i
          · subst hri; exact rj j h4' h5'
          · rw [rf9 (102 + r) (by omega)]
        · by_cases hri : r = i
          · subst hri
            rw [((a4 r hr).2.2 (by omega)).1, ((a4 r hr).2.2 (by omega)).2]
            exact ⟨r4, r5⟩
          · obtain ⟨b1, b2⟩ := (a4 r hr).2.1 (by omega)
            rw [b1, b2, hin2, rf9 (102 + r) (by omega)]
            exact ⟨rfl, rfl⟩
        · obtain ⟨b1, b2⟩ := (a4 r hr).2.2 (by omega)
          rw [b1, b2, rf9 (102 + r) (by omega)]
          exact ⟨rfl, rfl⟩
        · obtain ⟨b1, b2⟩ := a5 s hs
          rw [rf9 (108 + s) (by omega)] at b1 b2
          exact ⟨b1, b2⟩
/-- what an event may change -/
def FH (F : Fg) (p : Nat) (μ ν : Mem) : Prop := (μ 0 5).toInt ≤ (ν 0 5).toInt ∧ (∀ r, r < F.sz 0 → (μ (102 + r) 4).toInt ≤ (ν (102 + r) 4).toInt) ∧ ∀ k, isP k → k ≠ p → μ k 9 = -1 → μ k 7 = -1 → (k : Int) ≤ (μ 0 5).toInt → ν k = μ k ∧ ν (k + 48) = μ (k + 48)
theorem Fr.fh {p : Nat} (h : Fr F p μ ν) : FH F p μ ν := ⟨h.2.2.1, fun r hr => by rw [h.2.2.2.1 r hr]; exact Int.le_refl _, h.2.2.2.2⟩
theorem FH.tr {p : Nat} (h : FH F p μ ν) (h' : FH F p ν ρ) : FH F p μ ρ := by
  obtain ⟨a1, a2, a3⟩ := h
  obtain ⟨b1, b2, b3⟩ := h'
  refine ⟨Int.le_trans a1 b1, fun r hr => Int.le_trans (a2 r hr) (b2 r hr), fun k hk hp h1 h2 h3 => ?_⟩
  obtain ⟨c1, c2⟩ := a3 k hk hp h1 h2 h3
  obtain ⟨d1, d2⟩ := b3 k hk hp (by rw [c1]; exact h1) (by rw [c1]; exact h2) (Int.le_trans h3 a1)
  exact ⟨d1.trans c1, d2.trans c2⟩
theorem FH.up {p : Nat} (h : FH F q μ ν) (hn : ¬ (μ q 9 = -1 ∧ μ q 7 = -1 ∧ (q : Int) ≤ (μ 0 5).toInt)) : FH F p μ ν :=
  ⟨h.1, h.2.1, fun k hk _ h1 h2 h3 => by
    by_cases e9 : k = q
    · subst e9; exact absurd ⟨h1, h2, h3⟩ hn
    · exact h.2.2 k hk e9 h1 h2 h3⟩
theorem FH.rf {p : Nat} : FH F p μ μ := Fr.rf.fh
/-- the time is told anew; every event lies ahead of it -/
theorem i_goTo (hC : Cfg F K) (hI : Inv F K X 99 T N μ) {th : Int32} (h0 : (μ 0 6).toInt ≤ th.toInt) (h1 : th.toInt ≤ T') (hT : T' ≤ 100000) (hev : ∀ k, isP k → ¬ μ k 7 = -1 → th.toInt ≤ (μ k 7).toInt) :
    Ok (f_X7_goTo F μ th) (fun ν => Inv F K X 99 T' N ν ∧ FH F 0 μ ν ∧ ν 0 6 = th ∧ ν 0 8 = μ 0 8 ∧ (∀ k, isP k → ν k = μ k ∧ ν (k + 48) = μ (k + 48)) ∧ ν 0 5 = μ 0 5) := by
  have h6 := hC.1
  have h4 := hC.2.1
  have htm := hI.tm
  unfold f_X7_goTo
  refine ok_mono (p_goTo_9 F h6 h4 th (th - μ 0 6) fu 0 μ (Nat.zero_le _) (by decide) (fun r hr => (hI.cst.2.1 r hr).1)) (fun ν hν => ?_)
  obtain ⟨a1, a2, a3, a4, a5⟩ := hν
  have hd : (th - μ 0 6).toInt = th.toInt - (μ 0 6).toInt := ti_sub (by omega) (by omega)
  generalize hdd : th - μ 0 6 = d at hd a4 a5
  have hd0 : 0 ≤ d.toInt := by omega
  have hd1 : d.toInt ≤ 100000 := by omega
  have hk : ∀ k, isP k → ν k = μ k ∧ ν (k + 48) = μ (k + 48) := fun k hk => ⟨a1 k (by have := hk.2; omega) hk.n0, a1 _ (by have := hk.2; omega) (by omega)⟩
  have hin : ∀ row : Int32, ct (inr ν row) 24 = ct (inr μ row) 24 := fun row => ct_congr 24 (fun i hi => by unfold inr; rw [a1 (i + 1) (by omega) (by omega)])
  have hhs : ∀ r', hsm ν r' = hsm μ r' := fun r' => sm_congr 24 (fun i hi => by rw [a1 (i + 49) (by omega) (by omega)])
  have hbusy : ∀ r, r < F.sz 0 → (ν (102 + r) 4).toInt = (μ (102 + r) 4).toInt + ((K.2.1 r).toInt - (μ (102 + r) 3).toInt) * d.toInt ∧ 0 ≤ ((K.2.1 r).toInt - (μ (102 + r) 3).toInt) * d.toInt ∧ ((K.2.1 r).toInt - (μ (102 + r) 3).toInt) * d.toInt ≤ (K.2.1 r).toInt * d.toInt := fun r hr => by
    obtain ⟨b1, b2, b3, b4, b5, b6, b7, b8⟩ := hI.res r hr
    have hU := hC.2.2.2.1 r hr
    have hs0 : 0 ≤ hsm μ r := sm_nn 24 (fun i hi => (hI.prc i hi).2.2.2.1 r (by omega))
    have e1 : (μ (102 + r) 2 - μ (102 + r) 3).toInt = (K.2.1 r).toInt - (μ (102 + r) 3).toInt := by rw [(hI.cst.2.1 r hr).2.2, ti_sub (by omega) (by omega)]
    have m1 : 0 ≤ ((K.2.1 r).toInt - (μ (102 + r) 3).toInt) * d.toInt := Int.mul_nonneg (by omega) hd0
    have m2 : ((K.2.1 r).toInt - (μ (102 + r) 3).toInt) * d.toInt ≤ (K.2.1 r).toInt * d.toInt := Int.mul_le_mul_of_nonneg_right (by omega) hd0
    have m3 : (K.2.1 r).toInt * d.toInt ≤ 9 * 100000 := Int.mul_le_mul hU.2 hd1 hd0 (by decide)
    have m4 : (μ 0 6).toInt * (K.2.1 r).toInt ≤ 100000 * 9 := Int.mul_le_mul (by omega) hU.2 (by omega) (by decide)
    have e2 : ((μ (102 + r) 2 - μ (102 + r) 3) * d).toInt = ((K.2.1 r).toInt - (μ (102 + r) 3).toInt) * d.toInt := by rw [ti_mul (by rw [e1]; omega) (by rw [e1]; omega), e1]
    refine ⟨?_, m1, m2⟩
    rw [((a4 r hr).2.1 (Nat.zero_le _)).1, ti_add (by rw [e2]; omega) (by rw [e2]; omega), e2]
  refine ⟨⟨⟨fun k hk9 => by rw [(hk (k + 1) (lp_is hk9)).1]; exact hI.cst.1 k hk9, fun r hr => ?_, fun s hs => ?_⟩, by rw [a2 5 (by decide)]; exact hI.st, by rw [a3]; exact ⟨by omega, h1⟩, by rw [a2 7 (by decide)]; exact hI.lk, by rw [a2 9 (by decide)]; exact hI.od, fun r hr => ?_, fun r hr hre => ?_, fun s hs => ?_, fun k hk9 => ?_, fun i k hi hk9 hik h1 h2 => ?_⟩, ⟨by rw [a2 5 (by decide)]; exact Int.le_refl _, fun r hr => ?_, fun k hk9 _ _ _ _ => hk k hk9⟩, a3, a2 8 (by decide), hk, a2 5 (by decide)⟩
  · rw [(a4 r hr).1 0 (by decide) (by decide), (a4 r hr).1 1 (by decide) (by decide), (a4 r hr).1 2 (by decide) (by decide)]
    exact hI.cst.2.1 r hr
  · rw [(a5 s hs).1 0 (by decide), (a5 s hs).1 1 (by decide)]
    exact hI.cst.2.2 s hs
  · obtain ⟨b1, b2, b3, b4, b5, b6, b7, b8⟩ := hI.res r hr
    obtain ⟨c1, c2, c3⟩ := hbusy r hr
    have hct := hI.cnt r hr (by omega)
    have hct2 := ct_le (inr μ (nI r)) 24
    have ec : (nI (ct (inr μ (nI r)) 24)).toInt = (ct (inr μ (nI r)) 24 : Int) := ti_nI (by omega)
    generalize hcc : (ct (inr μ (nI r)) 24 : Int) = c at hct ec
    have hc0 : 0 ≤ c := by omega
    have m1 : 0 ≤ c * d.toInt := Int.mul_nonneg hc0 hd0
    have m2 : c * d.toInt ≤ (μ (102 + r) 6).toInt * d.toInt := Int.mul_le_mul_of_nonneg_right hct hd0
    have m3 : (μ (102 + r) 6).toInt * d.toInt ≤ 24 * 100000 := Int.mul_le_mul b8 hd1 hd0 (by decide)
    have m4 : (μ 0 6).toInt * (μ (102 + r) 6).toInt ≤ 100000 * 24 := Int.mul_le_mul (by omega) b8 b7 (by decide)
    have e2 : (nI (ct (inr μ (nI r)) 24) * d).toInt = c * d.toInt := by rw [ti_mul (by rw [ec]; omega) (by rw [ec]; omega), ec]
    have e5 : (ν (102 + r) 5).toInt = (μ (102 + r) 5).toInt + c * d.toInt := by
      rw [((a4 r hr).2.1 (Nat.zero_le _)).2, ti_add (by rw [e2]; omega) (by rw [e2]; omega), e2]
    have f3 := (a4 r hr).1 3 (by decide) (by decide)
    have f6 := (a4 r hr).1 6 (by decide) (by decide)
    have et : th.toInt = (μ 0 6).toInt + d.toInt := by omega
    refine ⟨by rw [f3]; exact b1, by rw [f3, hhs]; exact b2, by omega, ?_, by omega, ?_, by rw [f6]; exact b7, by rw [f6]; exact b8⟩
    · rw [c1, a3, et, Int.add_mul, Int.mul_comm d.toInt]; omega
    · rw [e5, a3, f6, et, Int.add_mul, Int.mul_comm d.toInt]; omega
  · rw [hin, (a4 r hr).1 6 (by decide) (by decide)]
    exact hI.cnt r hr hre
  · obtain ⟨b1, b2, b3, b4⟩ := hI.sto s hs
    have hU := hC.2.2.2.2.1 s hs
    have m1 : 0 ≤ (μ (108 + s) 2).toInt * d.toInt := Int.mul_nonneg b1 hd0
    have m2 : (μ (108 + s) 2).toInt * d.toInt ≤ (K.2.2 s).toInt * d.toInt := Int.mul_le_mul_of_nonneg_right b2 hd0
    have m3 : (K.2.2 s).toInt * d.toInt ≤ 99 * 100000 := Int.mul_le_mul hU.2 hd1 hd0 (by decide)
    have m4 : (μ 0 6).toInt * (K.2.2 s).toInt ≤ 100000 * 99 := Int.mul_le_mul (by omega) hU.2 (by omega) (by decide)
    have e2 : (μ (108 + s) 2 * d).toInt = (μ (108 + s) 2).toInt * d.toInt := ti_mul (by omega) (by omega)
    have e3 : (ν (108 + s) 3).toInt = (μ (108 + s) 3).toInt + (μ (108 + s) 2).toInt * d.toInt := by
      rw [(a5 s hs).2, ti_add (by rw [e2]; omega) (by rw [e2]; omega), e2]
    have f2 := (a5 s hs).1 2 (by decide)
    have et : th.toInt = (μ 0 6).toInt + d.toInt := by omega
    refine ⟨by rw [f2]; exact b1, by rw [f2]; exact b2, by omega, ?_⟩
    rw [e3, a3, et, Int.add_mul, Int.mul_comm d.toInt]; omega
  · obtain ⟨k1, k2⟩ := hk (k + 1) (lp_is hk9)
    have k2' : ν (k + 49) = μ (k + 49) := k2
    rw [a3, a2 5 (by decide), a2 9 (by decide), k1, k2']
    obtain ⟨p1, p2, p3, p4, p5, p6, p7, p8, p9⟩ := hI.prc k hk9
    refine ⟨p1, p2, ⟨p3.1, by omega⟩, p4, p5, p6, p7, p8, fun hx => ?_⟩
    rcases p9 hx with ⟨b1, b2, b3, b4, b5⟩ | hr
    · by_cases hm : μ (k + 1) 7 = -1
      · rw [hm, ti_m1] at b4
        have := htm.1
        omega
      · exact Or.inl ⟨b1, b2, b3, hev (k + 1) (lp_is hk9) hm, by omega⟩
    · exact Or.inr hr
  · rw [(hk (i + 1) (lp_is hi)).1] at h1 ⊢
    rw [(hk (k + 1) (lp_is hk9)).1] at h2 ⊢
    exact hI.dis i k hi hk9 hik h1 h2
  · obtain ⟨c1, c2, c3⟩ := hbusy r hr
    omega
end
