/-! THE PURE PART, 8: exchange, begin, draws, obey -/
section
variable {F : Fg} {K : Kx} {X X' : Nat → Prop} {e e' q r s a j : Nat} {T T' N N' : Int} {μ ν ρ : Mem}
/-- into a row of a store -/
theorem i_block (hC : Cfg F K) (hI : Inv F K X 99 T N μ) (hN : N < 2000000000) (hq : isP q) (hX : ∀ k, isP k → (X k ↔ k = q)) (hs : s < F.sz 1) {row ch : Int32} (hrow : row = nI (6 + s) ∨ row = nI (10 + s)) (h1 : -99 ≤ ch.toInt) (h2 : ch.toInt ≤ 99) :
    Ok (b_X7_exchangeS_78 F μ q ch row) (obQ F K T (N + 1) q μ) := by
  have h6 := hC.1
  have h4 := hC.2.1
  have hx : X q := (hX q hq).mpr rfl
  obtain ⟨p1, p2, p3, p4, p5, p6, p7, p8, p9⟩ := hI.p hq
  obtain ⟨x9, x7, xc⟩ := p8 hx
  have ho := hI.od
  unfold b_X7_exchangeS_78
  refine ok_bnO (p_enter hq row 3) (fun ρ h => ok_bnd (ok_some ?_))
  obtain ⟨a1, a2, a3, a4, a5, a6, a7⟩ := h
  obtain ⟨ν, hν⟩ : ∃ ν, ν = put ρ q 12 ch := ⟨_, rfl⟩
  rw [← hν]
  have fk : ∀ k, k ≠ q → ν k = ρ k := fun k hk => by rw [hν]; exact pu_nk ρ 12 ch hk
  have fq : ν q = upd (ρ q) 12 ch := by rw [hν]; exact put_at ρ q 12 ch
  have fj : ∀ j, j ≠ 12 → ν q j = ρ q j := fun j hj => by rw [fq]; exact pk_un hj
  have f12 : ν q 12 = ch := by rw [fq]; exact pk_us
  have z0 : ν 0 = ρ 0 := fk 0 (by have := hq.1; omega)
  have e7 : (ν q 11).toInt = (μ 0 9).toInt + 1 := by
    rw [fj 11 (by decide), a7, ti_add (by rw [ti_1]; omega) (by rw [ti_1]; omega), ti_1]
  have f9 : ν q 9 = row := by rw [fj 9 (by decide)]; exact a6
  have f6 : ν q 6 = 3 := by rw [fj 6 (by decide)]; exact a5
  have gj : ∀ j, j ≠ 6 → j ≠ 9 → j ≠ 10 → j ≠ 11 → j ≠ 12 → ν q j = μ q j := fun j b1 b2 b3 b4 b5 => by rw [fj j b5]; exact a4 j b1 b2 b3 b4
  have hnr : ∀ r, r < F.sz 0 → ¬ ν q 9 = nI r := fun r hr z => by
    rw [f9] at z
    rcases hrow with h | h <;> exact row_ne (by omega) (by omega) h z (by omega)
  obtain ⟨g1, g2⟩ := inv_q0 (X' := fun k => X k ∧ k ≠ q) hC hI hq (by decide) hN (fun k k1 k2 => by rw [fk k k2]; exact a1 k k1 k2) (fun j hj => by rw [z0]; exact a2 j hj) (by rw [z0]; exact a3) (gj 0 (by decide) (by decide) (by decide) (by decide) (by decide)) (fun k _ hk => ⟨fun z => z.1, fun z => ⟨z, hk⟩⟩) ⟨by rw [gj 1 (by decide) (by decide) (by decide) (by decide) (by decide)]; exact p1, by rw [gj 5 (by decide) (by decide) (by decide) (by decide) (by decide)]; exact p2, by rw [gj 4 (by decide) (by decide) (by decide) (by decide) (by decide)]; exact p3, p4, p5, fun _ => by omega, by rw [gj 13 (by decide) (by decide) (by decide) (by decide) (by decide)]; exact p7, fun z => absurd rfl z.2, fun _ => Or.inr (Or.inr (Or.inr (Or.inl ⟨by rw [gj 7 (by decide) (by decide) (by decide) (by decide) (by decide)]; exact x7, xc, f6, by rw [f12]; exact h1, by rw [f12]; exact h2, s, hs, by rw [f9]; exact hrow⟩)))⟩ (Or.inr ⟨Or.inr hnr, by rw [fj 11 (by decide)]; exact a7⟩)
  exact obQ.no g1 g2 (fun k hk z => z.2 ((hX k hk).mp z.1)) (by rw [f6]; decide)
/-- a store's level -/
theorem i_stock (hC : Cfg F K) (hI : Inv F K X e T N μ) (hs : s < F.sz 1) {v : Int32} (h0 : 0 ≤ v.toInt) (h1 : v.toInt ≤ (K.2.2 s).toInt) : Inv F K X e T N (put μ (108 + s) 2 v) ∧ Fr F 0 μ (put μ (108 + s) 2 v) ∧ ∀ k, isP k → put μ (108 + s) 2 v k = μ k := by
  have h6 := hC.1
  have h4 := hC.2.1
  have hf : ∀ k, k ≠ 108 + s → put μ (108 + s) 2 v k = μ k := fun k hk => pu_nk μ 2 v hk
  have fs : put μ (108 + s) 2 v (108 + s) = upd (μ (108 + s)) 2 v := put_at μ _ _ _
  have z0 : put μ (108 + s) 2 v 0 = μ 0 := hf 0 (by omega)
  have hin : ∀ row : Int32, ct (inr (put μ (108 + s) 2 v) row) 24 = ct (inr μ row) 24 := fun row => ct_congr 24 (fun i hi => by unfold inr; rw [hf (i + 1) (by omega)])
  have hhs : ∀ r', hsm (put μ (108 + s) 2 v) r' = hsm μ r' := fun r' => sm_congr 24 (fun i hi => by rw [hf (i + 49) (by omega)])
  refine ⟨⟨⟨fun k hk => by rw [hf _ (by omega)]; exact hI.cst.1 k hk, fun r hr => by rw [hf _ (by omega)]; exact hI.cst.2.1 r hr, fun s' hs' => ?_⟩, by rw [z0]; exact hI.st, by rw [z0]; exact hI.tm, by rw [z0]; exact hI.lk, by rw [z0]; exact hI.od, fun r hr => by rw [z0, hhs, hf _ (by omega)]; exact hI.res r hr, fun r hr hre => by rw [hin, hf _ (by omega)]; exact hI.cnt r hr hre, fun s' hs' => ?_, fun k hk => by rw [z0, hf _ (by omega), hf _ (by omega)]; exact hI.prc k hk, fun i k hi hk hik h1 h2 => ?_⟩, ⟨by rw [z0], by rw [z0], by rw [z0]; exact Int.le_refl _, fun r' hr' => by rw [hf _ (by omega)], fun k hk _ _ _ _ => ⟨hf k (by have := hk.2; omega), hf _ (by have := hk.2; omega)⟩⟩, fun k hk => hf k (by have := hk.2; omega)⟩
  · by_cases hss : s' = s
    · subst hss
      rw [fs, pk_un (show (0 : Nat) ≠ 2 by decide), pk_un (show (1 : Nat) ≠ 2 by decide)]
      exact hI.cst.2.2 s' hs
    · rw [hf _ (by omega)]; exact hI.cst.2.2 s' hs'
  · obtain ⟨b1, b2, b3, b4⟩ := hI.sto s' hs'
    by_cases hss : s' = s
    · subst hss
      rw [z0]
      unfold SI
      rw [fs, pk_us, pk_un (show (3 : Nat) ≠ 2 by decide)]
      exact ⟨h0, h1, b3, b4⟩
    · rw [z0, hf _ (by omega)]; exact ⟨b1, b2, b3, b4⟩
  · rw [hf _ (by omega)] at h1 ⊢
    rw [hf _ (by omega)] at h2 ⊢
    exact hI.dis i k hi hk hik h1 h2
/-- who is worked on isn't touched where Fr says so -/
theorem Inv.keep (hI : Inv F K X e T N μ) (hq : isP q) (hx : X q) (hF : Fr F 0 μ ν) : ν q = μ q ∧ ν (q + 48) = μ (q + 48) := by
  have z := (hI.p hq).2.2.2.2.2.2.2.1 hx
  exact hF.2.2.2.2 q hq (by have := hq.1; omega) z.1 z.2.1 z.2.2
/-- how an instruction that leaves its process going leaves the kernel -/
theorem obQ.go (h : Inv F K X 99 T N ν) (hF : Fr F q μ ν) (hX : ∀ k, isP k → (X k ↔ k = q)) (hs : ν q 6 = 8) : obQ F K T N q μ ν := obQ.is h hF hX (Or.inl hs)
theorem i_exchangeS (hC : Cfg F K) (hI : Inv F K X 99 T N μ) (hX : ∀ k, isP k → (X k ↔ k = q)) (h8 : μ q 6 = 8) (hT : T ≤ 100000) (hN : N + 25 < 2000000000) (hq : isP q) (hs : s < F.sz 1) {am ig : Int32} (h1 : 1 ≤ am.toInt) (h2 : am.toInt ≤ 99) :
    Ok (f_X7_exchangeS F μ q (108 + s) am ig) (obQ F K T (N + 25) q μ) := by
  have hx : X q := (hX q hq).mpr rfl
  have s0 := (hI.cst.2.2 s hs).1
  have hB : ∀ row ch : Int32, (row = nI (6 + s) ∨ row = nI (10 + s)) → -99 ≤ ch.toInt → ch.toInt ≤ 99 → Ok (b_X7_exchangeS_78 F μ q ch row) (obQ F K T (N + 25) q μ) := fun row ch a b c => ok_mono (i_block hC hI (by omega) hq hX hs a b c) (fun ν hν => hν.mono (by omega))
  have hG : ∀ (v : Int32) (z : Int32), z = (if 0 ≤ (μ (108 + s) 2 + v).toInt ∧ (μ (108 + s) 2 + v).toInt ≤ (μ (108 + s) 1).toInt then 1 else 0) → ¬ z = 0 → Ok (bnd (put μ (108 + s) 2 ((μ (108 + s) 2) + v)) fun μ_11 => bnO (f_X7_goOnWithS F μ_11 (108 + s)) fun μ_14 => some μ_14) (obQ F K T (N + 25) q μ) := fun v z hz hz0 => by
    have hw : 0 ≤ (μ (108 + s) 2 + v).toInt ∧ (μ (108 + s) 2 + v).toInt ≤ (K.2.2 s).toInt := by
      rw [← (hI.cst.2.2 s hs).2]
      by_cases h : 0 ≤ (μ (108 + s) 2 + v).toInt ∧ (μ (108 + s) 2 + v).toInt ≤ (μ (108 + s) 1).toInt
      · exact h
      · rw [if_neg h] at hz; exact absurd hz hz0
    obtain ⟨d1, d2, d3⟩ := i_stock hC hI hs hw.1 hw.2
    refine ok_bnd (ok_bnO (i_goOn hC d1 hT (by decide) hs (by omega)) (fun ν hν => ok_some ?_))
    have k := (d1.keep hq hx hν.2).1
    exact obQ.go (hν.1.mono (Int.le_refl _) (by omega)) ((d2.tr hν.2).wk) hX (by rw [k, d3 q hq]; exact h8)
  have hneg : (-am).toInt = -am.toInt := ti_neg (by omega)
  unfold f_X7_exchangeS
  refine ok_ite (fun _ => ?_) (fun _ => ok_bnd ?_)
  · rw [p_row F s0]
    refine ok_ite (fun hig => ?_) (fun hig => ?_)
    · rw [if_pos hig]
      refine ok_bnO (ok_eq rfl) (fun row hrow => ?_)
      rw [hrow]
      refine ok_bnO (p_firstIn F μ _) (fun o ho => ok_cs (fun _ => ?_) (fun v hv => ?_))
      · rw [p_allows]
        exact ok_bnO (ok_eq rfl) (fun z hz => ok_ite (fun _ => hB _ _ (Or.inl rfl) (by omega) (by omega)) (fun hz0 => hG am z hz hz0))
      · rcases ho with ⟨ho, -⟩ | ⟨w, ho, hw, -⟩
        · rw [hv] at ho; cases ho
        rw [hv] at ho; cases ho
        exact ok_grd hw (hB _ _ (Or.inl rfl) (by omega) (by omega))
    · rw [if_neg hig]
      refine ok_bnO (ok_eq rfl) (fun row hrow => ?_)
      rw [hrow]
      refine ok_bnO (p_firstIn F μ _) (fun o ho => ok_cs (fun _ => ?_) (fun v hv => ?_))
      · rw [p_allows]
        exact ok_bnO (ok_eq rfl) (fun z hz => ok_ite (fun _ => hB _ _ (Or.inr rfl) (by omega) (by omega)) (fun hz0 => hG (-am) z hz hz0))
      · rcases ho with ⟨ho, -⟩ | ⟨w, ho, hw, -⟩
        · rw [hv] at ho; cases ho
        rw [hv] at ho; cases ho
        exact ok_grd hw (hB _ _ (Or.inr rfl) (by omega) (by omega))
  · obtain ⟨d1, d2⟩ := i_state hC hI (by decide) hq hx 6
    exact ok_some (obQ.is (d1.mono (Int.le_refl _) (by omega)) d2 hX (Or.inr (Or.inl (pu_at μ q 6 6))))
/-- into a signal's row -/
theorem i_await (hC : Cfg F K) (hI : Inv F K X 99 T N μ) (hN : N < 2000000000) (hq : isP q) (hX : ∀ k, isP k → (X k ↔ k = q)) (ha : a < 4) :
    Ok (f_X7_enter F μ q (nI (14 + a)) 4) (obQ F K T (N + 1) q μ) := by
  have h6 := hC.1
  have h4 := hC.2.1
  have hx : X q := (hX q hq).mpr rfl
  obtain ⟨p1, p2, p3, p4, p5, p6, p7, p8, p9⟩ := hI.p hq
  obtain ⟨x9, x7, xc⟩ := p8 hx
  have ho := hI.od
  refine ok_mono (p_enter hq (nI (14 + a)) 4) (fun ν h => ?_)
  obtain ⟨a1, a2, a3, a4, a5, a6, a7⟩ := h
  have e7 : (ν q 11).toInt = (μ 0 9).toInt + 1 := by
    rw [a7, ti_add (by rw [ti_1]; omega) (by rw [ti_1]; omega), ti_1]
  have hnr : ∀ r, r < F.sz 0 → ¬ ν q 9 = nI r := fun r hr z => row_ne (by omega) (by omega) a6 z (by omega)
  obtain ⟨g1, g2⟩ := inv_q0 (X' := fun k => X k ∧ k ≠ q) hC hI hq (by decide) hN a1 a2 a3 (a4 0 (by decide) (by decide) (by decide) (by decide)) (fun k _ hk => ⟨fun z => z.1, fun z => ⟨z, hk⟩⟩) ⟨by rw [a4 1 (by decide) (by decide) (by decide) (by decide)]; exact p1, by rw [a4 5 (by decide) (by decide) (by decide) (by decide)]; exact p2, by rw [a4 4 (by decide) (by decide) (by decide) (by decide)]; exact p3, p4, p5, fun _ => by omega, by rw [a4 13 (by decide) (by decide) (by decide) (by decide)]; exact p7, fun z => absurd rfl z.2, fun _ => Or.inr (Or.inr (Or.inr (Or.inr (Or.inl ⟨by rw [a4 7 (by decide) (by decide) (by decide) (by decide)]; exact x7, xc, a5, a, ha, a6⟩))))⟩ (Or.inr ⟨Or.inr hnr, a7⟩)
  exact obQ.no g1 g2 (fun k hk z => z.2 ((hX k hk).mp z.1)) (by rw [a5]; decide)
/-- a process begins -/
theorem i_begin (hC : Cfg F K) (hI : Inv F K X e T N μ) (hT : T ≤ 100000) (he : e < 2147483648) (hN : N < 2000000000) (hj : j < F.sz 2) {rk de : Int32} (hd0 : 0 ≤ de.toInt) (hd1 : de.toInt ≤ 20) :
    Ok (f_X7_beginC F μ (114 + j) rk de) (fun ν => Inv F K X e T (N + 1) ν ∧ Fr F 0 μ ν ∧ (μ 0 5).toInt ≤ (ν 0 5).toInt ∧ ((μ 0 5).toInt < 24 → (ν 0 5).toInt = (μ 0 5).toInt + 1)) := by
  have h6 := hC.1
  have h4 := hC.2.1
  have h8 := hC.2.2.1
  have hst := hI.st
  obtain ⟨hc1, hc2, hc3⟩ := ti_nat hst.1
  generalize hcc : (μ 0 5).toNatClampNeg = c at hc1 hc2 hc3
  unfold f_X7_beginC
  rw [hc1]
  refine ok_ite (fun z => absurd z (nI_pos (by omega))) (fun _ => ok_ite (fun hlt => ?_) (fun hge => ok_some ⟨hI.mono (Int.le_refl _) (by omega), Fr.rf, Int.le_of_eq (by rw [hc1]), fun z => absurd (ti_ltI.mpr (show (nI c).toInt < 24 from z)) hge⟩))
  rw [lp_24, nI_ltI (by omega) (by decide)] at hlt
  refine ok_grd (lp_gd hlt) (ok_bnd ?_)
  rw [lp_at hlt]
  have hk : isP (c + 1) := lp_is hlt
  have htm := hI.tm
  have ho := hI.od
  refine ok_bnd (ok_bnd (ok_bnd (ok_bnd ?_)))
  obtain ⟨ρ, hρ⟩ : ∃ ρ, ρ = put (put (put (put μ 0 5 (nI c + 1)) (c + 1) 1 (nI (114 + j - 114))) (c + 1) 2 rk) (c + 1) 4 (put (put (put μ 0 5 (nI c + 1)) (c + 1) 1 (nI (114 + j - 114))) (c + 1) 2 rk 0 6) := ⟨_, rfl⟩
  rw [← hρ]
  have n0 : ¬ 0 = c + 1 := by omega
  have hf : ∀ k, k ≠ 0 → k ≠ c + 1 → ρ k = μ k := fun k k1 k2 => by rw [hρ]; simp [put, k1, k2]
  have f0 : ∀ i, i ≠ 5 → ρ 0 i = μ 0 i := fun i hi => by rw [hρ]; simp [put, upd, n0, hi]
  have f5 : ρ 0 5 = nI (c + 1) := by rw [hρ]; simp [put, upd, n0]; exact nI_1 c
  have fk : ∀ i, i ≠ 1 → i ≠ 2 → i ≠ 4 → ρ (c + 1) i = μ (c + 1) i := fun i i1 i2 i4 => by rw [hρ]; simp [put, upd, i1, i2, i4]
  have fk1 : ρ (c + 1) 1 = nI j := by rw [hρ]; simp [put, upd]
  have fk4 : ρ (c + 1) 4 = μ 0 6 := by rw [hρ]; simp [put, upd]
  have e5 : (ρ 0 5).toInt = (μ 0 5).toInt + 1 := by rw [f5, ti_nI (by omega)]; omega
  obtain ⟨p1, p2, p3, p4, p5, p6, p7, p8, p9⟩ := hI.p hk
  have hnx : ¬ X (c + 1) := fun z => by have := (p8 z).2.2; omega
  have hun : μ (c + 1) 9 = -1 ∧ μ (c + 1) 7 = -1 ∧ μ (c + 1) 6 = 0 := by
    rcases p9 hnx with ⟨-, -, a, -⟩ | ⟨a1, a2, a3, -⟩ | ⟨-, a, -⟩ | ⟨-, a, -⟩ | ⟨-, a, -⟩ | ⟨-, -, a, -⟩
    · omega
    · exact ⟨a1, a2, a3⟩
    · omega
    · omega
    · omega
    · omega
  have g9 : ρ (c + 1) 9 = -1 := by rw [fk 9 (by decide) (by decide) (by decide)]; exact hun.1
  have J : Inv F K (fun k => k = c + 1 ∨ X k) e T N ρ := inv_q hI hk he h6 (fun k hk1 hkq => ⟨hf _ (by omega) hkq, hf _ (by omega) (by omega)⟩) (fk 0 (by decide) (by decide) (by decide)) (Or.inr ⟨e5, by omega⟩) (f0 6 (by decide)) (by rw [f0 7 (by decide)]; exact hI.lk) (by rw [f0 9 (by decide)]; exact Int.le_refl _) (by rw [f0 9 (by decide)]; exact ho.2) (fun r hr => by
      rw [hf (102 + r) (by omega) (by omega), hf (c + 1 + 48) (by omega) (by omega)]
      exact ⟨rfl, rfl, rfl, rfl, rfl, rfl, (hI.res r hr).1, rfl⟩) (fun s hs => by
      rw [hf (108 + s) (by omega) (by omega)]
      exact ⟨rfl, rfl, rfl, (hI.sto s hs).1, (hI.sto s hs).2.1⟩) (fun k _ hk => ⟨fun z => z.resolve_left hk, Or.inr⟩) ⟨Or.inr ⟨j, hj, fk1⟩, by rw [fk 5 (by decide) (by decide) (by decide)]; exact p2, by rw [fk4]; exact ⟨htm.1, Int.le_refl _⟩, by rw [hf (c + 1 + 48) (by omega) (by omega)]; exact p4, by rw [hf (c + 1 + 48) (by omega) (by omega)]; exact p5, fun z => absurd g9 z, by rw [fk 13 (by decide) (by decide) (by decide)]; exact p7, fun _ => ⟨g9, by rw [fk 7 (by decide) (by decide) (by decide)]; exact hun.2.1, by omega⟩, fun z => absurd (Or.inl rfl) z⟩ (Or.inl g9)
  have JF : Fr F (c + 1) μ ρ := ⟨f0 6 (by decide), f0 8 (by decide), by omega, fun r hr => by rw [hf (102 + r) (by omega) (by omega)], fun k hk1 hkq _ _ _ => ⟨hf k hk1.n0 hkq, hf _ (by omega) (by have := hk1.2; omega)⟩⟩
  refine ok_bnO (i_schedule hC J hT he hN hk (Or.inl rfl) (Or.inl rfl) hd0 hd1) (fun ν hν => ok_some ?_)
  obtain ⟨d1, d2, -, -, -, -, d5⟩ := hν
  have hFF : Fr F 0 μ ν := (JF.tr d2).up (fun z => by have := z.2.2; omega)
  refine ⟨d1.back hnx, hFF, ?_, fun _ => ?_⟩
  · rw [← hc1]; exact hFF.2.2.1
  · rw [d5, e5, hc1]
end
