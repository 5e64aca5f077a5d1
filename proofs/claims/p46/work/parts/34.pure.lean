/-! THE PURE PART, 5: stores, signals, release -/
section
variable {F : Fg} {K : Kx} {X X' : Nat → Prop} {e e' q r s a : Nat} {T T' N N' : Int} {μ ν ρ : Mem}
theorem p_row (F : Fg) (hs : μ (108 + s) 0 = nI s) (g : Int32) : f_X5_row F μ (108 + s) g = some (if g = 0 then nI (6 + s) else nI (10 + s)) := by
  unfold f_X5_row
  rw [hs]
  by_cases h : g = 0
  · rw [if_pos h, if_pos h, show (6 : Int32) = nI 6 from rfl, nI_add, Nat.add_comm]
  · rw [if_neg h, if_neg h, show (10 : Int32) = nI 10 from rfl, nI_add, Nat.add_comm]
theorem p_allows (F : Fg) (μ : Mem) (t : Nat) (c : Int32) : f_X5_allows F μ t c = some (if 0 ≤ (μ t 2 + c).toInt ∧ (μ t 2 + c).toInt ≤ (μ t 1).toInt then 1 else 0) := by
  unfold f_X5_allows
  rw [p_isIn]
  unfold bnO
  dsimp only
  rw [ti_0]
  unfold grd
  by_cases h : 0 ≤ (μ t 2 + c).toInt ∧ (μ t 2 + c).toInt ≤ (μ t 1).toInt
  · rw [if_pos h, if_pos (Or.inr rfl)]
  · rw [if_neg h, if_pos (Or.inl rfl)]
/-- the first of a store's row goes on -/
theorem i_take (hC : Cfg F K) (hI : Inv F K X e T N μ) (he : e < 2147483648) (hq : isP q) (hs : s < F.sz 1) (h9 : μ q 9 = nI (6 + s) ∨ μ q 9 = nI (10 + s)) (hw : 0 ≤ (μ (108 + s) 2 + μ q 12).toInt ∧ (μ (108 + s) 2 + μ q 12).toInt ≤ (K.2.2 s).toInt) {v : Int32} (hv : v = μ (108 + s) 2 + μ q 12) :
    Inv F K (fun k => k = q ∨ X k) e T N (put (put μ q 9 (-1)) (108 + s) 2 v) ∧ Fr F q μ (put (put μ q 9 (-1)) (108 + s) 2 v) ∧ ¬ X q ∧ ¬ μ q 9 = -1 := by
  have h6 := hC.1
  have h4 := hC.2.1
  obtain ⟨q1, q2⟩ := id hq
  obtain ⟨p1, p2, p3, p4, p5, p6, p7, p8, p9⟩ := hI.p hq
  obtain ⟨b1, b2, b3, b4, b5, b6⟩ := (hI.p hq).inSto hC hs h9
  obtain ⟨ν, hν⟩ : ∃ ν, ν = put (put μ q 9 (-1)) (108 + s) 2 v := ⟨_, rfl⟩
  rw [← hν]
  have hf : ∀ k, k ≠ q → k ≠ 108 + s → ν k = μ k := fun k h1 h2 => by rw [hν]; simp [put, h1, h2]
  have fq : ν q = upd (μ q) 9 (-1) := by rw [hν]; simp [put, show ¬ q = 108 + s by omega]
  have fs : ν (108 + s) = upd (μ (108 + s)) 2 v := by rw [hν]; simp [put, show ¬ 108 + s = q by omega]
  have z0 : ν 0 = μ 0 := hf 0 (by omega) (by omega)
  have f9 : ν q 9 = -1 := by rw [fq]; exact pk_us
  have fj : ∀ j, j ≠ 9 → ν q j = μ q j := fun j hj => by rw [fq]; exact pk_un hj
  have g9 : ¬ μ q 9 = -1 := fun z => by rcases h9 with h9 | h9 <;> exact nI_m1 (by omega) (h9.symm.trans z)
  refine ⟨inv_q hI hq he h6 (fun k hk hkq => ⟨hf _ hkq (by omega), hf _ (by omega) (by omega)⟩) (fj 0 (by decide)) (Or.inl (by rw [z0])) (by rw [z0]) (by rw [z0]; exact hI.lk) (by rw [z0]; exact Int.le_refl _) (by rw [z0]; exact hI.od.2) (fun r hr => ?_) (fun s' hs' => ?_) (fun k _ hk => ⟨fun z => z.resolve_left hk, Or.inr⟩) ⟨by rw [fj 1 (by decide)]; exact p1, by rw [fj 5 (by decide)]; exact p2, by rw [fj 4 (by decide)]; exact p3, ?_, ?_, fun z => absurd f9 z, by rw [fj 13 (by decide)]; exact p7, fun _ => ⟨f9, by rw [fj 7 (by decide)]; exact b2, by rw [z0]; exact b3⟩, fun z => absurd (Or.inl rfl) z⟩ (Or.inl f9), ⟨by rw [z0], by rw [z0], by rw [z0]; exact Int.le_refl _, fun r hr => by rw [hf (102 + r) (by omega) (by omega)], fun k hk hkq _ _ _ => ⟨hf k hkq (by have := hk.2; omega), hf _ (by have := hk.1; omega) (by have := hk.2; omega)⟩⟩, b1, g9⟩
  · rw [hf (102 + r) (by omega) (by omega), hf (q + 48) (by omega) (by omega)]
    exact ⟨rfl, rfl, rfl, rfl, rfl, rfl, (hI.res r hr).1, rfl⟩
  · by_cases hss : s' = s
    · subst hss
      rw [fs, pk_un (show (0 : Nat) ≠ 2 by decide), pk_un (show (1 : Nat) ≠ 2 by decide), pk_un (show (3 : Nat) ≠ 2 by decide), pk_us, hv]
      exact ⟨rfl, rfl, rfl, hw⟩
    · rw [hf (108 + s') (by omega) (by omega)]
      exact ⟨rfl, rfl, rfl, (hI.sto s' hs').1, (hI.sto s' hs').2.1⟩
  · rw [hf (q + 48) (by omega) (by omega)]; exact p4
  · rw [hf (q + 48) (by omega) (by omega)]; exact p5
theorem i_goOn_go (hC : Cfg F K) (hT : T ≤ 100000) (he : e < 2147483648) (hs : s < F.sz 1) {n i : Nat} (hi : i < 24)
    (ih : ∀ (N : Int) (μ : Mem), N + (24 - (i + 1)) < 2000000000 → Inv F K X e T N μ → Ok (b_X7_goOnWithS_2 F n μ (108 + s) (nI (i + 1))) (fun ν => Inv F K X e T (N + (24 - (i + 1))) ν ∧ Fr F 0 μ ν))
    (hN : N + (24 - i) < 2000000000) (hI : Inv F K X e T N μ) (hq : isP q) (h9 : μ q 9 = nI (6 + s) ∨ μ q 9 = nI (10 + s)) {z : Int32} (hz : z = if 0 ≤ (μ (108 + s) 2 + μ q 12).toInt ∧ (μ (108 + s) 2 + μ q 12).toInt ≤ (μ (108 + s) 1).toInt then 1 else 0) (hz0 : ¬ z = 0) :
    Ok (bnd (put μ q 9 (-1)) fun μ_15 => bnd (put μ_15 (108 + s) 2 ((μ_15 (108 + s) 2) + (μ_15 q 12))) fun μ_16 => bnO (f_X7_schedule F μ_16 q 0 0) fun μ_19 => b_X7_goOnWithS_2 F n μ_19 (108 + s) (nI i + 1)) (fun ν => Inv F K X e T (N + (24 - i)) ν ∧ Fr F 0 μ ν) := by
  obtain ⟨q1, q2⟩ := id hq
  have h4 := hC.2.1
  have hw : 0 ≤ (μ (108 + s) 2 + μ q 12).toInt ∧ (μ (108 + s) 2 + μ q 12).toInt ≤ (K.2.2 s).toInt := by
    rw [← (hI.cst.2.2 s hs).2]
    by_cases h : 0 ≤ (μ (108 + s) 2 + μ q 12).toInt ∧ (μ (108 + s) 2 + μ q 12).toInt ≤ (μ (108 + s) 1).toInt
    · exact h
    · rw [if_neg h] at hz; exact absurd hz hz0
  obtain ⟨d1, d2, d3, d4⟩ := i_take (v := put μ q 9 (-1) (108 + s) 2 + put μ q 9 (-1) q 12) hC hI he hq hs h9 hw (by rw [pu_nk μ 9 (-1) (show 108 + s ≠ q by omega), pu_nj μ q (-1) (show (12 : Nat) ≠ 9 by decide)])
  refine ok_bnd (ok_bnd (ok_bnO (i_schedule hC d1 hT he (by omega) hq (Or.inl rfl) (Or.inl rfl) (by decide) (by decide)) (fun μ19 h19 => ?_)))
  obtain ⟨g1, g2, -⟩ := h19
  rw [nI_1]
  refine ok_mono (ih (N + 1) μ19 (by omega) (g1.back d3)) (fun ν hν => ⟨hν.1.mono (Int.le_refl _) (by omega), ((d2.tr g2).up (fun z => d4 z.1)).tr hν.2⟩)
theorem i_goOn_l (hC : Cfg F K) (hT : T ≤ 100000) (he : e < 2147483648) (hs : s < F.sz 1) : ∀ (n i : Nat) (N : Int) (μ : Mem), i ≤ 24 → 24 < n + i → N + (24 - i) < 2000000000 → Inv F K X e T N μ → Ok (b_X7_goOnWithS_2 F n μ (108 + s) (nI i)) (fun ν => Inv F K X e T (N + (24 - i)) ν ∧ Fr F 0 μ ν)
  | 0, i, N, μ, h1, h2, _, _ => absurd h2 (by omega)
  | n + 1, i, N, μ, h1, h2, hN, hI => by
    have hE : ∀ ν : Mem, ν = μ → Inv F K X e T (N + (24 - i)) ν ∧ Fr F 0 μ ν := fun ν h => by
      rw [h]; exact ⟨hI.mono (Int.le_refl _) (by omega), Fr.rf⟩
    rw [b_X7_goOnWithS_2]
    refine ok_ite (fun _ => ok_some (hE _ rfl)) (fun hlt => ?_)
    have hi : i < 24 := by
      rcases Nat.lt_or_ge i 24 with h | h
      · exact h
      · exact absurd ((lp_le (by omega)).mpr h) hlt
    have ih := fun (N : Int) (μ : Mem) (a : N + (24 - ((i + 1 : Nat) : Int)) < 2000000000) (b : Inv F K X e T N μ) => i_goOn_l hC hT he hs n (i + 1) N μ hi (by omega) a b
    have s0 := (hI.cst.2.2 s hs).1
    rw [p_row F s0, p_row F s0, if_neg (by decide), if_pos rfl]
    have put_path : ∀ o : Option Nat, fiQ μ (nI (6 + s)) o → Ok (csQ o (some μ) fun o_11 => grd (1 ≤ o_11 ∧ o_11 < 25) (bnO (f_X5_allows F μ (108 + s) (μ o_11 12)) fun r_12 => if r_12 = 0 then (some μ) else (bnd (put μ o_11 9 (-1)) fun μ_15 => bnd (put μ_15 (108 + s) 2 ((μ_15 (108 + s) 2) + (μ_15 o_11 12))) fun μ_16 => bnO (f_X7_schedule F μ_16 o_11 0 0) fun μ_19 => b_X7_goOnWithS_2 F n μ_19 (108 + s) (nI i + 1)))) (fun ν => Inv F K X e T (N + (24 - i)) ν ∧ Fr F 0 μ ν) := fun o ho => by
      refine ok_cs (fun _ => ok_some (hE _ rfl)) (fun q hv => ?_)
      rcases ho with ⟨ho, -⟩ | ⟨q', ho, hq, h9⟩
      · rw [hv] at ho; cases ho
      rw [hv] at ho; cases ho
      refine ok_grd hq ?_
      rw [p_allows]
      exact ok_bnO (ok_eq rfl) (fun z hz => ok_ite (fun _ => ok_some (hE _ rfl)) (fun hz0 => i_goOn_go hC hT he hs hi ih hN hI hq (Or.inl h9) hz hz0))
    refine ok_bnO (ok_eq rfl) (fun row hrow => ?_)
    rw [hrow]
    refine ok_bnO (p_firstIn F μ _) (fun o ho => ok_cs (fun _ => ?_) (fun q hv => ?_))
    · refine ok_bnO (ok_eq rfl) (fun row2 hrow2 => ?_)
      rw [hrow2]
      exact ok_bnO (p_firstIn F μ _) put_path
    · rcases ho with ⟨ho, -⟩ | ⟨q', ho, hq, h9⟩
      · rw [hv] at ho; cases ho
      rw [hv] at ho; cases ho
      refine ok_grd hq ?_
      rw [p_allows]
      refine ok_bnO (ok_eq rfl) (fun z hz => ok_ite (fun _ => ?_) (fun hz0 => ?_))
      · refine ok_bnO (ok_eq rfl) (fun row2 hrow2 => ?_)
        rw [hrow2]
        exact ok_bnO (p_firstIn F μ _) put_path
      · refine ok_bnO (ok_eq rfl) (fun z2 hz2 => ok_ite (fun _ => ok_some (hE _ rfl)) (fun _ => i_goOn_go hC hT he hs hi ih hN hI hq (Or.inr h9) hz hz0))
theorem i_goOn (hC : Cfg F K) (hI : Inv F K X e T N μ) (hT : T ≤ 100000) (he : e < 2147483648) (hs : s < F.sz 1) (hN : N + 24 < 2000000000) : Ok (f_X7_goOnWithS F μ (108 + s)) (fun ν => Inv F K X e T (N + 24) ν ∧ Fr F 0 μ ν) :=
  i_goOn_l hC hT he hs fu 0 N μ (by decide) fu_24 (by omega) hI
/-- out of a signal's row -/
theorem i_free (hC : Cfg F K) (hI : Inv F K X e T N μ) (he : e < 2147483648) (hq : isP q) (h7 : μ q 7 = -1) (hc : (q : Int) ≤ (μ 0 5).toInt) : Inv F K (fun k => k = q ∨ X k) e T N (put μ q 9 (-1)) ∧ Fr F q μ (put μ q 9 (-1)) := by
  obtain ⟨p1, p2, p3, p4, p5, p6, p7, p8, p9⟩ := hI.p hq
  exact inv_put hC hI he hq (j := 9) (v := -1) (by decide) pk_us (fun k _ hk => ⟨fun z => z.resolve_left hk, Or.inr⟩) ⟨by rw [pk_un (by decide)]; exact p1, by rw [pk_un (by decide)]; exact p2, by rw [pk_un (by decide)]; exact p3, p4, p5, fun z => absurd pk_us z, by rw [pk_un (by decide)]; exact p7, fun _ => ⟨pk_us, by rw [pk_un (by decide)]; exact h7, hc⟩, fun z => absurd (Or.inl rfl) z⟩
theorem i_wakeAll_l (hC : Cfg F K) (hT : T ≤ 100000) (he : e < 2147483648) (ha : a < 4) : ∀ (n i : Nat) (N : Int) (μ : Mem), i ≤ 24 → 24 < n + i → N + (24 - i) < 2000000000 → Inv F K X e T N μ → Ok (b_X7_wakeAll_2 F n μ (nI (14 + a)) (nI i)) (fun ν => Inv F K X e T (N + (24 - i)) ν ∧ Fr F 0 μ ν)
  | 0, i, N, μ, h1, h2, _, _ => absurd h2 (by omega)
  | n + 1, i, N, μ, h1, h2, hN, hI => by
    have hE : ∀ ν : Mem, ν = μ → Inv F K X e T (N + (24 - i)) ν ∧ Fr F 0 μ ν := fun ν h => by
      rw [h]; exact ⟨hI.mono (Int.le_refl _) (by omega), Fr.rf⟩
    rw [b_X7_wakeAll_2]
    refine ok_ite (fun _ => ok_some (hE _ rfl)) (fun hlt => ?_)
    have hi : i < 24 := by
      rcases Nat.lt_or_ge i 24 with h | h
      · exact h
      · exact absurd ((lp_le (by omega)).mpr h) hlt
    refine ok_bnO (p_firstIn F μ _) (fun o ho => ok_cs (fun _ => ok_some (hE _ rfl)) (fun q hv => ?_))
    rcases ho with ⟨ho, -⟩ | ⟨q', ho, hq, h9⟩
    · rw [hv] at ho; cases ho
    rw [hv] at ho; cases ho
    obtain ⟨b1, b2, b3, b4⟩ := (hI.p hq).inSig hC ha h9
    have n9 : ¬ μ q 9 = -1 := fun z => nI_m1 (by omega) (h9.symm.trans z)
    obtain ⟨d1, d2⟩ := i_free hC hI he hq b2 b3
    refine ok_grd hq (ok_bnd (ok_bnO (i_schedule hC d1 hT he (by omega) hq (Or.inl rfl) (Or.inl rfl) (by decide) (by decide)) (fun μ8 h8 => ?_)))
    obtain ⟨g1, g2, -⟩ := h8
    rw [nI_1]
    refine ok_mono (i_wakeAll_l hC hT he ha n (i + 1) (N + 1) μ8 hi (by omega) (by omega) (g1.back b1)) (fun ν hν => ⟨hν.1.mono (Int.le_refl _) (by omega), ((d2.tr g2).up (fun z => n9 z.1)).tr hν.2⟩)
theorem i_wakeAll (hC : Cfg F K) (hI : Inv F K X e T N μ) (hT : T ≤ 100000) (he : e < 2147483648) (ha : a < 4) (hN : N + 24 < 2000000000) : Ok (f_X7_wakeAll F μ (nI (14 + a))) (fun ν => Inv F K X e T (N + 24) ν ∧ Fr F 0 μ ν) :=
  i_wakeAll_l hC hT he ha fu 0 N μ (by decide) fu_24 (by omega) hI
/-- units given back -/
theorem i_releaseR (hC : Cfg F K) (hI : Inv F K X e T N μ) (hT : T ≤ 100000) (he : e < 2147483648) (hq : isP q) (hx : X q) (hr : r < F.sz 0) {un : Int32} (hu : 0 ≤ un.toInt) (hN : N + 48 < 2000000000) :
    Ok (f_X7_releaseR F μ q (102 + r) un) (fun ν => Inv F K X e T (N + 48) ν ∧ Fr F q μ ν ∧ ν q = μ q ∧ (∀ j, j ≠ r → ν (q + 48) j = μ (q + 48) j) ∧ ((μ (q + 48) r).toInt ≤ un.toInt → ν (q + 48) r = 0)) := by
  have h6 := hC.1
  have h4 := hC.2.1
  have hU := hC.2.2.2.1 r hr
  obtain ⟨q1, q2⟩ := id hq
  obtain ⟨p1, p2, p3, p4, p5, p6, p7, p8, p9⟩ := hI.p hq
  obtain ⟨x9, x7, xc⟩ := p8 hx
  have hh := hI.hold hC hq hr
  have hU0 := (hI.res r hr).1
  unfold f_X7_releaseR
  rw [(hI.cst.2.1 r hr).1, p_at F μ (row := q + 48) (j := r) (by rw [alen_6 (by omega)]; omega) (alen_16 _)]
  refine ok_bnO (ok_eq rfl) (fun hd hhd => ok_bnd ?_)
  obtain ⟨x, hx3⟩ : ∃ x, x = (if hd < un then hd else un) := ⟨_, rfl⟩
  rw [← hx3]
  have hxv : 0 ≤ x.toInt ∧ x.toInt ≤ hd.toInt ∧ (hd.toInt ≤ un.toInt → x = hd) := by
    rw [hx3]
    by_cases hlt : hd < un
    · rw [if_pos hlt]
      rw [hhd]
      exact ⟨hh.1, Int.le_refl _, fun _ => rfl⟩
    · rw [if_neg hlt]
      rw [ti_ltI] at hlt
      exact ⟨hu, by omega, fun z => ti_eq.mpr (by omega)⟩
  rw [hhd] at hxv
  rw [p_set F μ (row := q + 48) (j := r) _ (by rw [alen_6 (by omega)]; omega) (alen_16 _)]
  refine ok_bnO (ok_eq rfl) (fun μ6 h6' => ok_bnd ?_)
  obtain ⟨ρ, hρ⟩ : ∃ ρ, ρ = put μ6 (102 + r) 3 (μ6 (102 + r) 3 + x) := ⟨_, rfl⟩
  rw [← hρ]
  have hf : ∀ k, k ≠ q + 48 → k ≠ 102 + r → ρ k = μ k := fun k k1 k2 => by rw [hρ, h6']; simp [put, k1, k2]
  have fh : ρ (q + 48) = upd (μ (q + 48)) r (hd - x) := by rw [hρ, h6']; simp [put, show ¬ q + 48 = 102 + r by omega]
  have fr : ρ (102 + r) = upd (μ (102 + r)) 3 (μ (102 + r) 3 + x) := by rw [hρ, h6']; simp [put, show ¬ 102 + r = q + 48 by omega]
  have z0 : ρ 0 = μ 0 := hf 0 (by omega) (by omega)
  have zq : ρ q = μ q := hf q (by omega) (by omega)
  have eh : (ρ (q + 48) r).toInt = (μ (q + 48) r).toInt - x.toInt := by rw [fh, pk_us, hhd, ti_sub (by omega) (by omega)]
  have eu : (ρ (102 + r) 3).toInt = (μ (102 + r) 3).toInt + x.toInt := by rw [fr, pk_us, ti_add (by omega) (by omega)]
  have fj : ∀ j, j ≠ r → ρ (q + 48) j = μ (q + 48) j := fun j hj => by rw [fh]; exact pk_un hj
  have J : Inv F K X e T N ρ := inv_q hI hq he h6 (fun k hk hkq => ⟨hf _ (by omega) (by omega), hf _ (by omega) (by omega)⟩) (by rw [zq]) (Or.inl (by rw [z0])) (by rw [z0]) (by rw [z0]; exact hI.lk) (by rw [z0]; exact Int.le_refl _) (by rw [z0]; exact hI.od.2) (fun r' hr' => by
      by_cases hrr : r' = r
      · subst hrr
        refine ⟨by rw [fr]; exact pk_un (by decide), by rw [fr]; exact pk_un (by decide), by rw [fr]; exact pk_un (by decide), by rw [fr]; exact pk_un (by decide), by rw [fr]; exact pk_un (by decide), by rw [fr]; exact pk_un (by decide), by omega, by omega⟩
      · rw [hf (102 + r') (by omega) (by omega), fj r' hrr]
        exact ⟨rfl, rfl, rfl, rfl, rfl, rfl, (hI.res r' hr').1, rfl⟩) (fun s hs => by
      rw [hf (108 + s) (by omega) (by omega)]
      exact ⟨rfl, rfl, rfl, (hI.sto s hs).1, (hI.sto s hs).2.1⟩) (fun _ _ _ => Iff.rfl) ⟨by rw [zq]; exact p1, by rw [zq]; exact p2, by rw [zq]; exact p3, fun j hj => by
        by_cases hjr : j = r
        · subst hjr; omega
        · rw [fj j hjr]; exact p4 j hj, fun j hj hj2 => by
        by_cases hjr : j = r
        · omega
        · rw [fj j hjr]; exact p5 j hj hj2, fun z => absurd (by rw [zq]; exact x9) z, by rw [zq]; exact p7, fun _ => ⟨by rw [zq]; exact x9, by rw [zq]; exact x7, by rw [z0]; exact xc⟩, fun z => absurd hx z⟩ (Or.inl (by rw [zq]; exact x9))
  have JF : Fr F q μ ρ := ⟨by rw [z0], by rw [z0], by rw [z0]; exact Int.le_refl _, fun r' hr' => by
    by_cases hrr : r' = r
    · subst hrr; rw [fr]; exact pk_un (by decide)
    · rw [hf (102 + r') (by omega) (by omega)], fun k hk hkq _ _ _ => ⟨hf k (by have := hk.2; omega) (by have := hk.2; omega), hf _ (by omega) (by have := hk.2; omega)⟩⟩
  refine ok_bnO (i_serveR hC J hT he hr hN) (fun ν hν => ok_some ?_)
  obtain ⟨k1, k2⟩ := hν
  obtain ⟨u1, u2⟩ := k2.2.2.2.2 q hq (by omega) (by rw [zq]; exact x9) (by rw [zq]; exact x7) (by rw [z0]; exact xc)
  refine ⟨k1, JF.tr k2.wk, u1.trans zq, fun j hj => by rw [u2]; exact fj j hj, fun hle => ?_⟩
  rw [u2, fh, pk_us, hxv.2.2 hle, hhd]
  simp
end
