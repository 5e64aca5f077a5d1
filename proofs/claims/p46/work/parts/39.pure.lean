/-! THE PURE PART, 10: leave, finish, interrupt -/
section
variable {F : Fg} {K : Kx} {X X' : Nat → Prop} {e e' q r s a j : Nat} {T T' N N' : Int} {μ ν ρ : Mem}
theorem p_resource_any (F : Fg) (μ : Mem) (w : Int32) (h6 : F.sz 0 ≤ 6) : Ok (f_X7_resource F μ w) (fun o => o = none ∨ ∃ r, r < F.sz 0 ∧ o = some (102 + r)) := by
  by_cases h : w.toInt < 0 ∨ (F.sz 0 : Int) ≤ w.toInt
  · rw [p_resource_no F μ h h6]; exact ok_some (Or.inl rfl)
  · obtain ⟨h2, h3, h4⟩ := ti_nat (x := w) (by omega)
    rw [h2, p_resource F μ (r := w.toNatClampNeg) (by omega) h6]
    exact ok_some (Or.inr ⟨_, by omega, rfl⟩)
theorem p_store_any (F : Fg) (μ : Mem) (w : Int32) (h6 : F.sz 1 ≤ 4) : Ok (f_X7_store F μ w) (fun o => o = none ∨ ∃ r, r < F.sz 1 ∧ o = some (108 + r)) := by
  by_cases h : w.toInt < 0 ∨ (F.sz 1 : Int) ≤ w.toInt
  · rw [p_store_no F μ h h6]; exact ok_some (Or.inl rfl)
  · obtain ⟨h2, h3, h4⟩ := ti_nat (x := w) (by omega)
    rw [h2, p_store F μ (r := w.toNatClampNeg) (by omega) h6]
    exact ok_some (Or.inr ⟨_, by omega, rfl⟩)
theorem i_leave_sto (hC : Cfg F K) (hI : Inv F K X e T N μ) (hT : T ≤ 100000) (he : e < 2147483648) (hN : N + 24 < 2000000000) (w : Int32) :
    Ok (bnO (f_X7_store F μ w) fun r_9 => csQ r_9 (bnO (f_X7_goOnWithN F μ) fun μ_14 => some μ_14) (fun o_11 => grd (108 ≤ o_11 ∧ o_11 < 108 + F.sz 1 ∧ o_11 < 112) (bnO (f_X7_goOnWithS F μ o_11) fun μ_17 => some μ_17))) (fun ν => Inv F K X e T (N + 24) ν ∧ Fr F 0 μ ν) := by
  have h4 := hC.2.1
  refine ok_bnO (p_store_any F μ w h4) (fun o ho => ok_cs (fun _ => ?_) (fun v hv => ?_))
  · exact ok_bnO (ok_eq (a := μ) rfl) (fun ν hν => ok_some (by rw [hν]; exact ⟨hI.mono (Int.le_refl _) (by omega), Fr.rf⟩))
  · rcases ho with ho | ⟨s, hs, ho⟩
    · rw [hv] at ho; cases ho
    rw [hv] at ho; cases ho
    exact ok_grd ⟨by omega, by omega, by omega⟩ (ok_bnO (i_goOn hC hI hT he hs hN) (fun ν hν => ok_some hν))
theorem i_leave (hC : Cfg F K) (hI : Inv F K X e T N (put μ q 9 (-1))) (hT : T ≤ 100000) (he : e < 2147483648) (hN : N + 72 < 2000000000) :
    Ok (f_X7_leave F μ q) (fun ν => Inv F K X e T (N + 72) ν ∧ Fr F 0 (put μ q 9 (-1)) ν) := by
  have h6 := hC.1
  unfold f_X7_leave
  refine ok_bnd (ok_bnO (p_resource_any F _ _ h6) (fun o ho => ok_cs (fun _ => ?_) (fun v hv => ?_)))
  · refine ok_bnO (ok_eq (a := put μ q 9 (-1)) rfl) (fun ν hν => ?_)
    rw [hν]
    have z := fun w => ok_mono (i_leave_sto hC hI hT he (by omega) w) (fun ν hν => (⟨hν.1.mono (Int.le_refl _) (by omega), hν.2⟩ : Inv F K X e T (N + 72) ν ∧ Fr F 0 (put μ q 9 (-1)) ν))
    exact ok_ite (fun _ => z _) (fun _ => z _)
  · rcases ho with ho | ⟨r, hr, ho⟩
    · rw [hv] at ho; cases ho
    rw [hv] at ho; cases ho
    refine ok_grd ⟨by omega, by omega, by omega⟩ (ok_bnO (i_serveR hC hI hT he hr (by omega)) (fun κ hκ => ?_))
    have z := fun w => ok_mono (i_leave_sto hC hκ.1 hT he (by omega) w) (fun ν hν => (⟨hν.1.mono (Int.le_refl _) (by omega), hκ.2.tr hν.2⟩ : Inv F K X e T (N + 72) ν ∧ Fr F 0 (put μ q 9 (-1)) ν))
    exact ok_ite (fun _ => z _) (fun _ => z _)
/-- a process is taken out of all: no row, no event -/
theorem inv_out (hC : Cfg F K) (hI : Inv F K X e T N μ) (he : e < 2147483648) (hq : isP q) (hc : (q : Int) ≤ (μ 0 5).toInt) (hf : ∀ k, k ≠ q → ν k = μ k) (hj : ∀ j, j ≠ 5 → j ≠ 6 → j ≠ 7 → j ≠ 9 → ν q j = μ q j) (h5 : 0 ≤ (ν q 5).toInt ∧ (ν q 5).toInt ≤ 20) (h7 : ν q 7 = -1) (h9 : ν q 9 = -1) :
    Inv F K (fun k => k = q ∨ X k) e T N ν ∧ Fr F q μ ν := by
  have h6 := hC.1
  have h4 := hC.2.1
  obtain ⟨q1, q2⟩ := id hq
  obtain ⟨p1, p2, p3, p4, p5, p6, p7, p8, p9⟩ := hI.p hq
  have z0 : ν 0 = μ 0 := hf 0 (by omega)
  refine ⟨inv_q hI hq he h6 (fun k hk hkq => ⟨hf _ hkq, hf _ (by omega)⟩) (hj 0 (by decide) (by decide) (by decide) (by decide)) (Or.inl (by rw [z0])) (by rw [z0]) (by rw [z0]; exact hI.lk) (by rw [z0]; exact Int.le_refl _) (by rw [z0]; exact hI.od.2) (fun r hr => ?_) (fun s hs => ?_) (fun k _ hk => ⟨fun z => z.resolve_left hk, Or.inr⟩) ⟨by rw [hj 1 (by decide) (by decide) (by decide) (by decide)]; exact p1, h5, by rw [hj 4 (by decide) (by decide) (by decide) (by decide)]; exact p3, by rw [hf (q + 48) (by omega)]; exact p4, by rw [hf (q + 48) (by omega)]; exact p5, fun z => absurd h9 z, by rw [hj 13 (by decide) (by decide) (by decide) (by decide)]; exact p7, fun _ => ⟨h9, h7, by rw [z0]; exact hc⟩, fun z => absurd (Or.inl rfl) z⟩ (Or.inl h9), by rw [z0], by rw [z0], by rw [z0]; exact Int.le_refl _, fun r hr => by rw [hf (102 + r) (by omega)], fun k hk hkq _ _ _ => ⟨hf k hkq, hf _ (by have := hk.1; omega)⟩⟩
  · rw [hf (102 + r) (by omega), hf (q + 48) (by omega)]
    exact ⟨rfl, rfl, rfl, rfl, rfl, rfl, (hI.res r hr).1, rfl⟩
  · rw [hf (108 + s) (by omega)]
    exact ⟨rfl, rfl, rfl, (hI.sto s hs).1, (hI.sto s hs).2.1⟩
/-- who holds nothing and is over -/
theorem inv_over (hC : Cfg F K) (hI : Inv F K X e T N μ) (hq : isP q) (hx : X q) (h6 : μ q 6 = 5 ∨ μ q 6 = 6 ∨ μ q 6 = 7) (hh : ∀ r, r < 6 → μ (q + 48) r = 0) : Inv F K (fun k => X k ∧ k ≠ q) e T N μ := by
  refine ⟨hI.cst, hI.st, hI.tm, hI.lk, hI.od, hI.res, hI.cnt, hI.sto, fun k hk => ?_, hI.dis⟩
  obtain ⟨p1, p2, p3, p4, p5, p6, p7, p8, p9⟩ := hI.prc k hk
  refine ⟨p1, p2, p3, p4, p5, p6, p7, fun z => p8 z.1, fun z => ?_⟩
  by_cases hkq : k + 1 = q
  · subst hkq
    obtain ⟨x9, x7, xc⟩ := p8 hx
    exact Or.inr (Or.inr (Or.inr (Or.inr (Or.inr ⟨x9, x7, xc, h6, hh⟩))))
  · exact p9 (fun y => z ⟨y, hkq⟩)
theorem i_finish_l (hC : Cfg F K) (hT : T ≤ 100000) (he : e < 2147483648) (hq : isP q) (hx : X q) : ∀ (n i : Nat) (N : Int) (μ : Mem), i ≤ 6 → 6 < n + i → N + 48 * (6 - i) < 2000000000 → Inv F K X e T N μ → (∀ r, r < i → μ (q + 48) r = 0) → Ok (b_X7_finish_17 F n μ q (nI i)) (fun ν => Inv F K X e T (N + 48 * (6 - i)) ν ∧ Fr F q μ ν ∧ ν q = μ q ∧ ∀ r, r < 6 → ν (q + 48) r = 0)
  | 0, i, N, μ, h1, h2, _, _, _ => absurd h2 (by omega)
  | n + 1, i, N, μ, h1, h2, hN, hI, hz => by
    have h6 := hC.1
    rw [b_X7_finish_17]
    refine ok_ite (fun hle => ?_) (fun hlt => ?_)
    · rw [nI_leI (by omega) (by omega)] at hle
      refine ok_some ⟨hI.mono (Int.le_refl _) (by omega), Fr.rf, rfl, fun r hr => ?_⟩
      by_cases h : r < i
      · exact hz r h
      · exact (hI.p hq).2.2.2.2.1 r hr (by omega)
    · rw [nI_leI (by omega) (by omega)] at hlt
      have hi : i < F.sz 0 := by omega
      refine ok_grd (nI_in hi (by omega)) (ok_bnd ?_)
      rw [nI_clamp (by omega)]
      refine ok_grd ⟨by omega, by omega, by omega⟩ (ok_bnO (i_releaseR hC hI hT he hq hx hi (un := 9) (by decide) (by omega)) (fun κ hκ => ?_))
      obtain ⟨a1, a2, a3, a4, a5⟩ := hκ
      have hh := hI.hold hC hq hi
      have hU := hC.2.2.2.1 i hi
      have hU0 := (hI.res i hi).1
      have e9 : (9 : Int32).toInt = 9 := rfl
      rw [nI_1]
      refine ok_mono (i_finish_l hC hT he hq hx n (i + 1) (N + 48) κ (by omega) (by omega) (by omega) a1 (fun r hr => ?_)) (fun ν hν => ⟨hν.1.mono (Int.le_refl _) (by omega), a2.tr hν.2.1, hν.2.2.1.trans a3, hν.2.2.2⟩)
      by_cases h : r = i
      · subst h; exact a5 (by omega)
      · rw [a4 r h]; exact hz r (by omega)
/-- a process comes to its end -/
theorem i_finish (hC : Cfg F K) (hI : Inv F K X e T N μ) (hT : T ≤ 100000) (he : e < 2147483648) (hN : N + 360 < 2000000000) (hq : isP q) (hc : (q : Int) ≤ (μ 0 5).toInt) {st : Int32} (hst : st = 5 ∨ st = 6 ∨ st = 7) :
    Ok (f_X7_finish F μ q st) (fun ν => Inv F K (fun k => (k = q ∨ X k) ∧ k ≠ q) e T (N + 360) ν ∧ Fr F q μ ν ∧ ν q 6 = st) := by
  obtain ⟨q1, q2⟩ := id hq
  unfold f_X7_finish
  refine ok_bnd (ok_bnd ?_)
  have hp := (hI.p hq).2.1
  obtain ⟨J, JF⟩ := inv_out (ν := put (put (put μ q 6 st) q 7 (-1)) q 9 (-1)) hC hI he hq hc (fun k hk => by simp [put, hk]) (fun j h5 h6 h7 h9 => by simp [put, upd, h6, h7, h9]) (by simpa [put, upd] using hp) (by simp [put, upd]) (by simp [put, upd])
  have e6 : put (put (put μ q 6 st) q 7 (-1)) q 9 (-1) q 6 = st := by simp [put, upd]
  refine ok_bnO (i_leave hC J hT he (by omega)) (fun μ5 h5 => ?_)
  obtain ⟨a1, a2⟩ := h5
  have k1 := (J.keep hq (Or.inl rfl) a2).1
  refine ok_mono (i_finish_l hC hT he hq (Or.inl rfl) fu 0 (N + 72) μ5 (by decide) (by decide) (by omega) a1 (fun r hr => absurd hr (Nat.not_lt_zero _))) (fun ν hν => ?_)
  obtain ⟨b1, b2, b3, b4⟩ := hν
  have f6 : ν q 6 = st := by rw [b3, k1]; exact e6
  exact ⟨(inv_over hC b1 hq (Or.inl rfl) (by rw [f6]; exact hst) b4).mono (Int.le_refl _) (by omega), (JF.tr a2.wk).tr b2, f6⟩
/-- the script of a process -/
theorem p_srf (hp : ρ q 1 = -1 ∨ ∃ j, j < F.sz 2 ∧ ρ q 1 = nI j) (h8 : F.sz 2 ≤ 8) : srf (ρ q 1) = none ∨ ∃ j, j < F.sz 2 ∧ srf (ρ q 1) = some (114 + j) := by
  unfold srf
  rcases hp with hp | ⟨j, hj, hp⟩
  · rw [hp]; exact Or.inl rfl
  · rw [hp, if_neg (nI_pos (by omega)), nI_clamp (by omega)]
    exact Or.inr ⟨j, hj, rfl⟩
theorem i_interrupt_21 (hC : Cfg F K) (hI : Inv F K X 99 T N μ) (hT : T ≤ 100000) (hN : N + 73 < 2000000000) (hq : isP q) (hx : ¬ X q) (hc : (q : Int) ≤ (μ 0 5).toInt) :
    Ok (b_X7_interruptOne_21 F μ q) (fun ν => Inv F K X 99 T (N + 73) ν ∧ Fr F q μ ν ∧ ν q 6 = 0 ∧ (ν q 7).toInt = (μ 0 6).toInt ∧ ν q 5 = μ q 5) := by
  obtain ⟨q1, q2⟩ := id hq
  unfold b_X7_interruptOne_21
  refine ok_bnd ?_
  have hp := (hI.p hq).2.1
  obtain ⟨J, JF⟩ := inv_out (ν := put (put μ q 7 (-1)) q 9 (-1)) hC hI (by decide) hq hc (fun k hk => by simp [put, hk]) (fun j h5 h6 h7 h9 => by simp [put, upd, h7, h9]) (by simpa [put, upd] using hp) (by simp [put, upd]) (by simp [put, upd])
  have e5 : put (put μ q 7 (-1)) q 9 (-1) q 5 = μ q 5 := by simp [put, upd]
  refine ok_bnO (i_leave hC J hT (by decide) (by omega)) (fun μ6 h6 => ?_)
  obtain ⟨a1, a2⟩ := h6
  have k1 := (J.keep hq (Or.inl rfl) a2).1
  have t6 : μ6 0 6 = μ 0 6 := a2.1.trans JF.1
  have hS : ∀ κ : Mem, Inv F K (fun k => k = q ∨ X k) 99 T (N + 72) κ → Fr F q μ6 κ → κ q 5 = μ6 q 5 → Ok (bnO (f_X7_schedule F κ q 0 0) fun μ_10 => some μ_10) (fun ν => Inv F K X 99 T (N + 73) ν ∧ Fr F q μ ν ∧ ν q 6 = 0 ∧ (ν q 7).toInt = (μ 0 6).toInt ∧ ν q 5 = μ q 5) := fun κ b1 b2 b3 => by
    refine ok_bnO (i_schedule hC b1 hT (by decide) (by omega) hq (Or.inl rfl) (Or.inl rfl) (by decide) (by decide)) (fun ν hν => ok_some ?_)
    obtain ⟨d1, d2, d3, d4, d5, -⟩ := hν
    refine ⟨(d1.back hx).mono (Int.le_refl _) (by omega), ((JF.tr a2.wk).tr b2).tr d2, d4, ?_, ?_⟩
    · rw [d5, b2.1, t6, ti_0]; omega
    · rw [d3 5 (by decide) (by decide) (by decide), b3, k1]; exact e5
  refine ok_cs (fun _ => hS μ6 a1 Fr.rf rfl) (fun v hv => ?_)
  rcases p_srf (a1.p hq).1 hC.2.2.1 with h | ⟨j, hj, h⟩
  · rw [hv] at h; cases h
  rw [hv] at h; cases h
  have h8' := hC.2.2.1
  refine ok_grd ⟨by omega, by omega, by omega⟩ (ok_ite (fun _ => hS μ6 a1 Fr.rf rfl) (fun _ => ok_bnd ?_))
  obtain ⟨d1, d2, -⟩ := i_field hC a1 (by decide) hq (Or.inl rfl) (Or.inr rfl) (F.sh (114 + j) 1)
  exact hS _ d1 d2 (pu_nj μ6 q _ (by decide))
/-- who waits for anything is interrupted -/
theorem i_interruptOne (hC : Cfg F K) (hI : Inv F K X 99 T N μ) (hT : T ≤ 100000) (hN : N + 73 < 2000000000) (hq : isP q) (hx : ¬ X q) (hc : (q : Int) ≤ (μ 0 5).toInt) :
    Ok (f_X7_interruptOne F μ q) (fun ν => Inv F K X 99 T (N + 73) ν ∧ Fr F q μ ν ∧ ν q 6 = 0 ∧ (ν q 7).toInt = (μ 0 6).toInt ∧ (μ q 6 = 1 → ν q 5 = μ q 7 - μ 0 6)) := by
  unfold f_X7_interruptOne
  refine ok_ite (fun h1 => ok_bnd ?_) (fun h1 => ok_mono (i_interrupt_21 hC hI hT hN hq hx hc) (fun ν h => ⟨h.1, h.2.1, h.2.2.1, h.2.2.2.1, fun z => absurd z h1⟩))
  obtain ⟨w9, wc, w7, w7'⟩ := (hI.p hq).inWt hx h1
  have htm := hI.tm
  obtain ⟨p1, p2, p3, p4, p5, p6, p7, p8, p9⟩ := hI.p hq
  have es : (μ q 7 - μ 0 6).toInt = (μ q 7).toInt - (μ 0 6).toInt := ti_sub (by omega) (by omega)
  have n9 : upd (μ q) 5 (μ q 7 - μ 0 6) 9 = -1 := by rw [pk_un (by decide)]; exact w9
  obtain ⟨d1, d2⟩ := inv_put (X' := X) hC hI (by decide) hq (j := 5) (v := μ q 7 - μ 0 6) (by decide) n9 (fun _ _ _ => Iff.rfl) ⟨by rw [pk_un (by decide)]; exact p1, by rw [pk_us]; omega, by rw [pk_un (by decide)]; exact p3, p4, p5, fun z => absurd n9 z, by rw [pk_un (by decide)]; exact p7, fun z => absurd z hx, fun z => by
    have hco := p9 z
    unfold CO at hco ⊢
    rw [pk_un (show (9 : Nat) ≠ 5 by decide), pk_un (show (6 : Nat) ≠ 5 by decide), pk_un (show (7 : Nat) ≠ 5 by decide), pk_un (show (12 : Nat) ≠ 5 by decide)]
    exact hco⟩
  have z0 : put μ q 5 (μ q 7 - μ 0 6) 0 = μ 0 := pu_nk μ 5 _ (by have := hq.1; omega)
  refine ok_mono (i_interrupt_21 hC d1 hT hN hq hx (by rw [z0]; exact hc)) (fun ν h => ⟨h.1, d2.tr h.2.1, h.2.2.1, ?_, fun _ => ?_⟩)
  · rw [h.2.2.2.1, z0]
  · rw [h.2.2.2.2]; exact pu_at μ q 5 _
end
