/-! THE PURE PART, 4: the kernel through the writes -/
section
variable {F : Fg} {K : Kx} {X X' : Nat → Prop} {e e' q r s a : Nat} {T T' N N' : Int} {μ ν ρ : Mem}
/-- a change of one process and of the order alone -/
theorem inv_q0 (hC : Cfg F K) (hI : Inv F K X e T N μ) (hq : isP q) (he : e < 2147483648) (hN : N < 2000000000)
    (hf : ∀ k, k ≠ 0 → k ≠ q → ν k = μ k) (h0 : ∀ j, j ≠ 9 → ν 0 j = μ 0 j) (h9 : ν 0 9 = μ 0 9 + 1) (hn : ν q 0 = μ q 0) (hX : ∀ k, isP k → k ≠ q → (X' k ↔ X k))
    (hP : PI F (μ 0 6).toInt (μ 0 5).toInt ((μ 0 9).toInt + 1) (X' q) q (ν q) (μ (q + 48)))
    (hw : ν q 9 = -1 ∨ (ν q 9 = nI e ∨ ∀ r, r < F.sz 0 → ¬ ν q 9 = nI r) ∧ ν q 11 = μ 0 9 + 1) : Inv F K X' e T (N + 1) ν ∧ Fr F q μ ν := by
  have h6 := hC.1
  have h4 := hC.2.1
  obtain ⟨q1, q2⟩ := id hq
  have ho := hI.od
  have e9 : (ν 0 9).toInt = (μ 0 9).toInt + 1 := by
    rw [h9, ti_add (by rw [ti_1]; omega) (by rw [ti_1]; omega), ti_1]
  refine ⟨inv_q hI hq he h6 (fun k hk hkq => ⟨hf _ (by omega) hkq, hf _ (by omega) (by omega)⟩) hn (Or.inl (by rw [h0 5 (by decide)])) (h0 6 (by decide)) (by rw [h0 7 (by decide)]; exact hI.lk) (by omega) (by omega) (fun r hr => ?_) (fun s hs => ?_) hX ?_ ?_, h0 6 (by decide), h0 8 (by decide), by rw [h0 5 (by decide)]; exact Int.le_refl _, fun r hr => by rw [hf (102 + r) (by omega) (by omega)], fun k hk hkq _ _ _ => ⟨hf k hk.n0 hkq, hf _ (by omega) (by have := hk.2; omega)⟩⟩
  · have hr1 := hf (102 + r) (by omega) (by omega)
    have hr2 := hf (q + 48) (by omega) (by omega)
    rw [hr1, hr2]
    exact ⟨rfl, rfl, rfl, rfl, rfl, rfl, (hI.res r hr).1, rfl⟩
  · rw [hf (108 + s) (by omega) (by omega)]
    exact ⟨rfl, rfl, rfl, (hI.sto s hs).1, (hI.sto s hs).2.1⟩
  · rw [e9, h0 5 (by decide), hf (q + 48) (by omega) (by omega)]
    exact hP
  · rcases hw with hw | ⟨hw, hw2⟩
    · exact Or.inl hw
    · exact Or.inr ⟨hw, by rw [hw2, ← h9, e9]; omega⟩
/-- who is worked on is planned -/
theorem i_schedule (hC : Cfg F K) (hI : Inv F K X e T N μ) (hT : T ≤ 100000) (he : e < 2147483648) (hN : N < 2000000000) (hq : isP q) (hx : X q) {st ti : Int32} (hst : st = 0 ∨ st = 1) (ht0 : 0 ≤ ti.toInt) (ht1 : ti.toInt ≤ 20) :
    Ok (f_X7_schedule F μ q st ti) (fun ν => Inv F K (fun k => X k ∧ k ≠ q) e T (N + 1) ν ∧ Fr F q μ ν ∧ (∀ j, j ≠ 6 → j ≠ 7 → j ≠ 8 → ν q j = μ q j) ∧ ν q 6 = st ∧ (ν q 7).toInt = (μ 0 6).toInt + ti.toInt ∧ (∀ k, k ≠ 0 → k ≠ q → ν k = μ k) ∧ ν 0 5 = μ 0 5) := by
  refine ok_mono (p_schedule hq st ti) (fun ν h => ?_)
  obtain ⟨h1, h2, h3, h4, h5, h6⟩ := h
  have htm := hI.tm
  have e7 : (ν q 7).toInt = (μ 0 6).toInt + ti.toInt := by rw [h6, ti_add (by omega) (by omega)]
  obtain ⟨p1, p2, p3, p4, p5, p6, p7, p8, p9⟩ := hI.p hq
  obtain ⟨r9, r7, rc⟩ := p8 hx
  have f9 : ν q 9 = -1 := by rw [h4 9 (by decide) (by decide) (by decide)]; exact r9
  obtain ⟨g1, g2⟩ := inv_q0 (X' := fun k => X k ∧ k ≠ q) hC hI hq he hN h1 h2 h3 (h4 0 (by decide) (by decide) (by decide)) (fun k _ hk => ⟨fun z => z.1, fun z => ⟨z, hk⟩⟩) ⟨by rw [h4 1 (by decide) (by decide) (by decide)]; exact p1, by rw [h4 5 (by decide) (by decide) (by decide)]; exact p2, by rw [h4 4 (by decide) (by decide) (by decide)]; exact p3, p4, p5, fun z => absurd f9 z, by rw [h4 13 (by decide) (by decide) (by decide)]; exact p7, fun z => absurd rfl z.2, fun _ => Or.inl ⟨f9, by rw [h5]; exact hst, rc, by omega, by omega⟩⟩ (Or.inl f9)
  exact ⟨g1, g2, h4, h5, e7, h1, h2 5 (by decide)⟩
/-- one field of a process in no row -/
theorem inv_put (hC : Cfg F K) (hI : Inv F K X e T N μ) (he : e < 2147483648) (hq : isP q) {j : Nat} {v : Int32} (hj : j ≠ 0) (h9 : upd (μ q) j v 9 = -1) (hX : ∀ k, isP k → k ≠ q → (X' k ↔ X k)) (hP : PI F (μ 0 6).toInt (μ 0 5).toInt (μ 0 9).toInt (X' q) q (upd (μ q) j v) (μ (q + 48))) : Inv F K X' e T N (put μ q j v) ∧ Fr F q μ (put μ q j v) := by
  have h6 := hC.1
  have h4 := hC.2.1
  obtain ⟨q1, q2⟩ := id hq
  have hf : ∀ k, k ≠ q → put μ q j v k = μ k := fun k hk => pu_nk μ j v hk
  have z0 : put μ q j v 0 = μ 0 := hf 0 (by omega)
  have zq : put μ q j v q = upd (μ q) j v := put_at μ q j v
  refine ⟨inv_q hI hq he h6 (fun k hk hkq => ⟨hf _ hkq, hf _ (by omega)⟩) (by rw [zq]; exact pk_un hj.symm) (Or.inl (by rw [z0])) (by rw [z0]) (by rw [z0]; exact hI.lk) (by rw [z0]; exact Int.le_refl _) (by rw [z0]; exact hI.od.2) (fun r hr => ?_) (fun s hs => ?_) hX ?_ (Or.inl (by rw [zq]; exact h9)), by rw [z0], by rw [z0], by rw [z0]; exact Int.le_refl _, fun r hr => by rw [hf (102 + r) (by omega)], fun k hk hkq _ _ _ => ⟨hf k hkq, hf _ (by have := hk.1; omega)⟩⟩
  · rw [hf (102 + r) (by omega), hf (q + 48) (by omega)]
    exact ⟨rfl, rfl, rfl, rfl, rfl, rfl, (hI.res r hr).1, rfl⟩
  · rw [hf (108 + s) (by omega)]
    exact ⟨rfl, rfl, rfl, (hI.sto s hs).1, (hI.sto s hs).2.1⟩
  · rw [z0, zq, hf (q + 48) (by omega)]
    exact hP
/-- what a process holds is a part of it all -/
theorem Inv.hold (hI : Inv F K X e T N μ) (hC : Cfg F K) (hq : isP q) (hr : r < F.sz 0) : 0 ≤ (μ (q + 48) r).toInt ∧ (μ (q + 48) r).toInt + (μ (102 + r) 3).toInt ≤ (K.2.1 r).toInt := by
  have h6 := hC.1
  obtain ⟨q1, q2⟩ := id hq
  have hp := (hI.p hq).2.2.2.1 r (by omega)
  obtain ⟨b1, b2, -⟩ := hI.res r hr
  have h := sm_ge (f := fun k => (μ (k + 49) r).toInt) (q := q - 1) 24 (by omega) (fun i hi => (hI.prc i hi).2.2.2.1 r (by omega))
  have e1 : q - 1 + 49 = q + 48 := by omega
  have h2 : (μ (q + 48) r).toInt ≤ hsm μ r := by
    rw [← e1]; exact h
  omega
/-- the first of a queue gets its units -/
theorem i_giveUnits (hC : Cfg F K) (hI : Inv F K X e T N μ) (he : e < 2147483648) (hN : N < 2000000000) (hq : isP q) (hr : r < F.sz 0) (h9 : μ q 9 = nI r) (hw : (μ q 12).toInt ≤ (μ (102 + r) 3).toInt) :
    Ok (f_X7_giveUnits F μ q (102 + r)) (fun ν => Inv F K (fun k => k = q ∨ X k) e T (N + 1) ν ∧ Fr F q μ ν ∧ (∀ j, j ≠ 9 → ν q j = μ q j) ∧ (∀ j, j ≠ 3 → ν (102 + r) j = μ (102 + r) j) ∧ (∀ k, k ≠ 0 → k ≠ q → k ≠ 102 + r → k ≠ q + 48 → k ≠ q + 72 → ν k = μ k)) := by
  have h6 := hC.1
  have h4 := hC.2.1
  have hU := hC.2.2.2.1 r hr
  obtain ⟨q1, q2⟩ := id hq
  refine ok_mono (p_giveUnits hq (by omega) (hI.cst.2.1 r hr).1) (fun ν h => ?_)
  obtain ⟨a1, a2, a3, a4, a5, a6, a7, a8, a9⟩ := h
  have ho := hI.od
  obtain ⟨p1, p2, p3, p4, p5, p6, p7, p8, p9⟩ := hI.p hq
  obtain ⟨b1, b2, b3, b4, b5, b6⟩ := (hI.p hq).inRes hC hr h9
  have hh := hI.hold hC hq hr
  have hU0 := (hI.res r hr).1
  have e9 : (ν 0 9).toInt = (μ 0 9).toInt + 1 := by
    rw [a3, ti_add (by rw [ti_1]; omega) (by rw [ti_1]; omega), ti_1]
  have eu : (ν (102 + r) 3).toInt = (μ (102 + r) 3).toInt - (μ q 12).toInt := by rw [a7, ti_sub (by omega) (by omega)]
  have eh : (ν (q + 48) r).toInt = (μ (q + 48) r).toInt + (μ q 12).toInt := by rw [a9, ti_add (by omega) (by omega)]
  refine ⟨inv_q hI hq he h6 (fun k hk hkq => ⟨a1 _ (by omega) hkq (by omega) (by omega) (by omega), a1 _ (by omega) (by omega) (by omega) (by omega) (by omega)⟩) (a4 0 (by decide)) (Or.inl (by rw [a2 5 (by decide)])) (a2 6 (by decide)) (by rw [a2 7 (by decide)]; exact hI.lk) (by omega) (by omega) (fun r' hr' => ?_) (fun s hs => ?_) (fun k _ hk => ⟨fun z => z.resolve_left hk, Or.inr⟩) ⟨?_, ?_, ?_, fun j hj => ?_, fun j hj hj2 => ?_, fun z => absurd a5 z, ?_, fun _ => ⟨a5, ?_, ?_⟩, fun z => absurd (Or.inl rfl) z⟩ (Or.inl a5), ⟨a2 6 (by decide), a2 8 (by decide), by rw [a2 5 (by decide)]; exact Int.le_refl _, fun r' hr' => ?_, fun k hk hkq _ _ _ => ⟨a1 k hk.n0 hkq (by have := hk.2; omega) (by have := hk.2; omega) (by have := hk.2; omega), a1 _ (by omega) (by have := hk.2; omega) (by have := hk.2; omega) (by omega) (by have := hk.2; omega)⟩⟩, a4, a6, a1⟩
  · by_cases hrr : r' = r
    · subst hrr
      refine ⟨a6 0 (by decide), a6 1 (by decide), a6 2 (by decide), a6 4 (by decide), a6 5 (by decide), a6 6 (by decide), by omega, by omega⟩
    · have z := a1 (102 + r') (by omega) (by omega) (by omega) (by omega) (by omega)
      rw [z, a8 r' hrr]
      exact ⟨rfl, rfl, rfl, rfl, rfl, rfl, (hI.res r' hr').1, rfl⟩
  · rw [a1 (108 + s) (by omega) (by omega) (by omega) (by omega) (by omega)]
    exact ⟨rfl, rfl, rfl, (hI.sto s hs).1, (hI.sto s hs).2.1⟩
  · rw [a4 1 (by decide)]; exact p1
  · rw [a4 5 (by decide)]; exact p2
  · rw [a4 4 (by decide)]; exact p3
  · by_cases hjr : j = r
    · subst hjr; omega
    · rw [a8 j hjr]; exact p4 j hj
  · by_cases hjr : j = r
    · omega
    · rw [a8 j hjr]; exact p5 j hj hj2
  · rw [a4 13 (by decide)]; exact p7
  · rw [a4 7 (by decide)]; exact b2
  · rw [a2 5 (by decide)]; exact b3
  · by_cases hrr : r' = r
    · subst hrr; exact a6 4 (by decide)
    · rw [a1 (102 + r') (by omega) (by omega) (by omega) (by omega) (by omega)]
/-- who isn't worked on any more was so for a while alone -/
theorem Inv.back (h : Inv F K (fun k => (k = q ∨ X k) ∧ k ≠ q) e T N μ) (hx : ¬ X q) : Inv F K X e T N μ :=
  h.xx (fun k _ => ⟨fun z => ⟨Or.inr z, fun e9 => hx (e9 ▸ z)⟩, fun z => z.1.resolve_left z.2⟩)
theorem i_serveR_l (hC : Cfg F K) (hT : T ≤ 100000) (he : e < 2147483648) (hr : r < F.sz 0) : ∀ (n i : Nat) (N : Int) (μ : Mem), i ≤ 24 → 24 < n + i → N + 2 * (24 - i) < 2000000000 → Inv F K X e T N μ → Ok (b_X7_serveR_2 F n μ (102 + r) (nI i)) (fun ν => Inv F K X e T (N + 2 * (24 - i)) ν ∧ Fr F 0 μ ν)
  | 0, i, N, μ, h1, h2, _, _ => absurd h2 (by omega)
  | n + 1, i, N, μ, h1, h2, hN, hI => by
    rw [b_X7_serveR_2]
    refine ok_ite (fun _ => ok_some ⟨hI.mono (Int.le_refl _) (by omega), Fr.rf⟩) (fun hlt => ?_)
    have hi : i < 24 := by
      rcases Nat.lt_or_ge i 24 with h | h
      · exact h
      · exact absurd ((lp_le (by omega)).mpr h) hlt
    rw [(hI.cst.2.1 r hr).1]
    refine ok_bnO (p_firstIn F μ _) (fun o ho => ok_cs (fun _ => ok_some ⟨hI.mono (Int.le_refl _) (by omega), Fr.rf⟩) (fun q hv => ?_))
    rcases ho with ⟨ho, -⟩ | ⟨q', ho, hq, h9⟩
    · rw [hv] at ho; cases ho
    rw [hv] at ho; cases ho
    refine ok_grd hq (ok_ite (fun hle => ?_) (fun _ => ok_some ⟨hI.mono (Int.le_refl _) (by omega), Fr.rf⟩))
    obtain ⟨b1, b2, b3, b4, b5, b6⟩ := (hI.p hq).inRes hC hr h9
    have hn9 : ¬ (μ q 9 = -1 ∧ μ q 7 = -1 ∧ (q : Int) ≤ (μ 0 5).toInt) := fun z => nI_m1 (by have := hC.1; omega) (h9.symm.trans z.1)
    refine ok_bnO (i_giveUnits hC hI he (by omega) hq hr h9 (ti_le.mp hle)) (fun μ8 h8 => ?_)
    obtain ⟨c1, c2, c3, -⟩ := h8
    refine ok_ite (fun _ => ?_) (fun _ => ?_)
    · refine ok_bnO (i_schedule hC c1 hT he (by omega) hq (Or.inl rfl) (Or.inl rfl) (by decide) (by decide)) (fun μ12 h12 => ?_)
      obtain ⟨d1, d2, -⟩ := h12
      rw [nI_1]
      refine ok_mono (i_serveR_l hC hT he hr n (i + 1) (N + 1 + 1) μ12 hi (by omega) (by omega) (d1.back b1)) (fun ν hν => ?_)
      exact ⟨hν.1.mono (Int.le_refl _) (by omega), ((c2.tr d2).up hn9).tr hν.2⟩
    · have p2 := (hI.p hq).2.1
      have e5 : μ8 q 5 = μ q 5 := c3 5 (by decide)
      refine ok_bnO (i_schedule hC c1 hT he (by omega) hq (Or.inl rfl) (Or.inr rfl) (by rw [e5]; exact p2.1) (by rw [e5]; exact p2.2)) (fun μ15 h15 => ?_)
      obtain ⟨d1, d2, d3, -⟩ := h15
      have d1 := d1.back b1
      obtain ⟨f1, f2, f3, f4, f5, f6, f7, f8, f9⟩ := d1.p hq
      have g9 : μ15 q 9 = -1 := by
        rw [d3 9 (by decide) (by decide) (by decide)]
        exact ((c1.p hq).2.2.2.2.2.2.2.1 (Or.inl rfl)).1
      obtain ⟨k1, k2⟩ := inv_put (X' := X) hC d1 he hq (j := 5) (v := 0) (by decide) g9 (fun _ _ _ => Iff.rfl) ⟨f1, ⟨Int.le_refl _, (by decide : (0 : Int32).toInt ≤ 20)⟩, f3, f4, f5, f6, f7, f8, f9⟩
      refine ok_bnd ?_
      rw [nI_1]
      refine ok_mono (i_serveR_l hC hT he hr n (i + 1) (N + 1 + 1) _ hi (by omega) (by omega) k1) (fun ν hν => ?_)
      exact ⟨hν.1.mono (Int.le_refl _) (by omega), (((c2.tr d2).tr k2).up hn9).tr hν.2⟩
theorem i_serveR (hC : Cfg F K) (hI : Inv F K X e T N μ) (hT : T ≤ 100000) (he : e < 2147483648) (hr : r < F.sz 0) (hN : N + 48 < 2000000000) : Ok (f_X7_serveR F μ (102 + r)) (fun ν => Inv F K X e T (N + 48) ν ∧ Fr F 0 μ ν) :=
  i_serveR_l hC hT he hr fu 0 N μ (by decide) fu_24 (by omega) hI
end
