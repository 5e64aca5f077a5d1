/-! THE PURE PART, 12: an event happens -/
section
variable {F : Fg} {K : Kx} {X X' : Nat → Prop} {e e' q r s a j : Nat} {T T' N N' : Int} {μ ν ρ : Mem}
/-- the next instruction -/
theorem p_nextInstruction (hC : Cfg F K) (hp : μ q 1 = -1 ∨ ∃ j, j < F.sz 2 ∧ μ q 1 = nI j) : Ok (f_X2_nextInstruction F μ q) (fun o => o = none ∨ ∃ v, o = some v ∧ (138 ≤ v ∧ v < 266 ∧ (v - 138) / 16 < F.sz 2 ∧ (v - 138) % 16 < F.sz (10 + (v - 138) / 16)) ∧ IN F (F.sh v)) := by
  have h8 := hC.2.2.1
  unfold f_X2_nextInstruction
  refine ok_cs (fun _ => ok_some (Or.inl rfl)) (fun v hv => ?_)
  rcases p_srf hp h8 with h | ⟨j, hj, h⟩
  · rw [hv] at h; cases h
  rw [hv] at h; cases h
  refine ok_grd ⟨by omega, by omega, by omega⟩ ?_
  have hlen := hC.2.2.2.2.2.1 j
  refine ok_bnO (P := fun o => o = none ∨ ∃ v, o = some v ∧ (138 ≤ v ∧ v < 266 ∧ (v - 138) / 16 < F.sz 2 ∧ (v - 138) % 16 < F.sz (10 + (v - 138) / 16)) ∧ IN F (F.sh v)) ?_ (fun o ho => ok_cs (fun _ => ok_some (Or.inl rfl)) (fun v hv => ?_))
  · unfold f_X4_instructionAt
    have e10 : 114 + j - 104 = 10 + j := by omega
    rw [e10]
    refine ok_ite (fun _ => ok_some (Or.inl rfl)) (fun h1 => ok_ite (fun _ => ok_some (Or.inl rfl)) (fun h2 => ?_))
    obtain ⟨i, hi, e1⟩ := nI_of h1
    rw [e1] at h2 ⊢
    rw [nI_leI (by omega) hi] at h2
    have hi2 : i < F.sz (10 + j) := by omega
    refine ok_grd (nI_in hi2 (by omega)) (ok_bnd ?_)
    rw [nI_clamp hi]
    have e2 : 138 + 16 * (114 + j - 114) + i = 138 + 16 * j + i := by omega
    rw [e2]
    have e3 : (138 + 16 * j + i - 138) / 16 = j := by omega
    have e4 : (138 + 16 * j + i - 138) % 16 = i := by omega
    have hg : 138 ≤ 138 + 16 * j + i ∧ 138 + 16 * j + i < 266 ∧ (138 + 16 * j + i - 138) / 16 < F.sz 2 ∧ (138 + 16 * j + i - 138) % 16 < F.sz (10 + (138 + 16 * j + i - 138) / 16) := ⟨by omega, by omega, by rw [e3]; exact hj, by rw [e3, e4]; exact hi2⟩
    exact ok_grd hg (ok_some (Or.inr ⟨_, rfl, hg, hC.2.2.2.2.2.2 j i hj hi2⟩))
  · rcases ho with ho | ⟨w, ho, hw, hIN⟩
    · rw [hv] at ho; cases ho
    rw [hv] at ho; cases ho
    exact ok_grd hw (ok_some (Or.inr ⟨v, rfl, hw, hIN⟩))
/-- how an event of p leaves the kernel; d: how many instructions were done by now -/
def evQ (F : Fg) (K : Kx) (T N : Int) (p : Nat) (d : Int) (μ ν : Mem) : Prop := Inv F K (fun _ => False) 99 T N ν ∧ FH F p μ ν ∧ ν 0 6 = μ 0 6 ∧ ¬ ν p 6 = 7 ∧ (0 ≤ (μ 0 8).toInt → (μ 0 8).toInt + d ≤ 1000040 → (μ 0 8).toInt ≤ (ν 0 8).toInt ∧ (ν 0 8).toInt ≤ (μ 0 8).toInt + d)
theorem evQ.mono {p : Nat} {d d' : Int} (h : evQ F K T N p d μ ν) (hN : N ≤ N') (hd : d ≤ d') : evQ F K T N' p d' μ ν :=
  ⟨h.1.mono (Int.le_refl _) hN, h.2.1, h.2.2.1, h.2.2.2.1, fun a b => ⟨(h.2.2.2.2 a (by omega)).1, by have := (h.2.2.2.2 a (by omega)).2; omega⟩⟩
theorem i_happen_111 (hC : Cfg F K) (hI : Inv F K (xq μ q) 99 T N μ) (hc : (q : Int) ≤ (μ 0 5).toInt) (hs : (μ q 6).toInt < 5 ∨ μ q 6 = 6 ∨ μ q 6 = 5) (hT : T ≤ 5000) (hN : N + 360 < 2000000000) (hq : isP q) (lg : Log) :
    Ok (b_X7_happen_111 F μ lg q) (fun x => evQ F K T (N + 360) q 0 μ x.1 ∧ x.2.2 = some q) := by
  unfold b_X7_happen_111
  rw [p_isOver]
  refine ok_bnO (ok_eq rfl) (fun z hz => ok_ite (fun h0 => ok_some ⟨⟨?_, FH.rf, rfl, ?_, fun a b => ⟨Int.le_refl _, by dsimp only; omega⟩⟩, rfl⟩) (fun h0 => ?_))
  · have hn : ¬ (μ q 6 = 5 ∨ μ q 6 = 6 ∨ μ q 6 = 7) := fun h => by
      rw [if_pos h] at hz; rw [hz] at h0; exact absurd h0 (by decide)
    have h5 : (μ q 6).toInt < 5 := by
      rcases hs with h | h | h
      · exact h
      · exact absurd (Or.inr (Or.inl h)) hn
      · exact absurd (Or.inl h) hn
    exact (hI.xx (X' := fun _ => False) (fun k _ => ⟨fun y => y.elim, fun y => by have := y.2; omega⟩)).mono (Int.le_refl _) (by omega)
  · dsimp only
    intro h7
    rcases hs with h | h | h <;> rw [h7] at h <;> exact absurd h (by decide)
  · have h56 : μ q 6 = 5 ∨ μ q 6 = 6 ∨ μ q 6 = 7 := by
      by_cases h : μ q 6 = 5 ∨ μ q 6 = 6 ∨ μ q 6 = 7
      · exact h
      · rw [if_neg h] at hz; exact absurd hz h0
    refine ok_bnO (i_finish hC hI (by omega) (by decide) hN hq hc h56) (fun ν hν => ok_some ⟨?_, rfl⟩)
    obtain ⟨a1, a2, a3⟩ := hν
    refine ⟨a1.xx (fun k _ => ⟨fun y => y.elim, fun y => ?_⟩), a2.fh, a2.1, ?_, fun a b => ?_⟩
    · rcases y.1 with h | h
      · exact y.2 h
      · exact y.2 h.1
    · dsimp only
      rw [a3]
      intro h7
      rcases hs with h | h | h <;> rw [h7] at h <;> exact absurd h (by decide)
    · dsimp only
      rw [a2.2.1]; omega
theorem i_happen_96 (hC : Cfg F K) (hI : Inv F K (xq μ q) 99 T N μ) (hc : (q : Int) ≤ (μ 0 5).toInt) (hs : (μ q 6).toInt < 5 ∨ μ q 6 = 8 ∨ μ q 6 = 6 ∨ μ q 6 = 5) (hT : T ≤ 5000) (hN : N + 360 < 2000000000) (hq : isP q) (lg : Log) :
    Ok (b_X7_happen_96 F μ lg q) (fun x => evQ F K T (N + 360) q 0 μ x.1 ∧ x.2.2 = some q) := by
  unfold b_X7_happen_96
  refine ok_ite (fun h8 => ok_bnd ?_) (fun h8 => i_happen_111 hC hI hc (by rcases hs with h | h | h; exact Or.inl h; exact absurd h h8; exact Or.inr h) hT hN hq lg)
  have hx : xq μ q q := ⟨rfl, by rw [h8]; decide⟩
  obtain ⟨d1, d2⟩ := i_state hC hI (by decide) hq hx 6
  have e6 : put μ q 6 6 q 6 = 6 := pu_at μ q 6 6
  have z0 : put μ q 6 6 0 = μ 0 := pu_nk μ 6 6 (by have := hq.1; omega)
  refine ok_mono (i_happen_111 hC (d1.xx (X' := xq (put μ q 6 6) q) (fun k _ => ⟨fun y => ⟨y.1, hx.2⟩, fun y => ⟨y.1, by rw [e6]; decide⟩⟩)) (by rw [z0]; exact hc) (Or.inr (Or.inl e6)) hT hN hq lg) (fun x h => ⟨⟨h.1.1, d2.fh.tr h.1.2.1, h.1.2.2.1.trans d2.1, h.1.2.2.2.1, fun a b => ?_⟩, h.2⟩)
  have z := h.1.2.2.2.2
  rw [d2.2.1] at z
  exact z a b
theorem i_happen_32 (hC : Cfg F K) (hT : T ≤ 5000) (hq : isP q) : ∀ (n i : Nat) (N : Int) (μ : Mem) (lg : Log), i ≤ 40 → 40 < n + i → N + 80 * (40 - i) + 360 < 2000000000 → Inv F K (xq μ q) 99 T N μ → (q : Int) ≤ (μ 0 5).toInt → ((μ q 6).toInt < 5 ∨ μ q 6 = 8 ∨ μ q 6 = 6 ∨ μ q 6 = 5) → Ok (b_X7_happen_32 F n μ lg q (nI i)) (fun x => evQ F K T (N + 80 * (40 - i) + 360) q (40 - i) μ x.1 ∧ x.2.2 = some q)
  | 0, i, N, μ, lg, h1, h2, _, _, _, _ => absurd h2 (by omega)
  | n + 1, i, N, μ, lg, h1, h2, hN, hI, hc, hs => by
    rw [b_X7_happen_32]
    refine ok_ite (fun h8 => ?_) (fun h8 => ?_)
    · have hx : xq μ q q := ⟨rfl, by rw [h8]; decide⟩
      have hX : ∀ k, isP k → (xq μ q k ↔ k = q) := fun k _ => ⟨fun y => y.1, fun y => ⟨y, hx.2⟩⟩
      refine ok_ite (fun _ => ok_mono (i_happen_96 hC hI hc hs hT (by omega) hq lg) (fun x h => ⟨h.1.mono (by omega) (by omega), h.2⟩)) (fun hlt => ?_)
      have hi : i < 40 := by
        rw [show (40 : Int32) = nI 40 from rfl, nI_leI (by decide) (by omega)] at hlt
        omega
      refine ok_bnO (p_nextInstruction hC (hI.p hq).1) (fun o ho => ok_cs (fun _ => ok_bnd ?_) (fun v hv => ?_))
      · obtain ⟨d1, d2⟩ := i_state hC hI (by decide) hq hx 5
        have e6 : put μ q 6 5 q 6 = 5 := pu_at μ q 6 5
        have z0 : put μ q 6 5 0 = μ 0 := pu_nk μ 6 5 (by have := hq.1; omega)
        rw [nI_1]
        refine ok_mono (i_happen_32 hC hT hq n (i + 1) N _ lg (by omega) (by omega) (by omega) (d1.xx (X' := xq (put μ q 6 5) q) (fun k _ => ⟨fun y => ⟨y.1, hx.2⟩, fun y => ⟨y.1, by rw [e6]; decide⟩⟩)) (by rw [z0]; exact hc) (Or.inr (Or.inr (Or.inr e6)))) (fun x h => ⟨?_, h.2⟩)
        obtain ⟨g1, g2, g3, g4, g5⟩ := h.1
        refine ⟨g1.mono (Int.le_refl _) (by omega), d2.fh.tr g2, g3.trans d2.1, g4, fun a b => ?_⟩
        rw [d2.2.1] at g5
        have := g5 a (by omega)
        omega
      · rcases ho with ho | ⟨w, ho, hw, hIN⟩
        · rw [hv] at ho; cases ho
        rw [hv] at ho; cases ho
        refine ok_grd hw (ok_bnd (ok_bnd ?_))
        obtain ⟨κ, hκ⟩ : ∃ κ, κ = put μ 0 8 (μ 0 8 + 1) := ⟨_, rfl⟩
        rw [← hκ]
        have kf : ∀ k, k ≠ 0 → κ k = μ k := fun k hk => by rw [hκ]; exact pu_nk μ 8 _ hk
        have kj : ∀ j, j ≠ 8 → κ 0 j = μ 0 j := fun j hj => by rw [hκ]; exact pu_nj μ 0 _ hj
        have k8 : κ 0 8 = μ 0 8 + 1 := by rw [hκ]; exact pu_at μ 0 8 _
        have kI : Inv F K (xq μ q) 99 T N κ := inv_other hC hI (fun k hk _ => kf k hk) (kj 5 (by decide)) (kj 6 (by decide)) (by rw [kj 7 (by decide)]; exact hI.lk) (kj 9 (by decide))
        obtain ⟨d1, d2, d3⟩ := i_field hC kI (by decide) hq hx (Or.inr rfl) (κ q 3 + 1)
        obtain ⟨ρ, hρ⟩ : ∃ ρ, ρ = put κ q 3 (κ q 3 + 1) := ⟨_, rfl⟩
        rw [← hρ] at d1 d2 d3 ⊢
        have kFH : FH F q μ κ := ⟨by rw [kj 5 (by decide)]; exact Int.le_refl _, fun r hr => by rw [kf (102 + r) (by omega)]; exact Int.le_refl _, fun k hk _ _ _ _ => ⟨kf k hk.n0, kf _ (by omega)⟩⟩
        have r8 : ρ q 6 = 8 := by rw [d3, kf q hq.n0]; exact h8
        refine ok_bn2 (i_obey hC d1 hX r8 hT (by omega) hq hIN lg) (fun μ19 lg20 h19 => ?_)
        obtain ⟨c1, c2, c3⟩ := h19
        dsimp only at c1 c2 c3
        have hc' : (q : Int) ≤ (μ19 0 5).toInt := by
          have a1 := c2.2.2.1
          have a2 := d2.2.2.1
          rw [kj 5 (by decide)] at a2
          omega
        rw [nI_1]
        refine ok_mono (i_happen_32 hC hT hq n (i + 1) (N + 80) μ19 lg20 (by omega) (by omega) (by omega) c1 hc' c3) (fun x h => ⟨?_, h.2⟩)
        obtain ⟨g1, g2, g3, g4, g5⟩ := h.1
        refine ⟨g1.mono (Int.le_refl _) (by omega), ((kFH.tr d2.fh).tr c2.fh).tr g2, ?_, g4, fun a b => ?_⟩
        · rw [g3, c2.1, d2.1, kj 6 (by decide)]
        · have e8 : (μ19 0 8).toInt = (μ 0 8).toInt + 1 := by
            rw [c2.2.1, d2.2.1, k8, ti_add (by rw [ti_1]; omega) (by rw [ti_1]; omega), ti_1]
          rw [e8] at g5
          have := g5 (by omega) (by omega)
          omega
    · exact ok_mono (i_happen_96 hC hI hc hs hT (by omega) hq lg) (fun x h => ⟨h.1.mono (by omega) (by omega), h.2⟩)
/-- the next event happens -/
def hpQ (F : Fg) (K : Kx) (T N : Int) (μ : Mem) (lg : Log) (x : Mem × Log × Option Nat) : Prop :=
  (x = (μ, lg, none) ∧ ∀ k, k < 24 → μ (k + 1) 7 = -1) ∨ ∃ q, x.2.2 = some q ∧ isP q ∧ ¬ μ q 7 = -1 ∧ (∀ k, k < 24 → ¬ μ (k + 1) 7 = -1 → (μ q 7).toInt ≤ (μ (k + 1) 7).toInt) ∧ Inv F K (fun _ => False) 99 (T + 20) (N + 4000) x.1 ∧ FH F 0 μ x.1 ∧ x.1 0 6 = μ q 7 ∧ ¬ x.1 q 6 = 7 ∧ (0 ≤ (μ 0 8).toInt → (μ 0 8).toInt ≤ 1000000 → (μ 0 8).toInt ≤ (x.1 0 8).toInt ∧ (x.1 0 8).toInt ≤ (μ 0 8).toInt + 40)
theorem i_happen (hC : Cfg F K) (hI : Inv F K (fun _ => False) 99 T N μ) (hT : T + 20 ≤ 5000) (hN : N + 4000 < 2000000000) (lg : Log) : Ok (f_X7_happen F μ lg) (hpQ F K T N μ lg) := by
  unfold f_X7_happen
  refine ok_bnO (p_nextToGo F μ) (fun o ho => ok_cs (fun hn => ok_some (Or.inl ⟨rfl, ?_⟩)) (fun q hv => ?_))
  · rcases ho with ho | ⟨q, ho, -⟩
    · exact ho.2
    · rw [hn] at ho; cases ho
  rcases ho with ho | ⟨q', ho, hq, h7, hmin⟩
  · rw [hv] at ho; cases ho.1
  rw [hv] at ho; cases ho
  obtain ⟨q1, q2⟩ := id hq
  obtain ⟨b1, b2, b3, b4, b5, b6⟩ := (hI.p hq).inEv h7
  have htm := hI.tm
  refine ok_grd hq (ok_bnO (i_goTo (T' := T + 20) hC hI b5 (by omega) (by omega) (fun k hk hk7 => ?_)) (fun μ6 h6 => ok_bnd (ok_bnd ?_)))
  · have hk2 := hk.2
    have hk1 := hk.1
    have := hmin (k - 1) (by omega)
    have e1 : k - 1 + 1 = k := by omega
    rw [e1] at this
    exact this hk7
  obtain ⟨c1, c2, c3, c4, c5, c6⟩ := h6
  obtain ⟨d1, d2⟩ := inv_out (ν := put (put μ6 q 7 (-1)) q 6 8) hC c1 (by decide) hq (by rw [c6]; exact b4) (fun k hk => by simp [put, hk]) (fun j h5 h6 h7 h9 => by simp [put, upd, h6, h7]) (by simpa [put, upd] using (c1.p hq).2.1) (by simp [put, upd]) (by simp [put, upd]; rw [(c5 q hq).1]; exact b2)
  have e6 : put (put μ6 q 7 (-1)) q 6 8 q 6 = 8 := by simp [put, upd]
  have e0 : put (put μ6 q 7 (-1)) q 6 8 0 = μ6 0 := by simp [put, show ¬ 0 = q by omega]
  refine ok_mono (i_happen_32 hC (by omega) hq fu 0 N _ lg (by decide) (by decide) (by omega) (d1.xx (fun k _ => ⟨fun y => Or.inl y.1, fun y => ⟨y.resolve_right id, by rw [e6]; decide⟩⟩)) (by rw [e0, c6]; exact b4) (Or.inr (Or.inl e6))) (fun x hx => ?_)
  obtain ⟨⟨g1, g2, g3, g4, g5⟩, g6⟩ := hx
  refine Or.inr ⟨q, g6, hq, h7, hmin, g1.mono (Int.le_refl _) (by omega), ?_, ?_, g4, fun a b => ?_⟩
  · have z : FH F q μ x.1 := ((FH.tr (p := q) ⟨c2.1, c2.2.1, fun k hk _ => c2.2.2 k hk (by have := hk.1; omega)⟩ d2.fh).tr g2)
    exact z.up (fun y => h7 y.2.1)
  · rw [g3, e0, c3]
  · rw [e0, c4] at g5
    have := g5 a (by omega)
    omega
theorem p_hasEventBy (F : Fg) (μ : Mem) (en : Int32) : Ok (f_X7_hasEventBy F μ en) (fun z => (z = 0 ∧ ∀ k, isP k → ¬ μ k 7 = -1 → en.toInt < (μ k 7).toInt) ∨ (¬ z = 0 ∧ ∃ q, isP q ∧ ¬ μ q 7 = -1 ∧ (μ q 7).toInt ≤ en.toInt)) := by
  unfold f_X7_hasEventBy
  refine ok_bnO (p_nextToGo F μ) (fun o ho => ok_cs (fun hn => ok_some (Or.inl ⟨rfl, fun k hk hk7 => ?_⟩)) (fun q hv => ?_))
  · rcases ho with ho | ⟨q, ho, -⟩
    · have := ho.2 (k - 1) (by have := hk.2; omega)
      rw [show k - 1 + 1 = k by have := hk.1; omega] at this
      exact absurd this hk7
    · rw [hn] at ho; cases ho
  rcases ho with ho | ⟨q', ho, hq, h7, hmin⟩
  · rw [hv] at ho; cases ho.1
  rw [hv] at ho; cases ho
  refine ok_grd hq (ok_ite (fun h => ok_some (Or.inl ⟨rfl, fun k hk hk7 => ?_⟩)) (fun h => ok_some (Or.inr ⟨by decide, q, hq, h7, ?_⟩)))
  · have := hmin (k - 1) (by have := hk.2; omega)
    rw [show k - 1 + 1 = k by have := hk.1; omega] at this
    have := this hk7
    rw [ti_ltI] at h
    omega
  · rw [ti_ltI] at h
    omega
theorem Inv.tt (h : Inv F K X e T N μ) (hT : (μ 0 6).toInt ≤ T') : Inv F K X e T' N μ := ⟨h.cst, h.st, ⟨h.tm.1, hT⟩, h.lk, h.od, h.res, h.cnt, h.sto, h.prc, h.dis⟩
theorem i_runFor_l (hC : Cfg F K) {en : Int32} (hT : en.toInt + 20 ≤ 5000) : ∀ (n i : Nat) (N : Int) (μ : Mem) (lg : Log), i ≤ 400 → 400 < n + i → N + 4000 * (400 - i) < 2000000000 → Inv F K (fun _ => False) 99 en.toInt N μ → Ok (b_X7_runFor_9 F n μ lg en (nI i)) (fun x => Inv F K (fun _ => False) 99 en.toInt (N + 4000 * (400 - i)) x.1 ∧ FH F 0 μ x.1)
  | 0, i, N, μ, lg, h1, h2, _, _ => absurd h2 (by omega)
  | n + 1, i, N, μ, lg, h1, h2, hN, hI => by
    have hE : ∀ x3 : Int32, Ok (b_X7_runFor_35 F μ lg en x3) (fun x => Inv F K (fun _ => False) 99 en.toInt (N + 4000 * (400 - i)) x.1 ∧ FH F 0 μ x.1) := fun x3 => by
      unfold b_X7_runFor_35
      refine ok_bnO (p_hasEventBy F μ en) (fun z hz => ok_ite (fun h0 => ?_) (fun _ => ok_some ⟨hI.mono (Int.le_refl _) (by omega), FH.rf⟩))
      rcases hz with ⟨-, hz⟩ | ⟨hz, -⟩
      · refine ok_bnO (i_goTo (T' := en.toInt) hC hI hI.tm.2 (Int.le_refl _) (by omega) (fun k hk hk7 => by have := hz k hk hk7; omega)) (fun ν hν => ok_some ⟨hν.1.mono (Int.le_refl _) (by omega), hν.2.1⟩)
      · exact absurd h0 hz
    rw [b_X7_runFor_9]
    refine ok_ite (fun _ => hE _) (fun hlt => ?_)
    have hi : i < 400 := by
      rw [show (400 : Int32) = nI 400 from rfl, nI_leI (by decide) (by omega)] at hlt
      omega
    refine ok_bnO (p_hasEventBy F μ en) (fun z hz => ok_ite (fun _ => hE _) (fun h0 => ?_))
    rcases hz with ⟨hz, -⟩ | ⟨-, q0, hq0, hq7, hqe⟩
    · exact absurd hz h0
    refine ok_bn3 (i_happen hC hI hT (by omega) lg) (fun μ7 lg8 r5 hx => ?_)
    rcases hx with ⟨-, hx⟩ | ⟨q, -, hq, h7, hmin, g1, g2, g3, -⟩
    · have := hx (q0 - 1) (by have := hq0.2; omega)
      rw [show q0 - 1 + 1 = q0 by have := hq0.1; omega] at this
      exact absurd this hq7
    · dsimp only at g1 g2 g3
      have := hmin (q0 - 1) (by have := hq0.2; omega)
      rw [show q0 - 1 + 1 = q0 by have := hq0.1; omega] at this
      have := this hq7
      rw [nI_1]
      refine ok_mono (i_runFor_l hC hT n (i + 1) (N + 4000) μ7 lg8 (by omega) (by omega) (by omega) (g1.tt (by rw [g3]; omega))) (fun x h => ⟨h.1.mono (Int.le_refl _) (by omega), g2.tr h.2⟩)
theorem i_runFor (hC : Cfg F K) (hI : Inv F K (fun _ => False) 99 T N μ) {ti : Int32} (h0 : 0 ≤ ti.toInt) (hT : T + ti.toInt + 20 ≤ 5000) (hN : N + 1600000 < 2000000000) (lg : Log) : Ok (f_X7_runFor F μ lg ti) (fun x => Inv F K (fun _ => False) 99 (T + ti.toInt) (N + 1600000) x.1 ∧ FH F 0 μ x.1) := by
  have htm := hI.tm
  have e1 : (μ 0 6 + ti).toInt = (μ 0 6).toInt + ti.toInt := ti_add (by omega) (by omega)
  unfold f_X7_runFor
  refine ok_mono (i_runFor_l hC (en := μ 0 6 + ti) (by omega) fu 0 N μ lg (by decide) (by decide) (by omega) (hI.tt (by omega))) (fun x h => ⟨h.1.mono (by omega) (by omega), h.2⟩)
/-- one event on, and who is over by then -/
theorem p_runToEnd1 {k c : Nat} (hc : μ 0 5 = nI c) (h24 : c ≤ 24) (hk : k < c) {lg : Log} {x : Mem × Log × Option Nat} (hx : f_X7_happen F μ lg = some x) : f_X7_runToEndOf F μ lg (nI k) 1 = some (x.1, x.2.1, if x.1 (k + 1) 6 = 5 ∨ x.1 (k + 1) 6 = 6 ∨ x.1 (k + 1) 6 = 7 then x.1 0 6 else -1) := by
  have hP : 1 ≤ k + 1 ∧ k + 1 < 25 := ⟨by omega, by omega⟩
  unfold f_X7_runToEndOf
  rw [p_process F μ hc h24 hk]
  unfold bnO
  dsimp only
  unfold csQ
  dsimp only
  unfold grd
  rw [if_pos hP]
  rw [show fu = 2998 + 1 + 1 from rfl, b_X7_runToEndOf_9]
  unfold csQ
  dsimp only
  unfold grd
  rw [if_pos hP, if_neg (by decide), hx]
  unfold bn3
  dsimp only
  rw [p_isOver]
  unfold bnO
  dsimp only
  by_cases h : x.1 (k + 1) 6 = 5 ∨ x.1 (k + 1) 6 = 6 ∨ x.1 (k + 1) 6 = 7
  · rw [if_pos h, if_neg (by decide), if_pos h]
  · rw [if_neg h, if_pos rfl, if_neg h, b_X7_runToEndOf_9]
    unfold csQ
    dsimp only
    unfold grd
    rw [if_pos hP, if_pos (by decide)]
end
