/-! THE PURE PART, 7: seize, exchange, begin, draws -/
section
variable {F : Fg} {K : Kx} {X X' : Nat → Prop} {e e' q r s a j : Nat} {T T' N N' : Int} {μ ν ρ : Mem}
/-- q is worked on as long as it goes on or is over -/
def xq (ν : Mem) (q : Nat) : Nat → Prop := fun k => k = q ∧ 5 ≤ (ν q 6).toInt
/-- the longest queue is told -/
theorem inv_long (hC : Cfg F K) (hI : Inv F K X r T N μ) (hr : r < F.sz 0) {x : Int32} (hx : x = if μ (102 + r) 6 < nI (ct (inr μ (nI r)) 24) then nI (ct (inr μ (nI r)) 24) else μ (102 + r) 6) :
    Inv F K X 99 T N (put μ (102 + r) 6 x) ∧ Fr F 0 μ (put μ (102 + r) 6 x) := by
  have h6 := hC.1
  have h4 := hC.2.1
  have hct := ct_le (inr μ (nI r)) 24
  have hf : ∀ k, k ≠ 102 + r → put μ (102 + r) 6 x k = μ k := fun k hk => pu_nk μ 6 x hk
  have fr : put μ (102 + r) 6 x (102 + r) = upd (μ (102 + r)) 6 x := put_at μ _ _ _
  have z0 : put μ (102 + r) 6 x 0 = μ 0 := hf 0 (by omega)
  obtain ⟨b1, b2, b3, b4, b5, b6, b7, b8⟩ := hI.res r hr
  have hxv : (μ (102 + r) 6).toInt ≤ x.toInt ∧ (ct (inr μ (nI r)) 24 : Int) ≤ x.toInt ∧ x.toInt ≤ 24 := by
    rw [hx]
    by_cases h : μ (102 + r) 6 < nI (ct (inr μ (nI r)) 24)
    · rw [if_pos h, ti_nI (by omega)]
      rw [ti_ltI, ti_nI (by omega)] at h
      omega
    · rw [if_neg h]
      rw [ti_ltI, ti_nI (by omega)] at h
      omega
  have hin : ∀ row : Int32, ct (inr (put μ (102 + r) 6 x) row) 24 = ct (inr μ row) 24 := fun row => ct_congr 24 (fun i hi => by unfold inr; rw [hf (i + 1) (by omega)])
  have hhs : ∀ r', hsm (put μ (102 + r) 6 x) r' = hsm μ r' := fun r' => sm_congr 24 (fun i hi => by rw [hf (i + 49) (by omega)])
  have htm := hI.tm
  refine ⟨⟨⟨fun k hk => by rw [hf _ (by omega)]; exact hI.cst.1 k hk, fun r' hr' => ?_, fun s hs => by rw [hf _ (by omega)]; exact hI.cst.2.2 s hs⟩, by rw [z0]; exact hI.st, by rw [z0]; exact hI.tm, by rw [z0]; exact hI.lk, by rw [z0]; exact hI.od, fun r' hr' => ?_, fun r' hr' _ => ?_, fun s hs => by rw [z0, hf _ (by omega)]; exact hI.sto s hs, fun k hk => by rw [z0, hf _ (by omega), hf _ (by omega)]; exact hI.prc k hk, fun i k hi hk hik h1 h2 => ?_⟩, by rw [z0], by rw [z0], by rw [z0]; exact Int.le_refl _, fun r' hr' => ?_, fun k hk _ _ _ _ => ⟨hf k (by have := hk.2; omega), hf _ (by have := hk.2; omega)⟩⟩
  · by_cases hrr : r' = r
    · subst hrr
      rw [fr, pk_un (show (0 : Nat) ≠ 6 by decide), pk_un (show (1 : Nat) ≠ 6 by decide), pk_un (show (2 : Nat) ≠ 6 by decide)]
      exact hI.cst.2.1 r' hr
    · rw [hf _ (by omega)]; exact hI.cst.2.1 r' hr'
  · by_cases hrr : r' = r
    · subst hrr
      rw [z0, hhs]
      unfold RI
      rw [fr, pk_un (show (3 : Nat) ≠ 6 by decide), pk_un (show (4 : Nat) ≠ 6 by decide), pk_un (show (5 : Nat) ≠ 6 by decide), pk_us]
      exact ⟨b1, b2, b3, b4, b5, Int.le_trans b6 (Int.mul_le_mul_of_nonneg_left hxv.1 htm.1), by omega, hxv.2.2⟩
    · rw [z0, hhs, hf _ (by omega)]; exact hI.res r' hr'
  · rw [hin]
    by_cases hrr : r' = r
    · subst hrr
      rw [fr, pk_us]; exact hxv.2.1
    · rw [hf _ (by omega)]; exact hI.cnt r' hr' hrr
  · rw [hf _ (by omega)] at h1 ⊢
    rw [hf _ (by omega)] at h2 ⊢
    exact hI.dis i k hi hk hik h1 h2
  · by_cases hrr : r' = r
    · subst hrr; rw [fr]; exact pk_un (by decide)
    · rw [hf _ (by omega)]
/-- a state for who is worked on -/
theorem i_state (hC : Cfg F K) (hI : Inv F K X e T N μ) (he : e < 2147483648) (hq : isP q) (hx : X q) (v : Int32) : Inv F K X e T N (put μ q 6 v) ∧ Fr F q μ (put μ q 6 v) := by
  obtain ⟨p1, p2, p3, p4, p5, p6, p7, p8, p9⟩ := hI.p hq
  obtain ⟨x9, x7, xc⟩ := p8 hx
  have n9 : upd (μ q) 6 v 9 = -1 := by rw [pk_un (by decide)]; exact x9
  exact inv_put hC hI he hq (j := 6) (v := v) (by decide) n9 (fun _ _ _ => Iff.rfl) ⟨by rw [pk_un (by decide)]; exact p1, by rw [pk_un (by decide)]; exact p2, by rw [pk_un (by decide)]; exact p3, p4, p5, fun z => absurd n9 z, by rw [pk_un (by decide)]; exact p7, fun _ => ⟨n9, by rw [pk_un (by decide)]; exact x7, xc⟩, fun z => absurd hx z⟩
/-- how an instruction leaves the kernel -/
def obQ (F : Fg) (K : Kx) (T N : Int) (q : Nat) (μ ν : Mem) : Prop := Inv F K (xq ν q) 99 T N ν ∧ Fr F q μ ν ∧ ((ν q 6).toInt < 5 ∨ ν q 6 = 8 ∨ ν q 6 = 6 ∨ ν q 6 = 5)
theorem obQ.is (h : Inv F K X 99 T N ν) (hF : Fr F q μ ν) (hX : ∀ k, isP k → (X k ↔ k = q)) (hs : ν q 6 = 8 ∨ ν q 6 = 6 ∨ ν q 6 = 5) : obQ F K T N q μ ν := by
  have h5 : 5 ≤ (ν q 6).toInt := by rcases hs with hs | hs | hs <;> rw [hs] <;> decide
  exact ⟨h.xx (fun k hk => ⟨fun z => (hX k hk).mpr z.1, fun z => ⟨(hX k hk).mp z, h5⟩⟩), hF, Or.inr hs⟩
theorem obQ.no (h : Inv F K X 99 T N ν) (hF : Fr F q μ ν) (hX : ∀ k, isP k → ¬ X k) (hs : (ν q 6).toInt < 5) : obQ F K T N q μ ν :=
  ⟨h.xx (fun k hk => ⟨fun z => absurd z.2 (by omega), fun z => absurd z (hX k hk)⟩), hF, Or.inl hs⟩
theorem obQ.mono (h : obQ F K T N q μ ν) (hN : N ≤ N') : obQ F K T N' q μ ν := ⟨h.1.mono (Int.le_refl _) hN, h.2⟩
/-- seize, from the longest queue on -/
theorem i_seize_130 (hC : Cfg F K) (hI : Inv F K X r T N ρ) (hF : Fr F q μ ρ) (hX : ∀ k, isP k → ¬ X k) (hT : T ≤ 100000) (hN : N + 49 < 2000000000) (hq : isP q) (hr : r < F.sz 0) {un x4 x5 : Int32} (h9 : ρ q 9 = nI r) (h12 : ρ q 12 = un) :
    Ok (b_X7_seizeR_130 F ρ q (102 + r) un x4 x5) (obQ F K T (N + 49) q μ) := by
  have h6 := hC.1
  obtain ⟨q1, q2⟩ := id hq
  unfold b_X7_seizeR_130
  rw [(hI.cst.2.1 r hr).1, p_countIn]
  refine ok_bnO (ok_eq rfl) (fun c hc => ok_bnd ?_)
  rw [hc]
  generalize hx : (if ρ (102 + r) 6 < nI (ct (inr ρ (nI r)) 24) then nI (ct (inr ρ (nI r)) 24) else ρ (102 + r) 6) = x
  obtain ⟨J, JF⟩ := inv_long hC hI hr hx.symm
  have JF := hF.tr JF.wk
  refine ok_bnd ?_
  obtain ⟨κ, hκ⟩ : ∃ κ, κ = put ρ (102 + r) 6 x := ⟨_, rfl⟩
  rw [← hκ] at J JF ⊢
  have kq : κ q = ρ q := by rw [hκ]; exact pu_nk ρ 6 x (by omega)
  have g9 : κ q 9 = nI r := by rw [kq]; exact h9
  obtain ⟨b1, b2, b3, b4, b5, b6⟩ := (J.p hq).inRes hC hr g9
  have hE : obQ F K T (N + 49) q μ κ := obQ.no (J.mono (Int.le_refl _) (by omega)) JF hX (by rw [b4]; decide)
  refine ok_ite (fun _ => ok_some hE) (fun _ => ok_ite (fun hle => ?_) (fun _ => ok_some hE))
  refine ok_bnO (i_giveUnits hC J (by decide) (by omega) hq hr g9 (by rw [kq, h12]; exact ti_le.mp hle)) (fun μ8 h8 => ok_bnd ?_)
  obtain ⟨c1, c2, -⟩ := h8
  obtain ⟨d1, d2⟩ := i_state hC c1 (by decide) hq (Or.inl rfl) 8
  have f6 : put μ8 q 6 8 q 6 = 8 := pu_at μ8 q 6 8
  have hX' : ∀ k, isP k → ((k = q ∨ X k) ↔ k = q) := fun k hk => ⟨fun z => z.resolve_right (hX k hk), Or.inl⟩
  refine ok_ite (fun _ => ok_some (obQ.is (d1.mono (Int.le_refl _) (by omega)) ((JF.tr c2).tr d2) hX' (Or.inl f6))) (fun _ => ?_)
  refine ok_bnO (i_serveR hC d1 hT (by decide) hr (by omega)) (fun μ9 h9' => ok_some ?_)
  have z := (d1.p hq).2.2.2.2.2.2.2.1 (Or.inl rfl)
  have u := (h9'.2.2.2.2.2 q hq (by omega) z.1 z.2.1 z.2.2).1
  exact obQ.is (h9'.1.mono (Int.le_refl _) (by omega)) (((JF.tr c2).tr d2).tr h9'.2.wk) hX' (Or.inl (by rw [u]; exact f6))
theorem i_seize_93 (hC : Cfg F K) (hX : ∀ k, isP k → ¬ X k) (hT : T ≤ 100000) (hq : isP q) (hr : r < F.sz 0) {un x4 x5 : Int32} : ∀ (n i : Nat) (N : Int) (ρ : Mem), i ≤ 24 → 24 < n + i → N + (24 - i) + 49 < 2000000000 → Inv F K X r T N ρ → Fr F q μ ρ → ρ q 9 = nI r → ρ q 12 = un →
    Ok (b_X7_seizeR_93 F n ρ q (102 + r) un x4 x5 (nI i)) (obQ F K T (N + (24 - i) + 49) q μ)
  | 0, i, N, ρ, h1, h2, _, _, _, _, _ => absurd h2 (by omega)
  | n + 1, i, N, ρ, h1, h2, hN, hI, hF, h9, h12 => by
    have hE : Ok (b_X7_seizeR_130 F ρ q (102 + r) un x4 x5) (obQ F K T (N + (24 - i) + 49) q μ) := ok_mono (i_seize_130 hC hI hF hX hT (by omega) hq hr h9 h12) (fun ν hν => hν.mono (by omega))
    obtain ⟨b1, b2, b3, b4, b5, b6⟩ := (hI.p hq).inRes hC hr h9
    rw [b_X7_seizeR_93]
    refine ok_ite (fun _ => hE) (fun _ => ok_ite (fun _ => hE) (fun _ => ok_ite (fun _ => hE) (fun hlt => ?_)))
    have hi : i < 24 := by
      rcases Nat.lt_or_ge i 24 with h | h
      · exact h
      · exact absurd ((lp_le (by omega)).mpr h) hlt
    refine ok_bnO (p_nextVictim hI.cst hC.1 hr q) (fun o ho => ok_cs (fun _ => ?_) (fun v hv => ?_))
    · refine ok_bnO (ok_eq (a := ρ) rfl) (fun κ hκ => ?_)
      rw [hκ, nI_1]
      exact ok_mono (i_seize_93 hC hX hT hq hr n (i + 1) N ρ hi (by omega) (by omega) hI hF h9 h12) (fun ν hν => hν.mono (by omega))
    · rcases ho with ho | ⟨w, ho, hw, hw1⟩
      · rw [hv] at ho; cases ho
      rw [hv] at ho; cases ho
      have hne : q ≠ v := fun z => by rw [← z, b4] at hw1; exact absurd hw1 (by decide)
      refine ok_grd hw (ok_bnO (i_throwOut hC hI hT (by omega) hw (hX v hw) hw1 hr) (fun κ hκ => ?_))
      obtain ⟨c1, c2, c3⟩ := hκ
      have c4 := (c3 q hq hne).1
      rw [nI_1]
      exact ok_mono (i_seize_93 hC hX hT hq hr n (i + 1) (N + 1) κ hi (by omega) (by omega) c1 (hF.tr c2.wk) (by rw [c4]; exact h9) (by rw [c4]; exact h12)) (fun ν hν => hν.mono (by omega))
theorem i_seizeR (hC : Cfg F K) (hI : Inv F K X 99 T N μ) (hX : ∀ k, isP k → (X k ↔ k = q)) (hT : T ≤ 100000) (hN : N + 74 < 2000000000) (hq : isP q) (hr : r < F.sz 0) {un : Int32} (hu : 0 ≤ un.toInt) :
    Ok (f_X7_seizeR F μ q (102 + r) un) (obQ F K T (N + 74) q μ) := by
  have h6 := hC.1
  have hx : X q := (hX q hq).mpr rfl
  unfold f_X7_seizeR
  refine ok_ite (fun hle => ?_) (fun _ => ok_bnd ?_)
  · have hle := ti_le.mp hle
    rw [(hI.cst.2.1 r hr).2.2] at hle
    have hU := hC.2.2.2.1 r hr
    refine ok_bnO (i_queueUp hC (hI.ee (e := r) h6) (by omega) hq hx hr (Or.inl rfl) hu (by omega)) (fun ρ h => ?_)
    obtain ⟨a1, a2, a3, a4, a5, a6, -⟩ := h
    have hX' : ∀ k, isP k → ¬ (X k ∧ k ≠ q) := fun k hk z => z.2 ((hX k hk).mp z.1)
    have hE : ∀ x4 x5 : Int32, Ok (b_X7_seizeR_93 F fu ρ q (102 + r) un x4 x5 0) (obQ F K T (N + 74) q μ) := fun x4 x5 => ok_mono (i_seize_93 hC hX' hT hq hr fu 0 (N + 1) ρ (by decide) fu_24 (by omega) a1 a2 a3 a4) (fun ν hν => hν.mono (by omega))
    rw [(a1.cst.2.1 r hr).1]
    refine ok_bnO (p_firstIn F ρ _) (fun o ho => ok_cs (fun _ => hE 0 0) (fun v hv => ?_))
    rcases ho with ⟨ho, -⟩ | ⟨w, ho, hw, -⟩
    · rw [hv] at ho; cases ho
    rw [hv] at ho; cases ho
    refine ok_grd hw (ok_ite (fun _ => ok_ite (fun _ => ok_ite (fun _ => hE 1 0) (fun _ => ?_)) (fun _ => hE 1 0)) (fun _ => hE 0 0))
    exact ok_bnO (p_unitsOfVictims a1.cst h6 hr q) (fun _ _ => ok_ite (fun _ => hE 1 0) (fun _ => hE 1 1))
  · obtain ⟨d1, d2⟩ := i_state hC hI (by decide) hq hx 6
    exact ok_some (obQ.is (d1.mono (Int.le_refl _) (by omega)) d2 hX (Or.inr (Or.inl (pu_at μ q 6 6))))
end
