/-! THE PURE PART, 14: the law's look finds nothing -/
section
variable {F : Fg} {K : Kx} {T N : Int} {μ : Mem} {c : Nat}
def st (μ : Mem) (j : Nat) : Nat → Bool := fun k => decide (μ (k + 1) 6 = nI j)
def b1 (b : Bool) : Nat := if b then 1 else 0
theorem ct_s (P : Nat → Bool) (n : Nat) : ct P (n + 1) = ct P n + b1 (P n) := rfl
theorem ct_sum2 {P0 P1 Q : Nat → Bool} : ∀ m, (∀ k, k < m → b1 (P0 k) + b1 (P1 k) = b1 (Q k)) → ct P0 m + ct P1 m = ct Q m
  | 0, _ => rfl
  | m + 1, h => by
    have h1 := ct_sum2 m (fun k hk => h k (by omega))
    have h2 := h m (by omega)
    rw [ct_s, ct_s, ct_s]
    omega
theorem ct_sum4 {P0 P1 P2 P3 Q : Nat → Bool} : ∀ m, (∀ k, k < m → b1 (P0 k) + b1 (P1 k) + b1 (P2 k) + b1 (P3 k) = b1 (Q k)) → ct P0 m + ct P1 m + ct P2 m + ct P3 m = ct Q m
  | 0, _ => rfl
  | m + 1, h => by
    have h1 := ct_sum4 m (fun k hk => h k (by omega))
    have h2 := h m (by omega)
    rw [ct_s, ct_s, ct_s, ct_s, ct_s]
    omega
theorem ct_cut {P : Nat → Bool} {c : Nat} : ∀ m, c ≤ m → (∀ k, c ≤ k → k < m → P k = false) → ct P m = ct P c
  | 0, hc, _ => by
    obtain rfl : c = 0 := by omega
    rfl
  | m + 1, hc, h => by
    by_cases e : c = m + 1
    · rw [e]
    · rw [ct_s, ct_cut m (by omega) (fun k h1 h2 => h k h1 (by omega)), h m (by omega) (by omega)]
      rfl
/-- row and state of a process, told as numbers -/
theorem rs_k (h0 : F.sz 0 = 2) (h1 : F.sz 1 = 2) (hI : Inv F K (fun _ => False) 99 T N μ) {k : Nat} (hk : k < 24) :
    (μ (k + 1) 9 = -1 ∧ (μ (k + 1) 6 = 0 ∨ μ (k + 1) 6 = 1 ∨ μ (k + 1) 6 = 5 ∨ μ (k + 1) 6 = 6 ∨ μ (k + 1) 6 = 7)) ∨ (μ (k + 1) 6 = 2 ∧ (μ (k + 1) 9 = nI 0 ∨ μ (k + 1) 9 = nI 1)) ∨ (μ (k + 1) 6 = 3 ∧ (μ (k + 1) 9 = nI 6 ∨ μ (k + 1) 9 = nI 7 ∨ μ (k + 1) 9 = nI 10 ∨ μ (k + 1) 9 = nI 11)) ∨ (μ (k + 1) 6 = 4 ∧ (μ (k + 1) 9 = nI 14 ∨ μ (k + 1) 9 = nI 15 ∨ μ (k + 1) 9 = nI 16 ∨ μ (k + 1) 9 = nI 17)) := by
  rcases (hI.prc k hk).2.2.2.2.2.2.2.2 id with ⟨a1, a2, -⟩ | ⟨a1, -, a3, -⟩ | ⟨-, -, a3, -, -, r, hr, a6⟩ | ⟨-, -, a3, -, -, s, hs, a6⟩ | ⟨-, -, a3, a, ha, a6⟩ | ⟨a1, -, -, a4, -⟩
  · exact Or.inl ⟨a1, a2.imp_right Or.inl⟩
  · exact Or.inl ⟨a1, Or.inl a3⟩
  · refine Or.inr (Or.inl ⟨a3, ?_⟩)
    rcases (show r = 0 ∨ r = 1 by omega) with rfl | rfl
    · exact Or.inl a6
    · exact Or.inr a6
  · refine Or.inr (Or.inr (Or.inl ⟨a3, ?_⟩))
    rcases (show s = 0 ∨ s = 1 by omega) with rfl | rfl
    · rcases a6 with a6 | a6
      · exact Or.inl a6
      · exact Or.inr (Or.inr (Or.inl a6))
    · rcases a6 with a6 | a6
      · exact Or.inr (Or.inl a6)
      · exact Or.inr (Or.inr (Or.inr a6))
  · refine Or.inr (Or.inr (Or.inr ⟨a3, ?_⟩))
    rcases (show a = 0 ∨ a = 1 ∨ a = 2 ∨ a = 3 by omega) with rfl | rfl | rfl | rfl
    · exact Or.inl a6
    · exact Or.inr (Or.inl a6)
    · exact Or.inr (Or.inr (Or.inl a6))
    · exact Or.inr (Or.inr (Or.inr a6))
  · exact Or.inl ⟨a1, Or.inr (Or.inr a4)⟩
/-- what is asked of a process by itself -/
theorem rest_k (hI : Inv F K (fun _ => False) 99 T N μ) (hc : μ 0 5 = nI c) (h24 : c ≤ 24) {k : Nat} (hk : k < c) :
    ∃ j, j < 8 ∧ μ (k + 1) 6 = nI j ∧ (j < 2 → (μ 0 6).toInt ≤ (μ (k + 1) 7).toInt) ∧ (2 ≤ j → μ (k + 1) 7 = -1) ∧ (4 < j → ∀ r, r < 6 → μ (k + 49) r = 0) ∧ 0 ≤ (μ (k + 1) 5).toInt ∧ (μ (k + 1) 4).toInt ≤ (μ 0 6).toInt := by
  have hp := hI.prc k (by omega)
  have e5 : (μ 0 5).toInt = (c : Int) := by rw [hc, ti_nI (by omega)]
  obtain ⟨-, p2, p3, -, -, -, -, -, p9⟩ := hp
  rcases p9 id with ⟨a1, a2, a3, a4, a5⟩ | ⟨-, -, -, a3, -⟩ | ⟨a1, -, a3, -⟩ | ⟨a1, -, a3, -⟩ | ⟨a1, -, a3, -⟩ | ⟨-, a1, -, a4, a5⟩
  · rcases a2 with a2 | a2
    · exact ⟨0, by decide, a2, fun _ => a4, fun z => absurd z (by decide), fun z => absurd z (by decide), p2.1, p3.2⟩
    · exact ⟨1, by decide, a2, fun _ => a4, fun z => absurd z (by decide), fun z => absurd z (by decide), p2.1, p3.2⟩
  · omega
  · exact ⟨2, by decide, a3, fun z => absurd z (by decide), fun _ => a1, fun z => absurd z (by decide), p2.1, p3.2⟩
  · exact ⟨3, by decide, a3, fun z => absurd z (by decide), fun _ => a1, fun z => absurd z (by decide), p2.1, p3.2⟩
  · exact ⟨4, by decide, a3, fun z => absurd z (by decide), fun _ => a1, fun z => absurd z (by decide), p2.1, p3.2⟩
  · rcases a4 with a4 | a4 | a4
    · exact ⟨5, by decide, a4, fun z => absurd z (by decide), fun _ => a1, fun _ => a5, p2.1, p3.2⟩
    · exact ⟨6, by decide, a4, fun z => absurd z (by decide), fun _ => a1, fun _ => a5, p2.1, p3.2⟩
    · exact ⟨7, by decide, a4, fun z => absurd z (by decide), fun _ => a1, fun _ => a5, p2.1, p3.2⟩
/-- who isn't started -/
theorem un_k (hI : Inv F K (fun _ => False) 99 T N μ) (hc : μ 0 5 = nI c) (h24 : c ≤ 24) {k : Nat} (hk : c ≤ k) (hk2 : k < 24) : μ (k + 1) 6 = 0 ∧ μ (k + 1) 7 = -1 := by
  have e5 : (μ 0 5).toInt = (c : Int) := by rw [hc, ti_nI (by omega)]
  rcases (hI.prc k hk2).2.2.2.2.2.2.2.2 id with ⟨-, -, a3, -⟩ | ⟨-, a2, a3, -⟩ | ⟨-, a3, -⟩ | ⟨-, a3, -⟩ | ⟨-, a3, -⟩ | ⟨-, -, a3, -⟩
  · omega
  · exact ⟨a3, a2⟩
  · omega
  · omega
  · omega
  · omega
theorem st_cut (hI : Inv F K (fun _ => False) 99 T N μ) (hc : μ 0 5 = nI c) (h24 : c ≤ 24) {j : Nat} (hj : j < 8) (hj0 : j ≠ 0) : ct (st μ j) 24 = ct (st μ j) c := ct_cut 24 h24 (fun k hk hk2 => by
  unfold st
  rw [(un_k hI hc h24 hk hk2).1]
  exact decide_eq_false (fun z => hj0 ((nI_eq (a := 0) (b := j) (by decide) (by omega)).mp z).symm))
theorem sum_q (h0 : F.sz 0 = 2) (h1 : F.sz 1 = 2) (hI : Inv F K (fun _ => False) 99 T N μ) (hc : μ 0 5 = nI c) (h24 : c ≤ 24) : ct (inr μ (nI 0)) 24 + ct (inr μ (nI 1)) 24 = ct (st μ 2) c := by
  rw [← st_cut hI hc h24 (by decide) (by decide)]
  refine ct_sum2 24 (fun k hk => ?_)
  unfold inr st
  rcases rs_k h0 h1 hI hk with ⟨a, b | b | b | b | b⟩ | ⟨a, b | b⟩ | ⟨a, b | b | b | b⟩ | ⟨a, b | b | b | b⟩ <;> rw [a, b] <;> decide
theorem sum_b (h0 : F.sz 0 = 2) (h1 : F.sz 1 = 2) (hI : Inv F K (fun _ => False) 99 T N μ) (hc : μ 0 5 = nI c) (h24 : c ≤ 24) : ct (inr μ (nI 6)) 24 + ct (inr μ (nI 10)) 24 + ct (inr μ (nI 7)) 24 + ct (inr μ (nI 11)) 24 = ct (st μ 3) c := by
  rw [← st_cut hI hc h24 (by decide) (by decide)]
  refine ct_sum4 24 (fun k hk => ?_)
  unfold inr st
  rcases rs_k h0 h1 hI hk with ⟨a, b | b | b | b | b⟩ | ⟨a, b | b⟩ | ⟨a, b | b | b | b⟩ | ⟨a, b | b | b | b⟩ <;> rw [a, b] <;> decide
theorem sum_a (h0 : F.sz 0 = 2) (h1 : F.sz 1 = 2) (hI : Inv F K (fun _ => False) 99 T N μ) (hc : μ 0 5 = nI c) (h24 : c ≤ 24) : ct (inr μ (nI 14)) 24 + ct (inr μ (nI 15)) 24 + ct (inr μ (nI 16)) 24 + ct (inr μ (nI 17)) 24 = ct (st μ 4) c := by
  rw [← st_cut hI hc h24 (by decide) (by decide)]
  refine ct_sum4 24 (fun k hk => ?_)
  unfold inr st
  rcases rs_k h0 h1 hI hk with ⟨a, b | b | b | b | b⟩ | ⟨a, b | b⟩ | ⟨a, b | b | b | b⟩ | ⟨a, b | b | b | b⟩ <;> rw [a, b] <;> decide
theorem sum_e (hI : Inv F K (fun _ => False) 99 T N μ) (hc : μ 0 5 = nI c) (h24 : c ≤ 24) : ct (evs μ) 24 = ct (st μ 0) c + ct (st μ 1) c := by
  rw [ct_cut (P := evs μ) 24 h24 (fun k hk hk2 => by
    unfold evs
    rw [(un_k hI hc h24 hk hk2).2]
    decide)]
  refine (ct_sum2 c (fun k hk => ?_)).symm
  obtain ⟨j, hj, e6, e1, e2, -⟩ := rest_k hI hc h24 hk
  unfold st evs
  have htm := hI.tm
  rcases (show j = 0 ∨ j = 1 ∨ 2 ≤ j by omega) with rfl | rfl | h
  · have h7 : ¬ μ (k + 1) 7 = -1 := fun z => by
      have := e1 (by decide)
      rw [z, ti_m1] at this
      omega
    rw [e6, decide_eq_true h7]
    decide
  · have h7 : ¬ μ (k + 1) 7 = -1 := fun z => by
      have := e1 (by decide)
      rw [z, ti_m1] at this
      omega
    rw [e6, decide_eq_true h7]
    decide
  · rw [e2 h, decide_eq_false (show ¬ μ (k + 1) 6 = nI 0 from fun z => by
        have := (nI_eq (a := j) (b := 0) (by omega) (by decide)).mp (e6.symm.trans z)
        omega), decide_eq_false (show ¬ μ (k + 1) 6 = nI 1 from fun z => by
        have := (nI_eq (a := j) (b := 1) (by omega) (by decide)).mp (e6.symm.trans z)
        omega)]
    decide
/-- how many are in each state, of the first i -/
def hg (μ : Mem) (i : Nat) (σ : Nat → Int32) : Prop := ∀ j, j < 8 → σ j = nI (ct (st μ j) i)
theorem hg_next {σ : Nat → Int32} {i j : Nat} (h : hg μ i σ) (hj : j < 8) (e6 : μ (i + 1) 6 = nI j) : hg μ (i + 1) (upd σ (nI j).toNatClampNeg (σ (nI j).toNatClampNeg + 1)) := by
  intro j' hj'
  rw [nI_clamp (by omega), ct_s]
  unfold st
  by_cases hjj : j' = j
  · subst hjj
    rw [pk_us, h j' hj', nI_1, decide_eq_true e6]
    rfl
  · rw [pk_un hjj, h j' hj', decide_eq_false (fun z => hjj ((nI_eq (by omega) (by omega)).mp (z.symm.trans e6)))]
    rfl
abbrev is1 : Int32 → Prop := fun z => z = 1
theorem l_457 (h0 : F.sz 0 = 2) (h1 : F.sz 1 = 2) (hI : Inv F K (fun _ => False) 99 T N μ) (hc : μ 0 5 = nI c) (h24 : c ≤ 24) {σ : Nat → Int32} (hσ : hg μ c σ) {x4 x5 : Int32} (h4 : x4 = nI (ct (st μ 2) c)) (h5 : x5 = nI (ct (st μ 3) c)) : Ok (b_L_isSound_457 F fu μ σ x4 x5 0 0) is1 := by
  rw [show fu = 2995 + 1 + 1 + 1 + 1 + 1 from rfl]
  rw [b_L_isSound_457, if_neg (by decide), show (0 : Int32) = nI 0 from rfl, q_awaiting (by decide)]
  refine ok_bnO (ok_eq rfl) (fun a0 e0 => ?_)
  rw [b_L_isSound_457, nI_1, if_neg (by decide), q_awaiting (by decide)]
  refine ok_bnO (ok_eq rfl) (fun a1 e1 => ?_)
  rw [b_L_isSound_457, nI_1, if_neg (by decide), q_awaiting (by decide)]
  refine ok_bnO (ok_eq rfl) (fun a2 e2 => ?_)
  rw [b_L_isSound_457, nI_1, if_neg (by decide), q_awaiting (by decide)]
  refine ok_bnO (ok_eq rfl) (fun a3 e3 => ?_)
  rw [b_L_isSound_457, nI_1, if_pos (by decide)]
  have hs := sum_a h0 h1 hI hc h24
  have e : nI 0 + a0 + a1 + a2 + a3 = nI (ct (st μ 4) c) := by
    rw [e0, e1, e2, e3, nI_add, nI_add, nI_add, nI_add, ← hs, Nat.zero_add]
  refine ok_grd (by decide) ?_
  rw [show (2 : Int32).toNatClampNeg = 2 from rfl, hσ 2 (by decide), if_pos h4]
  refine ok_grd (by decide) ?_
  rw [show (3 : Int32).toNatClampNeg = 3 from rfl, hσ 3 (by decide), if_pos h5]
  refine ok_grd (by decide) ?_
  rw [show (4 : Int32).toNatClampNeg = 4 from rfl, hσ 4 (by decide), if_pos e]
  exact ok_some rfl
theorem l_376 (hC : Cfg F K) (h0 : F.sz 0 = 2) (h1 : F.sz 1 = 2) (hI : Inv F K (fun _ => False) 99 T N μ) (hT : T ≤ 5000) (hc : μ 0 5 = nI c) (h24 : c ≤ 24) {σ ro : Nat → Int32} (hσ : hg μ c σ) (hro : ∀ s, s < 2 → ro s = K.2.2 s) {x4 : Int32} (h4 : x4 = nI (ct (st μ 2) c)) : Ok (b_L_isSound_376 F fu μ ro σ x4 0 0) is1 := by
  have step : ∀ (s : Nat), s < 2 → ∀ (n : Nat) (x5 : Int32), (Ok (b_L_isSound_376 F n μ ro σ x4 (x5 + (nI (ct (inr μ (nI (6 + s))) 24) + nI (ct (inr μ (nI (10 + s))) 24))) (nI (s + 1))) is1) → Ok (b_L_isSound_376 F (n + 1) μ ro σ x4 x5 (nI s)) is1 := fun s hs n x5 hk => by
    have hs1 : s < F.sz 1 := by omega
    obtain ⟨b1, b2, b3, b4⟩ := hI.sto s hs1
    have hR := hC.2.2.2.2.1 s hs1
    have htm := hI.tm
    rw [b_L_isSound_376, if_neg (by rw [show (2 : Int32) = nI 2 from rfl, nI_leI (by decide) (by omega)]; omega), q_level hs1 (by omega)]
    refine ok_bnO (ok_eq rfl) (fun v hv => ?_)
    rw [hv]
    refine ok_ite (fun z => by rw [ti_ltI, ti_0] at z; omega) (fun _ => ?_)
    refine ok_bnO (ok_eq rfl) (fun v2 hv2 => ?_)
    rw [hv2]
    refine ok_grd (nI_in hs (by decide)) ?_
    rw [nI_clamp (by omega), hro s hs]
    refine ok_ite (fun z => by rw [ti_ltI] at z; omega) (fun _ => ?_)
    rw [q_area hs1 (by omega)]
    refine ok_bnO (ok_eq rfl) (fun v3 hv3 => ?_)
    refine ok_bnO (ok_eq (a := μ 0 6) rfl) (fun v4 hv4 => ?_)
    rw [hv3, hv4]
    refine ok_grd (fun z => by rcases z with z | z; exact nI_pos (by omega) z; omega) ?_
    have m4 : (μ 0 6).toInt * (K.2.2 s).toInt ≤ 5000 * 99 := Int.mul_le_mul (by omega) hR.2 (by omega) (by decide)
    have m5 : 0 ≤ (μ 0 6).toInt * (K.2.2 s).toInt := Int.mul_nonneg htm.1 (by omega)
    have e1 : (μ 0 6 * K.2.2 s).toInt = (μ 0 6).toInt * (K.2.2 s).toInt := ti_mul (by omega) (by omega)
    refine ok_ite (fun _ => ?_) (fun z => absurd (ti_le.mpr (by rw [e1]; exact b4)) z)
    rw [q_blocked hs1 (by omega) (hI.cst.2.2 s hs1).1, q_blocked hs1 (by omega) (hI.cst.2.2 s hs1).1, if_pos rfl, if_neg (by decide)]
    refine ok_bnO (ok_eq rfl) (fun v5 hv5 => ok_bnO (ok_eq rfl) (fun v6 hv6 => ?_))
    rw [hv5, hv6, nI_1]
    exact hk
  rw [show fu = 2997 + 1 + 1 + 1 from rfl]
  refine step 0 (by decide) _ 0 (step 1 (by decide) _ _ ?_)
  rw [b_L_isSound_376, if_pos (by decide)]
  refine l_457 h0 h1 hI hc h24 hσ h4 ?_
  have hs : ct (inr μ (nI (6 + 0))) 24 + ct (inr μ (nI (10 + 0))) 24 + ct (inr μ (nI (6 + 1))) 24 + ct (inr μ (nI (10 + 1))) 24 = ct (st μ 3) c := sum_b h0 h1 hI hc h24
  rw [show (0 : Int32) = nI 0 from rfl, nI_add, nI_add, nI_add, nI_add, ← hs]
  congr 1
  omega
theorem l_318 (hC : Cfg F K) (hI : Inv F K (fun _ => False) 99 T N μ) (hc : μ 0 5 = nI c) (h24 : c ≤ 24) {un ro σ : Nat → Int32} {r : Nat} (hr : r < F.sz 0) {x4 : Int32} (k9 : Mem → (Nat → Int32) → (Nat → Int32) → (Nat → Int32) → Int32 → Int32 → Option Int32) (hk : Ok (k9 μ un ro σ (x4 + nI (ct (inr μ (nI r)) 24)) (nI r + 1)) is1) : ∀ (n i : Nat), i ≤ ct (inr μ (nI r)) 24 → 24 < n + i → Ok (b_L_isSound_318 F k9 n μ un ro σ x4 (nI r) (nI i)) is1
  | 0, i, h1, h2 => by
    have := ct_le (inr μ (nI r)) 24
    omega
  | n + 1, i, h1, h2 => by
    have h6 := hC.1
    have hct := ct_le (inr μ (nI r)) 24
    rw [b_L_isSound_318, q_queued hr h6 (hI.cst.2.1 r hr).1]
    refine ok_bnO (ok_eq rfl) (fun a ha => ?_)
    rw [ha]
    refine ok_ite (fun _ => ?_) (fun hlt => ?_)
    · exact ok_bnO (ok_eq rfl) (fun a2 ha2 => by rw [ha2]; exact hk)
    · rw [nI_leI (by omega) (by omega)] at hlt
      refine ok_bnO (q_queuedAt hC hI hr (by omega)) (fun z hz => ?_)
      obtain ⟨k, hk24, rfl, hkc, hk2⟩ := hz
      rw [hc, ti_nI (by omega)] at hkc
      rw [q_stateOf hc h24 (k := k) (by omega)]
      refine ok_bnO (ok_eq rfl) (fun s hs => ?_)
      rw [hs, hk2, if_pos rfl, nI_1]
      exact l_318 hC hI hc h24 hr k9 hk n (i + 1) (by omega) (by omega)
theorem l_207 (hC : Cfg F K) (hI : Inv F K (fun _ => False) 99 T N μ) (hT : T ≤ 5000) (hc : μ 0 5 = nI c) (h24 : c ≤ 24) {un ro σ : Nat → Int32} {r : Nat} (hr : r < F.sz 0) (hr2 : r < 2) (hun : un r = K.2.1 r) {x4 : Int32} (k9 : Mem → (Nat → Int32) → (Nat → Int32) → (Nat → Int32) → Int32 → Int32 → Option Int32) (hk : Ok (k9 μ un ro σ (x4 + nI (ct (inr μ (nI r)) 24)) (nI r + 1)) is1) : ∀ (n i : Nat) (x6 : Int32), i ≤ c → 24 < n + i → x6.toInt = sm (fun k => (μ (k + 49) r).toInt) i → Ok (b_L_isSound_207 F k9 n μ un ro σ x4 (nI r) x6 (nI i)) is1
  | 0, i, x6, h1, h2, _ => absurd h2 (by omega)
  | n + 1, i, x6, h1, h2, h6 => by
    have hz6 := hC.1
    have hU := hC.2.2.2.1 r hr
    obtain ⟨b1, b2, b3, b4, b5, b6, b7, b8⟩ := hI.res r hr
    have hnn : ∀ i, i < 24 → 0 ≤ (μ (i + 49) r).toInt := fun i hi => (hI.prc i hi).2.2.2.1 r (by omega)
    have hpart : ∀ i, i ≤ 24 → sm (fun k => (μ (k + 49) r).toInt) i ≤ hsm μ r := fun i hi => by
      have : ∀ m, i ≤ m → m ≤ 24 → sm (fun k => (μ (k + 49) r).toInt) i ≤ sm (fun k => (μ (k + 49) r).toInt) m := fun m => by
        induction m with
        | zero => intro a b; rw [show i = 0 by omega]; exact Int.le_refl _
        | succ m ih =>
          intro a b
          by_cases e : i = m + 1
          · rw [e]; exact Int.le_refl _
          · have h3 := ih (by omega) (by omega)
            have h4 := hnn m (by omega)
            show sm _ i ≤ sm (fun k => (μ (k + 49) r).toInt) m + (μ (m + 49) r).toInt
            omega
      exact this 24 hi (Nat.le_refl _)
    have hs0 : ∀ i, i ≤ 24 → 0 ≤ sm (fun k => (μ (k + 49) r).toInt) i := fun i hi => sm_nn i (fun j hj => hnn j (by omega))
    rw [b_L_isSound_207]
    refine ok_bnO (ok_eq (a := μ 0 5) rfl) (fun cc hcc => ?_)
    rw [hcc, hc]
    refine ok_ite (fun hle => ?_) (fun hlt => ?_)
    · rw [nI_leI (by omega) (by omega)] at hle
      obtain rfl : i = c := by omega
      have hun0 : hsm μ r = sm (fun k => (μ (k + 49) r).toInt) i := by
        unfold hsm
        have : ∀ m, i ≤ m → m ≤ 24 → sm (fun k => (μ (k + 49) r).toInt) m = sm (fun k => (μ (k + 49) r).toInt) i := fun m => by
          induction m with
          | zero => intro a b; rw [show i = 0 by omega]
          | succ m ih =>
            intro a b
            by_cases e : i = m + 1
            · rw [e]
            · show sm (fun k => (μ (k + 49) r).toInt) m + (μ (m + 49) r).toInt = _
              rw [ih (by omega) (by omega)]
              have hz : μ (m + 49) r = 0 := by
                have e5 : (μ 0 5).toInt = (i : Int) := by rw [hc, ti_nI (by omega)]
                rcases (hI.prc m (by omega)).2.2.2.2.2.2.2.2 id with ⟨-, -, a3, -⟩ | ⟨-, -, -, -, a5⟩ | ⟨-, a3, -⟩ | ⟨-, a3, -⟩ | ⟨-, a3, -⟩ | ⟨-, -, a3, -⟩
                · omega
                · exact a5 r (by omega)
                · omega
                · omega
                · omega
                · omega
              rw [hz, ti_0]; omega
        exact this 24 h24 (Nat.le_refl _)
      rw [q_free hr hz6]
      refine ok_bnO (ok_eq rfl) (fun v1 hv1 => ok_grd (nI_in hr2 (by decide)) ?_)
      rw [nI_clamp (by omega), hun, hv1]
      have e1 : x6 + μ (102 + r) 3 = K.2.1 r := by
        rw [ti_eq, ti_add (by omega) (by omega)]
        omega
      rw [if_pos e1]
      refine ok_bnO (ok_eq rfl) (fun v2 hv2 => ?_)
      rw [hv2]
      refine ok_ite (fun z => by rw [ti_ltI, ti_0] at z; omega) (fun _ => ?_)
      rw [q_busy hr hz6]
      refine ok_bnO (ok_eq rfl) (fun v3 hv3 => ok_bnO (ok_eq (a := μ 0 6) rfl) (fun v4 hv4 => ok_grd (fun z => by rcases z with z | z; exact nI_pos (by omega) z; omega) ?_))
      rw [hv3, hv4]
      have htm := hI.tm
      have m4 : (μ 0 6).toInt * (K.2.1 r).toInt ≤ 5000 * 9 := Int.mul_le_mul (by omega) hU.2 (by omega) (by decide)
      have m5 : 0 ≤ (μ 0 6).toInt * (K.2.1 r).toInt := Int.mul_nonneg htm.1 (by omega)
      have e2 : (μ 0 6 * K.2.1 r).toInt = (μ 0 6).toInt * (K.2.1 r).toInt := ti_mul (by omega) (by omega)
      refine ok_ite (fun z => by rw [ti_ltI, e2] at z; omega) (fun _ => ?_)
      rw [q_longest hr hz6]
      refine ok_bnO (ok_eq rfl) (fun v5 hv5 => ?_)
      rw [q_queued hr hz6 (hI.cst.2.1 r hr).1]
      refine ok_bnO (ok_eq rfl) (fun v6 hv6 => ?_)
      rw [hv5, hv6]
      have hct := ct_le (inr μ (nI r)) 24
      refine ok_ite (fun z => by
        have := hI.cnt r hr (by omega)
        rw [ti_ltI, ti_nI (by omega)] at z; omega) (fun _ => ?_)
      rw [q_queueing hr hz6]
      refine ok_bnO (ok_eq rfl) (fun v7 hv7 => ok_bnO (ok_eq (a := μ 0 6) rfl) (fun v8 hv8 => ok_bnO (ok_eq rfl) (fun v9 hv9 => ?_)))
      rw [hv7, hv8, hv9]
      have m6 : (μ 0 6).toInt * (μ (102 + r) 6).toInt ≤ 5000 * 24 := Int.mul_le_mul (by omega) b8 b7 (by decide)
      have m7 : 0 ≤ (μ 0 6).toInt * (μ (102 + r) 6).toInt := Int.mul_nonneg htm.1 b7
      have e3 : (μ 0 6 * μ (102 + r) 6).toInt = (μ 0 6).toInt * (μ (102 + r) 6).toInt := ti_mul (by omega) (by omega)
      refine ok_ite (fun _ => ?_) (fun z => absurd (ti_le.mpr (by rw [e3]; exact b6)) z)
      exact l_318 hC hI hc h24 hr k9 hk fu 0 (Nat.zero_le _) fu_24
    · rw [nI_leI (by omega) (by omega)] at hlt
      rw [q_holds hc h24 (k := i) (by omega) hr hz6 (hI.cst.2.1 r hr).1]
      refine ok_bnO (ok_eq rfl) (fun v hv => ?_)
      rw [hv, nI_1]
      refine l_207 hC hI hT hc h24 hr hr2 hun k9 hk n (i + 1) _ (by omega) (by omega) ?_
      have h3 := hpart (i + 1) (by omega)
      have h4 := hnn i (by omega)
      have h5 := hs0 i (by omega)
      have e4 : sm (fun k => (μ (k + 49) r).toInt) (i + 1) = sm (fun k => (μ (k + 49) r).toInt) i + (μ (i + 49) r).toInt := rfl
      rw [ti_add (by omega) (by omega), e4, h6]
theorem l_194 (hC : Cfg F K) (h0 : F.sz 0 = 2) (h1 : F.sz 1 = 2) (hI : Inv F K (fun _ => False) 99 T N μ) (hT : T ≤ 5000) (hc : μ 0 5 = nI c) (h24 : c ≤ 24) {un ro σ : Nat → Int32} (hσ : hg μ c σ) (hun : ∀ r, r < 2 → un r = K.2.1 r) (hro : ∀ s, s < 2 → ro s = K.2.2 s) : Ok (b_L_isSound_194 F fu μ un ro σ 0 0) is1 := by
  have hs := sum_q h0 h1 hI hc h24
  rw [show fu = 2997 + 1 + 1 + 1 from rfl]
  rw [b_L_isSound_194, if_neg (by decide)]
  refine l_207 hC hI hT hc h24 (r := 0) (by omega) (by decide) (hun 0 (by decide)) _ ?_ fu 0 0 (Nat.zero_le _) fu_24 rfl
  rw [nI_1, b_L_isSound_194, if_neg (by decide)]
  refine l_207 hC hI hT hc h24 (r := 1) (by omega) (by decide) (hun 1 (by decide)) _ ?_ fu 0 0 (Nat.zero_le _) fu_24 rfl
  rw [nI_1, b_L_isSound_194, if_pos (by decide)]
  refine l_376 hC h0 h1 hI hT hc h24 hσ hro ?_
  rw [show (0 : Int32) = nI 0 from rfl, nI_add, nI_add, ← hs]
  congr 1
  omega
theorem l_107 (h0 : F.sz 0 = 2) (hI : Inv F K (fun _ => False) 99 T N μ) (hc : μ 0 5 = nI c) (h24 : c ≤ 24) {un ro σ : Nat → Int32} {k j : Nat} (hk : k < c) (hj : j < 8) (hh : 4 < j → ∀ r, r < 6 → μ (k + 49) r = 0) (k9 : Mem → (Nat → Int32) → (Nat → Int32) → (Nat → Int32) → Int32 → Option Int32) (hk9 : Ok (k9 μ un ro σ (nI k + 1)) is1) : ∀ (n i : Nat), i ≤ 2 → 2 < n + i → Ok (b_L_isSound_107 F k9 n μ un ro σ (nI k) (nI j) (nI i)) is1
  | 0, i, h1, h2 => absurd h2 (by omega)
  | n + 1, i, h1, h2 => by
    rw [b_L_isSound_107]
    refine ok_ite (fun _ => hk9) (fun h4 => ok_ite (fun _ => hk9) (fun hlt => ?_))
    rw [show (4 : Int32) = nI 4 from rfl, nI_leI (by omega) (by omega)] at h4
    rw [show (2 : Int32) = nI 2 from rfl, nI_leI (by omega) (by omega)] at hlt
    rw [q_holds hc h24 hk (r := i) (by omega) (by omega) (hI.cst.2.1 i (by omega)).1]
    refine ok_bnO (ok_eq rfl) (fun v hv => ?_)
    rw [hv, hh (by omega) i (by omega), if_pos rfl, nI_1]
    exact l_107 h0 hI hc h24 hk hj hh k9 hk9 n (i + 1) (by omega) (by omega)
theorem l_8 (hC : Cfg F K) (h0 : F.sz 0 = 2) (h1 : F.sz 1 = 2) (hI : Inv F K (fun _ => False) 99 T N μ) (hT : T ≤ 5000) (hc : μ 0 5 = nI c) (h24 : c ≤ 24) {un ro : Nat → Int32} (hun : ∀ r, r < 2 → un r = K.2.1 r) (hro : ∀ s, s < 2 → ro s = K.2.2 s) : ∀ (n i : Nat) (σ : Nat → Int32), i ≤ c → 24 < n + i → hg μ i σ → Ok (b_L_isSound_8 F n μ un ro σ (nI i)) is1
  | 0, i, σ, a1, a2, _ => absurd a2 (by omega)
  | n + 1, i, σ, a1, a2, hσ => by
    have htm := hI.tm
    rw [b_L_isSound_8]
    refine ok_bnO (ok_eq (a := μ 0 5) rfl) (fun cc hcc => ?_)
    rw [hcc, hc]
    refine ok_ite (fun hle => ?_) (fun hlt => ?_)
    · rw [nI_leI (by omega) (by omega)] at hle
      obtain rfl : i = c := by omega
      rw [q_events]
      refine ok_bnO (ok_eq rfl) (fun v hv => ok_grd (by decide) (ok_grd (by decide) ?_))
      have he := sum_e hI hc h24
      have hct := ct_le (evs μ) 24
      rw [hv, show (0 : Int32).toNatClampNeg = 0 from rfl, show (1 : Int32).toNatClampNeg = 1 from rfl, hσ 0 (by decide), hσ 1 (by decide), nI_add, ← he, if_pos rfl]
      have hE := l_194 hC h0 h1 hI hT hc h24 hσ hun hro
      refine ok_bnO q_nextTime (fun x hx => ok_ite (fun hge => ?_) (fun hlt => ?_))
      · refine ok_bnO (ok_eq rfl) (fun v2 hv2 => ok_ite (fun hz => ?_) (fun _ => hE))
        rcases hx with ⟨rfl, -⟩ | ⟨q, hq, rfl, hq7, -⟩
        · exact absurd hge (by decide)
        · have hq2 := hq.2
          have hq1 := hq.1
          rw [hv2] at hz
          have h2 : ∀ m, q - 1 < m → 0 < ct (evs μ) m := fun m => by
            induction m with
            | zero => intro h; omega
            | succ m ih =>
              intro h
              rw [ct_s]
              by_cases e : q - 1 = m
              · have : evs μ m = true := by
                  unfold evs
                  rw [← e, show q - 1 + 1 = q by omega]
                  exact decide_eq_true hq7
                rw [this]
                exact Nat.succ_pos _
              · have := ih (by omega)
                omega
          have h3 := h2 24 (by omega)
          exact absurd hz (nI_ne0 h3 (by omega))
      · refine ok_bnO (ok_eq rfl) (fun v2 hv2 => ok_ite (fun _ => hE) (fun hz => ?_))
        rcases hx with ⟨rfl, hn⟩ | ⟨q, hq, rfl, hq7, -⟩
        · have : ct (evs μ) 24 = 0 := by
            have : ∀ m, m ≤ 24 → ct (evs μ) m = 0 := fun m => by
              induction m with
              | zero => intro _; rfl
              | succ m ih =>
                intro h
                rw [ct_s, ih (by omega)]
                unfold evs
                rw [hn m (by omega)]
                decide
            exact this 24 (Nat.le_refl _)
          rw [hv2, this] at hz
          exact absurd rfl hz
        · obtain ⟨b1, b2, b3, b4, b5, b6⟩ := (hI.p hq).inEv hq7
          exact absurd (ti_le.mpr (by rw [ti_0]; omega)) hlt
    · rw [nI_leI (by omega) (by omega)] at hlt
      have hk : i < c := by omega
      obtain ⟨j, hj, e6, e1, e2, eh, e5, e4⟩ := rest_k hI hc h24 hk
      rw [q_stateOf hc h24 hk]
      refine ok_bnO (ok_eq rfl) (fun v hv => ?_)
      rw [hv, e6]
      refine ok_grd (nI_in hj (by decide)) (ok_grd (nI_in hj (by decide)) (ok_bnd ?_))
      obtain ⟨σ', hσ'⟩ : ∃ σ', σ' = upd σ (nI j).toNatClampNeg (σ (nI j).toNatClampNeg + 1) := ⟨_, rfl⟩
      rw [← hσ']
      have hg' : hg μ (i + 1) σ' := by rw [hσ']; exact hg_next hσ hj e6
      have ih := l_8 hC h0 h1 hI hT hc h24 hun hro n (i + 1) σ' (by omega) (by omega) hg'
      have hK : Ok (b_L_isSound_107 F (fun m9 y1 y2 y3 y4 => b_L_isSound_8 F n m9 y1 y2 y3 y4) fu μ un ro σ' (nI i) (nI j) 0) is1 := l_107 h0 hI hc h24 hk hj eh _ (by rw [nI_1]; exact ih) fu 0 (Nat.zero_le _) (by decide)
      have hR : Ok (bnO (f_X8_restOf F μ (nI i)) fun r_33 => if r_33 < 0 then (some 0) else (bnO (f_X8_markOf F μ (nI i)) fun r_36 => bnO (f_X8_time F μ ) fun r_38 => if r_36 ≤ r_38 then (b_L_isSound_107 F (fun m9 y1 y2 y3 y4 => b_L_isSound_8 F n m9 y1 y2 y3 y4) fu μ un ro σ' (nI i) (nI j) 0) else (some 0))) is1 := by
        rw [q_restOf hc h24 hk]
        refine ok_bnO (ok_eq rfl) (fun v1 hv1 => ?_)
        rw [hv1]
        refine ok_ite (fun z => by rw [ti_ltI, ti_0] at z; omega) (fun _ => ?_)
        rw [q_markOf hc h24 hk]
        refine ok_bnO (ok_eq rfl) (fun v2 hv2 => ok_bnO (ok_eq (a := μ 0 6) rfl) (fun v3 hv3 => ?_))
        rw [hv2, hv3]
        exact ok_ite (fun _ => hK) (fun z => absurd (ti_le.mpr e4) z)
      rw [q_eventOf hc h24 hk]
      refine ok_bnO (ok_eq rfl) (fun v1 hv1 => ?_)
      rw [hv1]
      by_cases hj2 : j < 2
      · have h7 := e1 hj2
        have n2 : ¬ (2 : Int32) ≤ nI j := by rw [show (2 : Int32) = nI 2 from rfl, nI_leI (by decide) (by omega)]; omega
        refine ok_ite (fun z => by rw [ti_ltI, ti_0] at z; omega) (fun _ => ?_)
        rw [if_neg n2, if_neg n2]
        refine ok_bnO (ok_eq rfl) (fun v4 hv4 => ok_bnO (ok_eq (a := μ 0 6) rfl) (fun v5 hv5 => ?_))
        rw [hv4, hv5]
        exact ok_ite (fun z => by rw [ti_ltI] at z; omega) (fun _ => hR)
      · have h7 := e2 (by omega)
        have n2 : (2 : Int32) ≤ nI j := by rw [show (2 : Int32) = nI 2 from rfl, nI_leI (by decide) (by omega)]; omega
        rw [h7, if_pos (by decide), if_pos n2, if_pos n2]
        exact hR
/-- the law's look finds a kernel sound -/
theorem l_isSound (hC : Cfg F K) (h0 : F.sz 0 = 2) (h1 : F.sz 1 = 2) (hI : Inv F K (fun _ => False) 99 T N μ) (hT : T ≤ 5000) {un ro : Nat → Int32} (hun : ∀ r, r < 2 → un r = K.2.1 r) (hro : ∀ s, s < 2 → ro s = K.2.2 s) : f_L_isSound F μ un ro = some 1 := by
  obtain ⟨hc, hc2, hc3⟩ := ti_nat hI.st.1
  have hst := hI.st
  have := l_8 hC h0 h1 hI hT hc (by omega) hun hro fu 0 (fun _ => 0) (Nat.zero_le _) fu_24 (fun _ _ => rfl)
  obtain ⟨z, hz, rfl⟩ := this
  exact hz
end
