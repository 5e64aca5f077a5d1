/-! THE PURE PART, 13: what the face answers -/
section
variable {F : Fg} {K : Kx} {X X' : Nat → Prop} {e e' q r s a j k c : Nat} {T T' N N' : Int} {μ ν ρ : Mem}
theorem q_demandProcess (hc : μ 0 5 = nI c) (h24 : c ≤ 24) (hk : k < c) : f_X8_demandProcess F μ (nI k) = some (some (k + 1)) := by
  unfold f_X8_demandProcess
  rw [p_process F μ hc h24 hk]
  unfold bnO csQ grd
  dsimp only
  rw [if_pos ⟨by omega, by omega⟩]
theorem q_demandResource (hr : r < F.sz 0) (h6 : F.sz 0 ≤ 6) : f_X8_demandResource F μ (nI r) = some (some (102 + r)) := by
  unfold f_X8_demandResource
  rw [p_resource F μ hr h6]
  unfold bnO csQ grd
  dsimp only
  rw [if_pos ⟨by omega, by omega, by omega⟩]
theorem q_demandStore (hs : s < F.sz 1) (h4 : F.sz 1 ≤ 4) : f_X8_demandStore F μ (nI s) = some (some (108 + s)) := by
  unfold f_X8_demandStore
  rw [p_store F μ hs h4]
  unfold bnO csQ grd
  dsimp only
  rw [if_pos ⟨by omega, by omega, by omega⟩]
theorem q_stateOf (hc : μ 0 5 = nI c) (h24 : c ≤ 24) (hk : k < c) : f_X8_stateOf F μ (nI k) = some (μ (k + 1) 6) := by
  unfold f_X8_stateOf
  rw [q_demandProcess hc h24 hk]
  unfold bnO csQ grd
  dsimp only
  rw [if_pos ⟨by omega, by omega⟩]
theorem q_placeOf (hc : μ 0 5 = nI c) (h24 : c ≤ 24) (hk : k < c) : f_X8_placeOf F μ (nI k) = some (μ (k + 1) 3) := by
  unfold f_X8_placeOf
  rw [q_demandProcess hc h24 hk]
  unfold bnO csQ grd
  dsimp only
  rw [if_pos ⟨by omega, by omega⟩]
theorem q_rankOf (hc : μ 0 5 = nI c) (h24 : c ≤ 24) (hk : k < c) : f_X8_rankOf F μ (nI k) = some (μ (k + 1) 2) := by
  unfold f_X8_rankOf
  rw [q_demandProcess hc h24 hk]
  unfold bnO csQ grd
  dsimp only
  rw [if_pos ⟨by omega, by omega⟩]
theorem q_restOf (hc : μ 0 5 = nI c) (h24 : c ≤ 24) (hk : k < c) : f_X8_restOf F μ (nI k) = some (μ (k + 1) 5) := by
  unfold f_X8_restOf
  rw [q_demandProcess hc h24 hk]
  unfold bnO csQ grd
  dsimp only
  rw [if_pos ⟨by omega, by omega⟩]
theorem q_markOf (hc : μ 0 5 = nI c) (h24 : c ≤ 24) (hk : k < c) : f_X8_markOf F μ (nI k) = some (μ (k + 1) 4) := by
  unfold f_X8_markOf
  rw [q_demandProcess hc h24 hk]
  unfold bnO csQ grd
  dsimp only
  rw [if_pos ⟨by omega, by omega⟩]
theorem q_eventOf (hc : μ 0 5 = nI c) (h24 : c ≤ 24) (hk : k < c) : f_X8_eventOf F μ (nI k) = some (μ (k + 1) 7) := by
  unfold f_X8_eventOf
  rw [q_demandProcess hc h24 hk]
  unfold bnO csQ grd
  dsimp only
  rw [if_pos ⟨by omega, by omega⟩]
theorem q_free (hr : r < F.sz 0) (h6 : F.sz 0 ≤ 6) : f_X8_free F μ (nI r) = some (μ (102 + r) 3) := by
  unfold f_X8_free
  rw [q_demandResource hr h6]
  unfold bnO csQ grd
  dsimp only
  rw [if_pos ⟨by omega, by omega, by omega⟩]
theorem q_busy (hr : r < F.sz 0) (h6 : F.sz 0 ≤ 6) : f_X8_busy F μ (nI r) = some (μ (102 + r) 4) := by
  unfold f_X8_busy
  rw [q_demandResource hr h6]
  unfold bnO csQ grd
  dsimp only
  rw [if_pos ⟨by omega, by omega, by omega⟩]
theorem q_queueing (hr : r < F.sz 0) (h6 : F.sz 0 ≤ 6) : f_X8_queueing F μ (nI r) = some (μ (102 + r) 5) := by
  unfold f_X8_queueing
  rw [q_demandResource hr h6]
  unfold bnO csQ grd
  dsimp only
  rw [if_pos ⟨by omega, by omega, by omega⟩]
theorem q_longest (hr : r < F.sz 0) (h6 : F.sz 0 ≤ 6) : f_X8_longest F μ (nI r) = some (μ (102 + r) 6) := by
  unfold f_X8_longest
  rw [q_demandResource hr h6]
  unfold bnO csQ grd
  dsimp only
  rw [if_pos ⟨by omega, by omega, by omega⟩]
theorem q_queued (hr : r < F.sz 0) (h6 : F.sz 0 ≤ 6) (h0 : μ (102 + r) 0 = nI r) : f_X8_queued F μ (nI r) = some (nI (ct (inr μ (nI r)) 24)) := by
  unfold f_X8_queued
  rw [q_demandResource hr h6]
  unfold bnO csQ grd
  dsimp only
  rw [if_pos ⟨by omega, by omega, by omega⟩, h0, p_countIn]
theorem q_level (hs : s < F.sz 1) (h4 : F.sz 1 ≤ 4) : f_X8_level F μ (nI s) = some (μ (108 + s) 2) := by
  unfold f_X8_level
  rw [q_demandStore hs h4]
  unfold bnO csQ grd
  dsimp only
  rw [if_pos ⟨by omega, by omega, by omega⟩]
theorem q_area (hs : s < F.sz 1) (h4 : F.sz 1 ≤ 4) : f_X8_area F μ (nI s) = some (μ (108 + s) 3) := by
  unfold f_X8_area
  rw [q_demandStore hs h4]
  unfold bnO csQ grd
  dsimp only
  rw [if_pos ⟨by omega, by omega, by omega⟩]
theorem q_blocked (hs : s < F.sz 1) (h4 : F.sz 1 ≤ 4) (h0 : μ (108 + s) 0 = nI s) (g : Int32) : f_X8_blocked F μ (nI s) g = some (nI (ct (inr μ (if g = 0 then nI (6 + s) else nI (10 + s))) 24)) := by
  unfold f_X8_blocked
  rw [q_demandStore hs h4]
  unfold bnO csQ grd
  dsimp only
  rw [if_pos ⟨by omega, by omega, by omega⟩, p_row F h0]
  dsimp only
  rw [p_countIn]
theorem q_awaiting (ha : a < 4) : f_X8_awaiting F μ (nI a) = some (nI (ct (inr μ (nI (14 + a))) 24)) := by
  unfold f_X8_awaiting f_X8_isSignal
  rw [p_isIn, if_pos (show (0 : Int32).toInt ≤ (nI a).toInt ∧ (nI a).toInt ≤ (3 : Int32).toInt from ⟨by rw [ti_nI (by omega), ti_0]; omega, by rw [ti_nI (by omega), show (3 : Int32).toInt = 3 from rfl]; omega⟩)]
  unfold bnO grd
  dsimp only
  rw [if_pos (Or.inr rfl)]
  dsimp only
  rw [if_neg (by decide), show (14 : Int32) = nI 14 from rfl, nI_add, p_countIn]
theorem q_holds (hc : μ 0 5 = nI c) (h24 : c ≤ 24) (hk : k < c) (hr : r < F.sz 0) (h6 : F.sz 0 ≤ 6) (h0 : μ (102 + r) 0 = nI r) : f_X8_holds F μ (nI k) (nI r) = some (μ (k + 49) r) := by
  unfold f_X8_holds
  rw [q_demandProcess hc h24 hk, q_demandResource hr h6]
  unfold bnO csQ grd
  dsimp only
  rw [if_pos ⟨by omega, by omega⟩, if_pos ⟨by omega, by omega, by omega⟩, h0, p_at F μ (row := k + 1 + 48) (j := r) (by rw [alen_6 (by omega)]; omega) (alen_16 _)]
theorem q_events : f_X8_events F μ = some (nI (ct (evs μ) 24)) := by
  unfold f_X8_events
  rw [p_countEvents]
  rfl
/-- the next time: -1 without an event -/
def ntQ (μ : Mem) (x : Int32) : Prop := (x = -1 ∧ ∀ k, k < 24 → μ (k + 1) 7 = -1) ∨ ∃ q, isP q ∧ x = μ q 7 ∧ ¬ μ q 7 = -1 ∧ ∀ k, k < 24 → ¬ μ (k + 1) 7 = -1 → (μ q 7).toInt ≤ (μ (k + 1) 7).toInt
theorem q_nextTime : Ok (f_X8_nextTime F μ) (ntQ μ) := by
  unfold f_X8_nextTime
  refine ok_bnO (p_nextToGo F μ) (fun o ho => ok_cs (fun hn => ok_some (Or.inl ⟨rfl, ?_⟩)) (fun v hv => ?_))
  · rcases ho with ho | ⟨q, ho, -⟩
    · exact ho.2
    · rw [hn] at ho; cases ho
  · rcases ho with ho | ⟨q, ho, h3, h4⟩
    · rw [hv] at ho; cases ho.1
    · rw [hv] at ho; cases ho
      exact ok_grd h3 (ok_some (Or.inr ⟨v, h3, rfl, h4⟩))
/-! places in a row -/
/-- among those of P, ordered by lt, there is one with i others ahead of it -/
theorem ct_rank {P : Nat → Bool} {lt : Nat → Nat → Bool} (h1 : ∀ x, lt x x = false) (h2 : ∀ x y z, lt x y = true → lt y z = true → lt x z = true) : ∀ n, (∀ x y, x < n → y < n → P x = true → P y = true → x ≠ y → lt x y = true ∨ lt y x = true) → ∀ i, i < ct P n → ∃ x, x < n ∧ P x = true ∧ ct (fun k => P k && lt k x) n = i
  | 0, _, i, hi => absurd hi (Nat.not_lt_zero _)
  | n + 1, h3, i, hi => by
    have h3' : ∀ x y, x < n → y < n → P x = true → P y = true → x ≠ y → lt x y = true ∨ lt y x = true := fun x y hx hy => h3 x y (by omega) (by omega)
    have ih := ct_rank h1 h2 n h3'
    have e1 : ct P (n + 1) = ct P n + (if P n then 1 else 0) := rfl
    have e2 : ∀ x, ct (fun k => P k && lt k x) (n + 1) = ct (fun k => P k && lt k x) n + (if (P n && lt n x) = true then 1 else 0) := fun x => rfl
    by_cases hP : P n = true
    · rw [e1, if_pos hP] at hi
      have hr : ct (fun k => P k && lt k n) n ≤ ct P n := ct_mono n (fun k _ hk => by
        rw [Bool.and_eq_true] at hk; exact hk.1)
      rcases Nat.lt_trichotomy i (ct (fun k => P k && lt k n) n) with hlt | heq | hgt
      · obtain ⟨x, hx, hPx, hcx⟩ := ih i (by omega)
        refine ⟨x, by omega, hPx, ?_⟩
        rw [e2, hcx]
        have hn : ¬ (P n && lt n x) = true := fun hz => by
          rw [Bool.and_eq_true] at hz
          have hle : ct (fun k => P k && lt k n) n ≤ ct (fun k => P k && lt k x) n := ct_mono n (fun k _ hk => by
            rw [Bool.and_eq_true] at hk ⊢; exact ⟨hk.1, h2 _ _ _ hk.2 hz.2⟩)
          omega
        rw [if_neg hn]
        rfl
      · refine ⟨n, by omega, hP, ?_⟩
        rw [e2, if_neg (by rw [h1, Bool.and_false]; decide)]
        omega
      · obtain ⟨x, hx, hPx, hcx⟩ := ih (i - 1) (by omega)
        refine ⟨x, by omega, hPx, ?_⟩
        have hnx : lt n x = true := by
          rcases h3 n x (by omega) (by omega) hP hPx (by omega) with h | h
          · exact h
          · exfalso
            have hlt2 : ct (fun k => P k && lt k x) n + 1 ≤ ct (fun k => P k && lt k n) n := by
              have hone : ∀ m, x < m → ct (fun k => P k && lt k x) m + 1 ≤ ct (fun k => P k && lt k n) m := fun m => by
                induction m with
                | zero => intro hm; omega
                | succ m ihm =>
                  intro hm
                  show ct (fun k => P k && lt k x) m + (if (P m && lt m x) = true then 1 else 0) + 1 ≤ ct (fun k => P k && lt k n) m + (if (P m && lt m n) = true then 1 else 0)
                  by_cases hxm : x = m
                  · subst hxm
                    rw [if_neg (by rw [h1, Bool.and_false]; decide), if_pos (by rw [hPx, h]; rfl)]
                    have := ct_mono (P := fun k => P k && lt k x) (P' := fun k => P k && lt k n) x (fun k _ hk => by
                      rw [Bool.and_eq_true] at hk ⊢; exact ⟨hk.1, h2 _ _ _ hk.2 h⟩)
                    omega
                  · have := ihm (by omega)
                    by_cases hm2 : (P m && lt m x) = true
                    · have hm3 : (P m && lt m n) = true := by
                        rw [Bool.and_eq_true] at hm2 ⊢; exact ⟨hm2.1, h2 _ _ _ hm2.2 h⟩
                      rw [if_pos hm2, if_pos hm3]; omega
                    · rw [if_neg hm2]; omega
              exact hone n hx
            omega
        rw [e2, hcx, if_pos (by rw [hP, hnx]; rfl)]
        omega
    · rw [e1, if_neg hP] at hi
      obtain ⟨x, hx, hPx, hcx⟩ := ih i (by omega)
      refine ⟨x, by omega, hPx, ?_⟩
      rw [e2, hcx, if_neg (fun hz => hP (by rw [Bool.and_eq_true] at hz; exact hz.1))]
      rfl
theorem p_countBefore_l (F : Fg) (μ : Mem) (q : Nat) : ∀ (n i : Nat), i ≤ 24 → 24 < n + i → b_X7_countBefore_14 F n μ q (nI (ct (fun k => inr μ (μ q 9) k && sb μ 10 11 (k + 1) q) i)) 24 (nI i) = some (nI (ct (fun k => inr μ (μ q 9) k && sb μ 10 11 (k + 1) q) 24))
  | 0, i, h1, h2 => absurd h2 (by omega)
  | n + 1, i, h1, h2 => by
    rw [b_X7_countBefore_14]
    by_cases h : i = 24
    · subst h
      rw [if_pos ((lp_le (by decide)).mpr (Nat.le_refl _))]
    · have h3 : i < 24 := by omega
      rw [if_neg (fun z => absurd ((lp_le (by omega)).mp z) (by omega))]
      unfold grd bnd
      rw [if_pos (lp_gd h3), lp_at h3]
      dsimp only
      have ih := p_countBefore_l F μ q n (i + 1) h3 (by omega)
      have e : ct (fun k => inr μ (μ q 9) k && sb μ 10 11 (k + 1) q) (i + 1) = ct (fun k => inr μ (μ q 9) k && sb μ 10 11 (k + 1) q) i + (if (inr μ (μ q 9) i && sb μ 10 11 (i + 1) q) = true then 1 else 0) := rfl
      by_cases hr : μ (i + 1) 9 = μ q 9
      · rw [if_pos hr, p_standsBefore]
        unfold bnO
        dsimp only
        have hin : inr μ (μ q 9) i = true := decide_eq_true hr
        by_cases hs : sb μ 10 11 (i + 1) q = true
        · rw [if_pos hs, if_neg (by decide), nI_1, nI_1]
          rw [e, if_pos (by rw [hin, hs]; rfl)] at ih
          exact ih
        · rw [if_neg hs, if_pos rfl, nI_1]
          rw [e, if_neg (fun z => hs (by rw [Bool.and_eq_true] at z; exact z.2))] at ih
          exact ih
      · rw [if_neg hr, nI_1]
        rw [e, if_neg (fun z => hr (by rw [Bool.and_eq_true] at z; exact of_decide_eq_true z.1))] at ih
        exact ih
theorem p_countBefore (F : Fg) (μ : Mem) (q : Nat) : f_X7_countBefore F μ q = some (nI (ct (fun k => inr μ (μ q 9) k && sb μ 10 11 (k + 1) q) 24)) := p_countBefore_l F μ q fu 0 (by decide) fu_24
theorem p_inRowAt_l (F : Fg) (μ : Mem) (row : Int32) (p : Nat) (hp : ∃ x, x < 24 ∧ inr μ row x = true ∧ ct (fun k => inr μ row k && sb μ 10 11 (k + 1) (x + 1)) 24 = p) : ∀ (n i : Nat), i ≤ 24 → 24 < n + i → (∀ x, x < i → ¬ (inr μ row x = true ∧ ct (fun k => inr μ row k && sb μ 10 11 (k + 1) (x + 1)) 24 = p)) → Ok (b_X7_inRowAt_12 F n μ row (nI p) 24 (nI i)) (fun o => ∃ v, o = some v ∧ isP v ∧ μ v 9 = row)
  | 0, i, h1, h2, _ => absurd h2 (by omega)
  | n + 1, i, h1, h2, hno => by
    have hp24 : p < 2147483648 := by
      obtain ⟨x, -, -, h⟩ := hp
      have := ct_le (fun k => inr μ row k && sb μ 10 11 (k + 1) (x + 1)) 24
      omega
    rw [b_X7_inRowAt_12]
    by_cases h : i = 24
    · obtain ⟨x, hx, h5, h6⟩ := hp
      exact absurd ⟨h5, h6⟩ (hno x (by omega))
    · have h3 : i < 24 := by omega
      rw [if_neg (fun z => absurd ((lp_le (by omega)).mp z) (by omega))]
      refine ok_grd (lp_gd h3) (ok_bnd ?_)
      rw [lp_at h3, nI_1]
      refine ok_ite (fun hr => ?_) (fun hr => ?_)
      · rw [p_countBefore, hr]
        refine ok_bnO (ok_eq rfl) (fun z hz => ok_ite (fun he => ok_some ⟨i + 1, rfl, lp_is h3, hr⟩) (fun he => ?_))
        refine p_inRowAt_l F μ row p hp n (i + 1) h3 (by omega) (fun x hx => ?_)
        by_cases hxi : x = i
        · subst hxi
          intro hb
          rw [hb.2] at hz
          exact he hz
        · exact hno x (by omega)
      · refine p_inRowAt_l F μ row p hp n (i + 1) h3 (by omega) (fun x hx => ?_)
        by_cases hxi : x = i
        · subst hxi
          intro hb
          exact hr (of_decide_eq_true hb.1)
        · exact hno x (by omega)
theorem sb_irr (μ : Mem) (t : Nat) : sb μ 10 11 t t = false := decide_eq_false (fun h => by rcases h with h | h <;> omega)
theorem sb_trans (μ : Mem) (x y z : Nat) (h1 : sb μ 10 11 x y = true) (h2 : sb μ 10 11 y z = true) : sb μ 10 11 x z = true := by
  refine decide_eq_true ?_
  rcases of_decide_eq_true h1 with a | a <;> rcases of_decide_eq_true h2 with b | b
  · exact Or.inl (by omega)
  · exact Or.inl (by rw [← b.1]; exact a)
  · exact Or.inl (by rw [a.1]; exact b)
  · exact Or.inr ⟨a.1.trans b.1, by omega⟩
theorem sb_total (μ : Mem) (x y : Nat) (h : ¬ μ x 11 = μ y 11) : sb μ 10 11 x y = true ∨ sb μ 10 11 y x = true := by
  have h' := ti_ne h
  rcases Int.lt_trichotomy (μ x 10).toInt (μ y 10).toInt with a | a | a
  · exact Or.inl (decide_eq_true (Or.inl a))
  · have a := ti_eq.mpr a
    rcases Int.lt_trichotomy (μ x 11).toInt (μ y 11).toInt with b | b | b
    · exact Or.inl (decide_eq_true (Or.inr ⟨a, b⟩))
    · exact absurd b h'
    · exact Or.inr (decide_eq_true (Or.inr ⟨a.symm, b⟩))
  · exact Or.inr (decide_eq_true (Or.inl a))
/-- who stands at a place of a queue is queued -/
theorem q_queuedAt (hC : Cfg F K) (hI : Inv F K X e T N μ) (hr : r < F.sz 0) {p : Nat} (hp : p < ct (inr μ (nI r)) 24) : Ok (f_X8_queuedAt F μ (nI r) (nI p)) (fun z => ∃ k, k < 24 ∧ z = nI k ∧ ((k + 1 : Nat) : Int) ≤ (μ 0 5).toInt ∧ μ (k + 1) 6 = 2) := by
  have h6 := hC.1
  unfold f_X8_queuedAt
  rw [q_demandResource hr h6]
  refine ok_bnO (ok_eq rfl) (fun o ho => ok_cs (fun z => by rw [ho] at z; cases z) (fun v hv => ?_))
  rw [ho] at hv; cases hv
  refine ok_grd ⟨by omega, by omega, by omega⟩ ?_
  rw [(hI.cst.2.1 r hr).1]
  have hex := ct_rank (P := inr μ (nI r)) (lt := fun x y => sb μ 10 11 (x + 1) (y + 1)) (fun x => sb_irr μ (x + 1)) (fun x y z => sb_trans μ (x + 1) (y + 1) (z + 1)) 24 (fun x y hx hy hPx hPy hxy => by
    refine sb_total μ (x + 1) (y + 1) (hI.dis x y hx hy hxy ?_ ?_)
    · rw [of_decide_eq_true hPx]; exact nI_m1 (by omega)
    · rw [of_decide_eq_true hPy]; exact nI_m1 (by omega)) p hp
  refine ok_bnO (p_inRowAt_l F μ (nI r) p hex fu 0 (by decide) fu_24 (fun x hx => absurd hx (Nat.not_lt_zero _))) (fun o2 ho2 => ?_)
  obtain ⟨v, hv, hvP, hv9⟩ := ho2
  rw [hv]
  refine ok_cs (fun z => by cases z) (fun w hw => ?_)
  cases hw
  refine ok_grd hvP (ok_some ?_)
  obtain ⟨b1, b2, b3, b4, b5, b6⟩ := (hI.p hvP).inRes hC hr hv9
  obtain ⟨v1, v2⟩ := id hvP
  obtain ⟨k, rfl⟩ : ∃ k, v = k + 1 := ⟨v - 1, by omega⟩
  exact ⟨k, by omega, hI.cst.1 k (by omega), b3, b4⟩
end
