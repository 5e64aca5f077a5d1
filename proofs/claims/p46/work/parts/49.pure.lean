/-! THE PURE PART, 16: what tallies answer, the spread, the digest -/
section
variable {g : Geo} {K : Kx} {z n : Nat} {T N : Int} {μ : Mem} {c : Nat}
theorem t_tally (hY : g.tz 0 = 1) : f_X8_demandTally g μ 0 = some (some 268) := by
  unfold f_X8_demandTally
  rw [tallyOne hY rfl]
  unfold bnO csQ grd
  dsimp only
  rw [if_pos ⟨rfl, hY⟩]
theorem t_tallied (hY : g.tz 0 = 1) : f_X8_tallied g μ 0 = some (g.ts 1000 1) := by
  unfold f_X8_tallied
  rw [t_tally hY]
  unfold bnO csQ grd
  dsimp only
  rw [if_pos ⟨rfl, hY⟩]
theorem t_batches (hY : g.tz 0 = 1) : f_X8_batches g μ 0 = some (g.ts 1000 8) := by
  unfold f_X8_batches
  rw [t_tally hY]
  unfold bnO csQ grd
  dsimp only
  rw [if_pos ⟨rfl, hY⟩]
theorem t_ofTally (hY : g.tz 0 = 1) {w : Nat} (hw : w < 4) : f_X8_ofTally g μ 0 (nI w) = some (g.ts 1000 (2 + w)) := by
  unfold f_X8_ofTally
  rw [t_tally hY]
  unfold bnO csQ grd
  dsimp only
  rw [if_pos ⟨rfl, hY⟩]
  rcases (show w = 0 ∨ w = 1 ∨ w = 2 ∨ w = 3 by omega) with rfl | rfl | rfl | rfl
  · rw [if_pos (by decide)]
  · rw [if_neg (by decide), if_pos (by decide)]
  · rw [if_neg (by decide), if_neg (by decide), if_pos (by decide)]
  · rw [if_neg (by decide), if_neg (by decide), if_neg (by decide), if_pos (by decide)]
theorem t_sumAt {i : Nat} (hi : i < 512 * g.tz 2) (hz : g.tz 2 ≤ 10) : f_X6_sumAt g μ 268 (nI i) = some (g.ts (2 + 2 * (i / 512)) (i % 512)) := by
  unfold f_X6_sumAt
  have e1 : nI i / 512 = nI (i / 512) := by rw [show (512 : Int32) = nI 512 from rfl]; exact pk_div (by omega) (by decide) (by decide)
  have e2 : nI i - nI i / 512 * 512 = nI (i % 512) := by rw [show (512 : Int32) = nI 512 from rfl]; exact pk_rem (by omega) (by decide) (by decide)
  have h1 : i / 512 < g.tz 2 := by omega
  have h2 : i % 512 < 512 := by omega
  rw [e2, e1, if_neg (nI_pos (by omega)), if_neg (nI_ge h1 (by omega))]
  unfold grd bnd
  rw [if_pos (nI_in h1 (by omega)), nI_clamp (by omega)]
  dsimp only
  rw [if_pos ⟨by omega, by omega⟩]
  unfold f_X8_atZ
  rw [if_neg (nI_pos (by omega)), if_neg (show ¬ (512 : Int32) ≤ nI (i % 512) from nI_ge h2 (by decide))]
  unfold grd bnO
  rw [if_pos (nI_in h2 (by decide)), nI_clamp (by omega), show 1 + 2 * (i / 512) + 1 = 2 + 2 * (i / 512) by omega]
theorem t_sumOf (hY : g.tz 0 = 1) {i k : Nat} (hk : g.ts 1000 8 = nI k) (hk5 : k ≤ 5120) (hik : i < k) (hi : i < 512 * g.tz 2) (hz : g.tz 2 ≤ 10) : f_X8_sumOf g μ 0 (nI i) = some (g.ts (2 + 2 * (i / 512)) (i % 512)) := by
  unfold f_X8_sumOf
  rw [t_tally hY]
  unfold bnO csQ grd
  dsimp only
  rw [if_pos ⟨rfl, hY⟩, if_neg (nI_pos (by omega)), hk, if_pos ((nI_ltI (by omega) (by omega)).mpr hik), t_sumAt hi hz]
/-- k * Q - S * S in two parts isn't below 0 -/
theorem t_overBar {F : Fg} {ka al qh ql : Int64} {k : Nat} {S Q : Int} (hk : k ≤ 1300) (h1 : ka.toInt = k) (h2 : al.toInt = S) (h3 : qh.toInt = 0) (h4 : ql.toInt = Q) (hS0 : 0 ≤ S) (hS1 : S ≤ 19500000) (hQ0 : 0 ≤ Q) (hQ1 : Q ≤ 292500000000) (hC : 0 ≤ (k : Int) * Q - S * S) : Ok (f_X6_overBar F μ ka al qh ql) (fun _ => True) := by
  obtain ⟨A, hAe⟩ : ∃ A, A = al >>> ((20 : Int32).toInt64 &&& 63) := ⟨_, rfl⟩
  have hA : A.toInt = S / 1048576 := by rw [hAe, lg_sh20, h2]
  unfold f_X6_overBar f_X6_lowPart
  rw [← hAe]
  refine ok_bnO (ok_eq rfl) (fun B hB => ?_)
  have hB : B.toInt = S % 1048576 := by rw [hB, lg_lo20, h2]
  have bA : 0 ≤ S / 1048576 ∧ S / 1048576 ≤ 18 := by omega
  have bB : 0 ≤ S % 1048576 ∧ S % 1048576 < 1048576 := by omega
  have e2A : (2 * A).toInt = 2 * (S / 1048576) := by rw [lg_mul (by rw [hA, show (2 : Int64).toInt = 2 from rfl]; omega) (by rw [hA, show (2 : Int64).toInt = 2 from rfl]; omega), hA]; rfl
  have m1 : 0 ≤ (S / 1048576) * (S % 1048576) := Int.mul_nonneg bA.1 bB.1
  have m2 : (S / 1048576) * (S % 1048576) ≤ 18 * 1048576 := Int.mul_le_mul bA.2 (by omega) bB.1 (by decide)
  have hX : (2 * A * B).toInt = 2 * ((S / 1048576) * (S % 1048576)) := by rw [lg_mul (by rw [e2A, hB, Int.mul_assoc]; omega) (by rw [e2A, hB, Int.mul_assoc]; omega), e2A, hB, Int.mul_assoc]
  refine ok_bnO (ok_eq rfl) (fun c0 hc0 => ?_)
  have hc0 : c0.toInt = 2 * ((S / 1048576) * (S % 1048576)) % 1048576 := by rw [hc0, lg_lo20, hX]
  have bc : 0 ≤ c0.toInt ∧ c0.toInt < 1048576 := by omega
  have hsh := lg_shl20 bc.1 bc.2
  have m3 : 0 ≤ (S % 1048576) * (S % 1048576) := Int.mul_nonneg bB.1 bB.1
  have m4 : (S % 1048576) * (S % 1048576) ≤ 1048576 * 1048576 := Int.mul_le_mul (by omega) (by omega) bB.1 (by decide)
  have hBB : (B * B).toInt = (S % 1048576) * (S % 1048576) := by rw [lg_mul (by rw [hB]; omega) (by rw [hB]; omega), hB]
  have m5 : 0 ≤ (k : Int) * Q := Int.mul_nonneg (by omega) hQ0
  have m6 : (k : Int) * Q ≤ 1300 * 292500000000 := Int.mul_le_mul (by omega) hQ1 hQ0 (by decide)
  have hkQ : (ka * ql).toInt = (k : Int) * Q := by rw [lg_mul (by rw [h1, h4]; omega) (by rw [h1, h4]; omega), h1, h4]
  have hL1 : (ka * ql - B * B).toInt = (k : Int) * Q - (S % 1048576) * (S % 1048576) := by rw [lg_sub (by omega) (by omega), hkQ, hBB]
  have hL : (ka * ql - B * B - (c0 <<< ((20 : Int32).toInt64 &&& 63))).toInt = (k : Int) * Q - (S % 1048576) * (S % 1048576) - c0.toInt * 1048576 := by rw [lg_sub (by rw [hL1, hsh]; omega) (by rw [hL1, hsh]; omega), hL1, hsh]
  refine ok_bnO (ok_eq rfl) (fun r5 hr5 => ?_)
  have m7 : 0 ≤ (S / 1048576) * (S / 1048576) := Int.mul_nonneg bA.1 bA.1
  have m8 : (S / 1048576) * (S / 1048576) ≤ 18 * 18 := Int.mul_le_mul bA.2 bA.2 bA.1 (by decide)
  have hAA : (A * A).toInt = (S / 1048576) * (S / 1048576) := by rw [lg_mul (by rw [hA]; omega) (by rw [hA]; omega), hA]
  have hkq : (ka * qh).toInt = 0 := by rw [lg_mul (by rw [h3, Int.mul_zero]; omega) (by rw [h3, Int.mul_zero]; omega), h3, Int.mul_zero]
  have hXs : ((2 * A * B) >>> ((20 : Int32).toInt64 &&& 63)).toInt = 2 * ((S / 1048576) * (S % 1048576)) / 1048576 := by rw [lg_sh20, hX]
  have hH1 : (ka * qh - A * A).toInt = -((S / 1048576) * (S / 1048576)) := by rw [lg_sub (by omega) (by omega), hkq, hAA]; omega
  have hH2 : (ka * qh - A * A - ((2 * A * B) >>> ((20 : Int32).toInt64 &&& 63))).toInt = -((S / 1048576) * (S / 1048576)) - 2 * ((S / 1048576) * (S % 1048576)) / 1048576 := by rw [lg_sub (by rw [hH1, hXs]; omega) (by rw [hH1, hXs]; omega), hH1, hXs]
  have hLs : ((ka * ql - B * B - (c0 <<< ((20 : Int32).toInt64 &&& 63))) >>> ((40 : Int32).toInt64 &&& 63)).toInt = ((k : Int) * Q - (S % 1048576) * (S % 1048576) - c0.toInt * 1048576) / 1099511627776 := by rw [lg_sh40, hL]
  have hS : S = (S / 1048576) * 1048576 + S % 1048576 := by omega
  have hSS : S * S = 1099511627776 * ((S / 1048576) * (S / 1048576)) + 1048576 * (2 * ((S / 1048576) * (S % 1048576))) + (S % 1048576) * (S % 1048576) := by
    generalize S / 1048576 = a at hS
    generalize S % 1048576 = b at hS
    subst hS
    grind
  refine ok_grd ?_ (ok_grd ?_ (ok_some trivial))
  · rw [lg_add (by rw [hH2, hLs]; omega) (by rw [hH2, hLs]; omega), hH2, hLs]
    rw [hc0]
    generalize (S / 1048576) * (S / 1048576) = aa at *
    generalize (S / 1048576) * (S % 1048576) = ab at *
    generalize (S % 1048576) * (S % 1048576) = bb at *
    generalize (k : Int) * Q = kq at *
    omega
  · rw [hr5, lg_lo40]
    omega
/-- how the spread's loop goes -/
theorem t_variance_l (hz : g.tz 2 ≤ 10) {k : Nat} (hk : k ≤ 1300) (h8 : g.ts 1000 8 = nI k) (hk5 : k ≤ 512 * g.tz 2) {f : Nat → Nat} (hf : ∀ i, i < k → f i ≤ 15000 ∧ g.ts (2 + 2 * (i / 512)) (i % 512) = nI (f i)) : ∀ (n i : Nat) (x3 x5 x7 : Int64), i ≤ k → 1300 < n + i → x3.toInt = sm (fun i => (f i : Int)) i → x5.toInt = 0 → x7.toInt = sm (fun i => (f i : Int) * (f i : Int)) i → Ok (b_X6_variance_27 g n μ 268 (lN k) x3 x5 x7 (nI i)) (fun _ => True)
  | 0, i, x3, x5, x7, h1, h2, _, _, _ => absurd h2 (by omega)
  | n + 1, i, x3, x5, x7, h1, h2, h3, h5, h7 => by
    have hS : ∀ j, j ≤ k → 0 ≤ sm (fun i => (f i : Int)) j ∧ sm (fun i => (f i : Int)) j ≤ 15000 * j := fun j => by
      induction j with
      | zero => intro _; exact ⟨Int.le_refl _, Int.le_refl _⟩
      | succ j ih =>
        intro h
        have h4 := ih (by omega)
        have h6 := (hf j (by omega)).1
        show 0 ≤ sm (fun i => (f i : Int)) j + (f j : Int) ∧ sm (fun i => (f i : Int)) j + (f j : Int) ≤ 15000 * ((j + 1 : Nat) : Int)
        omega
    have hq : ∀ j, j < k → 0 ≤ (f j : Int) * (f j : Int) ∧ (f j : Int) * (f j : Int) ≤ 225000000 := fun j h => by
      have h6 := (hf j h).1
      exact ⟨Int.mul_nonneg (by omega) (by omega), Int.mul_le_mul (show (f j : Int) ≤ 15000 by omega) (show (f j : Int) ≤ 15000 by omega) (by omega) (by decide)⟩
    have hQ : ∀ j, j ≤ k → 0 ≤ sm (fun i => (f i : Int) * (f i : Int)) j ∧ sm (fun i => (f i : Int) * (f i : Int)) j ≤ 225000000 * j := fun j => by
      induction j with
      | zero => intro _; exact ⟨Int.le_refl _, Int.le_refl _⟩
      | succ j ih =>
        intro h
        have h4 := ih (by omega)
        have h6 := hq j (by omega)
        show 0 ≤ sm (fun i => (f i : Int) * (f i : Int)) j + (f j : Int) * (f j : Int) ∧ sm (fun i => (f i : Int) * (f i : Int)) j + (f j : Int) * (f j : Int) ≤ 225000000 * ((j + 1 : Nat) : Int)
        omega
    rw [b_X6_variance_27, h8]
    refine ok_ite (fun hle => ?_) (fun hlt => ?_)
    · rw [nI_leI (by omega) (by omega)] at hle
      obtain rfl : i = k := by omega
      refine ok_ite (fun _ => ok_some trivial) (fun hb => ?_)
      have s1 := hS i (Nat.le_refl _)
      have q1 := hQ i (Nat.le_refl _)
      refine ok_bnO (t_overBar hk (lN_toInt (by omega)) h3 h5 h7 s1.1 (by omega) q1.1 (by omega) (cau i)) (fun _ _ => ok_grd ?_ (ok_some trivial))
      rw [lg_cmp_le, Int64.le_iff_toInt_le, show (0 : Int64).toInt = 0 from rfl] at hb
      omega
    · rw [nI_leI (by omega) (by omega)] at hlt
      have hi : i < k := by omega
      rw [t_sumAt (by omega) hz, (hf i hi).2]
      refine ok_bnO (ok_eq rfl) (fun s hs => ?_)
      have hfi := (hf i hi).1
      have e1 : s.toInt64.toInt = (f i : Int) := by rw [hs, nI_l (by omega), lN_toInt (by omega)]
      have hqi := hq i hi
      have s0 := hS i (by omega)
      have q0 := hQ i (by omega)
      have e2 : (s.toInt64 * s.toInt64).toInt = (f i : Int) * (f i : Int) := by rw [lg_mul (by rw [e1]; omega) (by rw [e1]; omega), e1]
      have e3 : (x7 + s.toInt64 * s.toInt64).toInt = sm (fun i => (f i : Int) * (f i : Int)) i + (f i : Int) * (f i : Int) := by rw [lg_add (by rw [e2]; omega) (by rw [e2]; omega), e2, h7]
      unfold f_X6_lowPart
      refine ok_bnO (ok_eq rfl) (fun lo hlo => ?_)
      rw [nI_1]
      refine t_variance_l hz hk h8 hk5 hf n (i + 1) _ _ lo (by omega) (by omega) ?_ ?_ ?_
      · rw [lg_add (by omega) (by omega), h3, e1]; rfl
      · have e4 : ((x7 + s.toInt64 * s.toInt64) >>> ((40 : Int32).toInt64 &&& 63)).toInt = 0 := by rw [lg_sh40, e3]; omega
        rw [lg_add (by omega) (by omega), h5, e4]; rfl
      · rw [hlo, lg_lo40, e3]
        show _ = sm (fun i => (f i : Int) * (f i : Int)) i + (f i : Int) * (f i : Int)
        omega
theorem t_spread (hTI : TI z g.T n) (hn : n ≤ 1300) (hz : g.tz 2 ≤ 10) : Ok (f_X8_spread g μ 0) (fun _ => True) := by
  obtain ⟨h0, m, k, o, ba, os, h1, h2, h3, h4, h5, h6, e0, e1, e8, e6, e7, hlg, h12, h13, h14, h15⟩ := hTI
  have hkm : k ≤ m := by
    rw [h4]
    have := Nat.le_mul_of_pos_right k h2
    omega
  unfold f_X8_spread
  rw [t_tally h0]
  refine ok_bnO (ok_eq rfl) (fun o9 ho9 => ?_)
  rw [ho9]
  refine ok_cs (fun z => by cases z) (fun v hv => ?_)
  cases hv
  refine ok_grd ⟨rfl, h0⟩ (ok_bnO (P := fun _ => True) ?_ (fun _ _ => ok_some trivial))
  unfold f_X6_variance
  have e8' : g.ts 1000 8 = nI k := e8
  have h12' : k ≤ 512 * g.tz 2 := h12
  rw [e8', nI_l (by omega)]
  refine ok_ite (fun _ => ?_) (fun _ => ok_some trivial)
  have h15' : ∀ i, ∃ s, i < k → s ≤ 15000 ∧ g.ts (2 + 2 * (i / 512)) (i % 512) = nI s := fun i => by
    by_cases hi : i < k
    · obtain ⟨s, a, b⟩ := h15 i hi
      exact ⟨s, fun _ => ⟨a, b⟩⟩
    · exact ⟨0, fun z => absurd z hi⟩
  refine t_variance_l (f := fun i => (h15' i).choose) hz (by omega) e8' h12' (fun i hi => (h15' i).choose_spec hi) fu 0 0 0 0 (Nat.zero_le _) (by decide) rfl rfl rfl
/-! the digest -/
theorem dg_mix (F : Fg) (μ : Mem) (d : Int64) (x : Int32) : Ok (f_X8_mix F μ d x) (fun _ => True) := ok_some trivial
abbrev tt {α : Type} (_ : α) : Prop := True
theorem dg_proc76 {F : Fg} (hI : Inv F K (fun _ => False) 99 T N μ) (h6 : F.sz 0 ≤ 6) (hc : μ 0 5 = nI c) (h24 : c ≤ 24) {p : Nat} (hp : p < c) (k9 : Mem → Int64 → Int32 → Option Int64) (hk : ∀ d, Ok (k9 μ d (nI p + 1)) tt) : ∀ (n i : Nat) (d : Int64), i ≤ F.sz 0 → 6 < n + i → Ok (b_X8_mixProcesses_76 F k9 n μ d (nI p) (nI i)) tt
  | 0, i, d, h1, h2 => absurd h2 (by omega)
  | n + 1, i, d, h1, h2 => by
    rw [b_X8_mixProcesses_76]
    refine ok_ite (fun _ => hk _) (fun hlt => ?_)
    rw [nI_leI (by omega) (by omega)] at hlt
    rw [q_holds hc h24 hp (r := i) (by omega) h6 (hI.cst.2.1 i (by omega)).1, nI_1]
    exact ok_bnO (ok_eq rfl) (fun _ _ => ok_bnO (dg_mix _ _ _ _) (fun _ _ => dg_proc76 hI h6 hc h24 hp k9 hk n (i + 1) _ (by omega) (by omega)))
theorem dg_proc {F : Fg} (hI : Inv F K (fun _ => False) 99 T N μ) (h6 : F.sz 0 ≤ 6) (hc : μ 0 5 = nI c) (h24 : c ≤ 24) : ∀ (n p : Nat) (d : Int64), p ≤ c → 24 < n + p → Ok (b_X8_mixProcesses_2 F n μ d (nI p)) tt
  | 0, p, d, h1, h2 => absurd h2 (by omega)
  | n + 1, p, d, h1, h2 => by
    rw [b_X8_mixProcesses_2, hc]
    refine ok_ite (fun _ => ok_some trivial) (fun hlt => ?_)
    rw [nI_leI (by omega) (by omega)] at hlt
    have hp : p < c := by omega
    rw [q_stateOf hc h24 hp, q_placeOf hc h24 hp, q_rankOf hc h24 hp, q_restOf hc h24 hp, q_markOf hc h24 hp, q_eventOf hc h24 hp]
    refine ok_bnO (ok_eq rfl) (fun _ _ => ok_bnO (dg_mix _ _ _ _) (fun _ _ => ok_bnO (ok_eq rfl) (fun _ _ => ok_bnO (dg_mix _ _ _ _) (fun _ _ => ok_bnO (ok_eq rfl) (fun _ _ => ok_bnO (dg_mix _ _ _ _) (fun _ _ => ok_bnO (ok_eq rfl) (fun _ _ => ok_bnO (dg_mix _ _ _ _) (fun _ _ => ok_bnO (ok_eq rfl) (fun _ _ => ok_bnO (dg_mix _ _ _ _) (fun _ _ => ok_bnO (ok_eq rfl) (fun _ _ => ok_bnO (dg_mix _ _ _ _) (fun _ _ => ?_))))))))))))
    exact dg_proc76 hI h6 hc h24 hp _ (fun d => by rw [nI_1]; exact dg_proc hI h6 hc h24 n (p + 1) d (by omega) (by omega)) fu 0 _ (Nat.zero_le _) (by decide)
theorem dg_res43 {F : Fg} (hC : Cfg F K) (hI : Inv F K (fun _ => False) 99 T N μ) {r : Nat} (hr : r < F.sz 0) (k9 : Mem → Int64 → Int32 → Option Int64) (hk : ∀ d, Ok (k9 μ d (nI r + 1)) tt) : ∀ (n i : Nat) (d : Int64), i ≤ ct (inr μ (nI r)) 24 → 24 < n + i → Ok (b_X8_mixResources_43 F k9 n μ d (nI r) (nI (ct (inr μ (nI r)) 24)) (nI i)) tt
  | 0, i, d, h1, h2 => by
    have := ct_le (inr μ (nI r)) 24
    omega
  | n + 1, i, d, h1, h2 => by
    have h6 := hC.1
    have hct := ct_le (inr μ (nI r)) 24
    rw [b_X8_mixResources_43]
    refine ok_ite (fun _ => ?_) (fun hlt => ?_)
    · rw [q_busy hr h6, q_queueing hr h6, q_longest hr h6]
      exact ok_bnO (ok_eq rfl) (fun _ _ => ok_bnO (dg_mix _ _ _ _) (fun _ _ => ok_bnO (ok_eq rfl) (fun _ _ => ok_bnO (dg_mix _ _ _ _) (fun _ _ => ok_bnO (ok_eq rfl) (fun _ _ => ok_bnO (dg_mix _ _ _ _) (fun _ _ => hk _))))))
    · rw [nI_leI (by omega) (by omega)] at hlt
      rw [nI_1]
      exact ok_bnO (q_queuedAt hC hI hr (by omega)) (fun _ _ => ok_bnO (dg_mix _ _ _ _) (fun _ _ => dg_res43 hC hI hr k9 hk n (i + 1) _ (by omega) (by omega)))
theorem dg_res {F : Fg} (hC : Cfg F K) (hI : Inv F K (fun _ => False) 99 T N μ) : ∀ (n r : Nat) (d : Int64), r ≤ F.sz 0 → 6 < n + r → Ok (b_X8_mixResources_2 F n μ d (nI r)) tt
  | 0, r, d, h1, h2 => by
    have := hC.1
    omega
  | n + 1, r, d, h1, h2 => by
    have h6 := hC.1
    rw [b_X8_mixResources_2]
    refine ok_ite (fun _ => ok_some trivial) (fun hlt => ?_)
    rw [nI_leI (by omega) (by omega)] at hlt
    have hr : r < F.sz 0 := by omega
    rw [q_queued hr h6 (hI.cst.2.1 r hr).1, q_free hr h6]
    refine ok_bnO (ok_eq rfl) (fun v hv => ok_bnO (ok_eq rfl) (fun _ _ => ok_bnO (dg_mix _ _ _ _) (fun _ _ => ok_bnO (dg_mix _ _ _ _) (fun _ _ => ?_))))
    rw [hv]
    exact dg_res43 hC hI hr _ (fun d => by rw [nI_1]; exact dg_res hC hI n (r + 1) d (by omega) (by omega)) fu 0 _ (Nat.zero_le _) fu_24
theorem dg_sto {F : Fg} (hC : Cfg F K) (hI : Inv F K (fun _ => False) 99 T N μ) : ∀ (n s : Nat) (d : Int64), s ≤ F.sz 1 → 4 < n + s → Ok (b_X8_mixStores_2 F n μ d (nI s)) tt
  | 0, s, d, h1, h2 => by
    have := hC.2.1
    omega
  | n + 1, s, d, h1, h2 => by
    have h4 := hC.2.1
    rw [b_X8_mixStores_2]
    refine ok_ite (fun _ => ok_some trivial) (fun hlt => ?_)
    rw [nI_leI (by omega) (by omega)] at hlt
    have hs : s < F.sz 1 := by omega
    rw [q_level hs h4, q_blocked hs h4 (hI.cst.2.2 s hs).1, q_blocked hs h4 (hI.cst.2.2 s hs).1, q_area hs h4, nI_1]
    exact ok_bnO (ok_eq rfl) (fun _ _ => ok_bnO (dg_mix _ _ _ _) (fun _ _ => ok_bnO (ok_eq rfl) (fun _ _ => ok_bnO (dg_mix _ _ _ _) (fun _ _ => ok_bnO (ok_eq rfl) (fun _ _ => ok_bnO (dg_mix _ _ _ _) (fun _ _ => ok_bnO (ok_eq rfl) (fun _ _ => ok_bnO (dg_mix _ _ _ _) (fun _ _ => dg_sto hC hI n (s + 1) _ (by omega) (by omega)))))))))
theorem dg_tal67 {k : Nat} (hY : g.tz 0 = 1) (hz : g.tz 2 ≤ 10) (h8 : g.ts 1000 8 = nI k) (hk5 : k ≤ 512 * g.tz 2) (k9 : Mem → Int64 → Int32 → Option Int64) (hk : ∀ d, Ok (k9 μ d 1) tt) : ∀ (n i : Nat) (d : Int64), i ≤ k → k < n + i → Ok (b_X8_mixTallies_67 g k9 n μ d 0 (nI k) (nI i)) tt
  | 0, i, d, h1, h2 => absurd h2 (by omega)
  | n + 1, i, d, h1, h2 => by
    rw [b_X8_mixTallies_67]
    refine ok_ite (fun _ => hk _) (fun hlt => ?_)
    rw [nI_leI (by omega) (by omega)] at hlt
    rw [t_sumOf hY h8 (by omega) (show i < k by omega) (by omega) hz, nI_1]
    exact ok_bnO (ok_eq rfl) (fun _ _ => ok_bnO (dg_mix _ _ _ _) (fun _ _ => dg_tal67 hY hz h8 hk5 k9 hk n (i + 1) _ (by omega) (by omega)))
theorem dg_tal26 {k : Nat} (hY : g.tz 0 = 1) (hz : g.tz 2 ≤ 10) (h8 : g.ts 1000 8 = nI k) (hk5 : k ≤ 512 * g.tz 2) (hk3 : k < 3000) (k9 : Mem → Int64 → Int32 → Option Int64) (hk : ∀ d, Ok (k9 μ d 1) tt) : ∀ (n i : Nat) (d : Int64), i ≤ 4 → 4 < n + i → Ok (b_X8_mixTallies_26 g k9 n μ d 0 (nI i)) tt
  | 0, i, d, h1, h2 => absurd h2 (by omega)
  | n + 1, i, d, h1, h2 => by
    rw [b_X8_mixTallies_26]
    refine ok_ite (fun _ => ?_) (fun hlt => ?_)
    · rw [t_batches hY, h8]
      refine ok_bnO (ok_eq rfl) (fun v hv => ok_bnO (dg_mix _ _ _ _) (fun _ _ => ?_))
      rw [hv]
      exact dg_tal67 hY hz h8 hk5 k9 hk fu 0 _ (Nat.zero_le _) (show k < 3000 + 0 by omega)
    · rw [show (3 : Int32) = nI 3 from rfl, nI_ltI (by decide) (by omega)] at hlt
      rw [t_ofTally hY (by omega), nI_1]
      exact ok_bnO (ok_eq rfl) (fun _ _ => ok_bnO (dg_mix _ _ _ _) (fun _ _ => dg_tal26 hY hz h8 hk5 hk3 k9 hk n (i + 1) _ (by omega) (by omega)))
theorem dg_tal (hTI : TI z g.T n) (hn : n ≤ 1300) (hz : g.tz 2 ≤ 10) (d : Int64) : Ok (f_X8_mixTallies g μ d) tt := by
  obtain ⟨h0, m, k, o, ba, os, h1, h2, h3, h4, h5, h6, e0, e1, e8, e6, e7, hlg, h12, h13, h14, h15⟩ := hTI
  have hkm : k ≤ m := by
    rw [h4]
    have := Nat.le_mul_of_pos_right k h2
    omega
  have hY : g.tz 0 = 1 := h0
  unfold f_X8_mixTallies
  rw [show fu = 2998 + 1 + 1 from rfl, b_X8_mixTallies_2, hY, if_neg (by decide), t_tallied hY]
  refine ok_bnO (ok_eq rfl) (fun _ _ => ok_bnO (dg_mix _ _ _ _) (fun _ _ => ?_))
  refine dg_tal26 hY hz e8 h12 (by omega) _ (fun d => ?_) fu 0 _ (Nat.zero_le _) (by decide)
  rw [b_X8_mixTallies_2, hY, if_pos (by decide)]
  exact ok_some trivial
theorem dg_78 (hTI : TI z g.T n) (hn : n ≤ 1300) (hz : g.tz 2 ≤ 10) : ∀ (m i : Nat) (d : Int64), i ≤ 4 → 4 < m + i → Ok (b_X8_digest_78 g m μ d (nI i)) tt
  | 0, i, d, h1, h2 => absurd h2 (by omega)
  | m + 1, i, d, h1, h2 => by
    rw [b_X8_digest_78]
    refine ok_ite (fun _ => ok_bnO (dg_tal hTI hn hz _) (fun _ _ => ok_some trivial)) (fun hlt => ?_)
    rw [show (4 : Int32) = nI 4 from rfl, nI_leI (by decide) (by omega)] at hlt
    rw [q_awaiting (by omega), nI_1]
    exact ok_bnO (ok_eq rfl) (fun _ _ => ok_bnO (dg_mix _ _ _ _) (fun _ _ => dg_78 hTI hn hz m (i + 1) _ (by omega) (by omega)))
theorem t_digest (hC : Cfg g.F K) (hI : Inv g.F K (fun _ => False) 99 T N μ) (hTI : TI z g.T n) (hn : n ≤ 1300) (hz : g.tz 2 ≤ 10) : Ok (f_X8_digest g μ) tt := by
  obtain ⟨hc, hc2, hc3⟩ := ti_nat hI.st.1
  have hst := hI.st
  unfold f_X8_digest
  refine ok_bnO (P := tt) (ok_some trivial) (fun _ _ => ok_bnO (dg_mix _ _ _ _) (fun _ _ => ok_bnO (P := tt) (ok_some trivial) (fun _ _ => ok_bnO (dg_mix _ _ _ _) (fun _ _ => ok_bnO (P := tt) (by rw [q_events]; exact ok_some trivial) (fun _ _ => ok_bnO (dg_mix _ _ _ _) (fun _ _ => ok_bnO q_nextTime (fun _ _ => ok_bnO (dg_mix _ _ _ _) (fun _ _ => ok_bnO (P := tt) (ok_some trivial) (fun _ _ => ok_bnO (dg_mix _ _ _ _) (fun _ _ => ok_bnO (P := tt) (ok_some trivial) (fun _ _ => ok_bnO (dg_mix _ _ _ _) (fun _ _ => ?_))))))))))))
  exact ok_bnO (dg_proc hI hC.1 hc (by omega) fu 0 _ (Nat.zero_le _) fu_24) (fun _ _ => ok_bnO (dg_res hC hI fu 0 _ (Nat.zero_le _) (by decide)) (fun _ _ => ok_bnO (dg_sto hC hI fu 0 _ (Nat.zero_le _) (by decide)) (fun _ _ => dg_78 hTI hn hz fu 0 _ (Nat.zero_le _) (by decide))))
end
