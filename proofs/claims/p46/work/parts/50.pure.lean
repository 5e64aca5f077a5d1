/-! THE PURE PART, 17: what the face does -/
section
variable {F : Fg} {K : Kx} {X X' : Nat → Prop} {e e' q r s a j k c : Nat} {T T' N N' : Int} {μ ν ρ κ : Mem}
theorem a_setLuck (hC : Cfg F K) (hI : Inv F K X e T N μ) {l : Int32} (h0 : 0 ≤ l.toInt) (h1 : l.toInt ≤ 9999) : Ok (f_X8_setLuck F μ l) (fun x => Inv F K X e T N x.1 ∧ (∀ j, j ≠ 7 → x.1 0 j = μ 0 j) ∧ ∀ k, k ≠ 0 → x.1 k = μ k) := by
  unfold f_X8_setLuck
  rw [p_isIn, if_pos ⟨by rw [ti_0]; exact h0, h1⟩]
  refine ok_bnO (ok_eq rfl) (fun z hz => ?_)
  rw [hz, if_neg (by decide)]
  have fj : ∀ j, j ≠ 7 → put μ 0 7 l 0 j = μ 0 j := fun j hj => pu_nj μ 0 _ hj
  exact ok_bnd (ok_some ⟨inv_other hC hI (fun k hk _ => pu_nk μ 7 l hk) (fj 5 (by decide)) (fj 6 (by decide)) (by dsimp only; rw [pu_at]; exact ⟨h0, h1⟩) (fj 9 (by decide)), fj, fun k hk => pu_nk μ 7 l hk⟩)
theorem a_start (hC : Cfg F K) (hI : Inv F K X e T N μ) (hT : T ≤ 100000) (he : e < 2147483648) (hN : N < 2000000000) (hj : j < F.sz 2) (hc : (μ 0 5).toInt < 24) {rk de : Int32} (hr0 : 0 ≤ rk.toInt) (hr1 : rk.toInt ≤ 9) (hd0 : 0 ≤ de.toInt) (hd1 : de.toInt ≤ 20) :
    Ok (f_X8_start F μ (nI j) rk de) (fun x => Inv F K X e T (N + 1) x.1 ∧ (x.1 0 5).toInt = (μ 0 5).toInt + 1 ∧ x.1 0 6 = μ 0 6 ∧ x.1 0 8 = μ 0 8) := by
  have h8 := hC.2.2.1
  unfold f_X8_start f_X8_demandScript
  rw [p_script F μ hj h8]
  refine ok_bnO (P := fun o => o = some (114 + j)) ?_ (fun o ho => ?_)
  · refine ok_bnO (ok_eq rfl) (fun o ho => ?_)
    rw [ho]
    exact ok_cs (fun z => by cases z) (fun v hv => by cases hv; exact ok_grd ⟨by omega, by omega, by omega⟩ (ok_some rfl))
  rw [ho]
  refine ok_cs (fun z => by cases z) (fun v hv => ?_)
  cases hv
  refine ok_grd ⟨by omega, by omega, by omega⟩ ?_
  rw [p_isIn, if_pos ⟨by rw [ti_0]; exact hr0, hr1⟩, p_isIn, if_pos ⟨by rw [ti_0]; exact hd0, by rw [show (999 : Int32).toInt = 999 from rfl]; omega⟩]
  refine ok_bnO (ok_eq rfl) (fun z hz => ?_)
  rw [hz, if_neg (by decide)]
  refine ok_bnO (ok_eq rfl) (fun z hz => ?_)
  rw [hz, if_neg (by decide), if_pos (ti_ltI.mpr hc)]
  refine ok_bnO (i_begin hC hI hT he hN hj hd0 hd1) (fun ν hν => ok_some ⟨hν.1, hν.2.2.2 hc, hν.2.1.1, hν.2.1.2.1⟩)
theorem a_interrupt (hC : Cfg F K) (hI : Inv F K (fun _ => False) 99 T N μ) (hT : T ≤ 100000) (hN : N + 73 < 2000000000) (hc : μ 0 5 = nI c) (h24 : c ≤ 24) (hk : k < c) (h1 : 1 ≤ (μ (k + 1) 6).toInt) (h4 : (μ (k + 1) 6).toInt ≤ 4) :
    Ok (f_X8_interrupt F μ (nI k)) (fun x => Inv F K (fun _ => False) 99 T (N + 73) x.1 ∧ Fr F (k + 1) μ x.1 ∧ x.1 (k + 1) 6 = 0 ∧ (x.1 (k + 1) 7).toInt = (μ 0 6).toInt ∧ (μ (k + 1) 6 = 1 → x.2 = μ (k + 1) 7 - μ 0 6)) := by
  unfold f_X8_interrupt
  rw [q_demandProcess hc h24 hk]
  refine ok_bnO (ok_eq rfl) (fun o ho => ?_)
  rw [ho]
  refine ok_cs (fun z => by cases z) (fun v hv => ?_)
  cases hv
  have hP : isP (k + 1) := lp_is (by omega)
  refine ok_grd hP ?_
  rw [p_isIn, if_pos ⟨h1, h4⟩]
  refine ok_bnO (ok_eq rfl) (fun z hz => ?_)
  rw [hz, if_neg (by decide)]
  refine ok_bnO (i_interruptOne hC hI hT hN hP id (by rw [hc, ti_nI (by omega)]; omega)) (fun ν hν => ok_some hν)
theorem p_held (F : Fg) (μ : Mem) {t : Nat} (ht : 49 ≤ t + 48) : f_X2_heldInAll F μ t = some (0 + μ (t + 48) 0 + μ (t + 48) 1 + μ (t + 48) 2 + μ (t + 48) 3 + μ (t + 48) 4 + μ (t + 48) 5) := by
  have ha : alen (t + 48) = 6 := alen_6 ht
  have step : ∀ (n i : Nat) (x : Int32), i < 6 → b_X2_heldInAll_13 F (n + 1) μ x (t + 48) (nI 6) (nI i) = b_X2_heldInAll_13 F n μ (x + μ (t + 48) i) (t + 48) (nI 6) (nI (i + 1)) := fun n i x hi => by
    rw [b_X2_heldInAll_13, if_neg (by rw [nI_leI (by decide) (by omega)]; omega), ha]
    unfold grd
    rw [if_pos (nI_in hi (by decide)), nI_clamp (by omega), nI_1]
  unfold f_X2_heldInAll
  rw [ha, show fu = 2993 + 1 + 1 + 1 + 1 + 1 + 1 + 1 from rfl, show (0 : Int32) = nI 0 from rfl]
  rw [step _ 0 _ (by decide), step _ 1 _ (by decide), step _ 2 _ (by decide), step _ 3 _ (by decide), step _ 4 _ (by decide), step _ 5 _ (by decide), b_X2_heldInAll_13, if_pos (by decide)]
theorem a_cancel (hC : Cfg F K) (h0 : F.sz 0 = 2) (hI : Inv F K (fun _ => False) 99 T N μ) (hT : T ≤ 100000) (hN : N + 360 < 2000000000) (hc : μ 0 5 = nI c) (h24 : c ≤ 24) (hk : k < c) (h5 : (μ (k + 1) 6).toInt < 5) :
    Ok (f_X8_cancel F μ (nI k)) (fun x => Inv F K (fun _ => False) 99 T (N + 360) x.1 ∧ Fr F (k + 1) μ x.1 ∧ x.1 (k + 1) 6 = 7 ∧ x.2 = 0 + μ (k + 49) 0 + μ (k + 49) 1) := by
  unfold f_X8_cancel
  rw [q_demandProcess hc h24 hk]
  refine ok_bnO (ok_eq rfl) (fun o ho => ?_)
  rw [ho]
  refine ok_cs (fun z => by cases z) (fun v hv => ?_)
  cases hv
  have hP : isP (k + 1) := lp_is (by omega)
  refine ok_grd hP ?_
  have hn : ¬ (μ (k + 1) 6 = 5 ∨ μ (k + 1) 6 = 6 ∨ μ (k + 1) 6 = 7) := fun h => by
    rcases h with h | h | h <;> rw [h] at h5 <;> exact absurd h5 (by decide)
  rw [p_isOver, if_neg hn]
  refine ok_bnO (ok_eq rfl) (fun z hz => ?_)
  rw [hz, if_pos rfl, p_held F μ (by omega)]
  refine ok_bnO (ok_eq rfl) (fun hd hhd => ?_)
  have e48 : k + 1 + 48 = k + 49 := by omega
  have hzz := (hI.prc k (by omega)).2.2.2.2.1
  rw [e48, hzz 2 (by decide) (by omega), hzz 3 (by decide) (by omega), hzz 4 (by decide) (by omega), hzz 5 (by decide) (by omega)] at hhd
  refine ok_bnO (i_finish hC hI hT (by decide) hN hP (by rw [hc, ti_nI (by omega)]; omega) (Or.inr (Or.inr rfl))) (fun ν hν => ok_some ⟨hν.1.xx (fun k _ => ⟨fun y => y.elim, fun y => y.1.elim (fun z => y.2 z) id⟩), hν.2.1, hν.2.2, ?_⟩)
  rw [hhd]
  simp
/-! the trial becomes as the real kernel is -/
/-- which slots are copied -/
def cpS (F : Fg) (k j : Nat) : Prop := (k = 0 ∧ 5 ≤ j ∧ j < 10) ∨ (1 ≤ k ∧ k < 25 ∧ 1 ≤ j ∧ j < 14) ∨ (25 ≤ k ∧ k < 49 ∧ j < 16) ∨ (49 ≤ k ∧ k < 97 ∧ j < 6) ∨ (102 ≤ k ∧ k < 102 + F.sz 0 ∧ 3 ≤ j ∧ j < 7) ∨ (108 ≤ k ∧ k < 108 + F.sz 1 ∧ 2 ≤ j ∧ j < 4)
/-- the same but for those of S -/
def Ag9 (S : Nat → Nat → Prop) (μ κ : Mem) : Prop := ∀ k j, ¬ S k j → μ k j = κ k j
theorem Ag9.put {S S' : Nat → Nat → Prop} (h : Ag9 S μ κ) (k j : Nat) (hS : ∀ a b, S a b → ¬ S' a b → a = k ∧ b = j) : Ag9 S' (put μ k j (κ k j)) κ := by
  intro a b hab
  by_cases hk : a = k
  · subst hk
    by_cases hj : b = j
    · subst hj; exact pu_at μ a b _
    · rw [pu_nj μ a _ hj]
      exact h a b (fun z => hj (hS a b z hab).2)
  · rw [pu_nk μ j _ hk]
    exact h a b (fun z => hk (hS a b z hab).1)
theorem Ag9.sub {S S' : Nat → Nat → Prop} (h : Ag9 S μ κ) (hS : ∀ a b, S a b → S' a b) : Ag9 S' μ κ := fun a b z => h a b (fun y => z (hS a b y))
theorem cp_row (F : Fg) {t n0 : Nat} (hl : alen t = n0) (h16 : n0 ≤ 16) {S : Nat → Nat → Prop} : ∀ (n i : Nat) (μ : Mem), i ≤ n0 → 16 < n + i → Ag9 (fun a b => S a b ∨ a = t ∧ i ≤ b ∧ b < n0) μ κ → Ok (b_X8_copyRow2_2 F F n μ κ t t (nI i)) (fun ν => Ag9 S ν κ)
  | 0, i, μ, h1, h2, _ => absurd h2 (by omega)
  | n + 1, i, μ, h1, h2, hA => by
    rw [b_X8_copyRow2_2, hl]
    refine ok_ite (fun hle => ok_some ?_) (fun hlt => ok_ite (fun hle => ok_some ?_) (fun _ => ?_))
    · rw [nI_leI (by omega) (by omega)] at hle
      exact hA.sub (fun a b z => by rcases z with z | z; exact z; omega)
    · rw [nI_leI (by omega) (by omega)] at hle
      exact hA.sub (fun a b z => by rcases z with z | z; exact z; omega)
    · rw [nI_leI (by omega) (by omega)] at hlt
      refine ok_grd (nI_in (by omega) (by omega)) (ok_grd (nI_in (by omega) (by omega)) (ok_bnd ?_))
      rw [nI_clamp (by omega), nI_1]
      refine cp_row F hl h16 n (i + 1) _ (by omega) (by omega) (hA.put t i (fun a b z hz => ?_))
      rcases z with z | z
      · exact absurd (Or.inl z) hz
      · refine ⟨z.1, ?_⟩
        by_cases e9 : b = i
        · exact e9
        · exact absurd (Or.inr ⟨z.1, by omega, z.2.2⟩) hz
theorem cp_copyRow (F : Fg) {t n0 : Nat} (hl : alen t = n0) (h16 : n0 ≤ 16) {S : Nat → Nat → Prop} (hA : Ag9 (fun a b => S a b ∨ a = t ∧ b < n0) μ κ) : Ok (f_X8_copyRow2 F F μ κ t t) (fun ν => Ag9 S ν κ) :=
  cp_row F hl h16 fu 0 μ (Nat.zero_le _) (by decide) (hA.sub (fun a b z => by rcases z with z | z; exact Or.inl z; exact Or.inr ⟨z.1, Nat.zero_le _, z.2⟩))
theorem cp_proc (F : Fg) {t : Nat} (ht : isP t) (h1 : κ t 1 < 0 ∨ (κ t 1).toNatClampNeg < 8) (h13 : κ t 13 = 0 ∨ κ t 13 = 1) {S : Nat → Nat → Prop} (hA : Ag9 (fun a b => S a b ∨ a = t ∧ 1 ≤ b ∧ b < 14 ∨ a = t + 24 ∧ b < 16 ∨ a = t + 48 ∧ b < 6 ∨ a = t + 72 ∧ b < 6) μ κ) : Ok (f_X2_copyFrom2 F F μ κ t t) (fun ν => Ag9 S ν κ) := by
  obtain ⟨t1, t2⟩ := id ht
  unfold f_X2_copyFrom2
  have hst : ∀ (i : Nat) (ρ : Mem), 1 ≤ i → i < 14 → Ag9 (fun a b => S a b ∨ a = t ∧ i ≤ b ∧ b < 14 ∨ a = t + 24 ∧ b < 16 ∨ a = t + 48 ∧ b < 6 ∨ a = t + 72 ∧ b < 6) ρ κ → Ag9 (fun a b => S a b ∨ a = t ∧ i + 1 ≤ b ∧ b < 14 ∨ a = t + 24 ∧ b < 16 ∨ a = t + 48 ∧ b < 6 ∨ a = t + 72 ∧ b < 6) (put ρ t i (κ t i)) κ := fun i ρ hi hi2 hA => hA.put t i (fun a b z hz => by
    rcases z with z | z | z
    · exact absurd (Or.inl z) hz
    · refine ⟨z.1, ?_⟩
      by_cases e9 : b = i
      · exact e9
      · exact absurd (Or.inr (Or.inl ⟨z.1, by omega, z.2.2⟩)) hz
    · exact absurd (Or.inr (Or.inr z)) hz)
  have a1 := hst 1 _ (by decide) (by decide) hA
  have a2 := hst 2 _ (by decide) (by decide) a1
  have a3 := hst 3 _ (by decide) (by decide) a2
  have a4 := hst 4 _ (by decide) (by decide) a3
  have a5 := hst 5 _ (by decide) (by decide) a4
  have a6 := hst 6 _ (by decide) (by decide) a5
  have a7 := hst 7 _ (by decide) (by decide) a6
  have a8 := hst 8 _ (by decide) (by decide) a7
  have a9 := hst 9 _ (by decide) (by decide) a8
  have a10 := hst 10 _ (by decide) (by decide) a9
  have a11 := hst 11 _ (by decide) (by decide) a10
  have a12 := hst 12 _ (by decide) (by decide) a11
  have a13 := hst 13 _ (by decide) (by decide) a12
  refine ok_grd h1 (ok_bnd (ok_bnd (ok_bnd (ok_bnd (ok_bnd ?_)))))
  unfold b_X2_copyFrom2_40
  refine ok_bnd (ok_bnd (ok_bnd (ok_bnd (ok_bnd ?_))))
  unfold b_X2_copyFrom2_80
  refine ok_bnd (ok_bnd (ok_grd h13 (ok_bnd ?_)))
  unfold b_X2_copyFrom2_104
  have e14 : ∀ a b : Nat, S a b ∨ a = t ∧ 13 + 1 ≤ b ∧ b < 14 ∨ a = t + 24 ∧ b < 16 ∨ a = t + 48 ∧ b < 6 ∨ a = t + 72 ∧ b < 6 → ((S a b ∨ a = t + 72 ∧ b < 6) ∨ a = t + 48 ∧ b < 6) ∨ a = t + 24 ∧ b < 16 := fun a b z => by
    rcases z with z | z | z | z | z
    · exact Or.inl (Or.inl (Or.inl z))
    · omega
    · exact Or.inr z
    · exact Or.inl (Or.inr z)
    · exact Or.inl (Or.inl (Or.inr z))
  refine ok_bnO (cp_copyRow F (show alen (t + 24) = 16 from if_pos (by omega)) (by decide) (a13.sub e14)) (fun ν1 n1 => ?_)
  refine ok_bnO (cp_copyRow F (alen_6 (by omega)) (by decide) n1) (fun ν2 n2 => ?_)
  refine ok_bnO (cp_copyRow F (alen_6 (by omega)) (by decide) n2) (fun ν3 n3 => ok_some n3)
theorem cp_res (F : Fg) (t : Nat) {S : Nat → Nat → Prop} (hA : Ag9 (fun a b => S a b ∨ a = t ∧ 3 ≤ b ∧ b < 7) μ κ) : Ok (f_X3_copyFrom2 F F μ κ t t) (fun ν => Ag9 S ν κ) := by
  unfold f_X3_copyFrom2
  have hst : ∀ (i : Nat) (ρ : Mem), 3 ≤ i → i < 7 → Ag9 (fun a b => S a b ∨ a = t ∧ i ≤ b ∧ b < 7) ρ κ → Ag9 (fun a b => S a b ∨ a = t ∧ i + 1 ≤ b ∧ b < 7) (put ρ t i (κ t i)) κ := fun i ρ hi hi2 hA => hA.put t i (fun a b z hz => by
    rcases z with z | z
    · exact absurd (Or.inl z) hz
    · refine ⟨z.1, ?_⟩
      by_cases e9 : b = i
      · exact e9
      · exact absurd (Or.inr ⟨z.1, by omega, z.2.2⟩) hz)
  have a3 := hst 3 _ (by decide) (by decide) hA
  have a4 := hst 4 _ (by decide) (by decide) a3
  have a5 := hst 5 _ (by decide) (by decide) a4
  have a6 := hst 6 _ (by decide) (by decide) a5
  exact ok_bnd (ok_bnd (ok_bnd (ok_bnd (ok_some (a6.sub (fun a b z => by rcases z with z | z; exact z; omega))))))
theorem cp_sto (F : Fg) (t : Nat) {S : Nat → Nat → Prop} (hA : Ag9 (fun a b => S a b ∨ a = t ∧ 2 ≤ b ∧ b < 4) μ κ) : Ok (f_X5_copyFrom2 F F μ κ t t) (fun ν => Ag9 S ν κ) := by
  unfold f_X5_copyFrom2
  have hst : ∀ (i : Nat) (ρ : Mem), 2 ≤ i → i < 4 → Ag9 (fun a b => S a b ∨ a = t ∧ i ≤ b ∧ b < 4) ρ κ → Ag9 (fun a b => S a b ∨ a = t ∧ i + 1 ≤ b ∧ b < 4) (put ρ t i (κ t i)) κ := fun i ρ hi hi2 hA => hA.put t i (fun a b z hz => by
    rcases z with z | z
    · exact absurd (Or.inl z) hz
    · refine ⟨z.1, ?_⟩
      by_cases e9 : b = i
      · exact e9
      · exact absurd (Or.inr ⟨z.1, by omega, z.2.2⟩) hz)
  have a2 := hst 2 _ (by decide) (by decide) hA
  have a3 := hst 3 _ (by decide) (by decide) a2
  exact ok_bnd (ok_bnd (ok_some (a3.sub (fun a b z => by rcases z with z | z; exact z; omega))))
theorem cp_138 (F : Fg) (h4 : F.sz 1 ≤ 4) : ∀ (n i : Nat) (μ : Mem), i ≤ F.sz 1 → 4 < n + i → Ag9 (fun a b => 108 + i ≤ a ∧ a < 108 + F.sz 1 ∧ 2 ≤ b ∧ b < 4) μ κ → Ok (b_X7_copyFrom2_138 F F n μ κ (nI i)) (fun ν => Ag9 (fun _ _ => False) ν κ)
  | 0, i, μ, h1, h2, _ => absurd h2 (by omega)
  | n + 1, i, μ, h1, h2, hA => by
    rw [b_X7_copyFrom2_138]
    refine ok_ite (fun hle => ok_some ?_) (fun hlt => ok_ite (fun hle => absurd hle hlt) (fun _ => ?_))
    · rw [nI_leI (by omega) (by omega)] at hle
      exact hA.sub (fun a b z => by omega)
    · rw [nI_leI (by omega) (by omega)] at hlt
      refine ok_grd (nI_in (by omega) (by omega)) (ok_bnd ?_)
      rw [nI_clamp (by omega), nI_1]
      refine ok_grd ⟨by omega, by omega, by omega⟩ (ok_grd (fun z => by rcases z with z | z; exact nI_pos (by omega) z; omega) (ok_bnd (ok_grd ⟨by omega, by omega, by omega⟩ ?_)))
      refine ok_bnO (cp_sto F (108 + i) (S := fun a b => 108 + (i + 1) ≤ a ∧ a < 108 + F.sz 1 ∧ 2 ≤ b ∧ b < 4) (hA.sub (fun a b z => ?_))) (fun ν hν => cp_138 F h4 n (i + 1) ν (by omega) (by omega) hν)
      by_cases e9 : a = 108 + i
      · exact Or.inr ⟨e9, z.2.2⟩
      · exact Or.inl ⟨by omega, z.2⟩
theorem cp_83 (F : Fg) (h6 : F.sz 0 ≤ 6) (h4 : F.sz 1 ≤ 4) : ∀ (n i : Nat) (μ : Mem), i ≤ F.sz 0 → 6 < n + i → Ag9 (fun a b => (102 + i ≤ a ∧ a < 102 + F.sz 0 ∧ 3 ≤ b ∧ b < 7) ∨ 108 ≤ a ∧ a < 108 + F.sz 1 ∧ 2 ≤ b ∧ b < 4) μ κ → Ok (b_X7_copyFrom2_83 F F n μ κ (nI i)) (fun ν => Ag9 (fun _ _ => False) ν κ)
  | 0, i, μ, h1, h2, _ => absurd h2 (by omega)
  | n + 1, i, μ, h1, h2, hA => by
    rw [b_X7_copyFrom2_83]
    refine ok_ite (fun hle => ?_) (fun hlt => ok_ite (fun hle => absurd hle hlt) (fun _ => ?_))
    · rw [nI_leI (by omega) (by omega)] at hle
      exact cp_138 F h4 fu 0 μ (Nat.zero_le _) (by decide) (hA.sub (fun a b z => by omega))
    · rw [nI_leI (by omega) (by omega)] at hlt
      refine ok_grd (nI_in (by omega) (by omega)) (ok_bnd ?_)
      rw [nI_clamp (by omega), nI_1]
      refine ok_grd ⟨by omega, by omega, by omega⟩ (ok_grd (fun z => by rcases z with z | z; exact nI_pos (by omega) z; omega) (ok_bnd (ok_grd ⟨by omega, by omega, by omega⟩ ?_)))
      refine ok_bnO (cp_res F (102 + i) (S := fun a b => (102 + (i + 1) ≤ a ∧ a < 102 + F.sz 0 ∧ 3 ≤ b ∧ b < 7) ∨ 108 ≤ a ∧ a < 108 + F.sz 1 ∧ 2 ≤ b ∧ b < 4) (hA.sub (fun a b z => ?_))) (fun ν hν => cp_83 F h6 h4 n (i + 1) ν (by omega) (by omega) hν)
      rcases z with z | z
      · by_cases e9 : a = 102 + i
        · exact Or.inr ⟨e9, z.2.2⟩
        · exact Or.inl (Or.inl ⟨by omega, z.2⟩)
      · exact Or.inl (Or.inr z)
theorem cp_42 (F : Fg) (h6 : F.sz 0 ≤ 6) (h4 : F.sz 1 ≤ 4) (hp : ∀ k, isP k → (κ k 1 < 0 ∨ (κ k 1).toNatClampNeg < 8) ∧ (κ k 13 = 0 ∨ κ k 13 = 1)) : ∀ (n i : Nat) (μ : Mem), i ≤ 24 → 24 < n + i → Ag9 (fun a b => (i + 1 ≤ a ∧ a < 25 ∧ 1 ≤ b ∧ b < 14) ∨ (i + 25 ≤ a ∧ a < 49 ∧ b < 16) ∨ (i + 49 ≤ a ∧ a < 73 ∧ b < 6) ∨ (i + 73 ≤ a ∧ a < 97 ∧ b < 6) ∨ (102 ≤ a ∧ a < 102 + F.sz 0 ∧ 3 ≤ b ∧ b < 7) ∨ 108 ≤ a ∧ a < 108 + F.sz 1 ∧ 2 ≤ b ∧ b < 4) μ κ → Ok (b_X7_copyFrom2_42 F F n μ κ (nI i)) (fun ν => Ag9 (fun _ _ => False) ν κ)
  | 0, i, μ, h1, h2, _ => absurd h2 (by omega)
  | n + 1, i, μ, h1, h2, hA => by
    rw [b_X7_copyFrom2_42]
    refine ok_ite (fun hle => ?_) (fun hlt => ok_ite (fun hle => absurd hle hlt) (fun _ => ?_))
    · rw [lp_le (by omega)] at hle
      exact cp_83 F h6 h4 fu 0 μ (Nat.zero_le _) (by decide) (hA.sub (fun a b z => by omega))
    · rw [lp_le (by omega)] at hlt
      have hi : i < 24 := by omega
      refine ok_grd (lp_gd hi) (ok_bnd ?_)
      rw [lp_at hi]
      refine ok_grd (lp_gd hi) (ok_bnd ?_)
      rw [nI_1]
      have hpi := hp (i + 1) (lp_is hi)
      refine ok_bnO (cp_proc F (lp_is hi) hpi.1 hpi.2 (S := fun a b => (i + 1 + 1 ≤ a ∧ a < 25 ∧ 1 ≤ b ∧ b < 14) ∨ (i + 1 + 25 ≤ a ∧ a < 49 ∧ b < 16) ∨ (i + 1 + 49 ≤ a ∧ a < 73 ∧ b < 6) ∨ (i + 1 + 73 ≤ a ∧ a < 97 ∧ b < 6) ∨ (102 ≤ a ∧ a < 102 + F.sz 0 ∧ 3 ≤ b ∧ b < 7) ∨ 108 ≤ a ∧ a < 108 + F.sz 1 ∧ 2 ≤ b ∧ b < 4) (hA.sub (fun a b z => ?_))) (fun ν hν => cp_42 F h6 h4 hp n (i + 1) ν hi (by omega) hν)
      omega
/-- a trial that is the real kernel but for the slots that are copied becomes that kernel -/
theorem cp_all (hC : Cfg F K) (hI : Inv F K X e T N κ) (hA : Ag9 (cpS F) μ κ) : f_X7_copyFrom2 F F μ κ = some κ := by
  have hp : ∀ k, isP k → (κ k 1 < 0 ∨ (κ k 1).toNatClampNeg < 8) ∧ (κ k 13 = 0 ∨ κ k 13 = 1) := fun k hk => by
    have z := hI.p hk
    have h8 := hC.2.2.1
    refine ⟨?_, z.2.2.2.2.2.2.1⟩
    rcases z.1 with y | ⟨j, hj, y⟩
    · rw [y]; exact Or.inl (by decide)
    · rw [y, nI_clamp (by omega)]; exact Or.inr (by omega)
  have hk : Ok (f_X7_copyFrom2 F F μ κ) (fun ν => Ag9 (fun _ _ => False) ν κ) := by
    unfold f_X7_copyFrom2
    have hst : ∀ (i : Nat) (ρ : Mem), 5 ≤ i → i < 10 → Ag9 (fun a b => cpS F a b ∧ ¬ (a = 0 ∧ b < i)) ρ κ → Ag9 (fun a b => cpS F a b ∧ ¬ (a = 0 ∧ b < i + 1)) (put ρ 0 i (κ 0 i)) κ := fun i ρ hi hi2 hA => hA.put 0 i (fun a b z hz => by
      have h1 : a = 0 ∧ b < i + 1 := by
        by_cases h : a = 0 ∧ b < i + 1
        · exact h
        · exact absurd ⟨z.1, h⟩ hz
      refine ⟨h1.1, ?_⟩
      by_cases e9 : b < i
      · exact absurd ⟨h1.1, e9⟩ z.2
      · omega)
    have a0 : Ag9 (fun a b => cpS F a b ∧ ¬ (a = 0 ∧ b < 5)) μ κ := hA.sub (fun a b z => ⟨z, fun y => by unfold cpS at z; omega⟩)
    have a5 := hst 5 _ (by decide) (by decide) a0
    have a6 := hst 6 _ (by decide) (by decide) a5
    have a7 := hst 7 _ (by decide) (by decide) a6
    have a8 := hst 8 _ (by decide) (by decide) a7
    have a9 := hst 9 _ (by decide) (by decide) a8
    refine ok_bnd (ok_bnd (ok_bnd (ok_bnd (ok_bnd (cp_42 F hC.1 hC.2.1 hp fu 0 _ (Nat.zero_le _) fu_24 (a9.sub (fun a b z => ?_)))))))
    have z1 := z.1
    have z2 := z.2
    unfold cpS at z1
    omega
  obtain ⟨ν, h1, h2⟩ := hk
  rw [h1]
  congr 1
  exact funext (fun a => funext (fun b => h2 a b id))
/-- asked for the end within one event: what comes -/
theorem a_endOf_over (hc : κ 0 5 = nI c) (h24 : c ≤ 24) (hk : k < c) (h5 : κ (k + 1) 6 = 5 ∨ κ (k + 1) 6 = 6 ∨ κ (k + 1) 6 = 7) : f_X8_endOf F F μ κ (nI k) 1 = some (μ, κ 0 6) := by
  unfold f_X8_endOf
  rw [q_demandProcess hc h24 hk]
  unfold bnO csQ grd
  dsimp only
  rw [if_pos ⟨by omega, by omega⟩, p_isIn, if_pos (by decide)]
  dsimp only
  rw [if_neg (by decide), p_isOver, if_pos h5]
  dsimp only
  rw [if_neg (by decide)]
theorem a_endOf (hC : Cfg F K) (hI : Inv F K X e T N κ) (hA : Ag9 (cpS F) μ κ) (hc : κ 0 5 = nI c) (h24 : c ≤ 24) (hk : k < c) (h5 : ¬ (κ (k + 1) 6 = 5 ∨ κ (k + 1) 6 = 6 ∨ κ (k + 1) 6 = 7)) {x : Mem × Log × Option Nat} (hx : f_X7_happen F κ [] = some x) : f_X8_endOf F F μ κ (nI k) 1 = some (x.1, if x.1 (k + 1) 6 = 5 ∨ x.1 (k + 1) 6 = 6 ∨ x.1 (k + 1) 6 = 7 then x.1 0 6 else -1) := by
  unfold f_X8_endOf
  rw [q_demandProcess hc h24 hk]
  unfold bnO csQ grd
  dsimp only
  rw [if_pos ⟨by omega, by omega⟩, p_isIn, if_pos (by decide)]
  dsimp only
  rw [if_neg (by decide), p_isOver, if_neg h5]
  dsimp only
  rw [if_pos rfl, cp_all hC hI hA]
  dsimp only
  rw [p_runToEnd1 hc h24 hk hx]
  rfl
/-- how busy a resource would be: not less than it is -/
theorem a_would (hC : Cfg F K) (hI : Inv F K (fun _ => False) 99 T N κ) (hA : Ag9 (cpS F) μ κ) (hr : r < F.sz 0) {ti : Int32} (h0 : 0 ≤ ti.toInt) (h1 : ti.toInt ≤ 999) (hT : T + ti.toInt + 20 ≤ 5000) (hN : N + 1600000 < 2000000000) :
    Ok (f_X8_wouldBeBusy F F μ κ (nI r) ti) (fun x => Cst F K x.1 ∧ (κ (102 + r) 4).toInt ≤ x.2.toInt) := by
  have h6 := hC.1
  unfold f_X8_wouldBeBusy
  rw [q_demandResource hr h6]
  refine ok_bnO (ok_eq rfl) (fun _ _ => ?_)
  rw [p_isIn, if_pos ⟨by rw [ti_0]; exact h0, h1⟩]
  refine ok_bnO (ok_eq rfl) (fun z hz => ?_)
  rw [hz, if_neg (by decide), cp_all hC hI hA]
  refine ok_bnO (ok_eq rfl) (fun ρ hρ => ?_)
  rw [hρ]
  refine ok_bn3 (i_runFor hC hI h0 hT hN []) (fun ν lg z hν => ?_)
  dsimp only at hν
  rw [p_resource F ν hr h6]
  refine ok_bnO (ok_eq rfl) (fun o ho => ?_)
  rw [ho]
  refine ok_cs (fun z => by cases z) (fun v hv => ?_)
  cases hv
  exact ok_grd ⟨by omega, by omega, by omega⟩ (ok_some ⟨hν.1.cst, hν.2.2.1 r hr⟩)
end
