/-! the kernel as build leaves it -/
def KB0 (ki0 : Int32) (j4 j8 j12 : Nat) : Kx := (fun2 ki0 2, fun2 (nI (j4 + 1)) (nI (j8 + 1)), fun2 (nI (j12 + 4)) 3)
theorem muB_lo {ki0 : Int32} {j4 j8 j12 j15 k : Nat} (h : k < 100) : muB ki0 j4 j8 j12 j15 k = mem0 k := by
  unfold muB muS muR
  rw [if_neg (by omega), if_neg (by omega), if_neg (by omega), if_neg (by omega)]
theorem muB_r0 {ki0 : Int32} {j4 j8 j12 j15 : Nat} : muB ki0 j4 j8 j12 j15 102 = rowR 0 ki0 (nI (j4 + 1)) := by
  unfold muB muS muR
  rw [if_neg (by decide), if_neg (by decide), if_neg (by decide), if_pos (by decide)]
theorem muB_r1 {ki0 : Int32} {j4 j8 j12 j15 : Nat} : muB ki0 j4 j8 j12 j15 103 = rowR 1 2 (nI (j8 + 1)) := by
  unfold muB muS muR
  rw [if_neg (by decide), if_neg (by decide), if_pos (by decide)]
theorem muB_s0 {ki0 : Int32} {j4 j8 j12 j15 : Nat} : muB ki0 j4 j8 j12 j15 108 = rowS 0 (nI (j12 + 4)) (nI j15) := by
  unfold muB muS muR
  rw [if_neg (by decide), if_pos (by decide)]
theorem muB_s1 {ki0 : Int32} {j4 j8 j12 j15 : Nat} : muB ki0 j4 j8 j12 j15 109 = rowS 1 3 1 := by
  unfold muB muS muR
  rw [if_pos (by decide)]
theorem mem0_9 {k : Nat} (h : k < 24) : mem0 (k + 1) 9 = -1 := by
  rw [mem0_p ⟨by omega, by omega⟩]
  rfl
theorem cfg0 {szf : Nat → Nat} {shf : Mem} {sn : Nat} {ki0 : Int32} {j4 j8 j12 : Nat} (h4 : j4 < 3) (h8 : j8 < 3) (h12 : j12 < 8) (hs3 : sn ≤ 3) (z0 : szf 0 = 2) (z1 : szf 1 = 2) (z2 : szf 2 = sn) (hb : ∀ j, szf (10 + j) ≤ 10) (hF : SFI sn szf shf) : Cfg (szf, shf) (KB0 ki0 j4 j8 j12) := by
  refine ⟨by show szf 0 ≤ 6; omega, by show szf 1 ≤ 4; omega, by show szf 2 ≤ 8; omega, fun r hr => ?_, fun r hr => ?_, hb, fun j i _ hi => ?_⟩
  · have hr : r < szf 0 := hr
    rcases (show r = 0 ∨ r = 1 by omega) with rfl | rfl
    · show 1 ≤ (nI (j4 + 1)).toInt ∧ (nI (j4 + 1)).toInt ≤ 9
      rw [nI_toInt (by omega)]
      omega
    · show 1 ≤ (nI (j8 + 1)).toInt ∧ (nI (j8 + 1)).toInt ≤ 9
      rw [nI_toInt (by omega)]
      omega
  · have hr : r < szf 1 := hr
    rcases (show r = 0 ∨ r = 1 by omega) with rfl | rfl
    · show 1 ≤ (nI (j12 + 4)).toInt ∧ (nI (j12 + 4)).toInt ≤ 99
      rw [nI_toInt (by omega)]
      omega
    · show 1 ≤ (3 : Int32).toInt ∧ (3 : Int32).toInt ≤ 99
      decide
  · obtain ⟨co, a, b9, h1, h2⟩ := hF j i hi
    show IN (szf, shf) (shf (138 + 16 * j + i))
    rw [h2]
    exact ICh_IN z0 z1 z2 h1
theorem ct_zero {P : Nat → Bool} : ∀ n, (∀ i, i < n → P i = false) → ct P n = 0 := by
  intro n
  induction n with
  | zero => intro _; rfl
  | succ n ih =>
    intro h
    have h1 := ih (fun i hi => h i (by omega))
    have h2 := h n (by omega)
    simp [ct, h1, h2]
theorem sm_zero {f : Nat → Int} : ∀ n, (∀ i, i < n → f i = 0) → sm f n = 0 := by
  intro n
  induction n with
  | zero => intro _; rfl
  | succ n ih =>
    intro h
    have h1 := ih (fun i hi => h i (by omega))
    have h2 := h n (by omega)
    simp [sm, h1, h2]
set_option maxHeartbeats 4000000 in
theorem inv0 {szf : Nat → Nat} {shf : Mem} {ki0 : Int32} {j4 j8 j12 j15 : Nat} (h4 : j4 < 3) (h8 : j8 < 3) (h12 : j12 < 8) (h15 : j15 < 4) (z0 : szf 0 = 2) (z1 : szf 1 = 2) : Inv (szf, shf) (KB0 ki0 j4 j8 j12) (fun _ => False) 99 0 0 (muB ki0 j4 j8 j12 j15) := by
  have e0 : ∀ j, muB ki0 j4 j8 j12 j15 0 j = 0 := fun j => by rw [muB_lo (by decide), mem0_n (by unfold isP; omega)]
  have eP : ∀ k, k < 24 → muB ki0 j4 j8 j12 j15 (k + 1) = fun j => if j = 0 then nI k else if j = 1 ∨ j = 7 ∨ j = 9 then -1 else 0 := fun k hk => by
    rw [muB_lo (by omega), mem0_p ⟨by omega, by omega⟩, show k + 1 - 1 = k by omega]
  have eA : ∀ k r, k < 24 → muB ki0 j4 j8 j12 j15 (k + 49) r = 0 := fun k r hk => by rw [muB_lo (by omega), mem0_n (by unfold isP; omega)]
  have t0 : ((0 : Int32)).toInt = 0 := rfl
  have hh : ∀ r, hsm (muB ki0 j4 j8 j12 j15) r = 0 := fun r => sm_zero 24 (fun k hk => by rw [eA k r hk]; rfl)
  refine ⟨⟨fun k hk => by rw [eP k hk]; rfl, fun r hr => ?_, fun r hr => ?_⟩, by rw [e0, t0]; omega, by rw [e0, t0]; omega, by rw [e0, t0]; omega, by rw [e0, t0]; omega, fun r hr => ?_, fun r hr _ => ?_, fun r hr => ?_, fun k hk => ?_, fun i j hi _ _ h => ?_⟩
  · have hr : r < szf 0 := hr
    rcases (show r = 0 ∨ r = 1 by omega) with rfl | rfl
    · rw [muB_r0]; exact ⟨rfl, rfl, rfl⟩
    · rw [muB_r1]; exact ⟨rfl, rfl, rfl⟩
  · have hr : r < szf 1 := hr
    rcases (show r = 0 ∨ r = 1 by omega) with rfl | rfl
    · rw [muB_s0]; exact ⟨rfl, rfl⟩
    · rw [muB_s1]; exact ⟨rfl, rfl⟩
  · have hr : r < szf 0 := hr
    rw [hh, e0, t0]
    rcases (show r = 0 ∨ r = 1 by omega) with rfl | rfl
    · rw [muB_r0]
      show 0 ≤ (nI (j4 + 1)).toInt ∧ (nI (j4 + 1)).toInt + 0 = (nI (j4 + 1)).toInt ∧ (0 : Int) ≤ (0 : Int32).toInt ∧ (0 : Int32).toInt ≤ 0 * (nI (j4 + 1)).toInt ∧ (0 : Int) ≤ (0 : Int32).toInt ∧ (0 : Int32).toInt ≤ 0 * (0 : Int32).toInt ∧ (0 : Int) ≤ (0 : Int32).toInt ∧ (0 : Int32).toInt ≤ 24
      rw [nI_toInt (by omega), t0]
      omega
    · rw [muB_r1]
      show 0 ≤ (nI (j8 + 1)).toInt ∧ (nI (j8 + 1)).toInt + 0 = (nI (j8 + 1)).toInt ∧ (0 : Int) ≤ (0 : Int32).toInt ∧ (0 : Int32).toInt ≤ 0 * (nI (j8 + 1)).toInt ∧ (0 : Int) ≤ (0 : Int32).toInt ∧ (0 : Int32).toInt ≤ 0 * (0 : Int32).toInt ∧ (0 : Int) ≤ (0 : Int32).toInt ∧ (0 : Int32).toInt ≤ 24
      rw [nI_toInt (by omega), t0]
      omega
  · have hr : r < szf 0 := hr
    rw [ct_zero 24 (fun k hk => by
      unfold _root_.Jvm.Pilot.CSandglassLaw_law_r5577_628644.inr
      rw [eP k hk]
      refine decide_eq_false (fun h9 => ?_)
      have h9 : (-1 : Int32) = nI r := h9
      have h8 : (-1 : Int32).toInt = (nI r).toInt := congrArg Int32.toInt h9
      rw [nI_toInt (by omega), show (-1 : Int32).toInt = -1 from rfl] at h8
      omega)]
    rcases (show r = 0 ∨ r = 1 by omega) with rfl | rfl
    · rw [muB_r0]; show ((0 : Nat) : Int) ≤ (0 : Int32).toInt; rw [t0]; omega
    · rw [muB_r1]; show ((0 : Nat) : Int) ≤ (0 : Int32).toInt; rw [t0]; omega
  · have hr : r < szf 1 := hr
    rw [e0, t0]
    rcases (show r = 0 ∨ r = 1 by omega) with rfl | rfl
    · rw [muB_s0]
      show 0 ≤ (nI j15).toInt ∧ (nI j15).toInt ≤ (nI (j12 + 4)).toInt ∧ (0 : Int) ≤ (0 : Int32).toInt ∧ (0 : Int32).toInt ≤ 0 * (nI (j12 + 4)).toInt
      rw [nI_toInt (by omega), nI_toInt (by omega), t0]
      omega
    · rw [muB_s1]
      show 0 ≤ (1 : Int32).toInt ∧ (1 : Int32).toInt ≤ (3 : Int32).toInt ∧ (0 : Int) ≤ (0 : Int32).toInt ∧ (0 : Int32).toInt ≤ 0 * (3 : Int32).toInt
      decide
  · rw [e0, e0, e0, eP k hk, t0]
    refine ⟨Or.inl rfl, ⟨by show (0 : Int) ≤ (0 : Int32).toInt; decide, by show (0 : Int32).toInt ≤ 20; decide⟩, ⟨by show (0 : Int) ≤ (0 : Int32).toInt; decide, by show (0 : Int32).toInt ≤ 0; decide⟩, fun r _ => by rw [eA k r hk, t0]; omega, fun r _ _ => eA k r hk, fun h9 => absurd rfl h9, Or.inl rfl, fun h9 => h9.elim, fun _ => Or.inr (Or.inl ⟨rfl, rfl, rfl, by omega, fun r _ => eA k r hk⟩)⟩
  · rw [eP i hi] at h
    exact absurd rfl h
