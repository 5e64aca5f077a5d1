/-! the kernel as build leaves it -/
def KB0 (ki0 : Int32) (j4 j8 j12 : Nat) : Kx := (fun2 ki0 2, fun2 (nI (j4 + 1)) (nI (j8 + 1)), fun2 (nI (j12 + 4)) 3)
theorem muB_lo {ki0 : Int32} {j4 j8 j12 j15 k : Nat} (h : k < 100) : muB ki0 j4 j8 j12 j15 k = mem0 k := by
  unfold muB muS muR
  rw [if_neg (by omega), if_neg (by omega), if_neg (by omega), if_neg (by omega)]
theorem muB_r0 {ki0 : Int32} {j4 j8 j12 j15 : Nat} : muB ki0 j4 j8 j12 j15 102 = rowR 0 ki0 (nI (j4 + 1)) := by
  unfold muB muS muR
  rw [if_neg (by decide), if_neg (by decide), if_neg (by decide), if_pos (by decide)]
theorem muB_r1 {ki0 : Int32} {j4 j8 j12 j15 : Nat} : muB ki0 j4 j8 j12 j15 103 = rowR 1 2 (nI (j8 + 1)) := by
  unfold muB muS muR
  rw [if_neg (by decide), if_neg (by decide), if_pos (by decide)]
theorem muB_s0 {ki0 : Int32} {j4 j8 j12 j15 : Nat} : muB ki0 j4 j8 j12 j15 108 = rowS 0 (nI (j12 + 4)) (nI j15) := by
  unfold muB muS muR
  rw [if_neg (by decide), if_pos (by decide)]
theorem muB_s1 {ki0 : Int32} {j4 j8 j12 j15 : Nat} : muB ki0 j4 j8 j12 j15 109 = rowS 1 3 1 := by
  unfold muB muS muR
  rw [if_pos (by decide)]
theorem mem0_9 {k : Nat} (h : k < 24) : mem0 (k + 1) 9 = -1 := by
  rw [mem0_p ⟨by omega, by omega⟩]
  rfl
theorem cfg0 {szf : Nat → Nat} {shf : Mem} {sn : Nat} {ki0 : Int32} {j4 j8 j12 : Nat} (h4 : j4 < 3) (h8 : j8 < 3) (h12 : j12 < 8) (hs3 : sn ≤ 3) (z0 : szf 0 = 2) (z1 : szf 1 = 2) (z2 : szf 2 = sn) (hb : ∀ j, szf (10 + j) ≤ 10) (hF : SFI sn szf shf) : Cfg (szf, shf) (KB0 ki0 j4 j8 j12) := by
  refine ⟨by show szf 0 ≤ 6; omega, by show szf 1 ≤ 4; omega, by show szf 2 ≤ 8; omega, fun r hr => ?_, fun r hr => ?_, hb, fun j i _ hi => ?_⟩
  · have hr : r < szf 0 := hr
    rcases (show r = 0 ∨ r = 1 by omega) with rfl | rfl
    · show 1 ≤ (nI (j4 + 1)).toInt ∧ (nI (j4 + 1)).toInt ≤ 9
      rw [nI_toInt (by omega)]
      omega
    · show 1 ≤ (nI (j8 + 1)).toInt ∧ (nI (j8 + 1)).toInt ≤ 9
      rw [nI_toInt (by omega)]
      omega
  · have hr : r < szf 1 := hr
    rcases (show r = 0 ∨ r = 1 by omega) with rfl | rfl
    · show 1 ≤ (nI (j12 + 4)).toInt ∧ (nI (j12 + 4)).toInt ≤ 99
      rw [nI_toInt (by omega)]
      omega
    · show 1 ≤ (3 : Int32).toInt ∧ (3 : Int32).toInt ≤ 99
      decide
  · obtain ⟨co, a, b9, h1, h2⟩ := hF j i hi
    show IN (szf, shf) (shf (138 + 16 * j + i))
    rw [h2]
    exact ICh_IN z0 z1 z2 h1
