/-! the tally at the beginning -/
theorem ti0 {z j19 : Nat} {ad : Nat → Nat} {D : va_G} {cy : Nat → ClassId} {szf : Nat → Nat} {shf : Mem} (h : j19 < 3) : TI z (Bg.r z (ad, (D, cy, szf, shf, 1, trB j19))).T 0 := by
  have e : (Bg.r z (ad, (D, cy, szf, shf, 1, trB j19))).T.2.1 1000 = trB j19 := by
    show (if (1000 : Nat) = 1000 then trB j19 else fun _ => 0) = trB j19
    exact if_pos rfl
  unfold TI
  rw [e]
  refine ⟨rfl, 0, 0, 0, j19 + 1, 0, Nat.le_refl _, by omega, by omega, by omega, by omega, by omega, rfl, rfl, rfl, rfl, rfl, ?_, ?_, ?_, fun _ => rfl, fun i hi => absurd hi (Nat.not_lt_zero _)⟩
  · show (0 : Int32) ≤ 0
    decide
  · exact Nat.zero_le _
  · show 512 * 0 < 0 + 512
    decide
