/-! THE PURE PART, 15: longs in two parts, Cauchy -/
theorem lg_sh {x : Int64} {s : Int64} {n : Nat} (hs : (s.toBitVec.smod 64).toNat = n) : (x >>> s).toInt = x.toInt / 2 ^ n := by
  show (BitVec.sshiftRight' x.toBitVec (s.toBitVec.smod 64)).toInt = _
  rw [BitVec.toInt_sshiftRight', hs, Int.shiftRight_eq_div_pow]
  rfl
theorem lg_sh20 (x : Int64) : (x >>> ((20 : Int32).toInt64 &&& 63)).toInt = x.toInt / 1048576 := lg_sh (n := 20) (by decide)
theorem lg_sh40 (x : Int64) : (x >>> ((40 : Int32).toInt64 &&& 63)).toInt = x.toInt / 1099511627776 := lg_sh (n := 40) (by decide)
theorem lg_nat (x : Int64) : x.toInt = (x.toBitVec.toNat : Int) ∨ x.toInt = (x.toBitVec.toNat : Int) - 18446744073709551616 := by
  show x.toBitVec.toInt = _ ∨ x.toBitVec.toInt = _
  rw [BitVec.toInt_eq_toNat_cond]
  split
  · exact Or.inl rfl
  · exact Or.inr rfl
theorem lg_and {x m : Int64} {n : Nat} (hn : n ≤ 62) (hm : m.toBitVec.toNat = 2 ^ n - 1) : (x &&& m).toInt = (x.toBitVec.toNat % 2 ^ n : Nat) := by
  have e : (x &&& m).toBitVec.toNat = x.toBitVec.toNat % 2 ^ n := by
    rw [Int64.toBitVec_and, BitVec.toNat_and, hm, Nat.and_two_pow_sub_one_eq_mod]
  have hp : 0 < 2 ^ n := Nat.two_pow_pos n
  have hlt : x.toBitVec.toNat % 2 ^ n < 2 ^ n := Nat.mod_lt _ hp
  have hle : 2 ^ n ≤ 2 ^ 62 := Nat.pow_le_pow_right (by decide) hn
  have h62 : (2 : Nat) ^ 62 = 4611686018427387904 := by decide
  have h := lg_nat (x &&& m)
  have h2 : (x &&& m).toInt < 9223372036854775808 := (x &&& m).toInt_lt
  have h3 : -9223372036854775808 ≤ (x &&& m).toInt := (x &&& m).le_toInt
  rw [e] at h
  rcases h with h | h
  · exact h
  · omega
theorem lg_lo20 (x : Int64) : (x &&& ((1 <<< ((20 : Int32).toInt64 &&& 63)) - 1)).toInt = x.toInt % 1048576 := by
  rw [lg_and (n := 20) (by decide) (by decide)]
  have e : (2 : Nat) ^ 20 = 1048576 := by decide
  rw [e]
  rcases lg_nat x with h | h <;> rw [h] <;> omega
theorem lg_lo40 (x : Int64) : (x &&& ((1 <<< ((40 : Int32).toInt64 &&& 63)) - 1)).toInt = x.toInt % 1099511627776 := by
  rw [lg_and (n := 40) (by decide) (by decide)]
  have e : (2 : Nat) ^ 40 = 1099511627776 := by decide
  rw [e]
  rcases lg_nat x with h | h <;> rw [h] <;> omega
theorem lg_bm {n : Int} (h1 : -9223372036854775808 ≤ n) (h2 : n < 9223372036854775808) : n.bmod (2 ^ 64) = n := Int.bmod_eq_of_le_mul_two (by omega) (by omega)
theorem lg_add {a b : Int64} (h1 : -9223372036854775808 ≤ a.toInt + b.toInt) (h2 : a.toInt + b.toInt < 9223372036854775808) : (a + b).toInt = a.toInt + b.toInt := by rw [Int64.toInt_add, lg_bm h1 h2]
theorem lg_sub {a b : Int64} (h1 : -9223372036854775808 ≤ a.toInt - b.toInt) (h2 : a.toInt - b.toInt < 9223372036854775808) : (a - b).toInt = a.toInt - b.toInt := by rw [Int64.toInt_sub, lg_bm h1 h2]
theorem lg_mul {a b : Int64} (h1 : -9223372036854775808 ≤ a.toInt * b.toInt) (h2 : a.toInt * b.toInt < 9223372036854775808) : (a * b).toInt = a.toInt * b.toInt := by rw [Int64.toInt_mul, lg_bm h1 h2]
theorem lg_shl20 {x : Int64} (h1 : 0 ≤ x.toInt) (h2 : x.toInt < 1048576) : (x <<< ((20 : Int32).toInt64 &&& 63)).toInt = x.toInt * 1048576 := by
  have e0 : (20 : Int32).toInt64 &&& 63 = 20 := by decide
  have e : (x <<< (20 : Int64)).toBitVec = x.toBitVec <<< ((20 : Int64).toBitVec.smod 64) := rfl
  have e2 : ((20 : Int64).toBitVec.smod 64).toNat = 20 := by decide
  rw [e0]
  have h := lg_nat x
  have hb : x.toBitVec.toNat < 18446744073709551616 := x.toBitVec.isLt
  have e3 : (x <<< (20 : Int64)).toBitVec.toNat = x.toBitVec.toNat * 1048576 % 18446744073709551616 := by
    rw [e, BitVec.shiftLeft_eq', BitVec.toNat_shiftLeft, e2, Nat.shiftLeft_eq]
  have h' := lg_nat (x <<< (20 : Int64))
  have h2' : (x <<< (20 : Int64)).toInt < 9223372036854775808 := (x <<< (20 : Int64)).toInt_lt
  have h3' : -9223372036854775808 ≤ (x <<< (20 : Int64)).toInt := (x <<< (20 : Int64)).le_toInt
  rw [e3] at h'
  have h4 : x.toBitVec.toNat < 1048576 := by omega
  have h5 : x.toBitVec.toNat * 1048576 % 18446744073709551616 = x.toBitVec.toNat * 1048576 := Nat.mod_eq_of_lt (by omega)
  rw [h5] at h'
  rcases h with h | h <;> rcases h' with h' | h' <;> omega
/-- Cauchy: of n numbers -/
theorem cau {f : Nat → Int} : ∀ n : Nat, 0 ≤ (n : Int) * sm (fun i => f i * f i) n - sm f n * sm f n
  | 0 => by simp [sm]
  | n + 1 => by
    have ih := cau (f := f) n
    have hd : ∀ (x : Int) (m : Nat), 0 ≤ sm (fun i => f i * f i) m - 2 * (x * sm f m) + (m : Int) * (x * x) := fun x m => by
      induction m with
      | zero => simp [sm]
      | succ m ihm =>
        have hsq : 0 ≤ (f m - x) * (f m - x) := by
          rcases Int.le_total 0 (f m - x) with h | h
          · exact Int.mul_nonneg h h
          · have := Int.mul_nonneg (show 0 ≤ -(f m - x) by omega) (show 0 ≤ -(f m - x) by omega)
            rw [Int.neg_mul_neg] at this
            exact this
        have e1 : sm (fun i => f i * f i) (m + 1) = sm (fun i => f i * f i) m + f m * f m := rfl
        have e2 : sm f (m + 1) = sm f m + f m := rfl
        rw [e1, e2]
        grind
    have h := hd (f n) n
    have e1 : sm (fun i => f i * f i) (n + 1) = sm (fun i => f i * f i) n + f n * f n := rfl
    have e2 : sm f (n + 1) = sm f n + f n := rfl
    rw [e1, e2]
    grind
