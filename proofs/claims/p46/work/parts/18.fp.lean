/-! doubles that are not below 0 (or no number): sums, products, quotients of such ones are such ones -/
def fp_ok : FP.Core.Datum → Prop
  | .nan => True
  | .inf s => s = false
  | .fin s c q => s = false ∧ c < 9007199254740992 ∧ q ≤ 971
def fp_ps : FP.Core.Datum → Prop
  | .nan => True
  | .inf s => s = false
  | .fin s _ _ => s = false
/-- not below 0, or no number -/
def fp_nn (x : UInt64) : Prop := fp_ps (FP.Core.decode FP.Core.b64 x.toNat)
theorem fp_tails : FP.Core.b64.tails = 4503599627370496 := rfl
theorem fp_exps : FP.Core.b64.exps = 2048 := rfl
theorem fp_qmin : FP.Core.b64.qmin = -1074 := rfl
theorem fp_qmax : FP.Core.b64.qmax = 971 := rfl
theorem fp_p : (2 : Nat) ^ FP.Core.b64.p = 9007199254740992 := rfl
theorem fp_enc {d : FP.Core.Datum} (h : fp_ok d) : FP.Core.encode FP.Core.b64 d < 9223372036854775808 := by
  cases d with
  | nan => decide +kernel
  | inf s => rw [show s = false from h]; decide +kernel
  | fin s c q =>
    obtain ⟨rfl, h1, h2⟩ := h
    unfold FP.Core.encode FP.Core.assemble
    rw [fp_tails, fp_exps, fp_qmin]
    simp only [Bool.toNat_false]
    by_cases hc : c < 4503599627370496
    · rw [if_pos hc]; omega
    · rw [if_neg hc]
      have h3 : (q - -1074).toNat + 1 ≤ 2046 := by omega
      have key : ∀ w : Nat, w ≤ 2046 → (0 * 2048 + w) * 4503599627370496 + (c - 4503599627370496) < 9223372036854775808 := by
        intro w hw
        omega
      exact key _ h3
theorem fp_small {n : Nat} (h : n < 9223372036854775808) : fp_ps (FP.Core.decode FP.Core.b64 n) := by
  have hs : FP.Core.fieldS FP.Core.b64 n = false := by
    unfold FP.Core.fieldS
    rw [fp_tails, fp_exps]
    have : n / 4503599627370496 / 2048 = 0 := by omega
    rw [this]
    rfl
  unfold FP.Core.decode
  split
  · split
    · exact hs
    · trivial
  · split
    · exact hs
    · exact hs
theorem fp_of {d : FP.Core.Datum} (h : fp_ok d) : fp_nn (UInt64.ofNat (FP.Core.encode FP.Core.b64 d)) := by
  have h1 := fp_enc h
  unfold fp_nn
  rw [UInt64.toNat_ofNat_of_lt' (by show _ < 18446744073709551616; omega)]
  exact fp_small h1
theorem fp_bound {c : Nat} {q : Int} (hc : c < 9007199254740992) : fp_ok (FP.Core.bound FP.Core.b64 false c q) := by
  unfold FP.Core.bound
  rw [fp_qmax]
  by_cases h : q ≤ 971
  · rw [if_pos h]; exact ⟨rfl, hc, h⟩
  · rw [if_neg h]; rfl
theorem fp_settle (c : Nat) (q : Int) : fp_ok (FP.Core.settle FP.Core.b64 false c q) := by
  unfold FP.Core.settle
  rw [fp_p]
  by_cases h : c < 9007199254740992
  · rw [if_pos h]; exact fp_bound h
  · rw [if_neg h]; exact fp_bound ((Nat.le_of_ble_eq_true rfl : _ + 1 ≤ _))
theorem fp_ratio (n d : Nat) (e : Int) : fp_ok (FP.Core.roundRatio FP.Core.b64 false n d e) := by
  unfold FP.Core.roundRatio
  by_cases h : n = 0
  · rw [if_pos h]; exact ⟨rfl, by decide, by rw [fp_qmin]; decide⟩
  · rw [if_neg h]; exact fp_settle _ _
theorem fp_round {d : FP.Core.Datum} (h : fp_ps d) : fp_ok (FP.Core.round FP.Core.b64 d) := by
  cases d with
  | nan => trivial
  | inf s => exact h
  | fin s c q => rw [show s = false from h]; exact fp_ratio _ _ _
theorem fp_sum {a b : FP.Core.Datum} (ha : fp_ps a) (hb : fp_ps b) : fp_ps (FP.Core.exactSum a b) := by
  cases a with
  | nan => trivial
  | inf s =>
    rw [show s = false from ha]
    cases b with
    | nan => trivial
    | inf t => rw [show t = false from hb]; exact rfl
    | fin t d r => exact rfl
  | fin s c q =>
    rw [show s = false from ha]
    cases b with
    | nan => trivial
    | inf t => exact hb
    | fin t d r =>
      rw [show t = false from hb]
      show FP.Core.sumSign false false _ = false
      unfold FP.Core.sumSign FP.Core.sumUnits FP.Core.signed
      simp only [Bool.false_eq_true, if_false, Bool.and_false]
      generalize FP.Core.inUnits c q (min q r) = x
      generalize FP.Core.inUnits d r (min q r) = y
      by_cases h : (x : Int) + (y : Int) = 0
      · rw [if_pos h]
      · rw [if_neg h]; exact decide_eq_false (by omega)
theorem fp_prod {a b : FP.Core.Datum} (ha : fp_ps a) (hb : fp_ps b) : fp_ps (FP.Core.exactProduct a b) := by
  cases a with
  | nan => trivial
  | inf s =>
    rw [show s = false from ha]
    cases b with
    | nan => trivial
    | inf t => rw [show t = false from hb]; exact rfl
    | fin t d r =>
      rw [show t = false from hb]
      show fp_ps (if d = 0 then .nan else .inf (false != false))
      by_cases h : d = 0
      · rw [if_pos h]; trivial
      · rw [if_neg h]; rfl
  | fin s c q =>
    rw [show s = false from ha]
    cases b with
    | nan => trivial
    | inf t =>
      rw [show t = false from hb]
      show fp_ps (if c = 0 then .nan else .inf (false != false))
      by_cases h : c = 0
      · rw [if_pos h]; trivial
      · rw [if_neg h]; rfl
    | fin t d r => rw [show t = false from hb]; exact rfl
theorem fp_quot {a b : FP.Core.Datum} (ha : fp_ps a) (hb : fp_ps b) : fp_ok (FP.Core.quotient FP.Core.b64 a b) := by
  cases a with
  | nan => trivial
  | inf s =>
    rw [show s = false from ha]
    cases b with
    | nan => trivial
    | inf t => trivial
    | fin t d r => rw [show t = false from hb]; exact rfl
  | fin s c q =>
    rw [show s = false from ha]
    cases b with
    | nan => trivial
    | inf t => rw [show t = false from hb]; exact ⟨rfl, by decide, by rw [fp_qmin]; decide⟩
    | fin t d r =>
      rw [show t = false from hb]
      show fp_ok (if d = 0 then (if c = 0 then .nan else .inf (false != false)) else FP.Core.roundRatio FP.Core.b64 (false != false) c d (q - r))
      by_cases h : d = 0
      · rw [if_pos h]
        by_cases h2 : c = 0
        · rw [if_pos h2]; trivial
        · rw [if_neg h2]; rfl
      · rw [if_neg h]; exact fp_ratio _ _ _
theorem fp_dadd {x y : UInt64} (hx : fp_nn x) (hy : fp_nn y) : fp_nn (FP.dadd x y) := fp_of (fp_round (fp_sum hx hy))
theorem fp_dmul {x y : UInt64} (hx : fp_nn x) (hy : fp_nn y) : fp_nn (FP.dmul x y) := fp_of (fp_round (fp_prod hx hy))
theorem fp_ddiv {x y : UInt64} (hx : fp_nn x) (hy : fp_nn y) : fp_nn (FP.ddiv x y) := fp_of (fp_quot hx hy)
theorem fp_l2d {a : Int64} (h : 0 ≤ a.toInt) : fp_nn (FP.l2d a) := by
  refine fp_of (fp_round ?_)
  show decide (a.toInt < 0) = false
  exact decide_eq_false (by omega)
theorem fp_nan {r : UInt64} (h : isNaN64 r = true) : fp_nn r := by
  have h1 := isNaN64_iff.mp h
  rw [show (0x7fffffffffffffff : Nat) = 2 ^ 63 - 1 from rfl, Nat.and_two_pow_sub_one_eq_mod] at h1
  have h2 : FP.Core.fieldE FP.Core.b64 r.toNat = FP.Core.b64.exps - 1 := by
    unfold FP.Core.fieldE
    rw [fp_tails, fp_exps]
    omega
  have h3 : ¬ FP.Core.fieldT FP.Core.b64 r.toNat = 0 := by
    unfold FP.Core.fieldT
    rw [fp_tails]
    omega
  unfold fp_nn FP.Core.decode
  rw [if_pos h2, if_neg h3]
  trivial
theorem fp_alike {r x : UInt64} (h : alike64 r x = true) (hx : fp_nn x) : fp_nn r := by
  unfold alike64 at h
  rcases Bool.or_eq_true_iff.mp h with h | h
  · rw [of_decide_eq_true h]; exact hx
  · exact fp_nan (Bool.and_eq_true_iff.mp h).1
theorem fp_0 : fp_nn FP.dconst0 := fp_small (by decide)
theorem fp_cmp {r : UInt64} (h : fp_nn r) : FP.dcmp r FP.dconst0 ≠ some Ordering.lt := by
  have e : FP.Core.decode FP.Core.b64 FP.dconst0.toNat = .fin false 0 (-1074) := by decide +kernel
  show FP.Core.order (FP.Core.decode FP.Core.b64 r.toNat) (FP.Core.decode FP.Core.b64 FP.dconst0.toNat) ≠ _
  rw [e]
  unfold fp_nn at h
  cases hd : FP.Core.decode FP.Core.b64 r.toNat with
  | nan => intro z; cases z
  | inf s =>
    rw [hd] at h
    rw [show s = false from h]
    intro z
    exact absurd z (by decide)
  | fin s c q =>
    rw [hd] at h
    rw [show s = false from h]
    intro z
    have z1 := Option.some.inj z
    unfold FP.Core.signed FP.Core.inUnits at z1
    simp only [Bool.false_eq_true, if_false, Nat.zero_mul] at z1
    have z2 := Int.compare_eq_lt.mp z1
    omega
