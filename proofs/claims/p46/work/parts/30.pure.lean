/-! THE PURE PART, 1: what the reads answer -/
/-- a function gives something that is as Q says -/
def Ok {α : Type} (x : Option α) (Q : α → Prop) : Prop := ∃ r, x = some r ∧ Q r
theorem ok_bnd {α β : Type} {x : α} {k : α → Option β} {Q : β → Prop} (h : Ok (k x) Q) : Ok (bnd x k) Q := h
theorem ok_grd {α : Type} {c : Prop} [Decidable c] {x : Option α} {Q : α → Prop} (hc : c) (h : Ok x Q) : Ok (grd c x) Q := by
  unfold grd
  rw [if_pos hc]
  exact h
theorem ok_bnO {α β : Type} {x : Option α} {k : α → Option β} {P : α → Prop} {Q : β → Prop} (h : Ok x P) (hk : ∀ a, P a → Ok (k a) Q) : Ok (bnO x k) Q := by
  obtain ⟨r, rfl, hr⟩ := h
  exact hk r hr
theorem ok_bn2 {α γ β : Type} {x : Option (α × γ)} {k : α → γ → Option β} {P : α × γ → Prop} {Q : β → Prop} (h : Ok x P) (hk : ∀ a c, P (a, c) → Ok (k a c) Q) : Ok (bn2 x k) Q := by
  obtain ⟨r, rfl, hr⟩ := h
  exact hk r.1 r.2 hr
theorem ok_bn3 {α γ δ β : Type} {x : Option (α × γ × δ)} {k : α → γ → δ → Option β} {P : α × γ × δ → Prop} {Q : β → Prop} (h : Ok x P) (hk : ∀ a c d, P (a, c, d) → Ok (k a c d) Q) : Ok (bn3 x k) Q := by
  obtain ⟨r, rfl, hr⟩ := h
  exact hk r.1 r.2.1 r.2.2 hr
theorem ok_some {α : Type} {a : α} {Q : α → Prop} (h : Q a) : Ok (some a) Q := ⟨a, rfl, h⟩
theorem ok_ite {α : Type} {c : Prop} [Decidable c] {a b : Option α} {Q : α → Prop} (h1 : c → Ok a Q) (h2 : ¬ c → Ok b Q) : Ok (if c then a else b) Q := by
  by_cases h : c
  · rw [if_pos h]; exact h1 h
  · rw [if_neg h]; exact h2 h
theorem ok_cs {α β : Type} {x : Option α} {a : Option β} {k : α → Option β} {Q : β → Prop} (h1 : x = none → Ok a Q) (h2 : ∀ v, x = some v → Ok (k v) Q) : Ok (csQ x a k) Q := by
  cases x with
  | none => exact h1 rfl
  | some v => exact h2 v rfl
theorem ok_mono {α : Type} {x : Option α} {P Q : α → Prop} (h : Ok x P) (hk : ∀ a, P a → Q a) : Ok x Q := by
  obtain ⟨r, h1, h2⟩ := h
  exact ⟨r, h1, hk r h2⟩
theorem ok_eq {α : Type} {x : Option α} {a : α} (h : x = some a) : Ok x (fun r => r = a) := ⟨a, h, rfl⟩
/-! ints of 32 bits as whole numbers -/
theorem ti_lt (x : Int32) : x.toInt < 2147483648 := x.toInt_lt
theorem ti_ge (x : Int32) : -2147483648 ≤ x.toInt := x.le_toInt
theorem ti_bm {n : Int} (h1 : -2147483648 ≤ n) (h2 : n < 2147483648) : n.bmod (2 ^ 32) = n := Int.bmod_eq_of_le_mul_two (by omega) (by omega)
theorem ti_add {a b : Int32} (h1 : -2147483648 ≤ a.toInt + b.toInt) (h2 : a.toInt + b.toInt < 2147483648) : (a + b).toInt = a.toInt + b.toInt := by rw [Int32.toInt_add, ti_bm h1 h2]
theorem ti_sub {a b : Int32} (h1 : -2147483648 ≤ a.toInt - b.toInt) (h2 : a.toInt - b.toInt < 2147483648) : (a - b).toInt = a.toInt - b.toInt := by rw [Int32.toInt_sub, ti_bm h1 h2]
theorem ti_mul {a b : Int32} (h1 : -2147483648 ≤ a.toInt * b.toInt) (h2 : a.toInt * b.toInt < 2147483648) : (a * b).toInt = a.toInt * b.toInt := by rw [Int32.toInt_mul, ti_bm h1 h2]
theorem ti_neg {a : Int32} (h2 : a.toInt ≠ -2147483648) : (-a).toInt = -a.toInt := by
  have := ti_lt a
  have := ti_ge a
  rw [Int32.toInt_neg, ti_bm (by omega) (by omega)]
theorem ti_0 : (0 : Int32).toInt = 0 := rfl
theorem ti_1 : (1 : Int32).toInt = 1 := rfl
theorem ti_m1 : (-1 : Int32).toInt = -1 := rfl
theorem ti_le {x y : Int32} : x ≤ y ↔ x.toInt ≤ y.toInt := Int32.le_iff_toInt_le
theorem ti_ltI {x y : Int32} : x < y ↔ x.toInt < y.toInt := Int32.lt_iff_toInt_lt
theorem ti_eq {x y : Int32} : x = y ↔ x.toInt = y.toInt := Int32.toInt_inj.symm
theorem ti_ne {x y : Int32} (h : ¬ x = y) : x.toInt ≠ y.toInt := fun e => h (Int32.toInt_inj.mp e)
theorem ti_nI {n : Nat} (h : n < 2147483648) : (nI n).toInt = (n : Int) := nI_toInt h
/-- a number that isn't below 0, as a number of things -/
theorem ti_nat {x : Int32} (h : 0 ≤ x.toInt) : x = nI x.toNatClampNeg ∧ (x.toNatClampNeg : Int) = x.toInt ∧ x.toNatClampNeg < 2147483648 := by
  have h1 : ((x.toNatClampNeg : Nat) : Int) = x.toInt := Int32.cast_toNatClampNeg x (Int32.le_iff_toInt_le.mpr h)
  have h2 : x.toNatClampNeg < 2147483648 := x.toNatClampNeg_lt
  refine ⟨?_, h1, h2⟩
  rw [ti_eq, ti_nI h2, h1]
/-- the loops over the 24 processes -/
theorem lp_24 : (24 : Int32) = nI 24 := rfl
theorem lp_le {i : Nat} (h : i < 2147483648) : (24 : Int32) ≤ nI i ↔ 24 ≤ i := by rw [lp_24]; exact nI_leI (by decide) h
theorem lp_gd {i : Nat} (h : i < 24) : ¬ (nI i < 0 ∨ 24 ≤ (nI i).toNatClampNeg) := nI_in h (by decide)
theorem lp_at {i : Nat} (h : i < 24) : (nI i).toNatClampNeg + 1 = i + 1 := by rw [nI_clamp (by omega)]
theorem lp_is {i : Nat} (h : i < 24) : isP (i + 1) := ⟨by omega, by omega⟩
theorem fu_24 : 24 < fu + 0 := by decide
/-! puts -/
theorem pu_at (μ : Mem) (k j : Nat) (v : Int32) : put μ k j v k j = v := by rw [put_at]; exact pk_us
theorem pu_nj (μ : Mem) (k : Nat) {j i : Nat} (v : Int32) (h : i ≠ j) : put μ k j v k i = μ k i := by rw [put_at]; exact pk_un h
theorem pu_nk (μ : Mem) {k x : Nat} (j : Nat) (v : Int32) (h : x ≠ k) : put μ k j v x = μ x := put_ne μ j v h
/-! counting and adding over the processes -/
def ct (P : Nat → Bool) : Nat → Nat
  | 0 => 0
  | n + 1 => ct P n + (if P n then 1 else 0)
def sm (f : Nat → Int) : Nat → Int
  | 0 => 0
  | n + 1 => sm f n + f n
theorem ct_le (P : Nat → Bool) : ∀ n, ct P n ≤ n
  | 0 => Nat.le_refl _
  | n + 1 => by
    have := ct_le P n
    show ct P n + (if P n then 1 else 0) ≤ n + 1
    split <;> omega
theorem ct_congr {P P' : Nat → Bool} : ∀ n, (∀ i, i < n → P i = P' i) → ct P n = ct P' n
  | 0, _ => rfl
  | n + 1, h => by
    show ct P n + _ = ct P' n + _
    rw [ct_congr n (fun i hi => h i (by omega)), h n (by omega)]
theorem ct_mono {P P' : Nat → Bool} : ∀ n, (∀ i, i < n → P i = true → P' i = true) → ct P n ≤ ct P' n
  | 0, _ => Nat.le_refl _
  | n + 1, h => by
    show ct P n + (if P n then 1 else 0) ≤ ct P' n + (if P' n then 1 else 0)
    have h1 := ct_mono (P := P) (P' := P') n (fun i hi => h i (by omega))
    have h2 := h n (by omega)
    by_cases e : P n = true
    · rw [if_pos e, if_pos (h2 e)]; omega
    · rw [if_neg e]; omega
theorem sm_congr {f f' : Nat → Int} : ∀ n, (∀ i, i < n → f i = f' i) → sm f n = sm f' n
  | 0, _ => rfl
  | n + 1, h => by
    show sm f n + _ = sm f' n + _
    rw [sm_congr n (fun i hi => h i (by omega)), h n (by omega)]
/-- one of them changed -/
theorem sm_one {f f' : Nat → Int} {q : Nat} : ∀ n, q < n → (∀ i, i < n → i ≠ q → f' i = f i) → sm f' n = sm f n + (f' q - f q)
  | 0, h, _ => absurd h (Nat.not_lt_zero _)
  | n + 1, h, ho => by
    show sm f' n + f' n = sm f n + f n + (f' q - f q)
    by_cases e : q = n
    · subst e
      rw [sm_congr q (fun i hi => ho i (by omega) (by omega))]
      omega
    · rw [sm_one n (by omega) (fun i hi => ho i (by omega)), ho n (by omega) (by omega)]
      omega
theorem sm_nn {f : Nat → Int} : ∀ n, (∀ i, i < n → 0 ≤ f i) → 0 ≤ sm f n
  | 0, _ => Int.le_refl _
  | n + 1, h => by
    have h1 := sm_nn n (fun i hi => h i (by omega))
    have h2 := h n (by omega)
    show 0 ≤ sm f n + f n
    omega
theorem sm_ge {f : Nat → Int} {q : Nat} : ∀ n, q < n → (∀ i, i < n → 0 ≤ f i) → f q ≤ sm f n
  | 0, h, _ => absurd h (Nat.not_lt_zero _)
  | n + 1, h, hn => by
    have h2 := hn n (by omega)
    show f q ≤ sm f n + f n
    by_cases e : q = n
    · subst e
      have := sm_nn q (fun i hi => hn i (by omega))
      omega
    · have := sm_ge (f := f) (q := q) n (by omega) (fun i hi => hn i (by omega))
      omega
/-! the reads -/
theorem p_isIn (F : Fg) (μ : Mem) (x lo hi : Int32) : f_X8_isIn F μ x lo hi = some (if lo.toInt ≤ x.toInt ∧ x.toInt ≤ hi.toInt then 1 else 0) := by
  unfold f_X8_isIn
  by_cases h1 : x < lo
  · rw [if_pos h1, if_neg]
    rw [ti_ltI] at h1
    omega
  · rw [if_neg h1]
    rw [ti_ltI] at h1
    by_cases h2 : hi < x
    · rw [if_pos h2, if_neg]
      rw [ti_ltI] at h2
      omega
    · rw [if_neg h2, if_pos]
      rw [ti_ltI] at h2
      omega
theorem p_at (F : Fg) (μ : Mem) {row j : Nat} (h : j < alen row) (h6 : alen row ≤ 16) : f_X8_at F μ row (nI j) = some (μ row j) := by
  unfold f_X8_at
  rw [if_neg (nI_pos (by omega)), if_neg (nI_ge h (by omega))]
  unfold grd
  rw [if_pos (nI_in h (by omega)), nI_clamp (by omega)]
theorem p_set (F : Fg) (μ : Mem) {row j : Nat} (v : Int32) (h : j < alen row) (h6 : alen row ≤ 16) : f_X8_set F μ row (nI j) v = some (put μ row j v) := by
  unfold f_X8_set
  rw [if_neg (nI_pos (by omega)), if_neg (nI_ge h (by omega))]
  unfold grd
  rw [if_pos (nI_in h (by omega)), nI_clamp (by omega)]
  rfl
theorem alen_6 {k : Nat} (h : 49 ≤ k) : alen k = 6 := if_neg (by omega)
theorem alen_16 (k : Nat) : alen k ≤ 16 := by unfold alen; split <;> decide
/-- any index -/
theorem p_at_any (F : Fg) (μ : Mem) (row : Nat) (i : Int32) : Ok (f_X8_at F μ row i) (fun _ => True) := by
  unfold f_X8_at
  refine ok_ite (fun _ => ok_some trivial) (fun h1 => ok_ite (fun _ => ok_some trivial) (fun h2 => ok_grd ?_ (ok_some trivial)))
  obtain ⟨j, hj, rfl⟩ := nI_of h1
  have h3 : j < alen row := by
    rcases Nat.lt_or_ge j (alen row) with h | h
    · exact h
    · exact absurd (nI_le h hj) h2
  exact nI_in h3 (Nat.lt_of_le_of_lt (alen_16 row) (by decide))
theorem p_set_any (F : Fg) (μ : Mem) (row : Nat) (i v : Int32) : Ok (f_X8_set F μ row i v) (fun ν => ∀ k, k ≠ row → ν k = μ k) := by
  unfold f_X8_set
  refine ok_ite (fun _ => ok_some (fun _ _ => rfl)) (fun h1 => ok_ite (fun _ => ok_some (fun _ _ => rfl)) (fun h2 => ok_grd ?_ (ok_bnd (ok_some (fun k hk => pu_nk μ _ v hk)))))
  obtain ⟨j, hj, rfl⟩ := nI_of h1
  have h3 : j < alen row := by
    rcases Nat.lt_or_ge j (alen row) with h | h
    · exact h
    · exact absurd (nI_le h hj) h2
  exact nI_in h3 (Nat.lt_of_le_of_lt (alen_16 row) (by decide))
theorem p_isOver (F : Fg) (μ : Mem) (t : Nat) : f_X2_isOver F μ t = some (if μ t 6 = 5 ∨ μ t 6 = 6 ∨ μ t 6 = 7 then 1 else 0) := by
  unfold f_X2_isOver
  by_cases h5 : μ t 6 = 5
  · rw [if_pos h5, if_pos (Or.inl h5)]
  · rw [if_neg h5]
    by_cases h6 : μ t 6 = 6
    · rw [if_pos h6, if_pos (Or.inr (Or.inl h6))]
    · rw [if_neg h6]
      by_cases h7 : μ t 6 = 7
      · rw [if_pos h7, if_pos (Or.inr (Or.inr h7))]
      · rw [if_neg h7, if_neg (fun h => by rcases h with h | h | h; exact h5 h; exact h6 h; exact h7 h)]
/-- what goes first, what stands first -/
def sb (μ : Mem) (u v t o : Nat) : Bool := decide ((μ t u).toInt < (μ o u).toInt ∨ μ t u = μ o u ∧ (μ t v).toInt < (μ o v).toInt)
theorem p_goesBefore (F : Fg) (μ : Mem) (t o : Nat) : f_X2_goesBefore F μ t o = some (if sb μ 7 8 t o then 1 else 0) := by
  unfold f_X2_goesBefore
  by_cases h1 : μ t 7 < μ o 7
  · rw [if_pos h1, if_pos (show sb μ 7 8 t o = true from decide_eq_true (Or.inl (ti_ltI.mp h1)))]
  · rw [if_neg h1]
    by_cases h2 : μ t 7 = μ o 7
    · rw [if_pos h2]
      by_cases h3 : μ o 8 ≤ μ t 8
      · rw [if_pos h3, if_neg]
        rw [ti_le] at h3
        rw [ti_ltI] at h1
        exact fun h => by rcases of_decide_eq_true h with h | h <;> omega
      · rw [if_neg h3, if_pos]
        rw [ti_le] at h3
        exact decide_eq_true (Or.inr ⟨h2, by omega⟩)
    · rw [if_neg h2, if_neg]
      rw [ti_ltI] at h1
      exact fun h => by
        rcases of_decide_eq_true h with h | h
        · omega
        · exact h2 h.1
theorem p_standsBefore (F : Fg) (μ : Mem) (t o : Nat) : f_X2_standsBefore F μ t o = some (if sb μ 10 11 t o then 1 else 0) := by
  unfold f_X2_standsBefore
  by_cases h1 : μ t 10 < μ o 10
  · rw [if_pos h1, if_pos (show sb μ 10 11 t o = true from decide_eq_true (Or.inl (ti_ltI.mp h1)))]
  · rw [if_neg h1]
    by_cases h2 : μ t 10 = μ o 10
    · rw [if_pos h2]
      by_cases h3 : μ o 11 ≤ μ t 11
      · rw [if_pos h3, if_neg]
        rw [ti_le] at h3
        rw [ti_ltI] at h1
        exact fun h => by rcases of_decide_eq_true h with h | h <;> omega
      · rw [if_neg h3, if_pos]
        rw [ti_le] at h3
        exact decide_eq_true (Or.inr ⟨h2, by omega⟩)
    · rw [if_neg h2, if_neg]
      rw [ti_ltI] at h1
      exact fun h => by
        rcases of_decide_eq_true h with h | h
        · omega
        · exact h2 h.1
/-- who is in a row -/
def inr (μ : Mem) (row : Int32) : Nat → Bool := fun k => decide (μ (k + 1) 9 = row)
theorem p_countIn_l (F : Fg) (μ : Mem) (row : Int32) : ∀ (n i : Nat), i ≤ 24 → 24 < n + i → b_X7_countIn_14 F n μ row (nI (ct (inr μ row) i)) 24 (nI i) = some (nI (ct (inr μ row) 24))
  | 0, i, h1, h2 => absurd h2 (by omega)
  | n + 1, i, h1, h2 => by
    rw [b_X7_countIn_14]
    by_cases h : i = 24
    · subst h
      rw [if_pos ((lp_le (by decide)).mpr (Nat.le_refl _))]
    · have h3 : i < 24 := by omega
      rw [if_neg (fun z => absurd ((lp_le (by omega)).mp z) (by omega))]
      unfold grd bnd
      rw [if_pos (lp_gd h3), lp_at h3]
      dsimp only
      have ih := p_countIn_l F μ row n (i + 1) h3 (by omega)
      have e : ct (inr μ row) (i + 1) = ct (inr μ row) i + (if inr μ row i then 1 else 0) := rfl
      by_cases hr : μ (i + 1) 9 = row
      · rw [if_pos hr, nI_1, nI_1]
        rw [e, if_pos (show inr μ row i = true from decide_eq_true hr)] at ih
        exact ih
      · rw [if_neg hr, nI_1]
        rw [e, if_neg (show ¬ inr μ row i = true from fun z => hr (of_decide_eq_true z))] at ih
        exact ih
theorem p_countIn (F : Fg) (μ : Mem) (row : Int32) : f_X7_countIn F μ row = some (nI (ct (inr μ row) 24)) := p_countIn_l F μ row fu 0 (by decide) fu_24
/-- the first of a row -/
def fiQ (μ : Mem) (row : Int32) (o : Option Nat) : Prop := (o = none ∧ ∀ k, k < 24 → ¬ μ (k + 1) 9 = row) ∨ ∃ q, o = some q ∧ isP q ∧ μ q 9 = row
theorem p_firstIn_l (F : Fg) (μ : Mem) (row : Int32) : ∀ (n i : Nat) (o : Option Nat), i ≤ 24 → 24 < n + i → ((o = none ∧ ∀ k, k < i → ¬ μ (k + 1) 9 = row) ∨ ∃ q, o = some q ∧ isP q ∧ μ q 9 = row) → Ok (b_X7_firstIn_14 F n μ row o 24 (nI i)) (fiQ μ row)
  | 0, i, o, h1, h2, _ => absurd h2 (by omega)
  | n + 1, i, o, h1, h2, ho => by
    rw [b_X7_firstIn_14]
    by_cases h : i = 24
    · subst h
      rw [if_pos ((lp_le (by decide)).mpr (Nat.le_refl _))]
      refine ok_cs (fun e => ok_some (Or.inl ⟨rfl, ?_⟩)) (fun v e => ?_)
      · rcases ho with ho | ⟨q, ho, -⟩
        · exact ho.2
        · rw [e] at ho; cases ho
      · rcases ho with ho | ⟨q, ho, h3, h4⟩
        · rw [e] at ho; cases ho.1
        · rw [e] at ho; cases ho
          exact ok_grd h3 (ok_some (Or.inr ⟨v, rfl, h3, h4⟩))
    · have h3 : i < 24 := by omega
      rw [if_neg (fun z => absurd ((lp_le (by omega)).mp z) (by omega))]
      refine ok_grd (lp_gd h3) (ok_bnd ?_)
      rw [lp_at h3]
      refine ok_ite (fun hr => ?_) (fun hr => ?_)
      · refine ok_cs (fun e => ?_) (fun v e => ?_)
        · rw [nI_1]
          exact p_firstIn_l F μ row n (i + 1) (some (i + 1)) h3 (by omega) (Or.inr ⟨i + 1, rfl, lp_is h3, hr⟩)
        · rcases ho with ho | ⟨q, ho, h4, h5⟩
          · rw [e] at ho; cases ho.1
          · rw [e] at ho; cases ho
            refine ok_grd h4 ?_
            rw [p_standsBefore, nI_1]
            refine ok_bnO (ok_some (Q := fun _ => True) trivial) (fun a _ => ok_ite (fun _ => ?_) (fun _ => ?_))
            · exact p_firstIn_l F μ row n (i + 1) (some v) h3 (by omega) (Or.inr ⟨v, rfl, h4, h5⟩)
            · exact p_firstIn_l F μ row n (i + 1) (some (i + 1)) h3 (by omega) (Or.inr ⟨i + 1, rfl, lp_is h3, hr⟩)
      · rw [nI_1]
        refine p_firstIn_l F μ row n (i + 1) o h3 (by omega) ?_
        rcases ho with ho | ho
        · refine Or.inl ⟨ho.1, fun k hk => ?_⟩
          by_cases e : k = i
          · rw [e]; exact hr
          · exact ho.2 k (by omega)
        · exact Or.inr ho
theorem p_firstIn (F : Fg) (μ : Mem) (row : Int32) : Ok (f_X7_firstIn F μ row) (fiQ μ row) := p_firstIn_l F μ row fu 0 none (by decide) fu_24 (Or.inl ⟨rfl, fun k hk => absurd hk (Nat.not_lt_zero _)⟩)
/-- the next event -/
def ngQ (μ : Mem) (o : Option Nat) : Prop := (o = none ∧ ∀ k, k < 24 → μ (k + 1) 7 = -1) ∨ ∃ q, o = some q ∧ isP q ∧ ¬ μ q 7 = -1 ∧ ∀ k, k < 24 → ¬ μ (k + 1) 7 = -1 → (μ q 7).toInt ≤ (μ (k + 1) 7).toInt
theorem p_nextToGo_l (F : Fg) (μ : Mem) : ∀ (n i : Nat) (o : Option Nat), i ≤ 24 → 24 < n + i → ((o = none ∧ ∀ k, k < i → μ (k + 1) 7 = -1) ∨ ∃ q, o = some q ∧ isP q ∧ ¬ μ q 7 = -1 ∧ ∀ k, k < i → ¬ μ (k + 1) 7 = -1 → (μ q 7).toInt ≤ (μ (k + 1) 7).toInt) → Ok (b_X7_nextToGo_13 F n μ o 24 (nI i)) (ngQ μ)
  | 0, i, o, h1, h2, _ => absurd h2 (by omega)
  | n + 1, i, o, h1, h2, ho => by
    rw [b_X7_nextToGo_13]
    by_cases h : i = 24
    · subst h
      rw [if_pos ((lp_le (by decide)).mpr (Nat.le_refl _))]
      refine ok_cs (fun e => ok_some (Or.inl ⟨rfl, ?_⟩)) (fun v e => ?_)
      · rcases ho with ho | ⟨q, ho, -⟩
        · exact ho.2
        · rw [e] at ho; cases ho
      · rcases ho with ho | ⟨q, ho, h3, h4⟩
        · rw [e] at ho; cases ho.1
        · rw [e] at ho; cases ho
          exact ok_grd h3 (ok_some (Or.inr ⟨v, rfl, h3, h4⟩))
    · have h3 : i < 24 := by omega
      rw [if_neg (fun z => absurd ((lp_le (by omega)).mp z) (by omega))]
      refine ok_grd (lp_gd h3) (ok_bnd ?_)
      rw [lp_at h3]
      refine ok_ite (fun hr => ?_) (fun hr => ?_)
      · rw [nI_1]
        refine p_nextToGo_l F μ n (i + 1) o h3 (by omega) ?_
        rcases ho with ho | ⟨q, a1, a2, a3, a4⟩
        · refine Or.inl ⟨ho.1, fun k hk => ?_⟩
          by_cases e : k = i
          · rw [e]; exact hr
          · exact ho.2 k (by omega)
        · refine Or.inr ⟨q, a1, a2, a3, fun k hk hn => ?_⟩
          by_cases e : k = i
          · rw [e] at hn; exact absurd hr hn
          · exact a4 k (by omega) hn
      · refine ok_cs (fun e => ?_) (fun v e => ?_)
        · rw [nI_1]
          refine p_nextToGo_l F μ n (i + 1) (some (i + 1)) h3 (by omega) (Or.inr ⟨i + 1, rfl, lp_is h3, hr, fun k hk hn => ?_⟩)
          by_cases e2 : k = i
          · rw [e2]; exact Int.le_refl _
          · rcases ho with ho | ⟨q, ho, -⟩
            · exact absurd (ho.2 k (by omega)) hn
            · rw [e] at ho; cases ho
        · rcases ho with ho | ⟨q, ho, h4, h5, h6⟩
          · rw [e] at ho; cases ho.1
          · rw [e] at ho; cases ho
            refine ok_grd h4 ?_
            rw [p_goesBefore, nI_1]
            refine ok_bnO (ok_eq rfl) (fun a ha => ok_ite (fun h0 => ?_) (fun h0 => ?_))
            · refine p_nextToGo_l F μ n (i + 1) (some v) h3 (by omega) (Or.inr ⟨v, rfl, h4, h5, fun k hk hn => ?_⟩)
              by_cases e2 : k = i
              · rw [e2]
                rw [ha] at h0
                by_cases hs : sb μ 7 8 (i + 1) v = true
                · rw [if_pos hs] at h0; exact absurd h0 (by decide)
                · have hs2 : ¬ ((μ (i + 1) 7).toInt < (μ v 7).toInt ∨ μ (i + 1) 7 = μ v 7 ∧ (μ (i + 1) 8).toInt < (μ v 8).toInt) := fun z => hs (decide_eq_true z)
                  omega
              · exact h6 k (by omega) hn
            · refine p_nextToGo_l F μ n (i + 1) (some (i + 1)) h3 (by omega) (Or.inr ⟨i + 1, rfl, lp_is h3, hr, fun k hk hn => ?_⟩)
              have hle : (μ (i + 1) 7).toInt ≤ (μ v 7).toInt := by
                rw [ha] at h0
                by_cases hs : sb μ 7 8 (i + 1) v = true
                · rcases of_decide_eq_true hs with z | z
                  · omega
                  · rw [z.1]; exact Int.le_refl _
                · rw [if_neg hs] at h0; exact absurd rfl h0
              by_cases e2 : k = i
              · rw [e2]; exact Int.le_refl _
              · exact Int.le_trans hle (h6 k (by omega) hn)
theorem p_nextToGo (F : Fg) (μ : Mem) : Ok (f_X7_nextToGo F μ) (ngQ μ) := p_nextToGo_l F μ fu 0 none (by decide) fu_24 (Or.inl ⟨rfl, fun k hk => absurd hk (Nat.not_lt_zero _)⟩)
/-- how many events there are -/
def evs (μ : Mem) : Nat → Bool := fun k => decide (¬ μ (k + 1) 7 = -1)
theorem p_countEvents_l (F : Fg) (μ : Mem) : ∀ (n i : Nat), i ≤ 24 → 24 < n + i → b_X7_countEvents_13 F n μ (nI (ct (evs μ) i)) 24 (nI i) = some (nI (ct (evs μ) 24))
  | 0, i, h1, h2 => absurd h2 (by omega)
  | n + 1, i, h1, h2 => by
    rw [b_X7_countEvents_13]
    by_cases h : i = 24
    · subst h
      rw [if_pos ((lp_le (by decide)).mpr (Nat.le_refl _))]
    · have h3 : i < 24 := by omega
      rw [if_neg (fun z => absurd ((lp_le (by omega)).mp z) (by omega))]
      unfold grd bnd
      rw [if_pos (lp_gd h3), lp_at h3]
      dsimp only
      have ih := p_countEvents_l F μ n (i + 1) h3 (by omega)
      have e : ct (evs μ) (i + 1) = ct (evs μ) i + (if evs μ i then 1 else 0) := rfl
      by_cases hr : μ (i + 1) 7 = -1
      · rw [if_pos hr, nI_1]
        rw [e, if_neg (show ¬ evs μ i = true from fun z => absurd hr (of_decide_eq_true z))] at ih
        exact ih
      · rw [if_neg hr, nI_1, nI_1]
        rw [e, if_pos (show evs μ i = true from decide_eq_true hr)] at ih
        exact ih
theorem p_countEvents (F : Fg) (μ : Mem) : f_X7_countEvents F μ = some (nI (ct (evs μ) 24)) := p_countEvents_l F μ fu 0 (by decide) fu_24
/-- what there is by its number -/
theorem p_resource (F : Fg) (μ : Mem) {r : Nat} (h : r < F.sz 0) (h6 : F.sz 0 ≤ 6) : f_X7_resource F μ (nI r) = some (some (102 + r)) := by
  unfold f_X7_resource
  rw [if_neg (nI_pos (by omega)), if_neg (nI_ge h (by omega))]
  unfold grd bnd
  rw [if_pos (nI_in h (by omega)), nI_clamp (by omega)]
  dsimp only
  rw [if_pos ⟨by omega, by omega, by omega⟩]
theorem p_store (F : Fg) (μ : Mem) {r : Nat} (h : r < F.sz 1) (h6 : F.sz 1 ≤ 4) : f_X7_store F μ (nI r) = some (some (108 + r)) := by
  unfold f_X7_store
  rw [if_neg (nI_pos (by omega)), if_neg (nI_ge h (by omega))]
  unfold grd bnd
  rw [if_pos (nI_in h (by omega)), nI_clamp (by omega)]
  dsimp only
  rw [if_pos ⟨by omega, by omega, by omega⟩]
theorem p_script (F : Fg) (μ : Mem) {r : Nat} (h : r < F.sz 2) (h6 : F.sz 2 ≤ 8) : f_X7_script F μ (nI r) = some (some (114 + r)) := by
  unfold f_X7_script
  rw [if_neg (nI_pos (by omega)), if_neg (nI_ge h (by omega))]
  unfold grd bnd
  rw [if_pos (nI_in h (by omega)), nI_clamp (by omega)]
  dsimp only
  rw [if_pos ⟨by omega, by omega, by omega⟩]
theorem p_resource_no (F : Fg) (μ : Mem) {x : Int32} (h : x.toInt < 0 ∨ (F.sz 0 : Int) ≤ x.toInt) (h6 : F.sz 0 ≤ 6) : f_X7_resource F μ x = some none := by
  unfold f_X7_resource
  by_cases h0 : x < 0
  · rw [if_pos h0]
  · rw [if_neg h0, if_pos]
    rw [ti_le, ti_nI (by omega)]
    rw [ti_ltI, ti_0] at h0
    omega
theorem p_store_no (F : Fg) (μ : Mem) {x : Int32} (h : x.toInt < 0 ∨ (F.sz 1 : Int) ≤ x.toInt) (h6 : F.sz 1 ≤ 4) : f_X7_store F μ x = some none := by
  unfold f_X7_store
  by_cases h0 : x < 0
  · rw [if_pos h0]
  · rw [if_neg h0, if_pos]
    rw [ti_le, ti_nI (by omega)]
    rw [ti_ltI, ti_0] at h0
    omega
theorem p_process (F : Fg) (μ : Mem) {k c : Nat} (hc : μ 0 5 = nI c) (h24 : c ≤ 24) (h : k < c) : f_X7_process F μ (nI k) = some (some (k + 1)) := by
  unfold f_X7_process
  rw [if_neg (nI_pos (by omega)), hc, if_neg (nI_ge h (by omega)), if_neg (fun z => absurd ((lp_le (by omega)).mp z) (by omega))]
  unfold grd bnd
  rw [if_pos (lp_gd (by omega)), lp_at (by omega)]
