/-! THE PURE PART, 2: what a kernel is at any time -/
abbrev Kx : Type := (Nat → Int32) × (Nat → Int32) × (Nat → Int32)
/-- how much of a resource is held in all -/
def hsm (μ : Mem) (r : Nat) : Int := sm (fun k => (μ (k + 49) r).toInt) 24
/-- what stays: numbers, kinds, units, rooms -/
def Cst (F : Fg) (K : Kx) (μ : Mem) : Prop := (∀ k, k < 24 → μ (k + 1) 0 = nI k) ∧ (∀ r, r < F.sz 0 → μ (102 + r) 0 = nI r ∧ μ (102 + r) 1 = K.1 r ∧ μ (102 + r) 2 = K.2.1 r) ∧ ∀ s, s < F.sz 1 → μ (108 + s) 0 = nI s ∧ μ (108 + s) 1 = K.2.2 s
/-- an instruction that may be -/
def IN (F : Fg) (m : Nat → Int32) : Prop :=
  (m 1 = 0 ∧ 0 ≤ (m 2).toInt ∧ (m 2).toInt ≤ 10 ∧ 0 ≤ (m 3).toInt ∧ (m 3).toInt ≤ 10)
  ∨ ((m 1 = 1 ∨ m 1 = 2) ∧ (∃ r, r < F.sz 0 ∧ m 2 = nI r) ∧ 1 ≤ (m 3).toInt ∧ (m 3).toInt ≤ 9)
  ∨ ((m 1 = 3 ∨ m 1 = 4 ∨ m 1 = 13) ∧ (∃ r, r < F.sz 1 ∧ m 2 = nI r) ∧ 1 ≤ (m 3).toInt ∧ (m 3).toInt ≤ 99)
  ∨ ((m 1 = 5 ∨ m 1 = 6) ∧ ∃ a, a < 4 ∧ m 2 = nI a)
  ∨ (m 1 = 7 ∧ ∃ j, j < F.sz 2 ∧ m 2 = nI j)
  ∨ m 1 = 8 ∨ (m 1 = 9 ∧ m 2 = 0) ∨ m 1 = 10 ∨ m 1 = 11 ∨ m 1 = 12
/-- what is fixed -/
def Cfg (F : Fg) (K : Kx) : Prop := F.sz 0 ≤ 6 ∧ F.sz 1 ≤ 4 ∧ F.sz 2 ≤ 8 ∧ (∀ r, r < F.sz 0 → 1 ≤ (K.2.1 r).toInt ∧ (K.2.1 r).toInt ≤ 9) ∧ (∀ s, s < F.sz 1 → 1 ≤ (K.2.2 s).toInt ∧ (K.2.2 s).toInt ≤ 99) ∧ (∀ j, F.sz (10 + j) ≤ 10) ∧ ∀ j i, j < F.sz 2 → i < F.sz (10 + j) → IN F (F.sh (138 + 16 * j + i))
/-- a process in one of its states -/
def CO (F : Fg) (t c : Int) (k : Nat) (m h : Nat → Int32) : Prop :=
  (m 9 = -1 ∧ (m 6 = 0 ∨ m 6 = 1) ∧ (k : Int) ≤ c ∧ t ≤ (m 7).toInt ∧ (m 7).toInt ≤ t + 20)
  ∨ (m 9 = -1 ∧ m 7 = -1 ∧ m 6 = 0 ∧ c < (k : Int) ∧ ∀ r, r < 6 → h r = 0)
  ∨ (m 7 = -1 ∧ (k : Int) ≤ c ∧ m 6 = 2 ∧ 0 ≤ (m 12).toInt ∧ (m 12).toInt ≤ 9 ∧ ∃ r, r < F.sz 0 ∧ m 9 = nI r)
  ∨ (m 7 = -1 ∧ (k : Int) ≤ c ∧ m 6 = 3 ∧ -99 ≤ (m 12).toInt ∧ (m 12).toInt ≤ 99 ∧ ∃ s, s < F.sz 1 ∧ (m 9 = nI (6 + s) ∨ m 9 = nI (10 + s)))
  ∨ (m 7 = -1 ∧ (k : Int) ≤ c ∧ m 6 = 4 ∧ ∃ a, a < 4 ∧ m 9 = nI (14 + a))
  ∨ (m 9 = -1 ∧ m 7 = -1 ∧ (k : Int) ≤ c ∧ (m 6 = 5 ∨ m 6 = 6 ∨ m 6 = 7) ∧ ∀ r, r < 6 → h r = 0)
/-- a process; x: it is being worked on -/
def PI (F : Fg) (t c N : Int) (x : Prop) (k : Nat) (m h : Nat → Int32) : Prop :=
  (m 1 = -1 ∨ ∃ j, j < F.sz 2 ∧ m 1 = nI j) ∧ (0 ≤ (m 5).toInt ∧ (m 5).toInt ≤ 20) ∧ (0 ≤ (m 4).toInt ∧ (m 4).toInt ≤ t) ∧ (∀ r, r < 6 → 0 ≤ (h r).toInt) ∧ (∀ r, r < 6 → F.sz 0 ≤ r → h r = 0) ∧ (¬ m 9 = -1 → (m 11).toInt ≤ N) ∧ (m 13 = 0 ∨ m 13 = 1) ∧ (x → m 9 = -1 ∧ m 7 = -1 ∧ (k : Int) ≤ c) ∧ (¬ x → CO F t c k m h)
theorem CO.c {F : Fg} {t c c' : Int} {k : Nat} {m h : Nat → Int32} (H : CO F t c k m h) (hc : c' = c ∨ c' = c + 1 ∧ (k : Int) ≠ c') : CO F t c' k m h := by
  rcases H with ⟨a1, a2, a3, a4⟩ | ⟨a1, a2, a3, a4, a5⟩ | ⟨a1, a2, a3⟩ | ⟨a1, a2, a3⟩ | ⟨a1, a2, a3⟩ | ⟨a1, a2, a3, a4⟩
  · exact Or.inl ⟨a1, a2, by omega, a4⟩
  · exact Or.inr (Or.inl ⟨a1, a2, a3, by omega, a5⟩)
  · exact Or.inr (Or.inr (Or.inl ⟨a1, by omega, a3⟩))
  · exact Or.inr (Or.inr (Or.inr (Or.inl ⟨a1, by omega, a3⟩)))
  · exact Or.inr (Or.inr (Or.inr (Or.inr (Or.inl ⟨a1, by omega, a3⟩))))
  · exact Or.inr (Or.inr (Or.inr (Or.inr (Or.inr ⟨a1, a2, by omega, a4⟩))))
theorem PI.up {F : Fg} {t c c' N N' : Int} {x x' : Prop} {k : Nat} {m h : Nat → Int32} (H : PI F t c N x k m h) (hN : N ≤ N') (hc : c' = c ∨ c' = c + 1 ∧ (k : Int) ≠ c') (hx : x' ↔ x) : PI F t c' N' x' k m h := by
  obtain ⟨h1, h2, h3, h4, h5, h6, h7, h8, h9⟩ := H
  refine ⟨h1, h2, h3, h4, h5, fun z => Int.le_trans (h6 z) hN, h7, fun z => ?_, fun z => (h9 (fun y => z (hx.mpr y))).c hc⟩
  obtain ⟨a1, a2, a3⟩ := h8 (hx.mp z)
  exact ⟨a1, a2, by omega⟩
/-- a resource, a store -/
def RI (K : Kx) (t : Int) (r : Nat) (m : Nat → Int32) (hs : Int) : Prop :=
  0 ≤ (m 3).toInt ∧ (m 3).toInt + hs = (K.2.1 r).toInt ∧ 0 ≤ (m 4).toInt ∧ (m 4).toInt ≤ t * (K.2.1 r).toInt ∧ 0 ≤ (m 5).toInt ∧ (m 5).toInt ≤ t * (m 6).toInt ∧ 0 ≤ (m 6).toInt ∧ (m 6).toInt ≤ 24
def SI (K : Kx) (t : Int) (s : Nat) (m : Nat → Int32) : Prop :=
  0 ≤ (m 2).toInt ∧ (m 2).toInt ≤ (K.2.2 s).toInt ∧ 0 ≤ (m 3).toInt ∧ (m 3).toInt ≤ t * (K.2.2 s).toInt
/-- the kernel; X: who is being worked on, e: the resource whose longest queue isn't told yet, T: the time's bound, N: the order's -/
def Inv (F : Fg) (K : Kx) (X : Nat → Prop) (e : Nat) (T N : Int) (μ : Mem) : Prop :=
  Cst F K μ ∧ (0 ≤ (μ 0 5).toInt ∧ (μ 0 5).toInt ≤ 24) ∧ (0 ≤ (μ 0 6).toInt ∧ (μ 0 6).toInt ≤ T) ∧ (0 ≤ (μ 0 7).toInt ∧ (μ 0 7).toInt ≤ 9999) ∧ (0 ≤ (μ 0 9).toInt ∧ (μ 0 9).toInt ≤ N)
  ∧ (∀ r, r < F.sz 0 → RI K (μ 0 6).toInt r (μ (102 + r)) (hsm μ r))
  ∧ (∀ r, r < F.sz 0 → r ≠ e → (ct (inr μ (nI r)) 24 : Int) ≤ (μ (102 + r) 6).toInt)
  ∧ (∀ s, s < F.sz 1 → SI K (μ 0 6).toInt s (μ (108 + s)))
  ∧ (∀ k, k < 24 → PI F (μ 0 6).toInt (μ 0 5).toInt (μ 0 9).toInt (X (k + 1)) (k + 1) (μ (k + 1)) (μ (k + 49)))
  ∧ ∀ i j, i < 24 → j < 24 → i ≠ j → ¬ μ (i + 1) 9 = -1 → ¬ μ (j + 1) 9 = -1 → ¬ μ (i + 1) 11 = μ (j + 1) 11
section
variable {F : Fg} {K : Kx} {X X' : Nat → Prop} {e e' q : Nat} {T T' N N' : Int} {μ ν ρ : Mem}
theorem Inv.cst (h : Inv F K X e T N μ) : Cst F K μ := h.1
theorem Inv.st (h : Inv F K X e T N μ) : 0 ≤ (μ 0 5).toInt ∧ (μ 0 5).toInt ≤ 24 := h.2.1
theorem Inv.tm (h : Inv F K X e T N μ) : 0 ≤ (μ 0 6).toInt ∧ (μ 0 6).toInt ≤ T := h.2.2.1
theorem Inv.lk (h : Inv F K X e T N μ) : 0 ≤ (μ 0 7).toInt ∧ (μ 0 7).toInt ≤ 9999 := h.2.2.2.1
theorem Inv.od (h : Inv F K X e T N μ) : 0 ≤ (μ 0 9).toInt ∧ (μ 0 9).toInt ≤ N := h.2.2.2.2.1
theorem Inv.res (h : Inv F K X e T N μ) : ∀ r, r < F.sz 0 → RI K (μ 0 6).toInt r (μ (102 + r)) (hsm μ r) := h.2.2.2.2.2.1
theorem Inv.cnt (h : Inv F K X e T N μ) : ∀ r, r < F.sz 0 → r ≠ e → (ct (inr μ (nI r)) 24 : Int) ≤ (μ (102 + r) 6).toInt := h.2.2.2.2.2.2.1
theorem Inv.sto (h : Inv F K X e T N μ) : ∀ s, s < F.sz 1 → SI K (μ 0 6).toInt s (μ (108 + s)) := h.2.2.2.2.2.2.2.1
theorem Inv.prc (h : Inv F K X e T N μ) : ∀ k, k < 24 → PI F (μ 0 6).toInt (μ 0 5).toInt (μ 0 9).toInt (X (k + 1)) (k + 1) (μ (k + 1)) (μ (k + 49)) := h.2.2.2.2.2.2.2.2.1
theorem Inv.dis (h : Inv F K X e T N μ) : ∀ i j, i < 24 → j < 24 → i ≠ j → ¬ μ (i + 1) 9 = -1 → ¬ μ (j + 1) 9 = -1 → ¬ μ (i + 1) 11 = μ (j + 1) 11 := h.2.2.2.2.2.2.2.2.2
theorem Inv.p (h : Inv F K X e T N μ) (hq : isP q) : PI F (μ 0 6).toInt (μ 0 5).toInt (μ 0 9).toInt (X q) q (μ q) (μ (q + 48)) := by
  obtain ⟨h1, h2⟩ := hq
  obtain ⟨j, rfl⟩ : ∃ j, q = j + 1 := ⟨q - 1, by omega⟩
  exact h.prc j (by omega)
theorem Inv.mono (h : Inv F K X e T N μ) (hT : T ≤ T') (hN : N ≤ N') : Inv F K X e T' N' μ :=
  ⟨h.cst, h.st, ⟨h.tm.1, Int.le_trans h.tm.2 hT⟩, h.lk, ⟨h.od.1, Int.le_trans h.od.2 hN⟩, h.res, h.cnt, h.sto, h.prc, h.dis⟩
theorem Inv.xx (h : Inv F K X e T N μ) (hX : ∀ k, isP k → (X' k ↔ X k)) : Inv F K X' e T N μ :=
  ⟨h.cst, h.st, h.tm, h.lk, h.od, h.res, h.cnt, h.sto, fun k hk => (h.prc k hk).up (Int.le_refl _) (Or.inl rfl) (hX _ (lp_is hk)), h.dis⟩
/-- the longest queue of one resource more isn't told -/
theorem Inv.ee (h : Inv F K X 99 T N μ) (h6 : F.sz 0 ≤ 6) : Inv F K X e T N μ :=
  ⟨h.cst, h.st, h.tm, h.lk, h.od, h.res, fun r hr _ => h.cnt r hr (by omega), h.sto, h.prc, h.dis⟩
theorem nI_m1 {n : Nat} (h : n < 2147483648) : ¬ nI n = -1 := by
  rw [ti_eq, ti_nI h, ti_m1]
  omega
/-- a change of one process, of the order, of what resources and stores hold -/
theorem inv_q (hI : Inv F K X e T N μ) (hq : isP q) (he : e < 2147483648) (h6 : F.sz 0 ≤ 6)
    (ho : ∀ k, k < 24 → k + 1 ≠ q → ν (k + 1) = μ (k + 1) ∧ ν (k + 49) = μ (k + 49)) (h0 : ν q 0 = μ q 0)
    (hc : (ν 0 5).toInt = (μ 0 5).toInt ∨ (ν 0 5).toInt = (μ 0 5).toInt + 1 ∧ (q : Int) = (ν 0 5).toInt) (ht : ν 0 6 = μ 0 6) (hl : 0 ≤ (ν 0 7).toInt ∧ (ν 0 7).toInt ≤ 9999) (hd : (μ 0 9).toInt ≤ (ν 0 9).toInt) (hN : (ν 0 9).toInt ≤ N')
    (hR : ∀ r, r < F.sz 0 → ν (102 + r) 0 = μ (102 + r) 0 ∧ ν (102 + r) 1 = μ (102 + r) 1 ∧ ν (102 + r) 2 = μ (102 + r) 2 ∧ ν (102 + r) 4 = μ (102 + r) 4 ∧ ν (102 + r) 5 = μ (102 + r) 5 ∧ ν (102 + r) 6 = μ (102 + r) 6 ∧ 0 ≤ (ν (102 + r) 3).toInt ∧ (ν (102 + r) 3).toInt + (ν (q + 48) r).toInt = (μ (102 + r) 3).toInt + (μ (q + 48) r).toInt)
    (hS : ∀ s, s < F.sz 1 → ν (108 + s) 0 = μ (108 + s) 0 ∧ ν (108 + s) 1 = μ (108 + s) 1 ∧ ν (108 + s) 3 = μ (108 + s) 3 ∧ 0 ≤ (ν (108 + s) 2).toInt ∧ (ν (108 + s) 2).toInt ≤ (K.2.2 s).toInt)
    (hX : ∀ k, isP k → k ≠ q → (X' k ↔ X k))
    (hP : PI F (μ 0 6).toInt (ν 0 5).toInt (ν 0 9).toInt (X' q) q (ν q) (ν (q + 48)))
    (hw : ν q 9 = -1 ∨ (ν q 9 = nI e ∨ ∀ r, r < F.sz 0 → ¬ ν q 9 = nI r) ∧ (μ 0 9).toInt < (ν q 11).toInt) : Inv F K X' e T N' ν := by
  obtain ⟨hq1, hq2⟩ := id hq
  obtain ⟨j, rfl⟩ : ∃ j, q = j + 1 := ⟨q - 1, by omega⟩
  refine ⟨⟨fun k hk => ?_, fun r hr => ?_, fun s hs => ?_⟩, ?_, ?_, hl, ⟨Int.le_trans hI.od.1 hd, hN⟩, fun r hr => ?_, fun r hr hre => ?_, fun s hs => ?_, fun k hk => ?_, fun i k hi hk hik h1 h2 => ?_⟩
  · by_cases h : k + 1 = j + 1
    · rw [h, h0, ← h]; exact hI.cst.1 k hk
    · rw [(ho k hk h).1]; exact hI.cst.1 k hk
  · obtain ⟨a0, a1, a2, -⟩ := hR r hr
    rw [a0, a1, a2]
    exact hI.cst.2.1 r hr
  · obtain ⟨a0, a1, -⟩ := hS s hs
    rw [a0, a1]
    exact hI.cst.2.2 s hs
  · have := hI.st
    omega
  · rw [ht]; exact hI.tm
  · obtain ⟨-, -, -, a4, a5, a6, a3, a7⟩ := hR r hr
    obtain ⟨b1, b2, b3, b4, b5, b6, b7, b8⟩ := hI.res r hr
    have hh : hsm ν r = hsm μ r + ((ν (j + 49) r).toInt - (μ (j + 49) r).toInt) := by
      unfold hsm
      exact sm_one (f := fun k => (μ (k + 49) r).toInt) (f' := fun k => (ν (k + 49) r).toInt) (q := j) 24 (by omega) (fun i hi hne => by rw [(ho i hi (by omega)).2])
    have e1 : j + 1 + 48 = j + 49 := by omega
    rw [e1] at a7
    refine ⟨a3, by rw [hh]; omega, by rw [a4]; exact b3, by rw [a4, ht]; exact b4, by rw [a5]; exact b5, by rw [a5, a6, ht]; exact b6, by rw [a6]; exact b7, by rw [a6]; exact b8⟩
  · obtain ⟨-, -, -, -, -, a6, -⟩ := hR r hr
    rw [a6]
    have h1 := hI.cnt r hr hre
    have h2 : ct (inr ν (nI r)) 24 ≤ ct (inr μ (nI r)) 24 := ct_mono 24 (fun i hi hv => by
      have hv := of_decide_eq_true hv
      by_cases h : i + 1 = j + 1
      · rw [h] at hv
        rcases hw with hw | ⟨hw | hw, -⟩
        · rw [hw] at hv; exact absurd hv.symm (nI_m1 (by omega))
        · rw [hw] at hv; exact absurd ((nI_eq he (by omega)).mp hv).symm hre
        · exact absurd hv (hw r hr)
      · rw [(ho i hi h).1] at hv
        exact decide_eq_true hv)
    omega
  · obtain ⟨-, -, a3, a4, a5⟩ := hS s hs
    obtain ⟨b1, b2, b3, b4⟩ := hI.sto s hs
    exact ⟨a4, a5, by rw [a3]; exact b3, by rw [a3, ht]; exact b4⟩
  · rw [ht]
    by_cases h : k + 1 = j + 1
    · obtain rfl : k = j := by omega
      exact hP
    · rw [(ho k hk h).1, (ho k hk h).2]
      refine (hI.prc k hk).up hd ?_ (hX _ (lp_is hk) h)
      rcases hc with hc | ⟨hc, hc2⟩
      · exact Or.inl hc
      · exact Or.inr ⟨hc, by omega⟩
  · by_cases ei : i + 1 = j + 1
    · have ek : ¬ k + 1 = j + 1 := by omega
      rw [ei] at h1 ⊢
      rw [(ho k hk ek).1] at h2 ⊢
      rcases hw with hw | ⟨-, hw⟩
      · exact absurd hw h1
      · intro e9
        have := (hI.prc k hk).2.2.2.2.2.1 h2
        rw [← e9] at this
        omega
    · by_cases ek : k + 1 = j + 1
      · rw [ek] at h2 ⊢
        rw [(ho i hi ei).1] at h1 ⊢
        rcases hw with hw | ⟨-, hw⟩
        · exact absurd hw h2
        · intro e9
          have := (hI.prc i hi).2.2.2.2.2.1 h1
          rw [e9] at this
          omega
      · rw [(ho i hi ei).1] at h1 ⊢
        rw [(ho k hk ek).1] at h2 ⊢
        exact hI.dis i k hi hk hik h1 h2
/-- what stays as it was for whom nobody works on: p alone is worked on -/
def Fr (F : Fg) (p : Nat) (μ ν : Mem) : Prop := ν 0 6 = μ 0 6 ∧ ν 0 8 = μ 0 8 ∧ (μ 0 5).toInt ≤ (ν 0 5).toInt ∧ (∀ r, r < F.sz 0 → ν (102 + r) 4 = μ (102 + r) 4) ∧ ∀ k, isP k → k ≠ p → μ k 9 = -1 → μ k 7 = -1 → (k : Int) ≤ (μ 0 5).toInt → ν k = μ k ∧ ν (k + 48) = μ (k + 48)
theorem Fr.rf {p : Nat} : Fr F p μ μ := ⟨rfl, rfl, Int.le_refl _, fun _ _ => rfl, fun _ _ _ _ _ _ => ⟨rfl, rfl⟩⟩
theorem Fr.tr {p : Nat} (h : Fr F p μ ν) (h' : Fr F p ν ρ) : Fr F p μ ρ := by
  obtain ⟨a1, a2, a3, a4, a5⟩ := h
  obtain ⟨b1, b2, b3, b4, b5⟩ := h'
  refine ⟨b1.trans a1, b2.trans a2, Int.le_trans a3 b3, fun r hr => (b4 r hr).trans (a4 r hr), fun k hk hp h1 h2 h3 => ?_⟩
  obtain ⟨c1, c2⟩ := a5 k hk hp h1 h2 h3
  obtain ⟨d1, d2⟩ := b5 k hk hp (by rw [c1]; exact h1) (by rw [c1]; exact h2) (Int.le_trans h3 a3)
  exact ⟨d1.trans c1, d2.trans c2⟩
/-- a process in a row or with an event isn't one of those -/
theorem Fr.up {p : Nat} (h : Fr F q μ ν) (hn : ¬ (μ q 9 = -1 ∧ μ q 7 = -1 ∧ (q : Int) ≤ (μ 0 5).toInt)) : Fr F p μ ν :=
  ⟨h.1, h.2.1, h.2.2.1, h.2.2.2.1, fun k hk _ h1 h2 h3 => by
    by_cases e9 : k = q
    · subst e9; exact absurd ⟨h1, h2, h3⟩ hn
    · exact h.2.2.2.2 k hk e9 h1 h2 h3⟩
theorem Fr.wk {p : Nat} (h : Fr F 0 μ ν) : Fr F p μ ν := ⟨h.1, h.2.1, h.2.2.1, h.2.2.2.1, fun k hk _ => h.2.2.2.2 k hk (by have := hk.1; omega)⟩
/-! who is in a row, who has an event -/
theorem row_ne {a b : Nat} (ha : a < 2147483648) (hb : b < 2147483648) {x : Int32} (h1 : x = nI a) (h2 : x = nI b) (hn : a ≠ b) : False := hn ((nI_eq ha hb).mp (h1.symm.trans h2))
theorem PI.inRes {t c : Int} {x : Prop} {k r : Nat} {m h : Nat → Int32} (H : PI F t c N x k m h) (hC : Cfg F K) (hr : r < F.sz 0) (h9 : m 9 = nI r) : ¬ x ∧ m 7 = -1 ∧ (k : Int) ≤ c ∧ m 6 = 2 ∧ 0 ≤ (m 12).toInt ∧ (m 12).toInt ≤ 9 := by
  have h6 := hC.1
  have h4 := hC.2.1
  obtain ⟨-, -, -, -, -, -, -, h8, h9'⟩ := H
  have hm : ¬ m 9 = -1 := by rw [h9]; exact nI_m1 (by omega)
  have hx : ¬ x := fun z => hm (h8 z).1
  rcases h9' hx with ⟨a1, -⟩ | ⟨a1, -⟩ | ⟨a1, a2, a3, a4, a5, -⟩ | ⟨-, -, -, -, -, s, hs, a6 | a6⟩ | ⟨-, -, -, a, ha, a6⟩ | ⟨a1, -⟩
  · exact absurd a1 hm
  · exact absurd a1 hm
  · exact ⟨hx, a1, a2, a3, a4, a5⟩
  · exact (row_ne (by omega) (by omega) h9 a6 (by omega)).elim
  · exact (row_ne (by omega) (by omega) h9 a6 (by omega)).elim
  · exact (row_ne (by omega) (by omega) h9 a6 (by omega)).elim
  · exact absurd a1 hm
theorem PI.inSto {t c : Int} {x : Prop} {k s : Nat} {m h : Nat → Int32} (H : PI F t c N x k m h) (hC : Cfg F K) (hs0 : s < F.sz 1) (h9 : m 9 = nI (6 + s) ∨ m 9 = nI (10 + s)) : ¬ x ∧ m 7 = -1 ∧ (k : Int) ≤ c ∧ m 6 = 3 ∧ -99 ≤ (m 12).toInt ∧ (m 12).toInt ≤ 99 := by
  have h6 := hC.1
  have h4 := hC.2.1
  obtain ⟨-, -, -, -, -, -, -, h8, h9'⟩ := H
  have hm : ¬ m 9 = -1 := by rcases h9 with h9 | h9 <;> rw [h9] <;> exact nI_m1 (by omega)
  have hx : ¬ x := fun z => hm (h8 z).1
  rcases h9' hx with ⟨a1, -⟩ | ⟨a1, -⟩ | ⟨-, -, -, -, -, r, hr, a6⟩ | ⟨a1, a2, a3, a4, a5, -⟩ | ⟨-, -, -, a, ha, a6⟩ | ⟨a1, -⟩
  · exact absurd a1 hm
  · exact absurd a1 hm
  · rcases h9 with h9 | h9 <;> exact (row_ne (by omega) (by omega) h9 a6 (by omega)).elim
  · exact ⟨hx, a1, a2, a3, a4, a5⟩
  · rcases h9 with h9 | h9 <;> exact (row_ne (by omega) (by omega) h9 a6 (by omega)).elim
  · exact absurd a1 hm
theorem PI.inSig {t c : Int} {x : Prop} {k a : Nat} {m h : Nat → Int32} (H : PI F t c N x k m h) (hC : Cfg F K) (ha0 : a < 4) (h9 : m 9 = nI (14 + a)) : ¬ x ∧ m 7 = -1 ∧ (k : Int) ≤ c ∧ m 6 = 4 := by
  have h6 := hC.1
  have h4 := hC.2.1
  obtain ⟨-, -, -, -, -, -, -, h8, h9'⟩ := H
  have hm : ¬ m 9 = -1 := by rw [h9]; exact nI_m1 (by omega)
  have hx : ¬ x := fun z => hm (h8 z).1
  rcases h9' hx with ⟨a1, -⟩ | ⟨a1, -⟩ | ⟨-, -, -, -, -, r, hr, a6⟩ | ⟨-, -, -, -, -, s, hs, a6 | a6⟩ | ⟨a1, a2, a3, -⟩ | ⟨a1, -⟩
  · exact absurd a1 hm
  · exact absurd a1 hm
  · exact (row_ne (by omega) (by omega) h9 a6 (by omega)).elim
  · exact (row_ne (by omega) (by omega) h9 a6 (by omega)).elim
  · exact (row_ne (by omega) (by omega) h9 a6 (by omega)).elim
  · exact ⟨hx, a1, a2, a3⟩
  · exact absurd a1 hm
/-- whose event is told waits or is ready -/
theorem PI.inEv {t c : Int} {x : Prop} {k : Nat} {m h : Nat → Int32} (H : PI F t c N x k m h) (h7 : ¬ m 7 = -1) : ¬ x ∧ m 9 = -1 ∧ (m 6 = 0 ∨ m 6 = 1) ∧ (k : Int) ≤ c ∧ t ≤ (m 7).toInt ∧ (m 7).toInt ≤ t + 20 := by
  obtain ⟨-, -, -, -, -, -, -, h8, h9'⟩ := H
  have hx : ¬ x := fun z => h7 (h8 z).2.1
  rcases h9' hx with ⟨a1, a2, a3, a4, a5⟩ | ⟨-, a1, -⟩ | ⟨a1, -⟩ | ⟨a1, -⟩ | ⟨a1, -⟩ | ⟨-, a1, -⟩
  · exact ⟨hx, a1, a2, a3, a4, a5⟩
  · exact absurd a1 h7
  · exact absurd a1 h7
  · exact absurd a1 h7
  · exact absurd a1 h7
  · exact absurd a1 h7
/-- who waits has an event -/
theorem PI.inWt {t c : Int} {x : Prop} {k : Nat} {m h : Nat → Int32} (H : PI F t c N x k m h) (hx : ¬ x) (h1 : m 6 = 1) : m 9 = -1 ∧ (k : Int) ≤ c ∧ t ≤ (m 7).toInt ∧ (m 7).toInt ≤ t + 20 := by
  rcases H.2.2.2.2.2.2.2.2 hx with ⟨a1, a2, a3, a4, a5⟩ | ⟨-, -, a1, -⟩ | ⟨-, -, a1, -⟩ | ⟨-, -, a1, -⟩ | ⟨-, -, a1, -⟩ | ⟨-, -, -, a1, -⟩
  · exact ⟨a1, a3, a4, a5⟩
  · rw [h1] at a1; exact absurd a1 (by decide)
  · rw [h1] at a1; exact absurd a1 (by decide)
  · rw [h1] at a1; exact absurd a1 (by decide)
  · rw [h1] at a1; exact absurd a1 (by decide)
  · rw [h1] at a1; exact absurd a1 (by decide)
end
