/-! both kernels at once: KB -/
/-- what isn't an address: classes, array classes, sizes, what scripts hold, how many tallies, the tally's row -/
abbrev Sh : Type := va_G × (Nat → ClassId) × (Nat → Nat) × Mem × Nat × (Nat → Int32)
/-- addresses (300 + k: the trial's own), and the rest -/
abbrev Bg : Type := (Nat → Nat) × Sh
abbrev Bg.ad (B : Bg) : Nat → Nat := B.1
abbrev Bg.D (B : Bg) : va_G := B.2.1
abbrev Bg.cy (B : Bg) : Nat → ClassId := B.2.2.1
abbrev Bg.sz (B : Bg) : Nat → Nat := B.2.2.2.1
abbrev Bg.sh (B : Bg) : Mem := B.2.2.2.2.1
abbrev Bg.t0 (B : Bg) : Nat := B.2.2.2.2.2.1
abbrev Bg.tr (B : Bg) : Nat → Int32 := B.2.2.2.2.2.2
/-- the real kernel, the trial -/
def Bg.r (z : Nat) (B : Bg) : Geo := (fun k => if k = 273 then B.ad 300 else B.ad k, B.D, B.cy, B.sz, B.sh, ((fun i => if i = 0 then B.t0 else if i = 1 then 1 else 0), (fun k => if k = 1000 then B.tr else fun _ => 0), fun _ => z))
def Bg.t (z : Nat) (B : Bg) : Geo := (fun k => if k < 112 ∨ 266 ≤ k then B.ad (300 + k) else B.ad k, B.D, B.cy, B.sz, B.sh, ((fun _ => 0), (fun _ _ => 0), fun _ => z))
def inB (B : Bg) (k : Nat) : Prop := Px (B.sz 0) (B.sz 1) (B.sz 2) (fun j => B.sz (10 + j)) B.t0 1 k ∨ (300 ≤ k ∧ (k < 412 ∨ k = 566) ∧ Px (B.sz 0) (B.sz 1) (B.sz 2) (fun j => B.sz (10 + j)) 0 0 (k - 300))
def obB (z : Nat) (B : Bg) (μ : Mem) (k : Nat) : va_E := if k < 300 then ob (B.r z) k (μ k) else ob (B.t z) (k - 300) (μ (k - 300))
def EzB (z : Nat) (B : Bg) : Prop := (B.sz 0 = 0 → B.ad 99 = z ∧ B.ad 399 = z) ∧ (B.sz 1 = 0 → B.ad 101 = z ∧ B.ad 401 = z) ∧ (B.sz 2 = 0 → B.ad 113 = z) ∧ (∀ j, j < B.sz 2 → B.sz (10 + j) = 0 → B.ad (130 + j) = z) ∧ (B.t0 = 0 → B.ad 267 = z) ∧ B.ad 567 = z ∧ ∀ j, B.sz 2 ≤ j → B.sz (10 + j) = 0
def BnB (B : Bg) : Prop := B.sz 0 ≤ 6 ∧ B.sz 1 ≤ 4 ∧ B.sz 2 ≤ 8 ∧ (∀ j, B.sz (10 + j) ≤ 10) ∧ B.t0 ≤ 1
def KB (z b : Nat) (B : Bg) (μ : Mem) (H : Heap) : Prop := (∀ i j, inB B i → inB B j → B.ad i = B.ad j → i = j) ∧ (∀ k, inB B k → b ≤ B.ad k ∧ va_at B.D vwCl (B.ad k, obB z B μ k) H) ∧ BnB B ∧ EzB z B ∧ ∀ k, isP k → μ k 1 = -1
/-- where it lies -/
def Ka (B : Bg) (q : Nat) : Prop := ∃ k, inB B k ∧ q = B.ad k
theorem Px.lt {s0 s1 s2 t0 t1 k : Nat} {sN : Nat → Nat} (h : Px s0 s1 s2 sN t0 t1 k) : k < 275 ∧ k ≠ 273 := by
  unfold Px at h
  omega
theorem Px.le {s0 s1 s2 k : Nat} {sN : Nat → Nat} (h : Px s0 s1 s2 sN 0 0 k) : k < 266 ∨ k = 266 := by
  unfold Px at h
  omega
theorem r_idx {z : Nat} {B : Bg} {k : Nat} (h : k ∈ (B.r z).idx) : inB B k ∧ (B.r z).ad k = B.ad k ∧ k < 275 := by
  have h1 := idx_iff.mp h
  exact ⟨Or.inl h1, if_neg h1.lt.2, h1.lt.1⟩
/-- where the trial's object k stands -/
def ti (k : Nat) : Nat := if k < 112 ∨ 266 ≤ k then 300 + k else k
theorem t_ad {z : Nat} {B : Bg} (k : Nat) : (B.t z).ad k = B.ad (ti k) := by
  show (if k < 112 ∨ 266 ≤ k then B.ad (300 + k) else B.ad k) = _
  unfold ti
  by_cases h : k < 112 ∨ 266 ≤ k
  · rw [if_pos h, if_pos h]
  · rw [if_neg h, if_neg h]
theorem r_ad {z : Nat} {B : Bg} {k : Nat} (h : k ≠ 273) : (B.r z).ad k = B.ad k := if_neg h
theorem Px.up {s0 s1 s2 t0 t1 k : Nat} {sN : Nat → Nat} (h : Px s0 s1 s2 sN 0 0 k) (h1 : k < 266) : Px s0 s1 s2 sN t0 t1 k := by
  unfold Px at h ⊢
  rcases h with h | h | h | h | h | h | h | h | h | h | h | h | h | h | h | h | h
  · exact Or.inl h
  · exact Or.inr (Or.inl h)
  · exact Or.inr (Or.inr (Or.inl h))
  · exact Or.inr (Or.inr (Or.inr (Or.inl h)))
  · exact Or.inr (Or.inr (Or.inr (Or.inr (Or.inl h))))
  · exact Or.inr (Or.inr (Or.inr (Or.inr (Or.inr (Or.inl h)))))
  · exact Or.inr (Or.inr (Or.inr (Or.inr (Or.inr (Or.inr (Or.inl h))))))
  · exact Or.inr (Or.inr (Or.inr (Or.inr (Or.inr (Or.inr (Or.inr (Or.inl h)))))))
  · exact Or.inr (Or.inr (Or.inr (Or.inr (Or.inr (Or.inr (Or.inr (Or.inr (Or.inl h))))))))
  · exact Or.inr (Or.inr (Or.inr (Or.inr (Or.inr (Or.inr (Or.inr (Or.inr (Or.inr (Or.inl h)))))))))
  · exact Or.inr (Or.inr (Or.inr (Or.inr (Or.inr (Or.inr (Or.inr (Or.inr (Or.inr (Or.inr (Or.inl h))))))))))
  · exact Or.inr (Or.inr (Or.inr (Or.inr (Or.inr (Or.inr (Or.inr (Or.inr (Or.inr (Or.inr (Or.inr (Or.inl h)))))))))))
  · exfalso; omega
  · exfalso; omega
  · exfalso; omega
  · exfalso; omega
  · exfalso; omega
theorem t_idx {z : Nat} {B : Bg} {k : Nat} (h : k ∈ (B.t z).idx) : inB B (ti k) ∧ k < 267 := by
  have h1 : Px (B.sz 0) (B.sz 1) (B.sz 2) (fun j => B.sz (10 + j)) 0 0 k := idx_iff.mp h
  have h2 := h1.le
  refine ⟨?_, by omega⟩
  unfold ti
  by_cases h3 : k < 112 ∨ 266 ≤ k
  · rw [if_pos h3]
    refine Or.inr ⟨by omega, by omega, ?_⟩
    rw [show 300 + k - 300 = k by omega]
    exact h1
  · rw [if_neg h3]
    exact Or.inl (Px.up h1 (by omega))
theorem ti_inj {i j : Nat} (hi : i < 275) (hj : j < 275) (h : ti i = ti j) : i = j := by
  unfold ti at h
  split at h <;> split at h <;> omega
theorem notd {g : Geo} (h : g.tz 2 = 0) {k : Nat} (hk : k ∈ g.tdx) : False := by
  unfold Geo.tdx at hk
  rw [if_pos h] at hk
  cases hk
section KBs
variable {z b : Nat} {B : Bg} {μ : Mem} {H : Heap}
theorem KB.gr (h : KB z b B μ H) : Good (B.r z) := ⟨fun i j hi hj e => h.1 i j (r_idx hi).1 (r_idx hj).1 (by rw [← (r_idx hi).2.1, ← (r_idx hj).2.1]; exact e), h.2.2.1.1, h.2.2.1.2.1, h.2.2.1.2.2.1, h.2.2.1.2.2.2.1, h.2.2.1.2.2.2.2, Nat.zero_le _, fun i j hi => (notd rfl hi).elim, fun i j _ hj => (notd rfl hj).elim⟩
theorem KB.gt (h : KB z b B μ H) : Good (B.t z) := ⟨fun i j hi hj e => ti_inj (by have := (t_idx hi).2; omega) (by have := (t_idx hj).2; omega) (h.1 _ _ (t_idx hi).1 (t_idx hj).1 (by rw [← t_ad, ← t_ad]; exact e)), h.2.2.1.1, h.2.2.1.2.1, h.2.2.1.2.2.1, h.2.2.1.2.2.2.1, Nat.zero_le _, Nat.zero_le _, fun i j hi => (notd rfl hi).elim, fun i j _ hj => (notd rfl hj).elim⟩
theorem KB.br (h : KB z b B μ H) : Ab (B.r z) b := ⟨fun k hk => by rw [(r_idx hk).2.1]; exact (h.2.1 k (r_idx hk).1).1, fun k hk => (notd rfl hk).elim⟩
theorem KB.bt (h : KB z b B μ H) : Ab (B.t z) b := ⟨fun k hk => by rw [t_ad]; exact (h.2.1 _ (t_idx hk).1).1, fun k hk => (notd rfl hk).elim⟩
theorem KB.rr (h : KB z b B μ H) : Rg (B.r z) μ H := by
  refine ⟨fun k hk => ?_, fun k hk => (notd rfl hk).elim⟩
  obtain ⟨h1, h2, h3⟩ := r_idx hk
  have h4 := (h.2.1 k h1).2
  unfold obB at h4
  rw [if_pos (by omega)] at h4
  rw [h2]
  exact h4
theorem KB.rt (h : KB z b B μ H) : Rg (B.t z) μ H := by
  refine ⟨fun k hk => ?_, fun k hk => (notd rfl hk).elim⟩
  obtain ⟨h1, h3⟩ := t_idx hk
  have h4 := (h.2.1 _ h1).2
  rw [t_ad]
  by_cases h5 : k < 112 ∨ 266 ≤ k
  · have e : ti k = 300 + k := if_pos h5
    rw [e] at h4 ⊢
    unfold obB at h4
    rw [if_neg (by omega), show 300 + k - 300 = k by omega] at h4
    exact h4
  · have e : ti k = k := if_neg h5
    rw [e] at h4 ⊢
    unfold obB at h4
    rw [if_pos (by omega)] at h4
    refine at_same (g := B.r z) (g' := B.t z) rfl rfl (fun j hj => ?_) (fun _ _ => rfl) (fun _ => rfl) (fun h6 => absurd h6 (by omega)) (fun h6 => absurd h6.2 (by omega)) h4
    have hb : B.sz 2 ≤ 8 := h.2.2.1.2.2.1
    have hbN : ∀ i, B.sz (10 + i) ≤ 10 := h.2.2.1.2.2.2.1
    have hj2 : 112 ≤ j ∧ j < 266 := by
      have q1 := hbN (k - 130)
      have hj : (k = 0 ∧ (j = 112 ∨ j = 266 ∨ j = 98 ∨ j = 100 ∨ j = 97)) ∨ (1 ≤ k ∧ k < 25 ∧ (j = k + 24 ∨ j = k + 48 ∨ j = k + 72)) ∨ (k = 97 ∧ 1 ≤ j ∧ j < 25) ∨ (k = 98 ∧ j = 99) ∨ (k = 99 ∧ 102 ≤ j ∧ j < 102 + B.sz 0) ∨ (k = 100 ∧ j = 101) ∨ (k = 101 ∧ 108 ≤ j ∧ j < 108 + B.sz 1) ∨ (k = 112 ∧ j = 113) ∨ (k = 113 ∧ 114 ≤ j ∧ j < 114 + B.sz 2) ∨ (114 ≤ k ∧ k < 130 ∧ j = k + 8) ∨ (130 ≤ k ∧ k < 138 ∧ 138 + 16 * (k - 130) ≤ j ∧ j < 138 + 16 * (k - 130) + B.sz (k - 120)) ∨ (k = 266 ∧ j = 267) ∨ (k = 267 ∧ 268 ≤ j ∧ j < 268 + (B.r z).tz 0) ∨ (k = 268 ∧ j = 274) ∨ (268 < k ∧ k ≠ 274 ∧ (j = 112 ∨ j = 266 ∨ j = 0 ∨ j = 273)) := hj
      by_cases hk2 : 130 ≤ k
      · rw [show 10 + (k - 130) = k - 120 by omega] at q1
        omega
      · omega
    rw [t_ad, r_ad (by omega)]
    congr 1
    exact if_neg (by omega)
theorem KB.dis (h : KB z b B μ H) : Dis (B.t z) (B.r z) := by
  refine ⟨fun i j hi hj e => ?_, fun i j _ hj => (notd rfl hj).elim⟩
  obtain ⟨hi1, hi2⟩ := mem_mut.mp hi
  rw [t_ad, (r_idx hj).2.1] at e
  have e2 := h.1 _ _ (t_idx hi1).1 (r_idx hj).1 e
  rw [show ti i = 300 + i from if_pos (Or.inl hi2)] at e2
  have := (r_idx hj).2.2
  omega
theorem KB.shr : Shr (B.t z) (B.r z) := fun k h1 h2 => by
  rw [t_ad, r_ad (by omega)]
  congr 1
  exact (if_neg (by omega)).symm
theorem KB.tr : (B.r z).ad 273 = (B.t z).ad 0 := by
  rw [t_ad, show ti 0 = 300 from if_pos (Or.inl (by decide))]
  show (if (273 : Nat) = 273 then B.ad 300 else B.ad 273) = B.ad 300
  exact if_pos rfl
/-- an object that isn't new and that no new one is told in -/
theorem obB_same {B' : Bg} {μ' : Mem} {k a : Nat} (N : Nat → Prop) (hD : B'.D = B.D) (hcy : B'.cy = B.cy) (had : ∀ j, ¬ N j → B'.ad j = B.ad j) (hk : k < 300 → ∀ j, Rf (B.r z) k j → (j ≠ 273 → ¬ N j) ∧ (j = 273 → ¬ N 300)) (hk2 : 300 ≤ k → ∀ j, Rf (B.t z) (k - 300) j → ¬ N (ti j)) (hs : ∀ i, Sz (if k < 300 then k else k - 300) i → B'.sz i = B.sz i) (hsh : ∀ j, B'.sh (if k < 300 then k else k - 300) j = B.sh (if k < 300 then k else k - 300) j) (ht : 266 ≤ k → k < 300 → B'.t0 = B.t0 ∧ B'.tr = B.tr) (hμ : μ' (if k < 300 then k else k - 300) = μ (if k < 300 then k else k - 300)) (hm : ∀ j, isP j → μ j 1 = -1) (h : va_at B.D vwCl (a, obB z B μ k) H) : va_at B.D vwCl (a, obB z B' μ' k) H := by
  unfold obB at h ⊢
  by_cases h3 : k < 300
  · rw [if_pos h3] at h hμ ⊢
    rw [if_pos h3] at hs
    rw [hμ]
    have h9 := at_same (g := B.r z) (g' := B'.r z) hD hcy (fun j hj => ?_) hs (fun j => by have := hsh j; rw [if_pos h3] at this; exact this) (fun h6 => ?_) (hm k) h
    · show va_at B.D vwCl (a, ob (B'.r z) k (μ k)) H
      rw [← hD]; exact h9
    · show (if j = 273 then B'.ad 300 else B'.ad j) = (if j = 273 then B.ad 300 else B.ad j)
      by_cases h4 : j = 273
      · rw [if_pos h4, if_pos h4, had _ ((hk h3 j hj).2 h4)]
      · rw [if_neg h4, if_neg h4, had _ ((hk h3 j hj).1 h4)]
    · obtain ⟨a1, a2⟩ := ht h6 h3
      refine ⟨a1, rfl, ?_, rfl⟩
      show (if (1000 : Nat) = 1000 then B'.tr else fun _ => 0) = (if (1000 : Nat) = 1000 then B.tr else fun _ => 0)
      rw [if_pos rfl, if_pos rfl, a2]
  · rw [if_neg h3] at h hμ ⊢
    rw [if_neg h3] at hs
    rw [hμ]
    have hk2 := hk2 (by omega)
    have hm := hm (k - 300)
    have hsh : ∀ j, B'.sh (k - 300) j = B.sh (k - 300) j := fun j => by
      have := hsh j
      rw [if_neg h3] at this
      exact this
    clear hμ ht hk
    generalize k - 300 = k' at h hs hsh hk2 hm ⊢
    have ht9 : (B'.t z).tz 0 = (B.t z).tz 0 ∧ (B'.t z).tz 2 = (B.t z).tz 2 ∧ (B'.t z).ts 1000 = (B.t z).ts 1000 ∧ (B'.t z).ta 0 = (B.t z).ta 0 := by
      generalize (1000 : Nat) = n
      exact ⟨rfl, rfl, rfl, rfl⟩
    have h8 : va_at (B'.t z).D vwCl (a, ob (B'.t z) k' (μ k')) H := by
      refine at_same (g := B.t z) (g' := B'.t z) hD hcy ?_ ?_ ?_ ?_ ?_ h
      · intro j hj
        rw [t_ad, t_ad, had _ (hk2 j hj)]
      · exact hs
      · exact hsh
      · intro _
        exact ht9
      · exact hm
    show va_at B.D vwCl (a, ob (B'.t z) k' (μ k')) H
    rw [← hD]; exact h8
theorem KB.grow {B' : Bg} {μ' : Mem} {H1 : Heap} (h : KB z b B μ H) (hb : b ≤ H.size) (N O : Nat → Prop) (hD : B'.D = B.D) (hN : ∀ k, inB B' k → N k ∨ inB B k) (had : ∀ k, ¬ N k → B'.ad k = B.ad k) (hnew : ∀ k, N k → inB B' k → H.size ≤ B'.ad k) (hnn : ∀ i j, N i → N j → inB B' i → inB B' j → B'.ad i = B'.ad j → i = j) (hO : ∀ k, inB B' k → N k ∨ O k → va_at B.D vwCl (B'.ad k, obB z B' μ' k) H1) (hkeep : ∀ k, inB B k → ¬ N k → ¬ O k → va_at B.D vwCl (B.ad k, obB z B μ k) H1)
    (hob : ∀ k, inB B k → ¬ N k → ¬ O k → va_at B.D vwCl (B.ad k, obB z B μ k) H1 → va_at B.D vwCl (B.ad k, obB z B' μ' k) H1) (hbn : BnB B') (hez : EzB z B') (hm : ∀ k, isP k → μ' k 1 = -1) : KB z b B' μ' H1 := by
  have hcase : ∀ k, inB B' k → (N k ∧ H.size ≤ B'.ad k) ∨ (¬ N k ∧ inB B k ∧ B'.ad k = B.ad k ∧ B.ad k < H.size) := fun k hk => by
    by_cases h1 : N k
    · exact Or.inl ⟨h1, hnew k h1 hk⟩
    · have h2 := (hN k hk).resolve_left h1
      exact Or.inr ⟨h1, h2, had k h1, (h.2.1 k h2).2.lt⟩
  refine ⟨fun i j hi hj e => ?_, fun k hk => ?_, hbn, hez, hm⟩
  · rcases hcase i hi with ⟨a1, a2⟩ | ⟨a1, a2, a3, a4⟩
    · rcases hcase j hj with ⟨c1, c2⟩ | ⟨c1, c2, c3, c4⟩
      · exact hnn i j a1 c1 hi hj e
      · rw [e, c3] at a2; omega
    · rcases hcase j hj with ⟨c1, c2⟩ | ⟨c1, c2, c3, c4⟩
      · rw [← e, a3] at c2; omega
      · rw [a3, c3] at e; exact h.1 i j a2 c2 e
  · rcases hcase k hk with ⟨a1, a2⟩ | ⟨a1, a2, a3, a4⟩
    · exact ⟨by omega, by rw [hD]; exact hO k hk (Or.inl a1)⟩
    · refine ⟨by rw [a3]; exact (h.2.1 k a2).1, ?_⟩
      rw [hD]
      by_cases h5 : O k
      · exact hO k hk (Or.inr h5)
      · rw [a3]
        exact hob k a2 a1 h5 (hkeep k a2 a1 h5)
theorem Ka.grow {B' : Bg} (N : Nat → Prop) {n : Nat} (hN : ∀ k, inB B' k → N k ∨ inB B k) (had : ∀ k, ¬ N k → B'.ad k = B.ad k) (hnew : ∀ k, N k → inB B' k → n ≤ B'.ad k) {q : Nat} (h : Ka B' q) : Ka B q ∨ n ≤ q := by
  obtain ⟨k, hk, rfl⟩ := h
  by_cases h1 : N k
  · exact Or.inr (hnew k h1 hk)
  · exact Or.inl ⟨k, (hN k hk).resolve_left h1, had k h1⟩
end KBs
