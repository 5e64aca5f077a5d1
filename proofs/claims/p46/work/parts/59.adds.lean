/-! handlers and instructions -/
def NH (_k0 _k : Nat) : Prop := False
def OH (k0 k : Nat) : Prop := k = 114 + k0
def adH (B : Bg) : Nat → Nat := B.ad
def shH (k0 : Nat) (v : Int32) (S : Sh) : Sh := (S.1, S.2.1, S.2.2.1, (fun k => if k = 114 + k0 then upd (S.2.2.2.1 k) 1 v else S.2.2.2.1 k), S.2.2.2.2)
theorem kb_H {z b : Nat} {B : Bg} {μ : Mem} {H H1 : Heap} {k0 : Nat} {v : Int32} (h : KB z b B μ H) (hb : b ≤ H.size) (hk0 : k0 < B.sz 2) (cq : va_at B.D vwCl (B.ad (114 + k0), .inr (5, [.ref (B.ad (122 + k0)), .int v])) H1)
    (hkeep : ∀ k, inB B k → ¬ NH k0 k → ¬ OH k0 k → va_at B.D vwCl (B.ad k, obB z B μ k) H1) : KB z b (adH B, shH k0 v B.2) μ H1 ∧ ∀ p, Ka (adH B, shH k0 v B.2) p → Ka B p ∨ H.size ≤ p := by
  have hbn := h.2.2.1
  have b1 : B.sz 0 ≤ 6 := hbn.1
  have b2 : B.sz 1 ≤ 4 := hbn.2.1
  have b3 : B.sz 2 ≤ 8 := hbn.2.2.1
  have b4 : ∀ i, B.sz (10 + i) ≤ 10 := hbn.2.2.2.1
  have b5 : B.t0 ≤ 1 := hbn.2.2.2.2
  obtain ⟨z0, z1, z2, z3, z4, z5, z6⟩ := h.2.2.2.1
  have hN : ∀ k, inB (adH B, shH k0 v B.2) k → NH k0 k ∨ inB B k := fun k hk => Or.inr hk
  have had : ∀ k, ¬ NH k0 k → adH B k = B.ad k := fun k hk => rfl
  have hnew : ∀ k, NH k0 k → inB (adH B, shH k0 v B.2) k → H.size ≤ adH B k := fun k hk _ => hk.elim
  have hnn : ∀ i j, NH k0 i → NH k0 j → inB (adH B, shH k0 v B.2) i → inB (adH B, shH k0 v B.2) j → adH B i = adH B j → i = j := fun i j hi _ _ _ _ => hi.elim
  refine ⟨KB.grow h hb (NH k0) (OH k0) rfl hN had hnew hnn (fun k hk hO => ?_) hkeep (fun k hk h1 h2 h3 => ?_) ?_ ?_ h.2.2.2.2, fun p hp => Ka.grow (NH k0) hN had hnew hp⟩
  · have hc : k = 114 + k0 := hO.elim (fun h => h.elim) (fun h => h)
    subst hc
    show va_at B.D vwCl (B.ad (114 + k0), _) H1
    unfold obB
    rw [if_pos (by omega), obC (g := Bg.r z (adH B, shH k0 v B.2)) ⟨by omega, by show 114 + k0 < 114 + B.sz 2; omega, by omega⟩]
    have e9 : fsC (Bg.r z (adH B, shH k0 v B.2)) (114 + k0) ((Bg.r z (adH B, shH k0 v B.2)).sh (114 + k0)) = [.ref (B.ad (122 + k0)), .int v] := by
      unfold fsC
      rw [r_ad (by omega), show (Bg.r z (adH B, shH k0 v B.2)).sh (114 + k0) = upd (B.sh (114 + k0)) 1 v from if_pos rfl, show 114 + k0 + 8 = 122 + k0 by omega]
      rfl
    rw [e9]
    exact cq
  · have hkt : (k < 275 ∧ k ≠ 273) ∨ (300 ≤ k ∧ (k < 412 ∨ k = 566)) := by
      rcases hk with hk | ⟨a1, a2, -⟩
      · exact Or.inl hk.lt
      · exact Or.inr ⟨a1, a2⟩
    have hkc : k < 300 → (114 ≤ k → k < 122 → k < 114 + B.sz 2) ∧ (122 ≤ k → k < 130 → k < 122 + B.sz 2) ∧ (130 ≤ k → k < 138 → k < 130 + B.sz 2) := fun h9 => by
      rcases hk with hk | ⟨a1, a2, -⟩
      · exact hk.c
      · omega
    unfold NH at h1
    unfold OH at h2
    refine obB_same (NH k0) rfl rfl had (fun h4 j hj => ?_) (fun h4 j hj => ?_) (fun i hi => ?_) (fun j => ?_) (fun _ _ => ⟨rfl, rfl⟩) rfl h.2.2.2.2 h3
    · have hkc := hkc h4
      have b7 : (B.r z).tz 0 ≤ 1 := b5
      have hj2 : ¬ NH k0 j := by
        unfold NH
        rcases hj with hj | hj | hj | hj | ⟨q0, hj⟩ | hj | ⟨q0, hj⟩ | hj | ⟨q0, hj⟩ | hj | ⟨q0, q1, hj⟩ | hj | ⟨q0, hj⟩ | hj | hj
        · omega
        · omega
        · omega
        · omega
        · have hj : 102 ≤ j ∧ j < 102 + B.sz 0 := hj
          omega
        · omega
        · have hj : 108 ≤ j ∧ j < 108 + B.sz 1 := hj
          omega
        · omega
        · have hj : 114 ≤ j ∧ j < 114 + B.sz 2 := hj
          omega
        · omega
        · have hj : 138 + 16 * (k - 130) ≤ j ∧ j < 138 + 16 * (k - 130) + B.sz (k - 120) := hj
          have b6 := b4 (k - 130)
          rw [show 10 + (k - 130) = k - 120 by omega] at b6
          omega
        · omega
        · omega
        · omega
        · omega
      refine ⟨fun _ => hj2, fun h9 => ?_⟩
      unfold NH
      omega
    · have b7 : (B.t z).tz 0 = 0 := rfl
      have hj9 : j < 112 ∨ j = 112 ∨ j = 266 ∨ j = 267 := by
        rcases hj with hj | hj | hj | hj | ⟨q0, hj⟩ | hj | ⟨q0, hj⟩ | hj | ⟨q0, hj⟩ | hj | ⟨q0, q1, hj⟩ | hj | ⟨q0, hj⟩ | hj | hj
        · omega
        · omega
        · omega
        · omega
        · have hj : 102 ≤ j ∧ j < 102 + B.sz 0 := hj
          omega
        · omega
        · have hj : 108 ≤ j ∧ j < 108 + B.sz 1 := hj
          omega
        · omega
        · omega
        · omega
        · omega
        · omega
        · omega
        · omega
        · omega
      exact fun h9 => h9
    · by_cases h4 : k < 300
      · rw [if_pos h4] at hi
        rfl
      · rw [if_neg h4] at hi
        rfl
    · by_cases h4 : k < 300
      · rw [if_pos h4]
        have h9 : ¬ k = 114 + k0 := by omega
        generalize k = k9 at h9 ⊢
        exact congrFun (if_neg h9 : (if k9 = 114 + k0 then upd (B.sh k9) 1 v else B.sh k9) = B.sh k9) j
      · rw [if_neg h4]
        have h9 : ¬ (k - 300) = 114 + k0 := by omega
        generalize (k - 300) = k9 at h9 ⊢
        exact congrFun (if_neg h9 : (if k9 = 114 + k0 then upd (B.sh k9) 1 v else B.sh k9) = B.sh k9) j
  · exact hbn
  · exact h.2.2.2.1
def insF (i : Nat) (co a b9 : Int32) : Nat → Int32 := fun x => if x = 0 then nI i else if x = 1 then co else if x = 2 then a else if x = 3 then b9 else 0
theorem roN {g : Geo} {k : Nat} (h1 : 130 ≤ k) (h2 : k < 138) (m : Nat → Int32) : ob g k m = .inl (g.cy 2, 10, .inr (.inr (.inr (.inr (fnL g (g.sz (k - 120)) (138 + 16 * (k - 130))))))) := by
  unfold ob
  rw [if_neg (by omega), if_neg (by omega), if_neg (by omega), if_neg (by omega), if_neg (by omega), if_neg (by omega), if_neg (by omega), if_neg (by omega), if_neg (by omega), if_neg (by omega), if_neg (by omega), if_neg (by omega), if_neg (by omega), if_neg (by omega), if_neg (by omega), if_pos h2]
  rfl
def NI (j i k : Nat) : Prop := k = 138 + 16 * j + i ∨ (i = 0 ∧ k = 130 + j)
def OI (j _i k : Nat) : Prop := k = 122 + j ∨ k = 130 + j
def adI (B : Bg) (j i e q : Nat) : Nat → Nat := fun k => if k = 130 + j then e else if k = 138 + 16 * j + i then q else B.ad k
def shI (j i : Nat) (co a b9 : Int32) (S : Sh) : Sh := (S.1, S.2.1, (fun x => if x = 10 + j then i + 1 else S.2.2.1 x), (fun k => if k = 138 + 16 * j + i then insF i co a b9 else S.2.2.2.1 k), S.2.2.2.2)
theorem kb_I {z b : Nat} {B : Bg} {μ : Mem} {H H1 : Heap} {j i e q : Nat} {co a b9 : Int32} (h : KB z b B μ H) (hb : b ≤ H.size) (hj0 : j < B.sz 2) (hi0 : B.sz (10 + j) = i) (hi9 : i < 10) (he : i ≠ 0 → e = B.ad (130 + j)) (hnw : ∀ k, NI j i k → H.size ≤ adI B j i e q k) (hdd : ∀ x y, NI j i x → NI j i y → adI B j i e q x = adI B j i e q y → x = y)
    (cl : va_at B.D vwCl (B.ad (122 + j), obL e (i + 1)) H1) (cr : va_at B.D vwCl (e, .inl (B.cy 2, 10, .inr (.inr (.inr (.inr (va_up (fnL (B.r z) i (138 + 16 * j)) i (some q))))))) H1) (cq : va_at B.D vwCl (q, .inr (2, fsS (insF i co a b9))) H1)
    (hkeep : ∀ k, inB B k → ¬ NI j i k → ¬ OI j i k → va_at B.D vwCl (B.ad k, obB z B μ k) H1) : KB z b (adI B j i e q, shI j i co a b9 B.2) μ H1 ∧ ∀ p, Ka (adI B j i e q, shI j i co a b9 B.2) p → Ka B p ∨ H.size ≤ p := by
  have hbn := h.2.2.1
  have b1 : B.sz 0 ≤ 6 := hbn.1
  have b2 : B.sz 1 ≤ 4 := hbn.2.1
  have b3 : B.sz 2 ≤ 8 := hbn.2.2.1
  have b4 : ∀ i, B.sz (10 + i) ≤ 10 := hbn.2.2.2.1
  have b5 : B.t0 ≤ 1 := hbn.2.2.2.2
  obtain ⟨z0, z1, z2, z3, z4, z5, z6⟩ := h.2.2.2.1
  have hsz : ∀ x, x ≠ 10 + j → Bg.sz (adI B j i e q, shI j i co a b9 B.2) x = B.sz x := fun x hx => if_neg hx
  have hsS : Bg.sz (adI B j i e q, shI j i co a b9 B.2) (10 + j) = i + 1 := by
    show (if 10 + j = 10 + j then i + 1 else B.sz (10 + j)) = i + 1
    exact if_pos rfl
  have hN : ∀ k, inB (adI B j i e q, shI j i co a b9 B.2) k → NI j i k ∨ inB B k := fun k hk => by
    unfold inB at hk
    rw [hsz 0 (by omega), hsz 1 (by omega), hsz 2 (by omega)] at hk
    rcases hk with hk | ⟨a1, a2, hk⟩
    · rcases Px.sN (sN := fun x => B.sz (10 + x)) (sN' := fun x => Bg.sz (adI B j i e q, shI j i co a b9 B.2) (10 + x)) (j := j) (i := i) hi0 hsS (fun x hx => hsz _ (by omega)) hk with h1 | h1
      · exact Or.inl h1
      · exact Or.inr (Or.inl h1)
    · rcases Px.sN (sN := fun x => B.sz (10 + x)) (sN' := fun x => Bg.sz (adI B j i e q, shI j i co a b9 B.2) (10 + x)) (j := j) (i := i) hi0 hsS (fun x hx => hsz _ (by omega)) hk with h1 | h1
      · exfalso; omega
      · exact Or.inr (Or.inr ⟨a1, a2, h1⟩)
  have had : ∀ k, ¬ NI j i k → adI B j i e q k = B.ad k := fun k hk => by
    unfold NI at hk
    unfold adI
    by_cases h1 : k = 130 + j
    · rw [if_pos h1, he (by omega), h1]
    · rw [if_neg h1, if_neg (by omega)]
  have hnew : ∀ k, NI j i k → inB (adI B j i e q, shI j i co a b9 B.2) k → H.size ≤ adI B j i e q k := fun k hk _ => hnw k hk
  have hnn : ∀ x y, NI j i x → NI j i y → inB (adI B j i e q, shI j i co a b9 B.2) x → inB (adI B j i e q, shI j i co a b9 B.2) y → adI B j i e q x = adI B j i e q y → x = y := fun x y hx hy _ _ e9 => hdd x y hx hy e9
  have e1 : adI B j i e q (130 + j) = e := if_pos rfl
  have e2 : adI B j i e q (138 + 16 * j + i) = q := by unfold adI; rw [if_neg (by omega), if_pos rfl]
  have f1 : fnL (Bg.r z (adI B j i e q, shI j i co a b9 B.2)) (i + 1) (138 + 16 * j) = va_up (fnL (B.r z) i (138 + 16 * j)) i (some q) := by
    funext x
    unfold fnL va_up
    dsimp only
    by_cases h1 : x = i
    · rw [if_pos (by omega), if_pos h1, h1, r_ad (by omega)]
      exact congrArg some e2
    · rw [if_neg h1]
      by_cases h2 : x < i
      · rw [if_pos (by omega), if_pos h2, r_ad (by omega), r_ad (by omega)]
        exact congrArg some (had _ (by unfold NI; omega))
      · rw [if_neg (by omega), if_neg h2]
  refine ⟨KB.grow h hb (NI j i) (OI j i) rfl hN had hnew hnn (fun k hk hO => ?_) hkeep (fun k hk h1 h2 h3 => ?_) ?_ ?_ h.2.2.2.2, fun p hp => Ka.grow (NI j i) hN had hnew hp⟩
  · have hc : k = 122 + j ∨ k = 130 + j ∨ k = 138 + 16 * j + i := by
      unfold NI OI at hO
      omega
    rcases hc with rfl | rfl | rfl
    · rw [show Bg.ad (adI B j i e q, shI j i co a b9 B.2) (122 + j) = B.ad (122 + j) from had (122 + j) (by unfold NI; omega)]
      unfold obB
      rw [if_pos (by omega), show 122 + j = (114 + j) + 8 by omega, szN (g := Bg.r z (adI B j i e q, shI j i co a b9 B.2)) ⟨by omega, by rw [show (Bg.r z (adI B j i e q, shI j i co a b9 B.2)).sz 2 = B.sz 2 from hsz 2 (by omega)]; omega, by omega⟩, r_ad (by omega), show 114 + j + 16 = 130 + j by omega, show Bg.ad (adI B j i e q, shI j i co a b9 B.2) (130 + j) = e from e1, show 114 + j - 104 = 10 + j by omega, show (Bg.r z (adI B j i e q, shI j i co a b9 B.2)).sz (10 + j) = i + 1 from hsS, show 114 + j + 8 = 122 + j by omega]
      exact cl
    · rw [show Bg.ad (adI B j i e q, shI j i co a b9 B.2) (130 + j) = e from e1]
      unfold obB
      rw [if_pos (by omega), roN (by omega) (by omega), show 130 + j - 120 = 10 + j by omega, show 130 + j - 130 = j by omega, show (Bg.r z (adI B j i e q, shI j i co a b9 B.2)).sz (10 + j) = i + 1 from hsS, f1]
      exact cr
    · rw [show Bg.ad (adI B j i e q, shI j i co a b9 B.2) (138 + 16 * j + i) = q from e2]
      unfold obB
      rw [if_pos (by omega), obN (g := Bg.r z (adI B j i e q, shI j i co a b9 B.2)) ⟨by omega, by omega, by rw [show (Bg.r z (adI B j i e q, shI j i co a b9 B.2)).sz 2 = B.sz 2 from hsz 2 (by omega)]; omega, by rw [show (138 + 16 * j + i - 138) / 16 = j by omega, show (Bg.r z (adI B j i e q, shI j i co a b9 B.2)).sz (10 + j) = i + 1 from hsS]; omega⟩]
      rw [show (Bg.r z (adI B j i e q, shI j i co a b9 B.2)).sh (138 + 16 * j + i) = insF i co a b9 from if_pos rfl]
      exact cq
  · have hkt : (k < 275 ∧ k ≠ 273) ∨ (300 ≤ k ∧ (k < 412 ∨ k = 566)) := by
      rcases hk with hk | ⟨a1, a2, -⟩
      · exact Or.inl hk.lt
      · exact Or.inr ⟨a1, a2⟩
    have hkc : k < 300 → (114 ≤ k → k < 122 → k < 114 + B.sz 2) ∧ (122 ≤ k → k < 130 → k < 122 + B.sz 2) ∧ (130 ≤ k → k < 138 → k < 130 + B.sz 2) := fun h9 => by
      rcases hk with hk | ⟨a1, a2, -⟩
      · exact hk.c
      · omega
    unfold NI at h1
    unfold OI at h2
    refine obB_same (NI j i) rfl rfl had (fun h4 y hj => ?_) (fun h4 y hj => ?_) (fun w hi => ?_) (fun y => ?_) (fun _ _ => ⟨rfl, rfl⟩) rfl h.2.2.2.2 h3
    · have hkc := hkc h4
      have b7 : (B.r z).tz 0 ≤ 1 := b5
      have hj2 : ¬ NI j i y := by
        unfold NI
        rcases hj with hj | hj | hj | hj | ⟨q0, hj⟩ | hj | ⟨q0, hj⟩ | hj | ⟨q0, hj⟩ | hj | ⟨q0, q1, hj⟩ | hj | ⟨q0, hj⟩ | hj | hj
        · omega
        · omega
        · omega
        · omega
        · have hj : 102 ≤ y ∧ y < 102 + B.sz 0 := hj
          omega
        · omega
        · have hj : 108 ≤ y ∧ y < 108 + B.sz 1 := hj
          omega
        · omega
        · have hj : 114 ≤ y ∧ y < 114 + B.sz 2 := hj
          omega
        · omega
        · have hj : 138 + 16 * (k - 130) ≤ y ∧ y < 138 + 16 * (k - 130) + B.sz (k - 120) := hj
          have b6 := b4 (k - 130)
          rw [show 10 + (k - 130) = k - 120 by omega] at b6
          omega
        · omega
        · omega
        · omega
        · omega
      refine ⟨fun _ => hj2, fun h9 => ?_⟩
      unfold NI
      omega
    · have b7 : (B.t z).tz 0 = 0 := rfl
      have hj9 : y < 112 ∨ y = 112 ∨ y = 266 ∨ y = 267 := by
        rcases hj with hj | hj | hj | hj | ⟨q0, hj⟩ | hj | ⟨q0, hj⟩ | hj | ⟨q0, hj⟩ | hj | ⟨q0, q1, hj⟩ | hj | ⟨q0, hj⟩ | hj | hj
        · omega
        · omega
        · omega
        · omega
        · have hj : 102 ≤ y ∧ y < 102 + B.sz 0 := hj
          omega
        · omega
        · have hj : 108 ≤ y ∧ y < 108 + B.sz 1 := hj
          omega
        · omega
        · omega
        · omega
        · omega
        · omega
        · omega
        · omega
        · omega
      unfold NI ti
      by_cases h5 : y < 112 ∨ 266 ≤ y
      · rw [if_pos h5]
        omega
      · rw [if_neg h5]
        omega
    · by_cases h4 : k < 300
      · rw [if_pos h4] at hi
        refine hsz w ?_
        rcases hi with hi | hi | hi | hi | hi <;> omega
      · rw [if_neg h4] at hi
        refine hsz w ?_
        rcases hi with hi | hi | hi | hi | hi <;> omega
    · by_cases h4 : k < 300
      · rw [if_pos h4]
        have h9 : ¬ k = 138 + 16 * j + i := by omega
        generalize k = k9 at h9 ⊢
        exact congrFun (if_neg h9 : (if k9 = 138 + 16 * j + i then insF i co a b9 else B.sh k9) = B.sh k9) y
      · rw [if_neg h4]
        have h9 : ¬ (k - 300) = 138 + 16 * j + i := by omega
        generalize (k - 300) = k9 at h9 ⊢
        exact congrFun (if_neg h9 : (if k9 = 138 + 16 * j + i then insF i co a b9 else B.sh k9) = B.sh k9) y
  · exact ⟨by rw [hsz 0 (by omega)]; exact b1, by rw [hsz 1 (by omega)]; exact b2, by rw [hsz 2 (by omega)]; exact b3, fun x => by
      by_cases h9 : x = j
      · rw [h9, hsS]; omega
      · rw [hsz _ (by omega)]; exact b4 x, b5⟩
  · refine ⟨fun h9 => ?_, fun h9 => ?_, fun h9 => ?_, fun x h8 h9 => ?_, fun h9 => ?_, ?_, fun x h9 => ?_⟩
    · rw [hsz 0 (by omega)] at h9
      exact ⟨(had _ (by unfold NI; omega)).trans (z0 h9).1, (had _ (by unfold NI; omega)).trans (z0 h9).2⟩
    · rw [hsz 1 (by omega)] at h9
      exact ⟨(had _ (by unfold NI; omega)).trans (z1 h9).1, (had _ (by unfold NI; omega)).trans (z1 h9).2⟩
    · rw [hsz 2 (by omega)] at h9
      omega
    · rw [hsz 2 (by omega)] at h8
      by_cases h7 : x = j
      · rw [h7, hsS] at h9; omega
      · rw [hsz _ (by omega)] at h9
        exact (had _ (by unfold NI; omega)).trans (z3 x h8 h9)
    · exact (had _ (by unfold NI; omega)).trans (z4 h9)
    · exact (had _ (by unfold NI; omega)).trans z5
    · rw [hsz 2 (by omega)] at h9
      rw [hsz _ (by omega)]
      exact z6 x h9
