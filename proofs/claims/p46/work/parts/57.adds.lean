/-! the adders: what they do to both kernels -/
theorem Px.s0 {s1 s2 t0 t1 k n : Nat} {sN : Nat → Nat} (h : Px (n + 1) s1 s2 sN t0 t1 k) : (k = 102 + n ∨ (n = 0 ∧ k = 99)) ∨ Px n s1 s2 sN t0 t1 k := by
  unfold Px at h ⊢
  rcases h with h | h | h | h | h | h | h | h | h | h | h | h | h | h | h | h | h
  · exact Or.inr (Or.inl h)
  · by_cases h9 : n = 0
    · exact Or.inl (by omega)
    · exact Or.inr (Or.inr (Or.inl ⟨h.1, by omega⟩))
  · exact Or.inr (Or.inr (Or.inr (Or.inl h)))
  · exact Or.inr (Or.inr (Or.inr (Or.inr (Or.inl h))))
  · by_cases h9 : k = 102 + n
    · exact Or.inl (by omega)
    · exact Or.inr (Or.inr (Or.inr (Or.inr (Or.inr (Or.inl ⟨h.1, h.2.1, by omega⟩)))))
  · exact Or.inr (Or.inr (Or.inr (Or.inr (Or.inr (Or.inr (Or.inl h))))))
  · exact Or.inr (Or.inr (Or.inr (Or.inr (Or.inr (Or.inr (Or.inr (Or.inl h)))))))
  · exact Or.inr (Or.inr (Or.inr (Or.inr (Or.inr (Or.inr (Or.inr (Or.inr (Or.inl h))))))))
  · exact Or.inr (Or.inr (Or.inr (Or.inr (Or.inr (Or.inr (Or.inr (Or.inr (Or.inr (Or.inl h)))))))))
  · exact Or.inr (Or.inr (Or.inr (Or.inr (Or.inr (Or.inr (Or.inr (Or.inr (Or.inr (Or.inr (Or.inl h))))))))))
  · exact Or.inr (Or.inr (Or.inr (Or.inr (Or.inr (Or.inr (Or.inr (Or.inr (Or.inr (Or.inr (Or.inr (Or.inl h)))))))))))
  · exact Or.inr (Or.inr (Or.inr (Or.inr (Or.inr (Or.inr (Or.inr (Or.inr (Or.inr (Or.inr (Or.inr (Or.inr (Or.inl h))))))))))))
  · exact Or.inr (Or.inr (Or.inr (Or.inr (Or.inr (Or.inr (Or.inr (Or.inr (Or.inr (Or.inr (Or.inr (Or.inr (Or.inr (Or.inl h)))))))))))))
  · exact Or.inr (Or.inr (Or.inr (Or.inr (Or.inr (Or.inr (Or.inr (Or.inr (Or.inr (Or.inr (Or.inr (Or.inr (Or.inr (Or.inr (Or.inl h))))))))))))))
  · exact Or.inr (Or.inr (Or.inr (Or.inr (Or.inr (Or.inr (Or.inr (Or.inr (Or.inr (Or.inr (Or.inr (Or.inr (Or.inr (Or.inr (Or.inr (Or.inl h)))))))))))))))
  · exact Or.inr (Or.inr (Or.inr (Or.inr (Or.inr (Or.inr (Or.inr (Or.inr (Or.inr (Or.inr (Or.inr (Or.inr (Or.inr (Or.inr (Or.inr (Or.inr (Or.inl h))))))))))))))))
  · exact Or.inr (Or.inr (Or.inr (Or.inr (Or.inr (Or.inr (Or.inr (Or.inr (Or.inr (Or.inr (Or.inr (Or.inr (Or.inr (Or.inr (Or.inr (Or.inr (Or.inr (h)))))))))))))))))
theorem Px.s1 {s0 s2 t0 t1 k n : Nat} {sN : Nat → Nat} (h : Px s0 (n + 1) s2 sN t0 t1 k) : (k = 108 + n ∨ (n = 0 ∧ k = 101)) ∨ Px s0 n s2 sN t0 t1 k := by
  unfold Px at h ⊢
  rcases h with h | h | h | h | h | h | h | h | h | h | h | h | h | h | h | h | h
  · exact Or.inr (Or.inl h)
  · exact Or.inr (Or.inr (Or.inl h))
  · exact Or.inr (Or.inr (Or.inr (Or.inl h)))
  · by_cases h9 : n = 0
    · exact Or.inl (by omega)
    · exact Or.inr (Or.inr (Or.inr (Or.inr (Or.inl ⟨h.1, by omega⟩))))
  · exact Or.inr (Or.inr (Or.inr (Or.inr (Or.inr (Or.inl h)))))
  · by_cases h9 : k = 108 + n
    · exact Or.inl (by omega)
    · exact Or.inr (Or.inr (Or.inr (Or.inr (Or.inr (Or.inr (Or.inl ⟨h.1, h.2.1, by omega⟩))))))
  · exact Or.inr (Or.inr (Or.inr (Or.inr (Or.inr (Or.inr (Or.inr (Or.inl h)))))))
  · exact Or.inr (Or.inr (Or.inr (Or.inr (Or.inr (Or.inr (Or.inr (Or.inr (Or.inl h))))))))
  · exact Or.inr (Or.inr (Or.inr (Or.inr (Or.inr (Or.inr (Or.inr (Or.inr (Or.inr (Or.inl h)))))))))
  · exact Or.inr (Or.inr (Or.inr (Or.inr (Or.inr (Or.inr (Or.inr (Or.inr (Or.inr (Or.inr (Or.inl h))))))))))
  · exact Or.inr (Or.inr (Or.inr (Or.inr (Or.inr (Or.inr (Or.inr (Or.inr (Or.inr (Or.inr (Or.inr (Or.inl h)))))))))))
  · exact Or.inr (Or.inr (Or.inr (Or.inr (Or.inr (Or.inr (Or.inr (Or.inr (Or.inr (Or.inr (Or.inr (Or.inr (Or.inl h))))))))))))
  · exact Or.inr (Or.inr (Or.inr (Or.inr (Or.inr (Or.inr (Or.inr (Or.inr (Or.inr (Or.inr (Or.inr (Or.inr (Or.inr (Or.inl h)))))))))))))
  · exact Or.inr (Or.inr (Or.inr (Or.inr (Or.inr (Or.inr (Or.inr (Or.inr (Or.inr (Or.inr (Or.inr (Or.inr (Or.inr (Or.inr (Or.inl h))))))))))))))
  · exact Or.inr (Or.inr (Or.inr (Or.inr (Or.inr (Or.inr (Or.inr (Or.inr (Or.inr (Or.inr (Or.inr (Or.inr (Or.inr (Or.inr (Or.inr (Or.inl h)))))))))))))))
  · exact Or.inr (Or.inr (Or.inr (Or.inr (Or.inr (Or.inr (Or.inr (Or.inr (Or.inr (Or.inr (Or.inr (Or.inr (Or.inr (Or.inr (Or.inr (Or.inr (Or.inl h))))))))))))))))
  · exact Or.inr (Or.inr (Or.inr (Or.inr (Or.inr (Or.inr (Or.inr (Or.inr (Or.inr (Or.inr (Or.inr (Or.inr (Or.inr (Or.inr (Or.inr (Or.inr (Or.inr (h)))))))))))))))))
theorem roR (g : Geo) (m : Nat → Int32) : ob g 99 m = .inl (g.cy 2, 10, .inr (.inr (.inr (.inr (fnL g (g.sz 0) 102))))) := by
  (simp [ob]; rfl)
theorem roS (g : Geo) (m : Nat → Int32) : ob g 101 m = .inl (g.cy 2, 10, .inr (.inr (.inr (.inr (fnL g (g.sz 1) 108))))) := by
  (simp [ob]; rfl)
def NR (n k : Nat) : Prop := k = 102 + n ∨ k = 402 + n ∨ (n = 0 ∧ (k = 99 ∨ k = 399))
def OR (k : Nat) : Prop := k = 98 ∨ k = 99 ∨ k = 398 ∨ k = 399
def adR (B : Bg) (n e e' q q' : Nat) : Nat → Nat := fun k => if k = 99 then e else if k = 399 then e' else if k = 102 + n then q else if k = 402 + n then q' else B.ad k
/-- the shape behind it -/
def shR (n : Nat) (S : Sh) : Sh := (S.1, S.2.1, (fun i => if i = 0 then n + 1 else S.2.2.1 i), S.2.2.2)
def rowR (n : Nat) (x1 x2 : Int32) : Nat → Int32 := fun j => if j = 0 then nI n else if j = 1 then x1 else if j = 2 then x2 else if j = 3 then x2 else 0
def muR (n : Nat) (x1 x2 : Int32) (μ : Mem) : Mem := fun k => if k = 102 + n then rowR n x1 x2 else μ k
theorem kb_R {z b : Nat} {B : Bg} {μ : Mem} {H H1 : Heap} {n e e' q q' : Nat} {x1 x2 : Int32} (h : KB z b B μ H) (hb : b ≤ H.size) (hn : B.sz 0 = n) (hn6 : n < 6) (he : n ≠ 0 → e = B.ad 99 ∧ e' = B.ad 399) (hnew : ∀ k, NR n k → H.size ≤ adR B n e e' q q' k) (hnn : ∀ i j, NR n i → NR n j → adR B n e e' q q' i = adR B n e e' q q' j → i = j)
    (cl : va_at B.D vwCl (B.ad 98, obL e (n + 1)) H1) (cl' : va_at B.D vwCl (B.ad 398, obL e' (n + 1)) H1) (cr : va_at B.D vwCl (e, .inl (B.cy 2, 10, .inr (.inr (.inr (.inr (va_up (fnL (B.r z) n 102) n (some q))))))) H1) (cr' : va_at B.D vwCl (e', .inl (B.cy 2, 10, .inr (.inr (.inr (.inr (va_up (fnL (B.t z) n 102) n (some q'))))))) H1) (cq : va_at B.D vwCl (q, .inr (4, fsR (rowR n x1 x2))) H1) (cq' : va_at B.D vwCl (q', .inr (4, fsR (rowR n x1 x2))) H1)
    (hkeep : ∀ k, inB B k → ¬ NR n k → ¬ OR k → va_at B.D vwCl (B.ad k, obB z B μ k) H1) : KB z b (adR B n e e' q q', shR n B.2) (muR n x1 x2 μ) H1 ∧ ∀ p, Ka (adR B n e e' q q', shR n B.2) p → Ka B p ∨ H.size ≤ p := by
  have hbn := h.2.2.1
  have hsz : ∀ i, i ≠ 0 → Bg.sz (adR B n e e' q q', shR n B.2) i = B.sz i := fun i hi => if_neg hi
  have hsN : (fun j => Bg.sz (adR B n e e' q q', shR n B.2) (10 + j)) = (fun j => B.sz (10 + j)) := funext (fun j => hsz _ (by omega))
  have hsS : Bg.sz (adR B n e e' q q', shR n B.2) 0 = n + 1 := by
    show (if (0 : Nat) = 0 then n + 1 else B.sz 0) = n + 1
    exact if_pos rfl
  have hN : ∀ k, inB (adR B n e e' q q', shR n B.2) k → NR n k ∨ inB B k := fun k hk => by
    unfold inB at hk
    rw [hsN, hsS, hsz 1 (by decide), hsz 2 (by decide)] at hk
    rcases hk with hk | ⟨a1, a2, hk⟩
    · rcases Px.s0 hk with h1 | h1
      · exact Or.inl (by unfold NR; omega)
      · exact Or.inr (Or.inl (by rw [hn]; exact h1))
    · rcases Px.s0 hk with h1 | h1
      · exact Or.inl (by unfold NR; omega)
      · exact Or.inr (Or.inr ⟨a1, a2, by rw [hn]; exact h1⟩)
  have had : ∀ k, ¬ NR n k → adR B n e e' q q' k = B.ad k := fun k hk => by
    unfold NR at hk
    unfold adR
    by_cases h1 : k = 99
    · rw [if_pos h1, (he (by omega)).1, h1]
    · rw [if_neg h1]
      by_cases h2 : k = 399
      · rw [if_pos h2, (he (by omega)).2, h2]
      · rw [if_neg h2, if_neg (by omega), if_neg (by omega)]
  have hmu : ∀ k, k ≠ 102 + n → muR n x1 x2 μ k = μ k := fun k hk => if_neg hk
  have e1 : adR B n e e' q q' 99 = e := if_pos rfl
  have e2 : adR B n e e' q q' 399 = e' := by unfold adR; rw [if_neg (by decide), if_pos rfl]
  have e3 : adR B n e e' q q' (102 + n) = q := by unfold adR; rw [if_neg (by omega), if_neg (by omega), if_pos rfl]
  have e4 : adR B n e e' q q' (402 + n) = q' := by unfold adR; rw [if_neg (by omega), if_neg (by omega), if_neg (by omega), if_pos rfl]
  have f1 : fnL (Bg.r z (adR B n e e' q q', shR n B.2)) (n + 1) 102 = va_up (fnL (B.r z) n 102) n (some q) := by
    funext i
    unfold fnL va_up
    dsimp only
    by_cases h1 : i = n
    · rw [if_pos (by omega), if_pos h1, h1, r_ad (by omega)]
      exact congrArg some e3
    · rw [if_neg h1]
      by_cases h2 : i < n
      · rw [if_pos (by omega), if_pos h2, r_ad (by omega), r_ad (by omega)]
        exact congrArg some (had _ (by unfold NR; omega))
      · rw [if_neg (by omega), if_neg h2]
  have f2 : fnL (Bg.t z (adR B n e e' q q', shR n B.2)) (n + 1) 102 = va_up (fnL (B.t z) n 102) n (some q') := by
    funext i
    unfold fnL va_up
    dsimp only
    by_cases h1 : i = n
    · rw [if_pos (by omega), if_pos h1, h1, t_ad, show ti (102 + n) = 402 + n by unfold ti; rw [if_pos (by omega)]; omega]
      exact congrArg some e4
    · rw [if_neg h1]
      by_cases h2 : i < n
      · rw [if_pos (by omega), if_pos h2, t_ad, t_ad, show ti (102 + i) = 402 + i by unfold ti; rw [if_pos (by omega)]; omega]
        exact congrArg some (had _ (by unfold NR; omega))
      · rw [if_neg (by omega), if_neg h2]
  refine ⟨KB.grow h hb (NR n) OR rfl hN had (fun k hk _ => hnew k hk) (fun i j hi hj _ _ e9 => hnn i j hi hj e9) (fun k hk hO => ?_) hkeep (fun k hk h1 h2 h3 => ?_) ?_ ?_ ?_, fun p hp => Ka.grow (NR n) hN had (fun k hk _ => hnew k hk) hp⟩
  · have hc : k = 98 ∨ k = 99 ∨ k = 398 ∨ k = 399 ∨ k = 102 + n ∨ k = 402 + n := by
      unfold NR OR at hO
      omega
    rcases hc with rfl | rfl | rfl | rfl | rfl | rfl
    · rw [show Bg.ad (adR B n e e' q q', shR n B.2) 98 = B.ad 98 from had 98 (by unfold NR; rintro (h9 | h9 | ⟨-, h9 | h9⟩) <;> first | omega | exact absurd h9 (by decide))]
      unfold obB
      rw [if_pos (by decide), szR, show (Bg.r z (adR B n e e' q q', shR n B.2)).sz 0 = n + 1 from hsS, r_ad (by decide)]
      rw [show Bg.ad (adR B n e e' q q', shR n B.2) 99 = e from e1]
      exact cl
    · rw [show Bg.ad (adR B n e e' q q', shR n B.2) 99 = e from e1]
      unfold obB
      rw [if_pos (by decide), roR, show (Bg.r z (adR B n e e' q q', shR n B.2)).sz 0 = n + 1 from hsS, f1]
      exact cr
    · rw [show Bg.ad (adR B n e e' q q', shR n B.2) 398 = B.ad 398 from had 398 (by unfold NR; rintro (h9 | h9 | ⟨-, h9 | h9⟩) <;> first | omega | exact absurd h9 (by decide))]
      unfold obB
      rw [if_neg (by decide), szR, show (Bg.t z (adR B n e e' q q', shR n B.2)).sz 0 = n + 1 from hsS, t_ad]
      rw [show Bg.ad (adR B n e e' q q', shR n B.2) (ti 99) = e' from e2]
      exact cl'
    · rw [show Bg.ad (adR B n e e' q q', shR n B.2) 399 = e' from e2]
      unfold obB
      rw [if_neg (by decide), roR, show (Bg.t z (adR B n e e' q q', shR n B.2)).sz 0 = n + 1 from hsS, f2]
      exact cr'
    · rw [show Bg.ad (adR B n e e' q q', shR n B.2) (102 + n) = q from e3]
      unfold obB
      rw [if_pos (by omega), obR (g := Bg.r z (adR B n e e' q q', shR n B.2)) ⟨by omega, by rw [show (Bg.r z (adR B n e e' q q', shR n B.2)).sz 0 = n + 1 from hsS]; omega, by omega⟩, show muR n x1 x2 μ (102 + n) = rowR n x1 x2 from if_pos rfl]
      exact cq
    · rw [show Bg.ad (adR B n e e' q q', shR n B.2) (402 + n) = q' from e4]
      unfold obB
      rw [if_neg (by omega), show 402 + n - 300 = 102 + n by omega, obR (g := Bg.t z (adR B n e e' q q', shR n B.2)) ⟨by omega, by rw [show (Bg.t z (adR B n e e' q q', shR n B.2)).sz 0 = n + 1 from hsS]; omega, by omega⟩, show muR n x1 x2 μ (102 + n) = rowR n x1 x2 from if_pos rfl]
      exact cq'
  · have hkt : (k < 275 ∧ k ≠ 273) ∨ (300 ≤ k ∧ (k < 412 ∨ k = 566)) := by
      rcases hk with hk | ⟨a1, a2, -⟩
      · exact Or.inl hk.lt
      · exact Or.inr ⟨a1, a2⟩
    have b1 : B.sz 0 ≤ 6 := hbn.1
    have b2 : B.sz 1 ≤ 4 := hbn.2.1
    have b3 : B.sz 2 ≤ 8 := hbn.2.2.1
    have b4 : ∀ i, B.sz (10 + i) ≤ 10 := hbn.2.2.2.1
    have b5 : B.t0 ≤ 1 := hbn.2.2.2.2
    unfold NR at h1
    unfold OR at h2
    refine obB_same (NR n) rfl rfl had (fun h4 j hj => ?_) (fun h4 j hj => ?_) (fun i hi => ?_) (fun _ => rfl) (fun _ _ => ⟨rfl, rfl⟩) ?_ h.2.2.2.2 h3
    · have b6 := b4 (k - 130)
      have b7 : (B.r z).tz 0 ≤ 1 := b5
      rcases hj with hj | hj | hj | hj | ⟨q0, hj⟩ | hj | ⟨q0, hj⟩ | hj | ⟨q0, hj⟩ | hj | ⟨q0, q1, hj⟩ | hj | ⟨q0, hj⟩ | hj | hj
      · exact ⟨fun _ => by unfold NR; omega, fun _ => by omega⟩
      · exact ⟨fun _ => by unfold NR; omega, fun _ => by omega⟩
      · exact ⟨fun _ => by unfold NR; omega, fun _ => by omega⟩
      · exact ⟨fun _ => by unfold NR; omega, fun _ => by omega⟩
      · have hj : 102 ≤ j ∧ j < 102 + B.sz 0 := hj
        exact ⟨fun _ => by unfold NR; omega, fun _ => by omega⟩
      · exact ⟨fun _ => by unfold NR; omega, fun _ => by omega⟩
      · have hj : 108 ≤ j ∧ j < 108 + B.sz 1 := hj
        exact ⟨fun _ => by unfold NR; omega, fun _ => by omega⟩
      · exact ⟨fun _ => by unfold NR; omega, fun _ => by omega⟩
      · have hj : 114 ≤ j ∧ j < 114 + B.sz 2 := hj
        exact ⟨fun _ => by unfold NR; omega, fun _ => by omega⟩
      · exact ⟨fun _ => by unfold NR; omega, fun _ => by omega⟩
      · have hj : 138 + 16 * (k - 130) ≤ j ∧ j < 138 + 16 * (k - 130) + B.sz (k - 120) := hj
        rw [show 10 + (k - 130) = k - 120 by omega] at b6
        exact ⟨fun _ => by unfold NR; omega, fun _ => by omega⟩
      · exact ⟨fun _ => by unfold NR; omega, fun _ => by omega⟩
      · exact ⟨fun _ => by unfold NR; omega, fun _ => by omega⟩
      · exact ⟨fun _ => by unfold NR; omega, fun _ => by omega⟩
      · exact ⟨fun _ => by unfold NR; omega, fun _ => by unfold NR; omega⟩
    · have hj9 : j < 112 ∨ 112 ≤ j ∧ j < 266 ∨ j = 266 ∨ j = 267 := by
        have b7 : (B.t z).tz 0 = 0 := rfl
        rcases hj with hj | hj | hj | hj | ⟨q0, hj⟩ | hj | ⟨q0, hj⟩ | hj | ⟨q0, hj⟩ | hj | ⟨q0, q1, hj⟩ | hj | ⟨q0, hj⟩ | hj | hj
        · omega
        · omega
        · omega
        · omega
        · have hj : 102 ≤ j ∧ j < 102 + B.sz 0 := hj
          omega
        · omega
        · have hj : 108 ≤ j ∧ j < 108 + B.sz 1 := hj
          omega
        · omega
        · have hj : 114 ≤ j ∧ j < 114 + B.sz 2 := hj
          omega
        · omega
        · omega
        · omega
        · omega
        · omega
        · omega
      have hne : j ≠ 102 + n ∧ (n = 0 → j ≠ 99) := by
        rcases hj with hj | hj | hj | hj | ⟨q0, hj⟩ | hj | ⟨q0, hj⟩ | hj | ⟨q0, hj⟩ | hj | ⟨q0, q1, hj⟩ | hj | ⟨q0, hj⟩ | hj | hj
        · omega
        · omega
        · omega
        · omega
        · have hj : 102 ≤ j ∧ j < 102 + B.sz 0 := hj
          omega
        · omega
        · have hj : 108 ≤ j ∧ j < 108 + B.sz 1 := hj
          omega
        · omega
        · have hj : 114 ≤ j ∧ j < 114 + B.sz 2 := hj
          omega
        · omega
        · omega
        · omega
        · omega
        · omega
        · omega
      unfold NR ti
      by_cases h5 : j < 112 ∨ 266 ≤ j
      · rw [if_pos h5]
        omega
      · rw [if_neg h5]
        omega
    · by_cases h4 : k < 300
      · rw [if_pos h4] at hi
        refine hsz i ?_
        rcases hi with hi | hi | hi | hi | hi <;> omega
      · rw [if_neg h4] at hi
        refine hsz i ?_
        rcases hi with hi | hi | hi | hi | hi <;> omega
    · by_cases h4 : k < 300
      · rw [if_pos h4]
        exact hmu k (by omega)
      · rw [if_neg h4]
        exact hmu (k - 300) (by omega)
  · exact ⟨by show (if (0 : Nat) = 0 then n + 1 else B.sz 0) ≤ 6; rw [if_pos rfl]; omega, hbn.2.1, hbn.2.2.1, fun j => by rw [hsz _ (by omega)]; exact hbn.2.2.2.1 j, hbn.2.2.2.2⟩
  · obtain ⟨z0, z1, z2, z3, z4, z5, z6⟩ := h.2.2.2.1
    have b3 : B.sz 2 ≤ 8 := hbn.2.2.1
    refine ⟨fun h9 => ?_, fun h9 => ?_, fun h9 => ?_, fun j h8 h9 => ?_, fun h9 => ?_, ?_, fun j h9 => ?_⟩
    · rw [hsS] at h9; omega
    · rw [hsz 1 (by decide)] at h9
      exact ⟨(had _ (by unfold NR; omega)).trans (z1 h9).1, (had _ (by unfold NR; omega)).trans (z1 h9).2⟩
    · rw [hsz 2 (by decide)] at h9
      exact (had _ (by unfold NR; omega)).trans (z2 h9)
    · rw [hsz 2 (by decide)] at h8
      rw [hsz _ (by omega)] at h9
      exact (had _ (by unfold NR; omega)).trans (z3 j h8 h9)
    · exact (had _ (by unfold NR; omega)).trans (z4 h9)
    · exact (had _ (by unfold NR; omega)).trans z5
    · rw [hsz 2 (by decide)] at h9
      rw [hsz _ (by omega)]
      exact z6 j h9
  · intro k hk
    rw [hmu k (by have := hk.2; omega)]
    exact h.2.2.2.2 k hk
def NS (n k : Nat) : Prop := k = 108 + n ∨ k = 408 + n ∨ (n = 0 ∧ (k = 101 ∨ k = 401))
def OS (k : Nat) : Prop := k = 100 ∨ k = 101 ∨ k = 400 ∨ k = 401
def adS (B : Bg) (n e e' q q' : Nat) : Nat → Nat := fun k => if k = 101 then e else if k = 401 then e' else if k = 108 + n then q else if k = 408 + n then q' else B.ad k
/-- the shape behind it -/
def shS (n : Nat) (S : Sh) : Sh := (S.1, S.2.1, (fun i => if i = 1 then n + 1 else S.2.2.1 i), S.2.2.2)
def rowS (n : Nat) (x1 x2 : Int32) : Nat → Int32 := fun j => if j = 0 then nI n else if j = 1 then x1 else if j = 2 then x2 else 0
def muS (n : Nat) (x1 x2 : Int32) (μ : Mem) : Mem := fun k => if k = 108 + n then rowS n x1 x2 else μ k
theorem kb_S {z b : Nat} {B : Bg} {μ : Mem} {H H1 : Heap} {n e e' q q' : Nat} {x1 x2 : Int32} (h : KB z b B μ H) (hb : b ≤ H.size) (hn : B.sz 1 = n) (hn6 : n < 4) (he : n ≠ 0 → e = B.ad 101 ∧ e' = B.ad 401) (hnew : ∀ k, NS n k → H.size ≤ adS B n e e' q q' k) (hnn : ∀ i j, NS n i → NS n j → adS B n e e' q q' i = adS B n e e' q q' j → i = j)
    (cl : va_at B.D vwCl (B.ad 100, obL e (n + 1)) H1) (cl' : va_at B.D vwCl (B.ad 400, obL e' (n + 1)) H1) (cr : va_at B.D vwCl (e, .inl (B.cy 2, 10, .inr (.inr (.inr (.inr (va_up (fnL (B.r z) n 108) n (some q))))))) H1) (cr' : va_at B.D vwCl (e', .inl (B.cy 2, 10, .inr (.inr (.inr (.inr (va_up (fnL (B.t z) n 108) n (some q'))))))) H1) (cq : va_at B.D vwCl (q, .inr (6, fsS (rowS n x1 x2))) H1) (cq' : va_at B.D vwCl (q', .inr (6, fsS (rowS n x1 x2))) H1)
    (hkeep : ∀ k, inB B k → ¬ NS n k → ¬ OS k → va_at B.D vwCl (B.ad k, obB z B μ k) H1) : KB z b (adS B n e e' q q', shS n B.2) (muS n x1 x2 μ) H1 ∧ ∀ p, Ka (adS B n e e' q q', shS n B.2) p → Ka B p ∨ H.size ≤ p := by
  have hbn := h.2.2.1
  have hsz : ∀ i, i ≠ 1 → Bg.sz (adS B n e e' q q', shS n B.2) i = B.sz i := fun i hi => if_neg hi
  have hsN : (fun j => Bg.sz (adS B n e e' q q', shS n B.2) (10 + j)) = (fun j => B.sz (10 + j)) := funext (fun j => hsz _ (by omega))
  have hsS : Bg.sz (adS B n e e' q q', shS n B.2) 1 = n + 1 := by
    show (if (1 : Nat) = 1 then n + 1 else B.sz 1) = n + 1
    exact if_pos rfl
  have hN : ∀ k, inB (adS B n e e' q q', shS n B.2) k → NS n k ∨ inB B k := fun k hk => by
    unfold inB at hk
    rw [hsN, hsS, hsz 0 (by decide), hsz 2 (by decide)] at hk
    rcases hk with hk | ⟨a1, a2, hk⟩
    · rcases Px.s1 hk with h1 | h1
      · exact Or.inl (by unfold NS; omega)
      · exact Or.inr (Or.inl (by rw [hn]; exact h1))
    · rcases Px.s1 hk with h1 | h1
      · exact Or.inl (by unfold NS; omega)
      · exact Or.inr (Or.inr ⟨a1, a2, by rw [hn]; exact h1⟩)
  have had : ∀ k, ¬ NS n k → adS B n e e' q q' k = B.ad k := fun k hk => by
    unfold NS at hk
    unfold adS
    by_cases h1 : k = 101
    · rw [if_pos h1, (he (by omega)).1, h1]
    · rw [if_neg h1]
      by_cases h2 : k = 401
      · rw [if_pos h2, (he (by omega)).2, h2]
      · rw [if_neg h2, if_neg (by omega), if_neg (by omega)]
  have hmu : ∀ k, k ≠ 108 + n → muS n x1 x2 μ k = μ k := fun k hk => if_neg hk
  have e1 : adS B n e e' q q' 101 = e := if_pos rfl
  have e2 : adS B n e e' q q' 401 = e' := by unfold adS; rw [if_neg (by decide), if_pos rfl]
  have e3 : adS B n e e' q q' (108 + n) = q := by unfold adS; rw [if_neg (by omega), if_neg (by omega), if_pos rfl]
  have e4 : adS B n e e' q q' (408 + n) = q' := by unfold adS; rw [if_neg (by omega), if_neg (by omega), if_neg (by omega), if_pos rfl]
  have f1 : fnL (Bg.r z (adS B n e e' q q', shS n B.2)) (n + 1) 108 = va_up (fnL (B.r z) n 108) n (some q) := by
    funext i
    unfold fnL va_up
    dsimp only
    by_cases h1 : i = n
    · rw [if_pos (by omega), if_pos h1, h1, r_ad (by omega)]
      exact congrArg some e3
    · rw [if_neg h1]
      by_cases h2 : i < n
      · rw [if_pos (by omega), if_pos h2, r_ad (by omega), r_ad (by omega)]
        exact congrArg some (had _ (by unfold NS; omega))
      · rw [if_neg (by omega), if_neg h2]
  have f2 : fnL (Bg.t z (adS B n e e' q q', shS n B.2)) (n + 1) 108 = va_up (fnL (B.t z) n 108) n (some q') := by
    funext i
    unfold fnL va_up
    dsimp only
    by_cases h1 : i = n
    · rw [if_pos (by omega), if_pos h1, h1, t_ad, show ti (108 + n) = 408 + n by unfold ti; rw [if_pos (by omega)]; omega]
      exact congrArg some e4
    · rw [if_neg h1]
      by_cases h2 : i < n
      · rw [if_pos (by omega), if_pos h2, t_ad, t_ad, show ti (108 + i) = 408 + i by unfold ti; rw [if_pos (by omega)]; omega]
        exact congrArg some (had _ (by unfold NS; omega))
      · rw [if_neg (by omega), if_neg h2]
  refine ⟨KB.grow h hb (NS n) OS rfl hN had (fun k hk _ => hnew k hk) (fun i j hi hj _ _ e9 => hnn i j hi hj e9) (fun k hk hO => ?_) hkeep (fun k hk h1 h2 h3 => ?_) ?_ ?_ ?_, fun p hp => Ka.grow (NS n) hN had (fun k hk _ => hnew k hk) hp⟩
  · have hc : k = 100 ∨ k = 101 ∨ k = 400 ∨ k = 401 ∨ k = 108 + n ∨ k = 408 + n := by
      unfold NS OS at hO
      omega
    rcases hc with rfl | rfl | rfl | rfl | rfl | rfl
    · rw [show Bg.ad (adS B n e e' q q', shS n B.2) 100 = B.ad 100 from had 100 (by unfold NS; rintro (h9 | h9 | ⟨-, h9 | h9⟩) <;> first | omega | exact absurd h9 (by decide))]
      unfold obB
      rw [if_pos (by decide), szS, show (Bg.r z (adS B n e e' q q', shS n B.2)).sz 1 = n + 1 from hsS, r_ad (by decide)]
      rw [show Bg.ad (adS B n e e' q q', shS n B.2) 101 = e from e1]
      exact cl
    · rw [show Bg.ad (adS B n e e' q q', shS n B.2) 101 = e from e1]
      unfold obB
      rw [if_pos (by decide), roS, show (Bg.r z (adS B n e e' q q', shS n B.2)).sz 1 = n + 1 from hsS, f1]
      exact cr
    · rw [show Bg.ad (adS B n e e' q q', shS n B.2) 400 = B.ad 400 from had 400 (by unfold NS; rintro (h9 | h9 | ⟨-, h9 | h9⟩) <;> first | omega | exact absurd h9 (by decide))]
      unfold obB
      rw [if_neg (by decide), szS, show (Bg.t z (adS B n e e' q q', shS n B.2)).sz 1 = n + 1 from hsS, t_ad]
      rw [show Bg.ad (adS B n e e' q q', shS n B.2) (ti 101) = e' from e2]
      exact cl'
    · rw [show Bg.ad (adS B n e e' q q', shS n B.2) 401 = e' from e2]
      unfold obB
      rw [if_neg (by decide), roS, show (Bg.t z (adS B n e e' q q', shS n B.2)).sz 1 = n + 1 from hsS, f2]
      exact cr'
    · rw [show Bg.ad (adS B n e e' q q', shS n B.2) (108 + n) = q from e3]
      unfold obB
      rw [if_pos (by omega), obS (g := Bg.r z (adS B n e e' q q', shS n B.2)) ⟨by omega, by rw [show (Bg.r z (adS B n e e' q q', shS n B.2)).sz 1 = n + 1 from hsS]; omega, by omega⟩, show muS n x1 x2 μ (108 + n) = rowS n x1 x2 from if_pos rfl]
      exact cq
    · rw [show Bg.ad (adS B n e e' q q', shS n B.2) (408 + n) = q' from e4]
      unfold obB
      rw [if_neg (by omega), show 408 + n - 300 = 108 + n by omega, obS (g := Bg.t z (adS B n e e' q q', shS n B.2)) ⟨by omega, by rw [show (Bg.t z (adS B n e e' q q', shS n B.2)).sz 1 = n + 1 from hsS]; omega, by omega⟩, show muS n x1 x2 μ (108 + n) = rowS n x1 x2 from if_pos rfl]
      exact cq'
  · have hkt : (k < 275 ∧ k ≠ 273) ∨ (300 ≤ k ∧ (k < 412 ∨ k = 566)) := by
      rcases hk with hk | ⟨a1, a2, -⟩
      · exact Or.inl hk.lt
      · exact Or.inr ⟨a1, a2⟩
    have b1 : B.sz 0 ≤ 6 := hbn.1
    have b2 : B.sz 1 ≤ 4 := hbn.2.1
    have b3 : B.sz 2 ≤ 8 := hbn.2.2.1
    have b4 : ∀ i, B.sz (10 + i) ≤ 10 := hbn.2.2.2.1
    have b5 : B.t0 ≤ 1 := hbn.2.2.2.2
    unfold NS at h1
    unfold OS at h2
    refine obB_same (NS n) rfl rfl had (fun h4 j hj => ?_) (fun h4 j hj => ?_) (fun i hi => ?_) (fun _ => rfl) (fun _ _ => ⟨rfl, rfl⟩) ?_ h.2.2.2.2 h3
    · have b6 := b4 (k - 130)
      have b7 : (B.r z).tz 0 ≤ 1 := b5
      rcases hj with hj | hj | hj | hj | ⟨q0, hj⟩ | hj | ⟨q0, hj⟩ | hj | ⟨q0, hj⟩ | hj | ⟨q0, q1, hj⟩ | hj | ⟨q0, hj⟩ | hj | hj
      · exact ⟨fun _ => by unfold NS; omega, fun _ => by omega⟩
      · exact ⟨fun _ => by unfold NS; omega, fun _ => by omega⟩
      · exact ⟨fun _ => by unfold NS; omega, fun _ => by omega⟩
      · exact ⟨fun _ => by unfold NS; omega, fun _ => by omega⟩
      · have hj : 102 ≤ j ∧ j < 102 + B.sz 0 := hj
        exact ⟨fun _ => by unfold NS; omega, fun _ => by omega⟩
      · exact ⟨fun _ => by unfold NS; omega, fun _ => by omega⟩
      · have hj : 108 ≤ j ∧ j < 108 + B.sz 1 := hj
        exact ⟨fun _ => by unfold NS; omega, fun _ => by omega⟩
      · exact ⟨fun _ => by unfold NS; omega, fun _ => by omega⟩
      · have hj : 114 ≤ j ∧ j < 114 + B.sz 2 := hj
        exact ⟨fun _ => by unfold NS; omega, fun _ => by omega⟩
      · exact ⟨fun _ => by unfold NS; omega, fun _ => by omega⟩
      · have hj : 138 + 16 * (k - 130) ≤ j ∧ j < 138 + 16 * (k - 130) + B.sz (k - 120) := hj
        rw [show 10 + (k - 130) = k - 120 by omega] at b6
        exact ⟨fun _ => by unfold NS; omega, fun _ => by omega⟩
      · exact ⟨fun _ => by unfold NS; omega, fun _ => by omega⟩
      · exact ⟨fun _ => by unfold NS; omega, fun _ => by omega⟩
      · exact ⟨fun _ => by unfold NS; omega, fun _ => by omega⟩
      · exact ⟨fun _ => by unfold NS; omega, fun _ => by unfold NS; omega⟩
    · have hj9 : j < 112 ∨ 112 ≤ j ∧ j < 266 ∨ j = 266 ∨ j = 267 := by
        have b7 : (B.t z).tz 0 = 0 := rfl
        rcases hj with hj | hj | hj | hj | ⟨q0, hj⟩ | hj | ⟨q0, hj⟩ | hj | ⟨q0, hj⟩ | hj | ⟨q0, q1, hj⟩ | hj | ⟨q0, hj⟩ | hj | hj
        · omega
        · omega
        · omega
        · omega
        · have hj : 102 ≤ j ∧ j < 102 + B.sz 0 := hj
          omega
        · omega
        · have hj : 108 ≤ j ∧ j < 108 + B.sz 1 := hj
          omega
        · omega
        · have hj : 114 ≤ j ∧ j < 114 + B.sz 2 := hj
          omega
        · omega
        · omega
        · omega
        · omega
        · omega
        · omega
      have hne : j ≠ 108 + n ∧ (n = 0 → j ≠ 101) := by
        rcases hj with hj | hj | hj | hj | ⟨q0, hj⟩ | hj | ⟨q0, hj⟩ | hj | ⟨q0, hj⟩ | hj | ⟨q0, q1, hj⟩ | hj | ⟨q0, hj⟩ | hj | hj
        · omega
        · omega
        · omega
        · omega
        · have hj : 102 ≤ j ∧ j < 102 + B.sz 0 := hj
          omega
        · omega
        · have hj : 108 ≤ j ∧ j < 108 + B.sz 1 := hj
          omega
        · omega
        · have hj : 114 ≤ j ∧ j < 114 + B.sz 2 := hj
          omega
        · omega
        · omega
        · omega
        · omega
        · omega
        · omega
      unfold NS ti
      by_cases h5 : j < 112 ∨ 266 ≤ j
      · rw [if_pos h5]
        omega
      · rw [if_neg h5]
        omega
    · by_cases h4 : k < 300
      · rw [if_pos h4] at hi
        refine hsz i ?_
        rcases hi with hi | hi | hi | hi | hi <;> omega
      · rw [if_neg h4] at hi
        refine hsz i ?_
        rcases hi with hi | hi | hi | hi | hi <;> omega
    · by_cases h4 : k < 300
      · rw [if_pos h4]
        exact hmu k (by omega)
      · rw [if_neg h4]
        exact hmu (k - 300) (by omega)
  · exact ⟨hbn.1, by show (if (1 : Nat) = 1 then n + 1 else B.sz 1) ≤ 4; rw [if_pos rfl]; omega, hbn.2.2.1, fun j => by rw [hsz _ (by omega)]; exact hbn.2.2.2.1 j, hbn.2.2.2.2⟩
  · obtain ⟨z0, z1, z2, z3, z4, z5, z6⟩ := h.2.2.2.1
    have b3 : B.sz 2 ≤ 8 := hbn.2.2.1
    refine ⟨fun h9 => ?_, fun h9 => ?_, fun h9 => ?_, fun j h8 h9 => ?_, fun h9 => ?_, ?_, fun j h9 => ?_⟩
    · rw [hsz 0 (by decide)] at h9
      exact ⟨(had _ (by unfold NS; omega)).trans (z0 h9).1, (had _ (by unfold NS; omega)).trans (z0 h9).2⟩
    · rw [hsS] at h9; omega
    · rw [hsz 2 (by decide)] at h9
      exact (had _ (by unfold NS; omega)).trans (z2 h9)
    · rw [hsz 2 (by decide)] at h8
      rw [hsz _ (by omega)] at h9
      exact (had _ (by unfold NS; omega)).trans (z3 j h8 h9)
    · exact (had _ (by unfold NS; omega)).trans (z4 h9)
    · exact (had _ (by unfold NS; omega)).trans z5
    · rw [hsz 2 (by decide)] at h9
      rw [hsz _ (by omega)]
      exact z6 j h9
  · intro k hk
    rw [hmu k (by have := hk.2; omega)]
    exact h.2.2.2.2 k hk
