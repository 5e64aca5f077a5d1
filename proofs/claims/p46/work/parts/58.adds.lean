/-! the adders of what both share -/
theorem Px.s2 {s0 s1 t0 t1 k n : Nat} {sN : Nat → Nat} (hz : sN n = 0) (h : Px s0 s1 (n + 1) sN t0 t1 k) : (k = 114 + n ∨ k = 122 + n ∨ (n = 0 ∧ k = 113)) ∨ Px s0 s1 n sN t0 t1 k := by
  unfold Px at h ⊢
  rcases h with h | h | h | h | h | h | h | h | h | h | h | h | h | h | h | h | h
  · exact Or.inr (Or.inl h)
  · exact Or.inr (Or.inr (Or.inl h))
  · exact Or.inr (Or.inr (Or.inr (Or.inl h)))
  · exact Or.inr (Or.inr (Or.inr (Or.inr (Or.inl h))))
  · exact Or.inr (Or.inr (Or.inr (Or.inr (Or.inr (Or.inl h)))))
  · exact Or.inr (Or.inr (Or.inr (Or.inr (Or.inr (Or.inr (Or.inl h))))))
  · exact Or.inr (Or.inr (Or.inr (Or.inr (Or.inr (Or.inr (Or.inr (Or.inl h)))))))
  · by_cases h9 : n = 0
    · exact Or.inl (by omega)
    · exact Or.inr (Or.inr (Or.inr (Or.inr (Or.inr (Or.inr (Or.inr (Or.inr (Or.inl ⟨h.1, by omega⟩))))))))
  · by_cases h9 : k = 114 + n
    · exact Or.inl (by omega)
    · exact Or.inr (Or.inr (Or.inr (Or.inr (Or.inr (Or.inr (Or.inr (Or.inr (Or.inr (Or.inl ⟨h.1, h.2.1, by omega⟩)))))))))
  · by_cases h9 : k = 122 + n
    · exact Or.inl (by omega)
    · exact Or.inr (Or.inr (Or.inr (Or.inr (Or.inr (Or.inr (Or.inr (Or.inr (Or.inr (Or.inr (Or.inl ⟨h.1, h.2.1, by omega⟩))))))))))
  · obtain ⟨a1, a2, a3, a4⟩ := h
    by_cases h9 : k = 130 + n
    · rw [show k - 130 = n by omega, hz] at a4; omega
    · exact Or.inr (Or.inr (Or.inr (Or.inr (Or.inr (Or.inr (Or.inr (Or.inr (Or.inr (Or.inr (Or.inr (Or.inl ⟨a1, a2, by omega, a4⟩)))))))))))
  · obtain ⟨a1, a2, a3, a4⟩ := h
    by_cases h9 : (k - 138) / 16 = n
    · rw [h9, hz] at a4; omega
    · exact Or.inr (Or.inr (Or.inr (Or.inr (Or.inr (Or.inr (Or.inr (Or.inr (Or.inr (Or.inr (Or.inr (Or.inr (Or.inl ⟨a1, a2, by omega, a4⟩))))))))))))
  · exact Or.inr (Or.inr (Or.inr (Or.inr (Or.inr (Or.inr (Or.inr (Or.inr (Or.inr (Or.inr (Or.inr (Or.inr (Or.inr (Or.inl h)))))))))))))
  · exact Or.inr (Or.inr (Or.inr (Or.inr (Or.inr (Or.inr (Or.inr (Or.inr (Or.inr (Or.inr (Or.inr (Or.inr (Or.inr (Or.inr (Or.inl h))))))))))))))
  · exact Or.inr (Or.inr (Or.inr (Or.inr (Or.inr (Or.inr (Or.inr (Or.inr (Or.inr (Or.inr (Or.inr (Or.inr (Or.inr (Or.inr (Or.inr (Or.inl h)))))))))))))))
  · exact Or.inr (Or.inr (Or.inr (Or.inr (Or.inr (Or.inr (Or.inr (Or.inr (Or.inr (Or.inr (Or.inr (Or.inr (Or.inr (Or.inr (Or.inr (Or.inr (Or.inl h))))))))))))))))
  · exact Or.inr (Or.inr (Or.inr (Or.inr (Or.inr (Or.inr (Or.inr (Or.inr (Or.inr (Or.inr (Or.inr (Or.inr (Or.inr (Or.inr (Or.inr (Or.inr (Or.inr (h)))))))))))))))))
theorem Px.t0 {s0 s1 s2 t1 k : Nat} {sN : Nat → Nat} (h : Px s0 s1 s2 sN 1 t1 k) : (k = 267 ∨ k = 268 ∨ k = 274) ∨ Px s0 s1 s2 sN 0 t1 k := by
  unfold Px at h ⊢
  rcases h with h | h | h | h | h | h | h | h | h | h | h | h | h | h | h | h | h
  · exact Or.inr (Or.inl h)
  · exact Or.inr (Or.inr (Or.inl h))
  · exact Or.inr (Or.inr (Or.inr (Or.inl h)))
  · exact Or.inr (Or.inr (Or.inr (Or.inr (Or.inl h))))
  · exact Or.inr (Or.inr (Or.inr (Or.inr (Or.inr (Or.inl h)))))
  · exact Or.inr (Or.inr (Or.inr (Or.inr (Or.inr (Or.inr (Or.inl h))))))
  · exact Or.inr (Or.inr (Or.inr (Or.inr (Or.inr (Or.inr (Or.inr (Or.inl h)))))))
  · exact Or.inr (Or.inr (Or.inr (Or.inr (Or.inr (Or.inr (Or.inr (Or.inr (Or.inl h))))))))
  · exact Or.inr (Or.inr (Or.inr (Or.inr (Or.inr (Or.inr (Or.inr (Or.inr (Or.inr (Or.inl h)))))))))
  · exact Or.inr (Or.inr (Or.inr (Or.inr (Or.inr (Or.inr (Or.inr (Or.inr (Or.inr (Or.inr (Or.inl h))))))))))
  · exact Or.inr (Or.inr (Or.inr (Or.inr (Or.inr (Or.inr (Or.inr (Or.inr (Or.inr (Or.inr (Or.inr (Or.inl h)))))))))))
  · exact Or.inr (Or.inr (Or.inr (Or.inr (Or.inr (Or.inr (Or.inr (Or.inr (Or.inr (Or.inr (Or.inr (Or.inr (Or.inl h))))))))))))
  · exact Or.inr (Or.inr (Or.inr (Or.inr (Or.inr (Or.inr (Or.inr (Or.inr (Or.inr (Or.inr (Or.inr (Or.inr (Or.inr (Or.inl h)))))))))))))
  · exact Or.inl (by omega)
  · exact Or.inl (by omega)
  · exact Or.inl (by omega)
  · exact Or.inr (Or.inr (Or.inr (Or.inr (Or.inr (Or.inr (Or.inr (Or.inr (Or.inr (Or.inr (Or.inr (Or.inr (Or.inr (Or.inr (Or.inr (Or.inr (Or.inr (h)))))))))))))))))
theorem Px.sN {s0 s1 s2 t0 t1 k j i : Nat} {sN sN' : Nat → Nat} (e1 : sN j = i) (e2 : sN' j = i + 1) (e3 : ∀ x, x ≠ j → sN' x = sN x) (h : Px s0 s1 s2 sN' t0 t1 k) : (k = 138 + 16 * j + i ∨ (i = 0 ∧ k = 130 + j)) ∨ Px s0 s1 s2 sN t0 t1 k := by
  unfold Px at h ⊢
  rcases h with h | h | h | h | h | h | h | h | h | h | h | h | h | h | h | h | h
  · exact Or.inr (Or.inl h)
  · exact Or.inr (Or.inr (Or.inl h))
  · exact Or.inr (Or.inr (Or.inr (Or.inl h)))
  · exact Or.inr (Or.inr (Or.inr (Or.inr (Or.inl h))))
  · exact Or.inr (Or.inr (Or.inr (Or.inr (Or.inr (Or.inl h)))))
  · exact Or.inr (Or.inr (Or.inr (Or.inr (Or.inr (Or.inr (Or.inl h))))))
  · exact Or.inr (Or.inr (Or.inr (Or.inr (Or.inr (Or.inr (Or.inr (Or.inl h)))))))
  · exact Or.inr (Or.inr (Or.inr (Or.inr (Or.inr (Or.inr (Or.inr (Or.inr (Or.inl h))))))))
  · exact Or.inr (Or.inr (Or.inr (Or.inr (Or.inr (Or.inr (Or.inr (Or.inr (Or.inr (Or.inl h)))))))))
  · exact Or.inr (Or.inr (Or.inr (Or.inr (Or.inr (Or.inr (Or.inr (Or.inr (Or.inr (Or.inr (Or.inl h))))))))))
  · obtain ⟨a1, a2, a3, a4⟩ := h
    by_cases h9 : k = 130 + j
    · by_cases h8 : i = 0
      · exact Or.inl (Or.inr ⟨h8, h9⟩)
      · exact Or.inr (Or.inr (Or.inr (Or.inr (Or.inr (Or.inr (Or.inr (Or.inr (Or.inr (Or.inr (Or.inr (Or.inl ⟨a1, a2, a3, by rw [show k - 130 = j by omega, e1]; omega⟩)))))))))))
    · exact Or.inr (Or.inr (Or.inr (Or.inr (Or.inr (Or.inr (Or.inr (Or.inr (Or.inr (Or.inr (Or.inr (Or.inl ⟨a1, a2, a3, by rw [← e3 _ (by omega)]; exact a4⟩)))))))))))
  · obtain ⟨a1, a2, a3, a4⟩ := h
    by_cases h9 : (k - 138) / 16 = j
    · rw [h9, e2] at a4
      by_cases h8 : (k - 138) % 16 = i
      · exact Or.inl (Or.inl (by omega))
      · exact Or.inr (Or.inr (Or.inr (Or.inr (Or.inr (Or.inr (Or.inr (Or.inr (Or.inr (Or.inr (Or.inr (Or.inr (Or.inl ⟨a1, a2, a3, by rw [h9, e1]; omega⟩))))))))))))
    · exact Or.inr (Or.inr (Or.inr (Or.inr (Or.inr (Or.inr (Or.inr (Or.inr (Or.inr (Or.inr (Or.inr (Or.inr (Or.inl ⟨a1, a2, a3, by rw [← e3 _ h9]; exact a4⟩))))))))))))
  · exact Or.inr (Or.inr (Or.inr (Or.inr (Or.inr (Or.inr (Or.inr (Or.inr (Or.inr (Or.inr (Or.inr (Or.inr (Or.inr (Or.inl h)))))))))))))
  · exact Or.inr (Or.inr (Or.inr (Or.inr (Or.inr (Or.inr (Or.inr (Or.inr (Or.inr (Or.inr (Or.inr (Or.inr (Or.inr (Or.inr (Or.inl h))))))))))))))
  · exact Or.inr (Or.inr (Or.inr (Or.inr (Or.inr (Or.inr (Or.inr (Or.inr (Or.inr (Or.inr (Or.inr (Or.inr (Or.inr (Or.inr (Or.inr (Or.inl h)))))))))))))))
  · exact Or.inr (Or.inr (Or.inr (Or.inr (Or.inr (Or.inr (Or.inr (Or.inr (Or.inr (Or.inr (Or.inr (Or.inr (Or.inr (Or.inr (Or.inr (Or.inr (Or.inl h))))))))))))))))
  · exact Or.inr (Or.inr (Or.inr (Or.inr (Or.inr (Or.inr (Or.inr (Or.inr (Or.inr (Or.inr (Or.inr (Or.inr (Or.inr (Or.inr (Or.inr (Or.inr (Or.inr (h)))))))))))))))))
theorem Px.hi {s0 s1 s2 t0 t1 k : Nat} {sN : Nat → Nat} (h : Px s0 s1 s2 sN t0 t1 k) : 268 < k → k = 272 ∨ k = 274 := by
  unfold Px at h
  rcases h with h | h | h | h | h | h | h | h | h | h | h | h | h | h | h | h | h <;> omega
theorem Px.c {s0 s1 s2 t0 t1 k : Nat} {sN : Nat → Nat} (h : Px s0 s1 s2 sN t0 t1 k) : (114 ≤ k → k < 122 → k < 114 + s2) ∧ (122 ≤ k → k < 130 → k < 122 + s2) ∧ (130 ≤ k → k < 138 → k < 130 + s2) := by
  unfold Px at h
  rcases h with h | h | h | h | h | h | h | h | h | h | h | h | h | h | h | h | h <;> omega
theorem roC (g : Geo) (m : Nat → Int32) : ob g 113 m = .inl (g.cy 2, 10, .inr (.inr (.inr (.inr (fnL g (g.sz 2) 114))))) := by
  (simp [ob]; rfl)
def NC (n k : Nat) : Prop := k = 114 + n ∨ k = 122 + n ∨ k = 130 + n ∨ (n = 0 ∧ k = 113)
def OC (_n k : Nat) : Prop := k = 112 ∨ k = 113
def adC (z : Nat) (B : Bg) (n e q q1 : Nat) : Nat → Nat := fun k => if k = 113 then e else if k = 114 + n then q else if k = 122 + n then q1 else if k = 130 + n then z else B.ad k
def shC (n : Nat) (S : Sh) : Sh := (S.1, S.2.1, (fun i => if i = 2 then n + 1 else S.2.2.1 i), (fun k => if k = 114 + n then (fun j => if j = 1 then -1 else 0) else S.2.2.2.1 k), S.2.2.2.2)
theorem kb_C {z b : Nat} {B : Bg} {μ : Mem} {H H1 : Heap} {n e q q1 : Nat} (h : KB z b B μ H) (hb : b ≤ H.size) (hn : B.sz 2 = n) (hn6 : n < 8) (he : n ≠ 0 → e = B.ad 113) (hnw : ∀ k, NC n k → k ≠ 130 + n → H.size ≤ adC z B n e q q1 k) (hdd : ∀ i j, NC n i → NC n j → i ≠ 130 + n → j ≠ 130 + n → adC z B n e q q1 i = adC z B n e q q1 j → i = j)
    (cl : va_at B.D vwCl (B.ad 112, obL e (n + 1)) H1) (cr : va_at B.D vwCl (e, .inl (B.cy 2, 10, .inr (.inr (.inr (.inr (va_up (fnL (B.r z) n 114) n (some q))))))) H1) (cq : va_at B.D vwCl (q, .inr (5, [.ref q1, .int (-1)])) H1) (cq1 : va_at B.D vwCl (q1, obL z 0) H1)
    (hkeep : ∀ k, inB B k → ¬ NC n k → ¬ OC n k → va_at B.D vwCl (B.ad k, obB z B μ k) H1) : KB z b (adC z B n e q q1, shC n B.2) μ H1 ∧ ∀ p, Ka (adC z B n e q q1, shC n B.2) p → Ka B p ∨ H.size ≤ p := by
  have hbn := h.2.2.1
  have b1 : B.sz 0 ≤ 6 := hbn.1
  have b2 : B.sz 1 ≤ 4 := hbn.2.1
  have b3 : B.sz 2 ≤ 8 := hbn.2.2.1
  have b4 : ∀ i, B.sz (10 + i) ≤ 10 := hbn.2.2.2.1
  have b5 : B.t0 ≤ 1 := hbn.2.2.2.2
  obtain ⟨z0, z1, z2, z3, z4, z5, z6⟩ := h.2.2.2.1
  have hz6 : B.sz (10 + n) = 0 := z6 n (by omega)
  have hsz : ∀ i, i ≠ 2 → Bg.sz (adC z B n e q q1, shC n B.2) i = B.sz i := fun i hi => if_neg hi
  have hsN : (fun j => Bg.sz (adC z B n e q q1, shC n B.2) (10 + j)) = (fun j => B.sz (10 + j)) := funext (fun j => hsz _ (by omega))
  have hsS : Bg.sz (adC z B n e q q1, shC n B.2) 2 = n + 1 := by
    show (if (2 : Nat) = 2 then n + 1 else B.sz 2) = n + 1
    exact if_pos rfl
  have hN0 : ∀ k, inB (adC z B n e q q1, shC n B.2) k → (k = 114 + n ∨ k = 122 + n ∨ (n = 0 ∧ k = 113)) ∨ inB B k := fun k hk => by
    unfold inB at hk
    rw [hsN, hsS, hsz 0 (by decide), hsz 1 (by decide)] at hk
    rcases hk with hk | ⟨a1, a2, hk⟩
    · rcases Px.s2 (sN := fun j => B.sz (10 + j)) hz6 hk with h1 | h1
      · exact Or.inl h1
      · exact Or.inr (Or.inl (by rw [hn]; exact h1))
    · rcases Px.s2 (sN := fun j => B.sz (10 + j)) hz6 hk with h1 | h1
      · exfalso; omega
      · exact Or.inr (Or.inr ⟨a1, a2, by rw [hn]; exact h1⟩)
  have hN : ∀ k, inB (adC z B n e q q1, shC n B.2) k → NC n k ∨ inB B k := fun k hk => by
    rcases hN0 k hk with h1 | h1
    · exact Or.inl (by unfold NC; omega)
    · exact Or.inr h1
  have h130 : ¬ inB (adC z B n e q q1, shC n B.2) (130 + n) := fun hk => by
    rcases hN0 _ hk with h1 | h1
    · omega
    · rcases h1 with h1 | ⟨a1, a2, -⟩
      · have := (h1.c).2.2 (by omega) (by omega)
        omega
      · omega
  have had : ∀ k, ¬ NC n k → adC z B n e q q1 k = B.ad k := fun k hk => by
    unfold NC at hk
    unfold adC
    by_cases h1 : k = 113
    · rw [if_pos h1, he (by omega), h1]
    · rw [if_neg h1, if_neg (by omega), if_neg (by omega), if_neg (by omega)]
  have hnew : ∀ k, NC n k → inB (adC z B n e q q1, shC n B.2) k → H.size ≤ adC z B n e q q1 k := fun k hk hi => by
    by_cases h1 : k = 130 + n
    · exact absurd (h1 ▸ hi) h130
    · exact hnw k hk h1
  have hnn : ∀ i j, NC n i → NC n j → inB (adC z B n e q q1, shC n B.2) i → inB (adC z B n e q q1, shC n B.2) j → adC z B n e q q1 i = adC z B n e q q1 j → i = j := fun i j hi hj h1 h2 e9 => hdd i j hi hj (fun h9 => h130 (h9 ▸ h1)) (fun h9 => h130 (h9 ▸ h2)) e9
  have e1 : adC z B n e q q1 113 = e := if_pos rfl
  have e2 : adC z B n e q q1 (114 + n) = q := by unfold adC; rw [if_neg (by omega), if_pos rfl]
  have e3 : adC z B n e q q1 (122 + n) = q1 := by unfold adC; rw [if_neg (by omega), if_neg (by omega), if_pos rfl]
  have e4 : adC z B n e q q1 (130 + n) = z := by unfold adC; rw [if_neg (by omega), if_neg (by omega), if_neg (by omega), if_pos rfl]
  have f1 : fnL (Bg.r z (adC z B n e q q1, shC n B.2)) (n + 1) 114 = va_up (fnL (B.r z) n 114) n (some q) := by
    funext i
    unfold fnL va_up
    dsimp only
    by_cases h1 : i = n
    · rw [if_pos (by omega), if_pos h1, h1, r_ad (by omega)]
      exact congrArg some e2
    · rw [if_neg h1]
      by_cases h2 : i < n
      · rw [if_pos (by omega), if_pos h2, r_ad (by omega), r_ad (by omega)]
        exact congrArg some (had _ (by unfold NC; omega))
      · rw [if_neg (by omega), if_neg h2]
  refine ⟨KB.grow h hb (NC n) (OC n) rfl hN had hnew hnn (fun k hk hO => ?_) hkeep (fun k hk h1 h2 h3 => ?_) ?_ ?_ h.2.2.2.2, fun p hp => Ka.grow (NC n) hN had hnew hp⟩
  · have hc : k = 112 ∨ k = 113 ∨ k = 114 + n ∨ k = 122 + n := by
      unfold NC OC at hO
      have h9 : k ≠ 130 + n := fun h9 => h130 (h9 ▸ hk)
      omega
    rcases hc with rfl | rfl | rfl | rfl
    · rw [show Bg.ad (adC z B n e q q1, shC n B.2) 112 = B.ad 112 from had 112 (by unfold NC; omega)]
      unfold obB
      rw [if_pos (by decide), szC, show (Bg.r z (adC z B n e q q1, shC n B.2)).sz 2 = n + 1 from hsS, r_ad (by decide)]
      rw [show Bg.ad (adC z B n e q q1, shC n B.2) 113 = e from e1]
      exact cl
    · rw [show Bg.ad (adC z B n e q q1, shC n B.2) 113 = e from e1]
      unfold obB
      rw [if_pos (by decide), roC, show (Bg.r z (adC z B n e q q1, shC n B.2)).sz 2 = n + 1 from hsS, f1]
      exact cr
    · rw [show Bg.ad (adC z B n e q q1, shC n B.2) (114 + n) = q from e2]
      unfold obB
      rw [if_pos (by omega), obC (g := Bg.r z (adC z B n e q q1, shC n B.2)) ⟨by omega, by rw [show (Bg.r z (adC z B n e q q1, shC n B.2)).sz 2 = n + 1 from hsS]; omega, by omega⟩]
      have e9 : fsC (Bg.r z (adC z B n e q q1, shC n B.2)) (114 + n) ((Bg.r z (adC z B n e q q1, shC n B.2)).sh (114 + n)) = [.ref q1, .int (-1)] := by
        unfold fsC
        rw [r_ad (by omega), show (Bg.r z (adC z B n e q q1, shC n B.2)).sh (114 + n) = (fun j => if j = 1 then -1 else 0) from if_pos rfl, show 114 + n + 8 = 122 + n by omega, show Bg.ad (adC z B n e q q1, shC n B.2) (122 + n) = q1 from e3]
        rfl
      rw [e9]
      exact cq
    · rw [show Bg.ad (adC z B n e q q1, shC n B.2) (122 + n) = q1 from e3]
      unfold obB
      rw [if_pos (by omega), show 122 + n = (114 + n) + 8 by omega, szN (g := Bg.r z (adC z B n e q q1, shC n B.2)) ⟨by omega, by rw [show (Bg.r z (adC z B n e q q1, shC n B.2)).sz 2 = n + 1 from hsS]; omega, by omega⟩, r_ad (by omega), show 114 + n + 16 = 130 + n by omega, show Bg.ad (adC z B n e q q1, shC n B.2) (130 + n) = z from e4, show 114 + n - 104 = 10 + n by omega, show (Bg.r z (adC z B n e q q1, shC n B.2)).sz (10 + n) = B.sz (10 + n) from hsz _ (by omega), hz6]
      exact cq1
  · have hkt : (k < 275 ∧ k ≠ 273) ∨ (300 ≤ k ∧ (k < 412 ∨ k = 566)) := by
      rcases hk with hk | ⟨a1, a2, -⟩
      · exact Or.inl hk.lt
      · exact Or.inr ⟨a1, a2⟩
    have hkc : k < 300 → (114 ≤ k → k < 122 → k < 114 + B.sz 2) ∧ (122 ≤ k → k < 130 → k < 122 + B.sz 2) ∧ (130 ≤ k → k < 138 → k < 130 + B.sz 2) := fun h9 => by
      rcases hk with hk | ⟨a1, a2, -⟩
      · exact hk.c
      · omega
    unfold NC at h1
    unfold OC at h2
    refine obB_same (NC n) rfl rfl had (fun h4 j hj => ?_) (fun h4 j hj => ?_) (fun i hi => ?_) (fun j => ?_) (fun _ _ => ⟨rfl, rfl⟩) rfl h.2.2.2.2 h3
    · have hkc := hkc h4
      have b7 : (B.r z).tz 0 ≤ 1 := b5
      have hj2 : ¬ NC n j := by
        unfold NC
        rcases hj with hj | hj | hj | hj | ⟨q0, hj⟩ | hj | ⟨q0, hj⟩ | hj | ⟨q0, hj⟩ | hj | ⟨q0, q1, hj⟩ | hj | ⟨q0, hj⟩ | hj | hj
        · omega
        · omega
        · omega
        · omega
        · have hj : 102 ≤ j ∧ j < 102 + B.sz 0 := hj
          omega
        · omega
        · have hj : 108 ≤ j ∧ j < 108 + B.sz 1 := hj
          omega
        · omega
        · have hj : 114 ≤ j ∧ j < 114 + B.sz 2 := hj
          omega
        · omega
        · have hj : 138 + 16 * (k - 130) ≤ j ∧ j < 138 + 16 * (k - 130) + B.sz (k - 120) := hj
          have b6 := b4 (k - 130)
          rw [show 10 + (k - 130) = k - 120 by omega] at b6
          omega
        · omega
        · omega
        · omega
        · omega
      refine ⟨fun _ => hj2, fun h9 => ?_⟩
      unfold NC
      omega
    · have b7 : (B.t z).tz 0 = 0 := rfl
      have hj9 : j < 112 ∨ j = 112 ∨ j = 266 ∨ j = 267 := by
        rcases hj with hj | hj | hj | hj | ⟨q0, hj⟩ | hj | ⟨q0, hj⟩ | hj | ⟨q0, hj⟩ | hj | ⟨q0, q1, hj⟩ | hj | ⟨q0, hj⟩ | hj | hj
        · omega
        · omega
        · omega
        · omega
        · have hj : 102 ≤ j ∧ j < 102 + B.sz 0 := hj
          omega
        · omega
        · have hj : 108 ≤ j ∧ j < 108 + B.sz 1 := hj
          omega
        · omega
        · omega
        · omega
        · omega
        · omega
        · omega
        · omega
        · omega
      unfold NC ti
      by_cases h5 : j < 112 ∨ 266 ≤ j
      · rw [if_pos h5]
        omega
      · rw [if_neg h5]
        omega
    · by_cases h4 : k < 300
      · rw [if_pos h4] at hi
        refine hsz i ?_
        rcases hi with hi | hi | hi | hi | hi <;> omega
      · rw [if_neg h4] at hi
        refine hsz i ?_
        rcases hi with hi | hi | hi | hi | hi <;> omega
    · by_cases h4 : k < 300
      · rw [if_pos h4]
        have h9 : ¬ k = 114 + n := by omega
        generalize k = k9 at h9 ⊢
        exact congrFun (if_neg h9 : (if k9 = 114 + n then (fun j => if j = 1 then (-1 : Int32) else 0) else B.sh k9) = B.sh k9) j
      · rw [if_neg h4]
        have h9 : ¬ (k - 300) = 114 + n := by omega
        generalize (k - 300) = k9 at h9 ⊢
        exact congrFun (if_neg h9 : (if k9 = 114 + n then (fun j => if j = 1 then (-1 : Int32) else 0) else B.sh k9) = B.sh k9) j
  · exact ⟨by rw [hsz 0 (by decide)]; exact b1, by rw [hsz 1 (by decide)]; exact b2, by rw [hsS]; omega, fun j => by rw [hsz _ (by omega)]; exact b4 j, b5⟩
  · refine ⟨fun h9 => ?_, fun h9 => ?_, fun h9 => ?_, fun j h8 h9 => ?_, fun h9 => ?_, ?_, fun j h9 => ?_⟩
    · rw [hsz 0 (by decide)] at h9
      exact ⟨(had _ (by unfold NC; omega)).trans (z0 h9).1, (had _ (by unfold NC; omega)).trans (z0 h9).2⟩
    · rw [hsz 1 (by decide)] at h9
      exact ⟨(had _ (by unfold NC; omega)).trans (z1 h9).1, (had _ (by unfold NC; omega)).trans (z1 h9).2⟩
    · rw [hsS] at h9; omega
    · rw [hsS] at h8
      rw [hsz _ (by omega)] at h9
      by_cases h7 : j = n
      · rw [h7]; exact e4
      · exact (had _ (by unfold NC; omega)).trans (z3 j (by omega) h9)
    · exact (had _ (by unfold NC; omega)).trans (z4 h9)
    · exact (had _ (by unfold NC; omega)).trans z5
    · rw [hsS] at h9
      rw [hsz _ (by omega)]
      exact z6 j (by omega)
theorem roT (g : Geo) (m : Nat → Int32) : ob g 267 m = .inl (g.cy 2, 10, .inr (.inr (.inr (.inr (fnL g (g.tz 0) 268))))) := by
  (simp [ob]; rfl)
theorem obF (g : Geo) (m : Nat → Int32) : ob g 272 m = .inr (9, [.ref (g.ad 112), .ref (g.ad 266), .ref (g.ad 0), .ref (g.ad 273)]) := by simp [ob]
def NT (_u : Unit) (k : Nat) : Prop := k = 267 ∨ k = 268 ∨ k = 274
def OT (_u : Unit) (k : Nat) : Prop := k = 266 ∨ k = 272
def adT (B : Bg) (e q q1 : Nat) : Nat → Nat := fun k => if k = 267 then e else if k = 268 then q else if k = 274 then q1 else B.ad k
def shT (x : Nat → Int32) (S : Sh) : Sh := (S.1, S.2.1, S.2.2.1, S.2.2.2.1, 1, x)
theorem kb_T {z b : Nat} {B : Bg} {μ : Mem} {H H1 : Heap} {e q q1 : Nat} {x : Nat → Int32} (h : KB z b B μ H) (hb : b ≤ H.size) (ht0 : B.t0 = 0) (hnw : ∀ k, NT () k → H.size ≤ adT B e q q1 k) (hdd : ∀ i j, NT () i → NT () j → adT B e q q1 i = adT B e q q1 j → i = j)
    (cl : va_at B.D vwCl (B.ad 266, obL e 1) H1) (cf : va_at B.D vwCl (B.ad 272, .inr (9, [.ref (B.ad 112), .ref (B.ad 266), .ref (B.ad 0), .ref (B.ad 300)])) H1) (cr : va_at B.D vwCl (e, .inl (B.cy 2, 10, .inr (.inr (.inr (.inr (va_up (fun _ => none) 0 (some q))))))) H1) (cq : va_at B.D vwCl (q, .inr (7, [.int (x 0), .int (x 1), .int (x 2), .int (x 3), .int (x 4), .int (x 5), .int (x 6), .int (x 7), .int (x 8), .ref q1])) H1) (cq1 : va_at B.D vwCl (q1, obL z 0) H1)
    (hkeep : ∀ k, inB B k → ¬ NT () k → ¬ OT () k → va_at B.D vwCl (B.ad k, obB z B μ k) H1) : KB z b (adT B e q q1, shT x B.2) μ H1 ∧ ∀ p, Ka (adT B e q q1, shT x B.2) p → Ka B p ∨ H.size ≤ p := by
  have hbn := h.2.2.1
  have b1 : B.sz 0 ≤ 6 := hbn.1
  have b2 : B.sz 1 ≤ 4 := hbn.2.1
  have b3 : B.sz 2 ≤ 8 := hbn.2.2.1
  have b4 : ∀ i, B.sz (10 + i) ≤ 10 := hbn.2.2.2.1
  have b5 : B.t0 ≤ 1 := hbn.2.2.2.2
  obtain ⟨z0, z1, z2, z3, z4, z5, z6⟩ := h.2.2.2.1
  have hN : ∀ k, inB (adT B e q q1, shT x B.2) k → NT () k ∨ inB B k := fun k hk => by
    rcases hk with hk | ⟨a1, a2, hk⟩
    · rcases Px.t0 hk with h1 | h1
      · exact Or.inl h1
      · exact Or.inr (Or.inl (by rw [ht0]; exact h1))
    · exact Or.inr (Or.inr ⟨a1, a2, hk⟩)
  have had : ∀ k, ¬ NT () k → adT B e q q1 k = B.ad k := fun k hk => by
    unfold NT at hk
    unfold adT
    rw [if_neg (by omega), if_neg (by omega), if_neg (by omega)]
  have hnew : ∀ k, NT () k → inB (adT B e q q1, shT x B.2) k → H.size ≤ adT B e q q1 k := fun k hk hi => hnw k hk
  have hnn : ∀ i j, NT () i → NT () j → inB (adT B e q q1, shT x B.2) i → inB (adT B e q q1, shT x B.2) j → adT B e q q1 i = adT B e q q1 j → i = j := fun i j hi hj _ _ e9 => hdd i j hi hj e9
  have e1 : adT B e q q1 267 = e := if_pos rfl
  have e2 : adT B e q q1 268 = q := by unfold adT; rw [if_neg (by decide), if_pos rfl]
  have e3 : adT B e q q1 274 = q1 := by unfold adT; rw [if_neg (by decide), if_neg (by decide), if_pos rfl]
  have f0 : (Bg.r z (adT B e q q1, shT x B.2)).tz 0 = 1 := rfl
  have f1 : fnL (Bg.r z (adT B e q q1, shT x B.2)) 1 268 = va_up (fun _ => none) 0 (some q) := by
    funext i
    unfold fnL va_up
    dsimp only
    by_cases h1 : i = 0
    · rw [if_pos (by omega), if_pos h1, h1, r_ad (by decide)]
      exact congrArg some e2
    · rw [if_neg h1, if_neg (by omega)]
  refine ⟨KB.grow h hb (NT ()) (OT ()) rfl hN had hnew hnn (fun k hk hO => ?_) hkeep (fun k hk h1 h2 h3 => ?_) ?_ ?_ h.2.2.2.2, fun p hp => Ka.grow (NT ()) hN had hnew hp⟩
  · have hc : k = 266 ∨ k = 272 ∨ k = 267 ∨ k = 268 ∨ k = 274 := by
      unfold NT OT at hO
      omega
    rcases hc with rfl | rfl | rfl | rfl | rfl
    · rw [show Bg.ad (adT B e q q1, shT x B.2) 266 = B.ad 266 from had 266 (by simp [NT])]
      unfold obB
      rw [if_pos (by decide), szT, f0, r_ad (by decide)]
      rw [show Bg.ad (adT B e q q1, shT x B.2) 267 = e from e1]
      exact cl
    · rw [show Bg.ad (adT B e q q1, shT x B.2) 272 = B.ad 272 from had 272 (by simp [NT])]
      unfold obB
      rw [if_pos (by decide), obF, r_ad (by decide), r_ad (by decide), r_ad (by decide)]
      rw [show Bg.ad (adT B e q q1, shT x B.2) 112 = B.ad 112 from had 112 (by simp [NT]), show Bg.ad (adT B e q q1, shT x B.2) 266 = B.ad 266 from had 266 (by simp [NT]), show Bg.ad (adT B e q q1, shT x B.2) 0 = B.ad 0 from had 0 (by simp [NT]), show (Bg.r z (adT B e q q1, shT x B.2)).ad 273 = B.ad 300 from had 300 (by simp [NT])]
      exact cf
    · rw [show Bg.ad (adT B e q q1, shT x B.2) 267 = e from e1]
      unfold obB
      rw [if_pos (by decide), roT, f0, f1]
      exact cr
    · rw [show Bg.ad (adT B e q q1, shT x B.2) 268 = q from e2]
      unfold obB
      rw [if_pos (by decide), obY (g := Bg.r z (adT B e q q1, shT x B.2)) ⟨rfl, f0⟩]
      have e9 : fsY (Bg.r z (adT B e q q1, shT x B.2)) = [.int (x 0), .int (x 1), .int (x 2), .int (x 3), .int (x 4), .int (x 5), .int (x 6), .int (x 7), .int (x 8), .ref q1] := by
        unfold fsY
        rw [r_ad (by decide), show (Bg.r z (adT B e q q1, shT x B.2)).ts 1000 = x from (by show (if (1000 : Nat) = 1000 then x else fun _ => 0) = x; exact if_pos rfl), show Bg.ad (adT B e q q1, shT x B.2) 274 = q1 from e3]
      rw [e9]
      exact cq
    · rw [show Bg.ad (adT B e q q1, shT x B.2) 274 = q1 from e3]
      unfold obB
      rw [if_pos (by decide), szK]
      exact cq1
  · have hkt : (k < 275 ∧ k ≠ 273) ∨ (300 ≤ k ∧ (k < 412 ∨ k = 566)) := by
      rcases hk with hk | ⟨a1, a2, -⟩
      · exact Or.inl hk.lt
      · exact Or.inr ⟨a1, a2⟩
    have hkc : k < 300 → (114 ≤ k → k < 122 → k < 114 + B.sz 2) ∧ (122 ≤ k → k < 130 → k < 122 + B.sz 2) ∧ (130 ≤ k → k < 138 → k < 130 + B.sz 2) := fun h9 => by
      rcases hk with hk | ⟨a1, a2, -⟩
      · exact hk.c
      · omega
    unfold NT at h1
    unfold OT at h2
    refine obB_same (NT ()) rfl rfl had (fun h4 j hj => ?_) (fun h4 j hj => ?_) (fun i hi => ?_) (fun j => ?_) (fun h8 h9 => by
      exfalso
      rcases hk with hk | ⟨a1, a2, -⟩
      · have := hk.hi
        omega
      · omega) rfl h.2.2.2.2 h3
    · have hkc := hkc h4
      have b7 : (B.r z).tz 0 ≤ 1 := b5
      have hj2 : ¬ NT () j := by
        unfold NT
        rcases hj with hj | hj | hj | hj | ⟨q0, hj⟩ | hj | ⟨q0, hj⟩ | hj | ⟨q0, hj⟩ | hj | ⟨q0, q1, hj⟩ | hj | ⟨q0, hj⟩ | hj | hj
        · omega
        · omega
        · omega
        · omega
        · have hj : 102 ≤ j ∧ j < 102 + B.sz 0 := hj
          omega
        · omega
        · have hj : 108 ≤ j ∧ j < 108 + B.sz 1 := hj
          omega
        · omega
        · have hj : 114 ≤ j ∧ j < 114 + B.sz 2 := hj
          omega
        · omega
        · have hj : 138 + 16 * (k - 130) ≤ j ∧ j < 138 + 16 * (k - 130) + B.sz (k - 120) := hj
          have b6 := b4 (k - 130)
          rw [show 10 + (k - 130) = k - 120 by omega] at b6
          omega
        · omega
        · omega
        · omega
        · omega
      refine ⟨fun _ => hj2, fun h9 => ?_⟩
      unfold NT
      omega
    · have b7 : (B.t z).tz 0 = 0 := rfl
      have hj9 : j < 112 ∨ j = 112 ∨ j = 266 ∨ j = 267 := by
        rcases hj with hj | hj | hj | hj | ⟨q0, hj⟩ | hj | ⟨q0, hj⟩ | hj | ⟨q0, hj⟩ | hj | ⟨q0, q1, hj⟩ | hj | ⟨q0, hj⟩ | hj | hj
        · omega
        · omega
        · omega
        · omega
        · have hj : 102 ≤ j ∧ j < 102 + B.sz 0 := hj
          omega
        · omega
        · have hj : 108 ≤ j ∧ j < 108 + B.sz 1 := hj
          omega
        · omega
        · omega
        · omega
        · omega
        · omega
        · omega
        · omega
        · omega
      unfold NT ti
      by_cases h5 : j < 112 ∨ 266 ≤ j
      · rw [if_pos h5]
        omega
      · rw [if_neg h5]
        omega
    · by_cases h4 : k < 300
      · rw [if_pos h4] at hi
        rfl
      · rw [if_neg h4] at hi
        rfl
    · by_cases h4 : k < 300
      · rw [if_pos h4]
        rfl
      · rw [if_neg h4]
        rfl
  · exact ⟨b1, b2, b3, b4, Nat.le_refl 1⟩
  · refine ⟨fun h9 => ?_, fun h9 => ?_, fun h9 => ?_, fun j h8 h9 => ?_, fun h9 => ?_, ?_, fun j h9 => ?_⟩
    · exact ⟨(had 99 (by simp [NT])).trans (z0 h9).1, (had 399 (by simp [NT])).trans (z0 h9).2⟩
    · exact ⟨(had 101 (by simp [NT])).trans (z1 h9).1, (had 401 (by simp [NT])).trans (z1 h9).2⟩
    · exact (had 113 (by simp [NT])).trans (z2 h9)
    · have h8 : j < B.sz 2 := h8
      exact (had (130 + j) (by unfold NT; omega)).trans (z3 j h8 h9)
    · exact absurd h9 (show ¬ (1 : Nat) = 0 by decide)
    · exact (had 567 (by simp [NT])).trans z5
    · exact z6 j h9
