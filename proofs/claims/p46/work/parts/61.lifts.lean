/-! tally, scripts: over both kernels -/
set_option maxHeartbeats 4000000 in
theorem k_X8_addTally (l : Launch) {z b : Nat} {B : Bg} {μ : Mem} {x1 : Int32} (ht : B.t0 = 0) (hez : EzB z B) (g1 : ¬ x1 < 1) (g2 : ¬ 20 < x1) (sz : Nat) : Met l yX8_addTally (ws_ yX8_addTally cX8_addTally 2 (some .int)) (rm_ 5 109 3 23) (Pk z b B μ sz [.ref (B.ad 272), .int x1]) (Qk z b B sz 0 (shT (fun j => if j = 0 then x1 else 0) B.2) μ) 3 23 (Ak B sz) := by
  refine kb_lift [272, 266] (by
    show [(B.ad 272, obB z B μ 272), (B.ad 266, obB z B μ 266)] = _
    rw [o272, o266, ht, hez.2.2.2.2.1 ht]
    rfl) (by decide) (fun k hk => by
    simp only [List.mem_cons, List.not_mem_nil, or_false] at hk
    rcases hk with rfl | rfl
    · exact Or.inl (Or.inr (Or.inr (Or.inr (Or.inr (Or.inr (Or.inr (Or.inr (Or.inr (Or.inr (Or.inr (Or.inr (Or.inr (Or.inr (Or.inr (Or.inr (Or.inr (⟨rfl, rfl⟩)))))))))))))))))
    · exact Or.inl (Or.inr (Or.inr (Or.inr (Or.inr (Or.inr (Or.inr (Or.inr (Or.inr (Or.inr (Or.inr (Or.inr (Or.inr (Or.inl rfl)))))))))))))) (x_X8_addTally l (k0 := 0) (k2 := 2) (tys := (B.r z).tys) rfl rfl (B.ad 272) (B.ad 112) (B.ad 266) (B.ad 0) (B.ad 300) x1 g1 g2 sz) (fun s t h hsz hb hBB hkp => ?_)
  obtain ⟨q1, q2, q3, hP, hD⟩ := hBB
  have hnw : ∀ i (q : Nat × va_E), _ → i ∉ [0, 4] → sz ≤ q.1 := fun i q hi hni => new_of hD [0, 4] rfl (i := i) (q := q) hi hni
  have a1 : adT B q3 q1 q2 267 = q3 := if_pos rfl
  have a2 : adT B q3 q1 q2 268 = q1 := by unfold adT; rw [if_neg (by decide), if_pos rfl]
  have a3 : adT B q3 q1 q2 274 = q2 := by unfold adT; rw [if_neg (by decide), if_neg (by decide), if_pos rfl]
  have hnew : ∀ k, NT () k → s.heap.size ≤ adT B q3 q1 q2 k := by
    rw [hsz]
    rintro k (rfl | rfl | rfl)
    · rw [a1]; exact hnw 2 _ rfl (by decide)
    · rw [a2]; exact hnw 3 _ rfl (by decide)
    · rw [a3]; exact hnw 1 _ rfl (by decide)
  have hnn : ∀ i j, NT () i → NT () j → adT B q3 q1 q2 i = adT B q3 q1 q2 j → i = j := by
    rintro i j (rfl | rfl | rfl) (rfl | rfl | rfl) e9
    · rfl
    · rw [a1, a2] at e9; exact absurd (hD.1 2 3 _ _ rfl rfl e9) (by decide)
    · rw [a1, a3] at e9; exact absurd (hD.1 2 1 _ _ rfl rfl e9) (by decide)
    · rw [a2, a1] at e9; exact absurd (hD.1 3 2 _ _ rfl rfl e9) (by decide)
    · rfl
    · rw [a2, a3] at e9; exact absurd (hD.1 3 1 _ _ rfl rfl e9) (by decide)
    · rw [a3, a1] at e9; exact absurd (hD.1 1 2 _ _ rfl rfl e9) (by decide)
    · rw [a3, a2] at e9; exact absurd (hD.1 1 3 _ _ rfl rfl e9) (by decide)
    · rfl
  rw [← hsz]
  refine ⟨_, kb_T (e := q3) (q := q1) (q1 := q2) (x := fun j => if j = 0 then x1 else 0) h hb ht hnew hnn (hP 4 _ rfl) (hP 0 _ rfl) (hP 2 _ rfl) (hP 3 _ rfl) (hP 1 _ rfl) (fun k hk h1 h2 => ?_), rfl⟩
  unfold OT at h2
  exact hkp k hk (fun h9 => by simp only [List.mem_cons, List.not_mem_nil, or_false] at h9; omega)
set_option maxHeartbeats 4000000 in
theorem k_X8_addScript0 (l : Launch) {z b : Nat} {B : Bg} {μ : Mem}  (hn : B.sz 2 = 0) (hez : EzB z B) (sz : Nat) : Met l yX8_addScript (ws_ yX8_addScript cX8_addScript 1 (some .int)) (rm_ 6 140 3 25) (Pk z b B μ sz [.ref (B.ad 272)]) (Qk z b B sz 0 (shC 0 B.2) μ) 3 25 (Ak B sz) := by
  refine kb_lift [272, 112] (by
    show [(B.ad 272, obB z B μ 272), (B.ad 112, obB z B μ 112)] = _
    rw [o272, o112, hn, hez.2.2.1 hn]
    rfl) (by decide) (fun k hk => by
    simp only [List.mem_cons, List.not_mem_nil, or_false] at hk
    rcases hk with rfl | rfl
    · exact Or.inl (Or.inr (Or.inr (Or.inr (Or.inr (Or.inr (Or.inr (Or.inr (Or.inr (Or.inr (Or.inr (Or.inr (Or.inr (Or.inr (Or.inr (Or.inr (Or.inr (⟨rfl, rfl⟩)))))))))))))))))
    · exact Or.inl (Or.inr (Or.inr (Or.inr (Or.inr (Or.inr (Or.inr (Or.inl rfl)))))))) (x_X8_addScript0 l (k0 := 0) (k2 := 2) (tys := (B.r z).tys) rfl rfl (B.ad 272) (B.ad 112) (B.ad 266) (B.ad 0) (B.ad 300) sz) (fun s t h hsz hb hBB hkp => ?_)
  obtain ⟨q1, q2, q3, hP, hD⟩ := hBB
  have hnw : ∀ i (q : Nat × va_E), _ → i ∉ [0, 4] → sz ≤ q.1 := fun i q hi hni => new_of hD [0, 4] rfl (i := i) (q := q) hi hni
  have a1 : adC z B 0 q3 q1 q2 (114 + 0) = q1 := by unfold adC; rw [if_neg (by omega), if_pos rfl]
  have a2 : adC z B 0 q3 q1 q2 (122 + 0) = q2 := by unfold adC; rw [if_neg (by omega), if_neg (by omega), if_pos rfl]
  have a3 : adC z B 0 q3 q1 q2 113 = q3 := if_pos rfl
  have hnew : ∀ k, NC 0 k → k ≠ 130 + 0 → s.heap.size ≤ adC z B 0 q3 q1 q2 k := by
    rw [hsz]
    rintro k (rfl | rfl | rfl | ⟨h9, rfl⟩) h8
    · rw [a1]; exact hnw 3 _ rfl (by decide)
    · rw [a2]; exact hnw 1 _ rfl (by decide)
    · exact absurd rfl h8
    · rw [a3]; exact hnw 2 _ rfl (by decide)
  have hnn : ∀ i j, NC 0 i → NC 0 j → i ≠ 130 + 0 → j ≠ 130 + 0 → adC z B 0 q3 q1 q2 i = adC z B 0 q3 q1 q2 j → i = j := by
    rintro i j (rfl | rfl | rfl | ⟨h9, rfl⟩) (rfl | rfl | rfl | ⟨h6, rfl⟩) h7 h8 e9
    · rfl
    · rw [a1, a2] at e9; exact absurd (hD.1 3 1 _ _ rfl rfl e9) (by decide)
    · exact absurd rfl h8
    · rw [a1, a3] at e9; exact absurd (hD.1 3 2 _ _ rfl rfl e9) (by decide)
    · rw [a2, a1] at e9; exact absurd (hD.1 1 3 _ _ rfl rfl e9) (by decide)
    · rfl
    · exact absurd rfl h8
    · rw [a2, a3] at e9; exact absurd (hD.1 1 2 _ _ rfl rfl e9) (by decide)
    · exact absurd rfl h7
    · exact absurd rfl h7
    · exact absurd rfl h7
    · exact absurd rfl h7
    · rw [a3, a1] at e9; exact absurd (hD.1 2 3 _ _ rfl rfl e9) (by decide)
    · rw [a3, a2] at e9; exact absurd (hD.1 2 1 _ _ rfl rfl e9) (by decide)
    · exact absurd rfl h8
    · rfl
  rw [← hsz]
  refine ⟨_, kb_C h hb hn (by decide) (fun h9 => absurd rfl h9) hnew hnn (by show va_at B.D vwCl (B.ad 112, .inr (0, [.int (nI (0 + 1)), .ref q3, .int (nI (0 + 1))])) t.heap; rw [show nI (0 + 1) = 0 + 1 from rfl]; exact hP 4 _ rfl) (by rw [fnL0]; exact hP 2 _ rfl) (hP 3 _ rfl) (hP 1 _ rfl) (fun k hk h1 h2 => ?_), by show adC z B 0 q3 q1 q2 272 = B.ad 272; unfold adC; rw [if_neg (by omega), if_neg (by omega), if_neg (by omega), if_neg (by omega)]⟩
  unfold OC at h2
  by_cases k272 : k = 272
  · rw [k272, o272]; exact hP 0 _ rfl
  exact hkp k hk (fun h9 => by simp only [List.mem_cons, List.not_mem_nil, or_false] at h9; omega)
set_option maxHeartbeats 4000000 in
theorem k_X8_addScript1 (l : Launch) {z b : Nat} {B : Bg} {μ : Mem} {n : Nat} (hn : B.sz 2 = n) (hn0 : n ≠ 0) (hn6 : n < 8) (hez : EzB z B) (sz : Nat) : Met l yX8_addScript (ws_ yX8_addScript cX8_addScript 1 (some .int)) (rm_ 6 140 3 25) (Pk z b B μ sz [.ref (B.ad 272)]) (Qk z b B sz (nI n + 1 - 1) (shC n B.2) μ) 3 25 (Ak B sz) := by
  refine kb_lift [272, 112, 113] (by
    show [(B.ad 272, obB z B μ 272), (B.ad 112, obB z B μ 112), (B.ad 113, obB z B μ 113)] = _
    rw [o272, o112, o113, hn]
    rfl) (by decide) (fun k hk => by
    simp only [List.mem_cons, List.not_mem_nil, or_false] at hk
    rcases hk with rfl | rfl | rfl
    · exact Or.inl (Or.inr (Or.inr (Or.inr (Or.inr (Or.inr (Or.inr (Or.inr (Or.inr (Or.inr (Or.inr (Or.inr (Or.inr (Or.inr (Or.inr (Or.inr (Or.inr (⟨rfl, rfl⟩)))))))))))))))))
    · exact Or.inl (Or.inr (Or.inr (Or.inr (Or.inr (Or.inr (Or.inr (Or.inl rfl)))))))
    · exact Or.inl (Or.inr (Or.inr (Or.inr (Or.inr (Or.inr (Or.inr (Or.inr (Or.inl ⟨rfl, by omega⟩))))))))) (x_X8_addScript1 l (k0 := 0) (k2 := 2) (tys := (B.r z).tys) rfl rfl (B.ad 272) (B.ad 112) (B.ad 266) (B.ad 0) (B.ad 300) (B.ad 113) n (fnL (B.r z) n 114) (by omega) (nI_lt hn6 (by decide)) sz) (fun s t h hsz hb hBB hkp => ?_)
  obtain ⟨q1, q2, hP, hD⟩ := hBB
  have hnw : ∀ i (q : Nat × va_E), _ → i ∉ [0, 4, 2] → sz ≤ q.1 := fun i q hi hni => new_of hD [0, 4, 2] rfl (i := i) (q := q) hi hni
  have a1 : adC z B n (B.ad 113) q1 q2 (114 + n) = q1 := by unfold adC; rw [if_neg (by omega), if_pos rfl]
  have a2 : adC z B n (B.ad 113) q1 q2 (122 + n) = q2 := by unfold adC; rw [if_neg (by omega), if_neg (by omega), if_pos rfl]
  have hnew : ∀ k, NC n k → k ≠ 130 + n → s.heap.size ≤ adC z B n (B.ad 113) q1 q2 k := by
    rw [hsz]
    rintro k (rfl | rfl | rfl | ⟨h9, -⟩) h8
    · rw [a1]; exact hnw 3 _ rfl (by decide)
    · rw [a2]; exact hnw 1 _ rfl (by decide)
    · exact absurd rfl h8
    · omega
  have hnn : ∀ i j, NC n i → NC n j → i ≠ 130 + n → j ≠ 130 + n → adC z B n (B.ad 113) q1 q2 i = adC z B n (B.ad 113) q1 q2 j → i = j := by
    rintro i j (rfl | rfl | rfl | ⟨h9, -⟩) (rfl | rfl | rfl | ⟨h6, -⟩) h7 h8 e9
    · rfl
    · rw [a1, a2] at e9; exact absurd (hD.1 3 1 _ _ rfl rfl e9) (by decide)
    · exact absurd rfl h8
    · omega
    · rw [a2, a1] at e9; exact absurd (hD.1 1 3 _ _ rfl rfl e9) (by decide)
    · rfl
    · exact absurd rfl h8
    · omega
    · exact absurd rfl h7
    · exact absurd rfl h7
    · exact absurd rfl h7
    · exact absurd rfl h7
    · omega
    · omega
    · exact absurd rfl h8
    · omega
  rw [← hsz]
  refine ⟨_, kb_C h hb hn hn6 (fun _ => rfl) hnew hnn (by show va_at B.D vwCl (B.ad 112, .inr (0, [.int (nI (n + 1)), .ref (B.ad 113), .int (nI (n + 1))])) t.heap; rw [← nI_1]; exact hP 4 _ rfl) (by rw [show va_up (fnL (B.r z) n 114) n = va_up (fnL (B.r z) n 114) (nI n).toNatClampNeg by rw [nI_clamp (by omega)]]; exact hP 2 _ rfl) (hP 3 _ rfl) (hP 1 _ rfl) (fun k hk h1 h2 => ?_), by show adC z B n (B.ad 113) q1 q2 272 = B.ad 272; unfold adC; rw [if_neg (by omega), if_neg (by omega), if_neg (by omega), if_neg (by omega)]⟩
  unfold OC at h2
  by_cases k272 : k = 272
  · rw [k272, o272]; exact hP 0 _ rfl
  exact hkp k hk (fun h9 => by simp only [List.mem_cons, List.not_mem_nil, or_false] at h9; omega)
