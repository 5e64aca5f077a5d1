/-! setHandler, add: over both kernels -/
theorem kb_lift2 {l : Launch} {y : MethodName} {ws : List Cond} {rm : Room} {mc ms z b : Nat} {B : Bg} {μ : Mem} {sz : Nat} {av : List Value} {wc : va_W} {BB : Unit → State → Prop} {v0 : Int32} {S' : Sh} {μ' : Mem} (L : List Nat) (hw : L.map (fun k => (B.ad k, obB z B μ k)) = wc) (hL : L.Nodup) (hLi : ∀ k ∈ L, inB B k)
    (M : Good (B.r z) → (∀ k, isP k → μ k 1 = -1) → BnB B → Met l y ws rm (Xe B.D (B.r z).tys z b (B.cy 2) av (fun H9 => H9.size = sz ∧ Rg (B.r z) μ H9) wc) (va_Qi (fun (v : Int32) (_ : Unit) => v = v0) BB (va_A wc sz)) mc ms (va_A wc sz))
    (hB : ∀ s t : State, KB z b B μ s.heap → s.heap.size = sz → b ≤ s.heap.size → BB () t → (∀ k, inB B k → k ∉ L → va_at B.D vwCl (B.ad k, obB z B μ k) t.heap) → ∃ ad' : Nat → Nat, (KB z b (ad', S') μ' t.heap ∧ ∀ p, Ka (ad', S') p → Ka B p ∨ sz ≤ p) ∧ ad' 272 = B.ad 272) : Met l y ws rm (Pk z b B μ sz av) (Qk z b B sz v0 S' μ') mc ms (Ak B sz) := by
  refine Met.conseq (fun args s hv => ?_)
  obtain ⟨ha, ⟨hT, hE⟩, hsz, hK⟩ := hv
  have hsub : ∀ q, va_A wc sz q → Ak B sz q := by
    rintro q (⟨i, e, h1⟩ | h1)
    · rw [← hw, List.getElem?_map] at h1
      cases hx : L[i]? with
      | none => rw [hx] at h1; cases h1
      | some x =>
        rw [hx] at h1
        have e1 : (B.ad x, obB z B μ x) = (q, e) := Option.some.inj h1
        exact Or.inl ⟨x, hLi x (List.mem_of_getElem? hx), (congrArg Prod.fst e1).symm⟩
    · exact Or.inr h1
  have hP : va_P B.D vwCl wc s.heap := by
    rw [← hw]
    refine P_of (fun q hq => ?_)
    obtain ⟨k, hk, rfl⟩ := List.mem_map.mp hq
    exact (hK.2.1 k (hLi k hk)).2
  have hD : va_D (fun q => b ≤ q) wc := by
    rw [← hw]
    refine ⟨fun i j p q hi hj e => ?_, fun i q hi => ?_⟩
    · rw [List.getElem?_map] at hi hj
      cases hx : L[i]? with
      | none => rw [hx] at hi; cases hi
      | some x =>
        cases hy : L[j]? with
        | none => rw [hy] at hj; cases hj
        | some y =>
          rw [hx] at hi
          rw [hy] at hj
          have e1 : (B.ad x, obB z B μ x) = p := Option.some.inj hi
          have e2 : (B.ad y, obB z B μ y) = q := Option.some.inj hj
          have e3 : B.ad x = B.ad y := by rw [← e1, ← e2] at e; exact e
          have := hK.1 x y (hLi x (List.mem_of_getElem? hx)) (hLi y (List.mem_of_getElem? hy)) e3
          subst this
          exact nodup_inj _ hL i j x hx hy
    · rw [List.getElem?_map] at hi
      cases hx : L[i]? with
      | none => rw [hx] at hi; cases hi
      | some x =>
        rw [hx] at hi
        have e1 : (B.ad x, obB z B μ x) = q := Option.some.inj hi
        rw [← e1]
        exact (hK.2.1 x (hLi x (List.mem_of_getElem? hx))).1
  refine ⟨_, _, _, M hK.gr hK.2.2.2.2 hK.2.2.1, ⟨ha, ⟨Tb.t3 hT, hE⟩, ⟨hsz, hK.rr⟩, hP, hD⟩, fun o t h => ?_, hsub⟩
  obtain ⟨⟨v, u, h1, h2, h3⟩, h4, h5⟩ := h
  refine ⟨⟨v, (), h1, h2, hB s t hK hsz hE.2.2.1 h3 (fun k hk hkL => (hK.2.1 k hk).2.kept (h5 _ (hK.2.1 k hk).2.lt ?_))⟩, h4, fun q q1 q2 => h5 q q1 (fun q3 => q2 (hsub q q3))⟩
  rw [← hsz]
  exact kb_off hK hw hLi hk hkL
theorem p_demandScript (F : Fg) (μ : Mem) {j : Nat} (h : j < F.sz 2) (h8 : F.sz 2 ≤ 8) : f_X8_demandScript F μ (nI j) = some (some (114 + j)) := by
  unfold f_X8_demandScript
  rw [p_script F μ h h8]
  unfold bnO csQ grd
  dsimp only
  rw [if_pos ⟨by omega, by omega, by omega⟩]
theorem p_hasStarted (F : Fg) {μ : Mem} (sc : Nat) (hm : ∀ k, isP k → μ k 1 = -1) : f_X7_hasStarted F μ sc = some 0 := by
  have L : ∀ d f i : Nat, i + d = 24 → d < f → b_X7_hasStarted_11 F f μ sc 24 (nI i) = some 0 := by
    intro d
    induction d with
    | zero =>
      intro f i h1 h2
      cases f with
      | zero => omega
      | succ f =>
        rw [b_X7_hasStarted_11, if_pos ((lp_le (by omega)).mpr (by omega))]
    | succ d ih =>
      intro f i h1 h2
      cases f with
      | zero => omega
      | succ f =>
        rw [b_X7_hasStarted_11, if_neg (fun h9 => absurd ((lp_le (by omega)).mp h9) (by omega))]
        unfold grd bnd
        rw [if_pos (lp_gd (by omega))]
        dsimp only
        rw [lp_at (by omega), hm (i + 1) (lp_is (by omega)), show srf (-1) = none from if_pos (by decide)]
        unfold csQ
        dsimp only
        rw [nI_1]
        exact ih f (i + 1) (by omega) (by omega)
  unfold f_X7_hasStarted fu
  exact L 24 3000 0 rfl (by decide)
section
variable {z : Nat} {B : Bg} {μ : Mem} {j : Nat}
theorem r_273 : (B.r z).ad 273 = B.ad 300 := by
  show (if (273 : Nat) = 273 then B.ad 300 else B.ad 273) = B.ad 300
  exact if_pos rfl
theorem oC (hj : j < B.sz 2) (h8 : B.sz 2 ≤ 8) : obB z B μ (114 + j) = .inr (5, [.ref (B.ad (122 + j)), .int (B.sh (114 + j) 1)]) := by
  unfold obB
  rw [if_pos (by omega), obC (g := B.r z) ⟨by omega, by show 114 + j < 114 + B.sz 2; omega, by omega⟩]
  unfold fsC
  rw [r_ad (by omega), show 114 + j + 8 = 122 + j by omega]
  rfl
theorem oCL (hj : j < B.sz 2) (h8 : B.sz 2 ≤ 8) : obB z B μ (122 + j) = obL (B.ad (130 + j)) (B.sz (10 + j)) := by
  unfold obB
  rw [if_pos (by omega), show 122 + j = (114 + j) + 8 by omega, szN (g := B.r z) ⟨by omega, by show 114 + j < 114 + B.sz 2; omega, by omega⟩, r_ad (by omega), show 114 + j + 16 = 130 + j by omega, show 114 + j - 104 = 10 + j by omega]
  rfl
theorem oCR (hj : j < B.sz 2) (h8 : B.sz 2 ≤ 8) : obB z B μ (130 + j) = .inl (B.cy 2, 10, .inr (.inr (.inr (.inr (fnL (B.r z) (B.sz (10 + j)) (138 + 16 * j)))))) := by
  unfold obB
  rw [if_pos (by omega), roN (by omega) (by omega), show 130 + j - 120 = 10 + j by omega, show 130 + j - 130 = j by omega]
  rfl
theorem iC (hj : j < B.sz 2) (h8 : B.sz 2 ≤ 8) : inB B (114 + j) := Or.inl (Or.inr (Or.inr (Or.inr (Or.inr (Or.inr (Or.inr (Or.inr (Or.inr (Or.inl ⟨by omega, by omega, by omega⟩)))))))))
theorem iCL (hj : j < B.sz 2) (h8 : B.sz 2 ≤ 8) : inB B (122 + j) := Or.inl (Or.inr (Or.inr (Or.inr (Or.inr (Or.inr (Or.inr (Or.inr (Or.inr (Or.inr (Or.inl ⟨by omega, by omega, by omega⟩))))))))))
theorem iCR (hj : j < B.sz 2) (h8 : B.sz 2 ≤ 8) (h0 : B.sz (10 + j) ≠ 0) : inB B (130 + j) := Or.inl (Or.inr (Or.inr (Or.inr (Or.inr (Or.inr (Or.inr (Or.inr (Or.inr (Or.inr (Or.inr (Or.inl ⟨by omega, by omega, by omega, by show 0 < B.sz (10 + (130 + j - 130)); rw [show 130 + j - 130 = j by omega]; omega⟩)))))))))))
end
set_option maxHeartbeats 4000000 in
theorem k_X8_setHandler (l : Launch) {z b : Nat} {B : Bg} {μ : Mem} {j : Nat} {v : Int32} (hj : j < B.sz 2) (h8 : B.sz 2 ≤ 8) (g1 : ¬ v < -1) (g2 : ¬ 15 < v) (sz : Nat) : Met l yX8_setHandler (ws_ yX8_setHandler cX8_setHandler 5 (some .int)) (rm_ 5 107 0 0) (Pk z b B μ sz [.ref (B.ad 272), .int (nI j), .int v]) (Qk z b B sz (B.sh (114 + j) 1) (shH j v B.2) μ) 0 0 (Ak B sz) := by
  refine kb_lift2 [114 + j] ?_ (by simp) (fun k hk => by rw [List.mem_singleton.mp hk]; exact iC hj h8) (fun hg hm hbn => x_X8_setHandler l (g := B.r z) hg rfl μ j v (B.sh (114 + j) 1) (p_demandScript _ _ hj h8) g1 g2 sz) (fun s t h hsz hb hBB hkp => ?_)
  · show [(B.ad (114 + j), obB z B μ (114 + j))] = _
    rw [oC hj h8, r_ad (by omega), r_ad (by omega)]
  · obtain ⟨hP, hD⟩ := hBB
    rw [r_ad (by omega), r_ad (by omega)] at hP
    rw [← hsz]
    exact ⟨B.ad, kb_H (v := v) h hb hj (hP 0 _ rfl) (fun k hk h1 h2 => hkp k hk (fun h9 => h2 (List.mem_singleton.mp h9))), rfl⟩
set_option maxHeartbeats 4000000 in
theorem k_X8_add0 (l : Launch) {z b : Nat} {B : Bg} {μ : Mem} {j : Nat} {co a b9 : Int32} (hj : j < B.sz 2) (h8 : B.sz 2 ≤ 8) (hn : B.sz (10 + j) = 0) (hez : EzB z B) (his : f_X8_isInstruction (B.r z) μ co a b9 = some 1) (sz : Nat) : Met l yX8_add (ws_ yX8_add cX8_add 7 (some .int)) (rm_ 5 109 2 14) (Pk z b B μ sz [.ref (B.ad 272), .int (nI j), .int co, .int a, .int b9]) (Qk z b B sz 0 (shI j 0 co a b9 B.2) μ) 2 14 (Ak B sz) := by
  have hin : 122 + j ∈ (B.r z).idx := idx_iff.mpr (Or.inr (Or.inr (Or.inr (Or.inr (Or.inr (Or.inr (Or.inr (Or.inr (Or.inr (Or.inl ⟨by omega, by omega, show 122 + j < 122 + B.sz 2 by omega⟩))))))))))
  have hC : isC (B.r z) (114 + j) := ⟨by omega, show 114 + j < 114 + B.sz 2 by omega, by omega⟩
  have hez3 := hez.2.2.2.1 j hj
  have hli : ob (B.r z) (122 + j) (μ (122 + j)) = .inr (0, [.int 0, .ref z, .int 0]) := by
    have h9 : obB z B μ (122 + j) = ob (B.r z) (122 + j) (μ (122 + j)) := if_pos (by omega)
    rw [← h9, oCL hj h8, hn, hez3 hn]
    rfl
  refine kb_lift2 [272, 114 + j, 122 + j] ?_ ?_ (fun k hk => by
    simp only [List.mem_cons, List.not_mem_nil, or_false] at hk
    rcases hk with rfl | rfl | rfl
    · exact Or.inl (Or.inr (Or.inr (Or.inr (Or.inr (Or.inr (Or.inr (Or.inr (Or.inr (Or.inr (Or.inr (Or.inr (Or.inr (Or.inr (Or.inr (Or.inr (Or.inr (⟨rfl, rfl⟩)))))))))))))))))
    · exact iC hj h8
    · exact iCL hj h8) (fun hg hm hbn => x_X8_add0 l (g := B.r z) hg rfl μ j co a b9 (B.sh (114 + j) 1) hC hin hli (p_demandScript _ _ hj h8) his (p_hasStarted _ _ hm) sz) (fun s t h hsz hb hBB hkp => ?_)
  · show [(B.ad 272, obB z B μ 272), (B.ad (114 + j), obB z B μ (114 + j)), (B.ad (122 + j), obB z B μ (122 + j))] = _
    rw [o272, oC hj h8, oCL hj h8, hn, hez3 hn]
    rw [r_ad (k := 272) (by decide), r_ad (k := 112) (by decide), r_ad (k := 266) (by decide), r_ad (k := 0) (by decide), r_273, r_ad (k := 114 + j) (by omega), r_ad (k := 122 + j) (by omega)]
    rfl
  · simp only [List.nodup_cons, List.mem_cons, List.not_mem_nil, or_false, not_false_eq_true, List.nodup_nil, and_true]
    omega
  · obtain ⟨q1, q2, hP, hD⟩ := hBB
    rw [r_ad (k := 272) (by decide), r_ad (k := 112) (by decide), r_ad (k := 266) (by decide), r_ad (k := 0) (by decide), r_273, r_ad (k := 114 + j) (by omega), r_ad (k := 122 + j) (by omega)] at hP hD
    have hnw : ∀ i (q : Nat × va_E), _ → i ∉ [3, 4, 0] → sz ≤ q.1 := fun i q hi hni => new_of hD [3, 4, 0] rfl (i := i) (q := q) hi hni
    have a1 : adI B j 0 q2 q1 (138 + 16 * j + 0) = q1 := by unfold adI; rw [if_neg (by omega), if_pos rfl]
    have a2 : adI B j 0 q2 q1 (130 + j) = q2 := if_pos rfl
    have hnew : ∀ k, NI j 0 k → s.heap.size ≤ adI B j 0 q2 q1 k := by
      rw [hsz]
      rintro k (rfl | ⟨h7, rfl⟩)
      · rw [a1]; exact hnw 2 _ rfl (by decide)
      · rw [a2]; exact hnw 1 _ rfl (by decide)
    have hnn : ∀ x y, NI j 0 x → NI j 0 y → adI B j 0 q2 q1 x = adI B j 0 q2 q1 y → x = y := by
      rintro x y (rfl | ⟨h7, rfl⟩) (rfl | ⟨h6, rfl⟩) e9
      · rfl
      · rw [a1, a2] at e9; exact absurd (hD.1 2 1 _ _ rfl rfl e9) (by decide)
      · rw [a2, a1] at e9; exact absurd (hD.1 1 2 _ _ rfl rfl e9) (by decide)
      · rfl
    rw [← hsz]
    refine ⟨_, kb_I (co := co) (a := a) (b9 := b9) h hb hj hn (by decide) (fun h9 => absurd rfl h9) hnew hnn (by show va_at B.D vwCl (B.ad (122 + j), .inr (0, [.int (nI (0 + 1)), .ref q2, .int (nI (0 + 1))])) t.heap; rw [show nI (0 + 1) = 0 + 1 from rfl]; exact hP 0 _ rfl) (by rw [fnL0]; exact hP 1 _ rfl) (hP 2 _ rfl) (fun k hk h1 h2 => ?_), by show adI B j 0 q2 q1 272 = B.ad 272; unfold adI; rw [if_neg (by omega), if_neg (by omega)]⟩
    unfold OI at h2
    by_cases k272 : k = 272
    · rw [k272, o272]; exact hP 3 _ rfl
    by_cases kC : k = 114 + j
    · rw [kC, oC hj h8]; exact hP 4 _ rfl
    exact hkp k hk (fun h9 => by simp only [List.mem_cons, List.not_mem_nil, or_false] at h9; omega)
set_option maxHeartbeats 4000000 in
theorem k_X8_add1 (l : Launch) {z b : Nat} {B : Bg} {μ : Mem} {j n : Nat} {co a b9 : Int32} (hj : j < B.sz 2) (h8 : B.sz 2 ≤ 8) (hn : B.sz (10 + j) = n) (hn0 : n ≠ 0) (hn9 : n < 10) (hez : EzB z B) (his : f_X8_isInstruction (B.r z) μ co a b9 = some 1) (sz : Nat) : Met l yX8_add (ws_ yX8_add cX8_add 7 (some .int)) (rm_ 5 109 2 14) (Pk z b B μ sz [.ref (B.ad 272), .int (nI j), .int co, .int a, .int b9]) (Qk z b B sz (nI n) (shI j n co a b9 B.2) μ) 2 14 (Ak B sz) := by
  have hin : 122 + j ∈ (B.r z).idx := idx_iff.mpr (Or.inr (Or.inr (Or.inr (Or.inr (Or.inr (Or.inr (Or.inr (Or.inr (Or.inr (Or.inl ⟨by omega, by omega, show 122 + j < 122 + B.sz 2 by omega⟩))))))))))
  have hC : isC (B.r z) (114 + j) := ⟨by omega, show 114 + j < 114 + B.sz 2 by omega, by omega⟩
  have hli : ob (B.r z) (122 + j) (μ (122 + j)) = .inr (0, [.int (nI n), .ref ((B.r z).ad (130 + j)), .int (nI n)]) := by
    have h9 : obB z B μ (122 + j) = ob (B.r z) (122 + j) (μ (122 + j)) := if_pos (by omega)
    rw [← h9, oCL hj h8, hn, r_ad (by omega)]
    rfl
  refine kb_lift2 [272, 114 + j, 122 + j, 130 + j] ?_ ?_ (fun k hk => by
    simp only [List.mem_cons, List.not_mem_nil, or_false] at hk
    rcases hk with rfl | rfl | rfl | rfl
    · exact Or.inl (Or.inr (Or.inr (Or.inr (Or.inr (Or.inr (Or.inr (Or.inr (Or.inr (Or.inr (Or.inr (Or.inr (Or.inr (Or.inr (Or.inr (Or.inr (Or.inr (⟨rfl, rfl⟩)))))))))))))))))
    · exact iC hj h8
    · exact iCL hj h8
    · exact iCR hj h8 (by omega)) (fun hg hm hbn => x_X8_add1 l (g := B.r z) hg rfl μ j co a b9 (B.sh (114 + j) 1) ((B.r z).ad (130 + j)) n (fnL (B.r z) n (138 + 16 * j)) (by omega) (nI_lt (show n < 16 by omega) (by decide)) hC hin hli (p_demandScript _ _ hj h8) his (p_hasStarted _ _ hm) sz) (fun s t h hsz hb hBB hkp => ?_)
  · show [(B.ad 272, obB z B μ 272), (B.ad (114 + j), obB z B μ (114 + j)), (B.ad (122 + j), obB z B μ (122 + j)), (B.ad (130 + j), obB z B μ (130 + j))] = _
    rw [o272, oC hj h8, oCL hj h8, oCR hj h8, hn]
    rw [r_ad (k := 272) (by decide), r_ad (k := 112) (by decide), r_ad (k := 266) (by decide), r_ad (k := 0) (by decide), r_273, r_ad (k := 114 + j) (by omega), r_ad (k := 122 + j) (by omega), r_ad (k := 130 + j) (by omega)]
    rfl
  · simp only [List.nodup_cons, List.mem_cons, List.not_mem_nil, or_false, not_false_eq_true, List.nodup_nil, and_true]
    omega
  · obtain ⟨q1, hP, hD⟩ := hBB
    rw [r_ad (k := 272) (by decide), r_ad (k := 112) (by decide), r_ad (k := 266) (by decide), r_ad (k := 0) (by decide), r_273, r_ad (k := 114 + j) (by omega), r_ad (k := 122 + j) (by omega), r_ad (k := 130 + j) (by omega)] at hP hD
    have hnw : ∀ i (q : Nat × va_E), _ → i ∉ [3, 4, 0, 1] → sz ≤ q.1 := fun i q hi hni => new_of hD [3, 4, 0, 1] rfl (i := i) (q := q) hi hni
    have a1 : adI B j n (B.ad (130 + j)) q1 (138 + 16 * j + n) = q1 := by unfold adI; rw [if_neg (by omega), if_pos rfl]
    have hnew : ∀ k, NI j n k → s.heap.size ≤ adI B j n (B.ad (130 + j)) q1 k := by
      rw [hsz]
      rintro k (rfl | ⟨h7, h5⟩)
      · rw [a1]; exact hnw 2 _ rfl (by decide)
      · omega
    have hnn : ∀ x y, NI j n x → NI j n y → adI B j n (B.ad (130 + j)) q1 x = adI B j n (B.ad (130 + j)) q1 y → x = y := by
      rintro x y (rfl | ⟨h7, h5⟩) (rfl | ⟨h6, h4⟩) e9
      · rfl
      · omega
      · omega
      · omega
    rw [← hsz]
    refine ⟨_, kb_I (co := co) (a := a) (b9 := b9) h hb hj hn hn9 (fun _ => rfl) hnew hnn (by show va_at B.D vwCl (B.ad (122 + j), .inr (0, [.int (nI (n + 1)), .ref (B.ad (130 + j)), .int (nI (n + 1))])) t.heap; rw [← nI_1]; exact hP 0 _ rfl) (by rw [show va_up (fnL (B.r z) n (138 + 16 * j)) n = va_up (fnL (B.r z) n (138 + 16 * j)) (nI n).toNatClampNeg by rw [nI_clamp (by omega)]]; exact hP 1 _ rfl) (hP 2 _ rfl) (fun k hk h1 h2 => ?_), by show adI B j n (B.ad (130 + j)) q1 272 = B.ad 272; unfold adI; rw [if_neg (by omega), if_neg (by omega)]⟩
    unfold OI at h2
    by_cases k272 : k = 272
    · rw [k272, o272]; exact hP 3 _ rfl
    by_cases kC : k = 114 + j
    · rw [kC, oC hj h8]; exact hP 4 _ rfl
    exact hkp k hk (fun h9 => by simp only [List.mem_cons, List.not_mem_nil, or_false] at h9; omega)
