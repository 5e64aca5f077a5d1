/-! THE PURE PART, 9: draws, obey -/
section
variable {F : Fg} {K : Kx} {X X' : Nat → Prop} {e e' q r s a j : Nat} {T T' N N' : Int} {μ ν ρ : Mem}
/-- what the kernel's picture doesn't know of -/
theorem inv_other (hC : Cfg F K) (hI : Inv F K X e T N μ) (hf : ∀ k, k ≠ 0 → ¬ (25 ≤ k ∧ k < 49) → ν k = μ k) (h5 : ν 0 5 = μ 0 5) (h6 : ν 0 6 = μ 0 6) (h7 : 0 ≤ (ν 0 7).toInt ∧ (ν 0 7).toInt ≤ 9999) (h9 : ν 0 9 = μ 0 9) : Inv F K X e T N ν := by
  have hin : ∀ row : Int32, ct (inr ν row) 24 = ct (inr μ row) 24 := fun row => ct_congr 24 (fun i hi => by unfold inr; rw [hf (i + 1) (by omega) (by omega)])
  have hhs : ∀ r', hsm ν r' = hsm μ r' := fun r' => sm_congr 24 (fun i hi => by rw [hf (i + 49) (by omega) (by omega)])
  refine ⟨⟨fun k hk => by rw [hf _ (by omega) (by omega)]; exact hI.cst.1 k hk, fun r hr => by rw [hf _ (by omega) (by omega)]; exact hI.cst.2.1 r hr, fun s hs => by rw [hf _ (by omega) (by omega)]; exact hI.cst.2.2 s hs⟩, by rw [h5]; exact hI.st, by rw [h6]; exact hI.tm, h7, by rw [h9]; exact hI.od, fun r hr => by rw [h6, hhs, hf _ (by omega) (by omega)]; exact hI.res r hr, fun r hr hre => by rw [hin, hf _ (by omega) (by omega)]; exact hI.cnt r hr hre, fun s hs => by rw [h6, hf _ (by omega) (by omega)]; exact hI.sto s hs, fun k hk => by rw [h5, h6, h9, hf _ (by omega) (by omega), hf _ (by omega) (by omega)]; exact hI.prc k hk, fun i k hi hk hik h1 h2 => ?_⟩
  rw [hf _ (by omega) (by omega)] at h1 ⊢
  rw [hf _ (by omega) (by omega)] at h2 ⊢
  exact hI.dis i k hi hk hik h1 h2
theorem Fr.other {p : Nat} (hf : ∀ k, k ≠ 0 → ¬ (25 ≤ k ∧ k < 49) → ν k = μ k) (h5 : ν 0 5 = μ 0 5) (h6 : ν 0 6 = μ 0 6) (h8 : ν 0 8 = μ 0 8) : Fr F p μ ν :=
  ⟨h6, h8, by rw [h5]; exact Int.le_refl _, fun r hr => by rw [hf _ (by omega) (by omega)], fun k hk _ _ _ _ => ⟨hf k hk.n0 (by have := hk.2; omega), hf _ (by omega) (by have := hk.1; omega)⟩⟩
theorem p_luck {l : Int32} (h0 : 0 ≤ l.toInt) (h1 : l.toInt ≤ 9999) : ∃ n, n < 10000 ∧ l * 4621 + 2777 - (l * 4621 + 2777) / 10000 * 10000 = nI n := by
  obtain ⟨h2, h3, h4⟩ := ti_nat h0
  generalize l.toNatClampNeg = n at h2 h3 h4
  have e1 : l * 4621 + 2777 = nI (n * 4621 + 2777) := by
    rw [h2, show (4621 : Int32) = nI 4621 from rfl, pk_mul, show (2777 : Int32) = nI 2777 from rfl, nI_add]
  refine ⟨(n * 4621 + 2777) % 10000, Nat.mod_lt _ (by decide), ?_⟩
  rw [e1, show (10000 : Int32) = nI 10000 from rfl]
  exact pk_rem (by omega) (by decide) (by decide)
theorem i_draw (hC : Cfg F K) (hI : Inv F K X e T N μ) {bo : Int32} (hb0 : ¬ bo = 0) (hb1 : 0 ≤ bo.toInt) (hb2 : bo.toInt ≤ 10) :
    Ok (f_X7_drawBelow F μ bo) (fun x => Inv F K X e T N x.1 ∧ Fr F 0 μ x.1 ∧ 0 ≤ x.2.toInt ∧ x.2.toInt ≤ 9 ∧ x.1 0 6 = μ 0 6 ∧ ∀ k, k ≠ 0 → x.1 k = μ k) := by
  obtain ⟨n, hn, he⟩ := p_luck hI.lk.1 hI.lk.2
  obtain ⟨d2, d3, d4⟩ := ti_nat hb1
  generalize bo.toNatClampNeg = d at d2 d3 d4
  have hd : 0 < d := by
    rcases Nat.eq_zero_or_pos d with h | h
    · rw [h] at d2; exact absurd d2 hb0
    · exact h
  unfold f_X7_drawBelow
  rw [he]
  refine ok_bnd ?_
  have f7 : put μ 0 7 (nI n) 0 7 = nI n := pu_at μ 0 7 _
  have fj : ∀ j, j ≠ 7 → put μ 0 7 (nI n) 0 j = μ 0 j := fun j hj => pu_nj μ 0 _ hj
  have fk : ∀ k, k ≠ 0 → put μ 0 7 (nI n) k = μ k := fun k hk => pu_nk μ 7 _ hk
  have J : Inv F K X e T N (put μ 0 7 (nI n)) := inv_other hC hI (fun k hk _ => fk k hk) (fj 5 (by decide)) (fj 6 (by decide)) (by rw [f7, ti_nI (by omega)]; omega) (fj 9 (by decide))
  have JF : Fr F 0 μ (put μ 0 7 (nI n)) := Fr.other (fun k hk _ => fk k hk) (fj 5 (by decide)) (fj 6 (by decide)) (fj 8 (by decide))
  refine ok_ite (fun h => ?_) (fun _ => ok_grd hb0 (ok_some ⟨J, JF, ?_, ?_, fj 6 (by decide), fk⟩))
  · rw [ti_le, ti_0] at h; omega
  · rw [f7, d2, pk_rem (by omega) hd (by omega), ti_nI (Nat.lt_trans (Nat.mod_lt _ hd) d4)]; omega
  · have := Nat.mod_lt n hd
    rw [f7, d2, pk_rem (by omega) hd (by omega), ti_nI (Nat.lt_trans (Nat.mod_lt _ hd) d4)]; omega
/-- a field of who is worked on that his state doesn't hang on: place (3), rank (2) -/
theorem i_field (hC : Cfg F K) (hI : Inv F K X e T N μ) (he : e < 2147483648) (hq : isP q) (hx : X q) {j : Nat} (hj : j = 2 ∨ j = 3) (v : Int32) : Inv F K X e T N (put μ q j v) ∧ Fr F q μ (put μ q j v) ∧ put μ q j v q 6 = μ q 6 := by
  obtain ⟨p1, p2, p3, p4, p5, p6, p7, p8, p9⟩ := hI.p hq
  obtain ⟨x9, x7, xc⟩ := p8 hx
  have hu : ∀ i, i ≠ 2 → i ≠ 3 → upd (μ q) j v i = μ q i := fun i h2 h3 => pk_un (by rcases hj with rfl | rfl; exact h2; exact h3)
  have n9 : upd (μ q) j v 9 = -1 := by rw [hu 9 (by decide) (by decide)]; exact x9
  obtain ⟨d1, d2⟩ := inv_put (X' := X) hC hI he hq (j := j) (v := v) (by omega) n9 (fun _ _ _ => Iff.rfl) ⟨by rw [hu 1 (by decide) (by decide)]; exact p1, by rw [hu 5 (by decide) (by decide)]; exact p2, by rw [hu 4 (by decide) (by decide)]; exact p3, p4, p5, fun z => absurd n9 z, by rw [hu 13 (by decide) (by decide)]; exact p7, fun _ => ⟨n9, by rw [hu 7 (by decide) (by decide)]; exact x7, xc⟩, fun z => absurd hx z⟩
  exact ⟨d1, d2, by rw [put_at]; exact hu 6 (by decide) (by decide)⟩
theorem i_goAgain (hC : Cfg F K) (hI : Inv F K X e T N μ) (he : e < 2147483648) (hq : isP q) (hx : X q) (nw : Nat) : Ok (f_X7_goAgain F μ q nw) (fun ν => Inv F K X e T N ν ∧ Fr F q μ ν ∧ ν q 6 = μ q 6) := by
  obtain ⟨q1, q2⟩ := id hq
  unfold f_X7_goAgain
  have hS : ∀ ν : Mem, (∀ k, k ≠ q + 24 → ν k = μ k) → Inv F K X e T N ν ∧ Fr F q μ ν ∧ ν q = μ q := fun ν h => ⟨inv_other hC hI (fun k _ hk => h k (by omega)) (by rw [h 0 (by omega)]) (by rw [h 0 (by omega)]) (by rw [h 0 (by omega)]; exact hI.lk) (by rw [h 0 (by omega)]), Fr.other (fun k _ hk => h k (by omega)) (by rw [h 0 (by omega)]) (by rw [h 0 (by omega)]) (by rw [h 0 (by omega)]), h q (by omega)⟩
  refine ok_bnO (p_at_any F μ _ _) (fun x _ => ok_ite (fun _ => ?_) (fun _ => ?_))
  · refine ok_bnO (p_set_any F μ _ _ _) (fun ν hν => ok_some ?_)
    obtain ⟨a1, a2, a3⟩ := hS ν hν
    exact ⟨a1, a2, by rw [a3]⟩
  · refine ok_bnO (p_set_any F μ _ _ _) (fun ν hν => ok_bnd (ok_some ?_))
    obtain ⟨a1, a2, a3⟩ := hS ν hν
    obtain ⟨b1, b2, b3⟩ := i_field hC a1 he hq hx (Or.inr rfl) (F.sh nw 2)
    exact ⟨b1, a2.tr b2, by rw [b3, a3]⟩
/-- an instruction is obeyed -/
theorem i_obey (hC : Cfg F K) (hI : Inv F K X 99 T N μ) (hX : ∀ k, isP k → (X k ↔ k = q)) (h8 : μ q 6 = 8) (hT : T ≤ 5000) (hN : N + 80 < 2000000000) (hq : isP q) {nw : Nat} (hIN : IN F (F.sh nw)) (lg : Log) :
    Ok (f_X7_obey F μ lg q nw) (fun x => obQ F K T (N + 80) q μ x.1) := by
  have hT1 : T ≤ 100000 := by omega
  have h6 := hC.1
  have h4 := hC.2.1
  have hx : X q := (hX q hq).mpr rfl
  have hXn : ∀ k, isP k → ¬ (X k ∧ k ≠ q) := fun k hk z => z.2 ((hX k hk).mp z.1)
  have htm := hI.tm
  obtain ⟨p1, p2, p3, p4, p5, p6, p7, p8, p9⟩ := hI.p hq
  obtain ⟨x9, x7, xc⟩ := p8 hx
  unfold f_X7_obey
  rcases hIN with ⟨h1, a0, a1, b0, b1⟩ | ⟨h1, ⟨r, hr, h2⟩, b0, b1⟩ | ⟨h1, ⟨s, hs, h2⟩, b0, b1⟩ | ⟨h1, a, ha, h2⟩ | ⟨h1, j, hj, h2⟩ | h1 | ⟨h1, h2⟩ | h1 | h1 | h1
  · rw [h1, if_pos rfl]
    refine ok_ite (fun _ => ?_) (fun hb => ?_)
    · have e1 : (F.sh nw 2 + 0).toInt = (F.sh nw 2).toInt := by rw [ti_add (by rw [ti_0]; omega) (by rw [ti_0]; omega), ti_0]; omega
      refine ok_bnO (i_schedule hC hI hT1 (by decide) (by omega) hq hx (Or.inr rfl) (by omega) (by omega)) (fun ν hν => ok_some ?_)
      obtain ⟨d1, d2, d3, d4, -⟩ := hν
      exact (obQ.no d1 d2 hXn (by rw [d4]; decide)).mono (by omega)
    · refine ok_bn2 (i_draw hC hI hb b0 b1) (fun μ5 x hx5 => ?_)
      obtain ⟨c1, c2, c3, c4, c5, c6⟩ := hx5
      dsimp only at c1 c2 c3 c4
      have e1 : (F.sh nw 2 + x).toInt = (F.sh nw 2).toInt + x.toInt := ti_add (by omega) (by omega)
      refine ok_bnO (i_schedule hC c1 hT1 (by decide) (by omega) hq hx (Or.inr rfl) (by omega) (by omega)) (fun ν hν => ok_some ?_)
      obtain ⟨d1, d2, d3, d4, -⟩ := hν
      exact (obQ.no d1 (c2.wk.tr d2) hXn (by rw [d4]; decide)).mono (by omega)
  · rcases h1 with h1 | h1
    · rw [h1, if_neg (by decide), if_pos rfl, h2, p_resource F μ hr h6]
      refine ok_bnO (ok_eq rfl) (fun o ho => ok_cs (fun z => by rw [ho] at z; cases z) (fun v hv => ?_))
      rw [ho] at hv; cases hv
      exact ok_grd ⟨by omega, by omega, by omega⟩ (ok_bnO (i_seizeR hC hI hX hT1 (by omega) hq hr (by omega)) (fun ν hν => ok_some (hν.mono (by omega))))
    · rw [h1, if_neg (by decide), if_neg (by decide), if_pos rfl, h2, p_resource F μ hr h6]
      refine ok_bnO (ok_eq rfl) (fun o ho => ok_cs (fun z => by rw [ho] at z; cases z) (fun v hv => ?_))
      rw [ho] at hv; cases hv
      refine ok_grd ⟨by omega, by omega, by omega⟩ (ok_bnO (i_releaseR hC hI hT1 (by decide) hq hx hr (by omega) (by omega)) (fun ν hν => ok_some ?_))
      exact (obQ.go hν.1 hν.2.1 hX (by rw [hν.2.2.1]; exact h8)).mono (by omega)
  · rcases h1 with h1 | h1 | h1
    · rw [h1, if_neg (by decide), if_neg (by decide), if_neg (by decide), if_pos rfl, h2, p_store F μ hs h4]
      refine ok_bnO (ok_eq rfl) (fun o ho => ok_cs (fun z => by rw [ho] at z; cases z) (fun v hv => ?_))
      rw [ho] at hv; cases hv
      exact ok_grd ⟨by omega, by omega, by omega⟩ (ok_bnO (i_exchangeS hC hI hX h8 hT1 (by omega) hq hs b0 b1) (fun ν hν => ok_some (hν.mono (by omega))))
    · rw [h1, if_neg (by decide), if_neg (by decide), if_neg (by decide), if_neg (by decide), if_pos rfl, h2, p_store F μ hs h4]
      refine ok_bnO (ok_eq rfl) (fun o ho => ok_cs (fun z => by rw [ho] at z; cases z) (fun v hv => ?_))
      rw [ho] at hv; cases hv
      exact ok_grd ⟨by omega, by omega, by omega⟩ (ok_bnO (i_exchangeS hC hI hX h8 hT1 (by omega) hq hs b0 b1) (fun ν hν => ok_some (hν.mono (by omega))))
    · rw [h1, if_neg (by decide), if_neg (by decide), if_neg (by decide), if_neg (by decide), if_neg (by decide), if_neg (by decide), if_neg (by decide), if_neg (by decide), if_neg (by decide), if_neg (by decide), if_neg (by decide), if_neg (by decide), if_neg (by decide), h2, p_store F μ hs h4]
      refine ok_bnO (ok_eq rfl) (fun o ho => ok_cs (fun z => by rw [ho] at z; cases z) (fun v hv => ?_))
      rw [ho] at hv; cases hv
      refine ok_grd ⟨by omega, by omega, by omega⟩ ?_
      unfold f_X7_skipS
      refine ok_bnO (P := fun ν => obQ F K T (N + 80) q μ ν) (ok_ite (fun _ => ok_some ?_) (fun _ => ok_bnd (ok_some ?_))) (fun ν hν => ok_some hν)
      · exact (obQ.go hI Fr.rf hX h8).mono (by omega)
      · obtain ⟨d1, d2, d3⟩ := i_field hC hI (by decide) hq hx (Or.inr rfl) (μ q 3 + 1)
        exact (obQ.go d1 d2 hX (by rw [d3]; exact h8)).mono (by omega)
  · have e14 : (14 : Int32) + F.sh nw 2 = nI (14 + a) := by rw [h2, show (14 : Int32) = nI 14 from rfl, nI_add]
    rcases h1 with h1 | h1
    · rw [h1, if_neg (by decide), if_neg (by decide), if_neg (by decide), if_neg (by decide), if_neg (by decide), if_pos rfl, e14]
      refine ok_bnO (i_wakeAll hC hI hT1 (by decide) ha (by omega)) (fun ν hν => ok_some ?_)
      exact (obQ.go hν.1 hν.2.wk hX (by rw [(hI.keep hq hx hν.2).1]; exact h8)).mono (by omega)
    · rw [h1, if_neg (by decide), if_neg (by decide), if_neg (by decide), if_neg (by decide), if_neg (by decide), if_neg (by decide), if_pos rfl, e14]
      exact ok_bnO (i_await hC hI (by omega) hq hX ha) (fun ν hν => ok_some (hν.mono (by omega)))
  · rw [h1, if_neg (by decide), if_neg (by decide), if_neg (by decide), if_neg (by decide), if_neg (by decide), if_neg (by decide), if_neg (by decide), if_pos rfl, h2, p_script F μ hj hC.2.2.1]
    refine ok_bnO (ok_eq rfl) (fun o ho => ok_cs (fun z => by rw [ho] at z; cases z) (fun v hv => ?_))
    rw [ho] at hv; cases hv
    have h8' := hC.2.2.1
    refine ok_grd ⟨by omega, by omega, by omega⟩ (ok_bnO (i_begin hC hI hT1 (by decide) (by omega) hj (by decide) (by decide)) (fun ν hν => ok_some ?_))
    exact (obQ.go hν.1 hν.2.1.wk hX (by rw [(hI.keep hq hx hν.2.1).1]; exact h8)).mono (by omega)
  · rw [h1, if_neg (by decide), if_neg (by decide), if_neg (by decide), if_neg (by decide), if_neg (by decide), if_neg (by decide), if_neg (by decide), if_neg (by decide), if_pos rfl]
    refine ok_bnd (ok_some ?_)
    have n9 : upd (μ q) 4 (μ 0 6) 9 = -1 := by rw [pk_un (by decide)]; exact x9
    obtain ⟨d1, d2⟩ := inv_put (X' := X) hC hI (by decide) hq (j := 4) (v := μ 0 6) (by decide) n9 (fun _ _ _ => Iff.rfl) ⟨by rw [pk_un (by decide)]; exact p1, by rw [pk_un (by decide)]; exact p2, by rw [pk_us]; exact ⟨htm.1, Int.le_refl _⟩, p4, p5, fun z => absurd n9 z, by rw [pk_un (by decide)]; exact p7, fun _ => ⟨n9, by rw [pk_un (by decide)]; exact x7, xc⟩, fun z => absurd hx z⟩
    exact (obQ.go d1 d2 hX (by rw [pu_nj μ q _ (show (6 : Nat) ≠ 4 by decide)]; exact h8)).mono (by omega)
  · rw [h1, if_neg (by decide), if_neg (by decide), if_neg (by decide), if_neg (by decide), if_neg (by decide), if_neg (by decide), if_neg (by decide), if_neg (by decide), if_neg (by decide), if_pos rfl]
    have es : (μ 0 6 - μ q 4).toInt = (μ 0 6).toInt - (μ q 4).toInt := ti_sub (by omega) (by omega)
    refine ok_grd ⟨h2, ti_le.mpr (by rw [es, ti_0]; omega), ti_le.mpr (by rw [es, show (5000 : Int32).toInt = 5000 from rfl]; omega)⟩ (ok_bnd (ok_some ?_))
    exact (obQ.go hI Fr.rf hX h8).mono (by omega)
  · rw [h1, if_neg (by decide), if_neg (by decide), if_neg (by decide), if_neg (by decide), if_neg (by decide), if_neg (by decide), if_neg (by decide), if_neg (by decide), if_neg (by decide), if_neg (by decide), if_pos rfl]
    refine ok_bnO (i_goAgain hC hI (by decide) hq hx nw) (fun ν hν => ok_some ?_)
    exact (obQ.go hν.1 hν.2.1 hX (by rw [hν.2.2]; exact h8)).mono (by omega)
  · rw [h1, if_neg (by decide), if_neg (by decide), if_neg (by decide), if_neg (by decide), if_neg (by decide), if_neg (by decide), if_neg (by decide), if_neg (by decide), if_neg (by decide), if_neg (by decide), if_neg (by decide), if_pos rfl]
    refine ok_bnO (i_schedule hC hI hT1 (by decide) (by omega) hq hx (Or.inr rfl) p2.1 p2.2) (fun ν hν => ok_bnd (ok_some ?_))
    obtain ⟨d1, d2, d3, d4, -⟩ := hν
    obtain ⟨f1, f2, f3, f4, f5, f6, f7, f8, f9⟩ := d1.p hq
    have g9 : ν q 9 = -1 := by rw [d3 9 (by decide) (by decide) (by decide)]; exact x9
    obtain ⟨k1, k2⟩ := inv_put (X' := fun k => X k ∧ k ≠ q) hC d1 (by decide) hq (j := 5) (v := 0) (by decide) g9 (fun _ _ _ => Iff.rfl) ⟨f1, ⟨Int.le_refl _, (by decide : (0 : Int32).toInt ≤ 20)⟩, f3, f4, f5, f6, f7, f8, f9⟩
    exact (obQ.no k1 (d2.tr k2) hXn (by rw [pu_nj ν q _ (show (6 : Nat) ≠ 5 by decide), d4]; decide)).mono (by omega)
  · rw [h1, if_neg (by decide), if_neg (by decide), if_neg (by decide), if_neg (by decide), if_neg (by decide), if_neg (by decide), if_neg (by decide), if_neg (by decide), if_neg (by decide), if_neg (by decide), if_neg (by decide), if_neg (by decide), if_pos rfl]
    obtain ⟨d1, d2, d3⟩ := i_field hC hI (by decide) hq hx (Or.inl rfl) (F.sh nw 2)
    exact ok_bnd (ok_some ((obQ.go d1 d2 hX (by rw [d3]; exact h8)).mono (by omega)))
end
