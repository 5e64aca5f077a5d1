/-! an event's end, put together for the law's loop -/
section
variable {F : Fg} {K : Kx} {T N T' N' : Int} {κ μ : Mem} {c pn : Nat}
theorem cst_ag (h : Cst F K κ) (h6 : F.sz 0 ≤ 6) (hA : Ag9 (cpS F) μ κ) : Cst F K μ := by
  refine ⟨fun k hk => ?_, fun r hr => ?_, fun s hs => ?_⟩
  · rw [hA (k + 1) 0 (by unfold cpS; omega)]
    exact h.1 k hk
  · rw [hA (102 + r) 0 (by unfold cpS; omega), hA (102 + r) 1 (by unfold cpS; omega), hA (102 + r) 2 (by unfold cpS; omega)]
    exact h.2.1 r hr
  · rw [hA (108 + s) 0 (by unfold cpS; omega), hA (108 + s) 1 (by unfold cpS; omega)]
    exact h.2.2 s hs
theorem st_j (hI : Inv F K (fun _ => False) 99 T N κ) {k : Nat} (hk : k < 24) : ∃ j, j < 8 ∧ κ (k + 1) 6 = nI j ∧ (4 < j → κ (k + 1) 9 = -1 ∧ κ (k + 1) 7 = -1 ∧ ((k + 1 : Nat) : Int) ≤ (κ 0 5).toInt) := by
  have h := (hI.prc k hk).2.2.2.2.2.2.2.2 id
  rcases h with ⟨a1, a2 | a2, a3⟩ | ⟨a1, a2, a3, a4⟩ | ⟨a1, a2, a3, a4⟩ | ⟨a1, a2, a3, a4⟩ | ⟨a1, a2, a3, a4⟩ | ⟨a1, a2, a3, a4 | a4 | a4, a5⟩
  · exact ⟨0, by decide, a2, fun z => absurd z (by decide)⟩
  · exact ⟨1, by decide, a2, fun z => absurd z (by decide)⟩
  · exact ⟨0, by decide, a3, fun z => absurd z (by decide)⟩
  · exact ⟨2, by decide, a3, fun z => absurd z (by decide)⟩
  · exact ⟨3, by decide, a3, fun z => absurd z (by decide)⟩
  · exact ⟨4, by decide, a3, fun z => absurd z (by decide)⟩
  · exact ⟨5, by decide, a4, fun _ => ⟨a1, a2, a3⟩⟩
  · exact ⟨6, by decide, a4, fun _ => ⟨a1, a2, a3⟩⟩
  · exact ⟨7, by decide, a4, fun _ => ⟨a1, a2, a3⟩⟩
/-- over: its state is above 4 -/
theorem st_ov (hI : Inv F K (fun _ => False) 99 T N κ) {k : Nat} (hk : k < 24) : (κ (k + 1) 6 = 5 ∨ κ (k + 1) 6 = 6 ∨ κ (k + 1) 6 = 7) ↔ 4 < (κ (k + 1) 6).toInt := by
  obtain ⟨j, hj, e, -⟩ := st_j hI hk
  have h9 : (κ (k + 1) 6).toInt = j := by rw [e, nI_toInt (by omega)]
  constructor
  · intro h
    rcases h with h | h | h <;> rw [h] <;> decide
  · intro h
    rcases (show j = 5 ∨ j = 6 ∨ j = 7 by omega) with rfl | rfl | rfl
    · exact Or.inl e
    · exact Or.inr (Or.inl e)
    · exact Or.inr (Or.inr e)
theorem h_end (hC : Cfg F K) (hI : Inv F K (fun _ => False) 99 T N κ) (hA : Ag9 (cpS F) μ κ) (hc : κ 0 5 = nI c) (h24 : c ≤ 24) (hk : pn < c) {x : Mem × Log × Option Nat} (hx : f_X7_happen F κ [] = some x) (hxI : Inv F K (fun _ => False) 99 T' N' x.1) :
    ∃ r, f_X8_endOf F F μ κ (nI pn) 1 = some r ∧ Cst F K r.1 ∧ (4 < (κ (pn + 1) 6).toInt → r.2 = κ 0 6) ∧ (¬ 4 < (κ (pn + 1) 6).toInt → (4 < (x.1 (pn + 1) 6).toInt → r.2 = x.1 0 6) ∧ (¬ 4 < (x.1 (pn + 1) 6).toInt → r.2 = -1)) := by
  have hov := st_ov hI (k := pn) (by omega)
  have hov' := st_ov hxI (k := pn) (by omega)
  by_cases h : 4 < (κ (pn + 1) 6).toInt
  · exact ⟨_, a_endOf_over hc h24 hk (hov.mpr h), cst_ag hI.cst hC.1 hA, fun _ => rfl, fun z => absurd h z⟩
  · refine ⟨_, a_endOf hC hI hA hc h24 hk (fun z => h (hov.mp z)) hx, hxI.cst, fun z => absurd z h, fun _ => ⟨fun z => ?_, fun z => ?_⟩⟩
    · exact if_pos (hov'.mpr z)
    · exact if_neg (fun y => z (hov'.mp y))
/-- what happens where there is an event -/
theorem h_step (hC : Cfg F K) (hI : Inv F K (fun _ => False) 99 T N κ) (hT : T + 20 ≤ 5000) (hN : N + 4000 < 2000000000) (hev : ¬ ct (evs κ) 24 = 0) (h80 : 0 ≤ (κ 0 8).toInt) (h81 : (κ 0 8).toInt ≤ 1000000) :
    ∃ (x : Mem × Log × Option Nat) (q : Nat), f_X7_happen F κ [] = some x ∧ x.2.2 = some (q + 1) ∧ q < 24 ∧ Inv F K (fun _ => False) 99 (T + 20) (N + 4000) x.1 ∧ (∀ v, ntQ κ v → x.1 0 6 = v) ∧ x.1 (q + 1) 0 = nI q ∧ ¬ x.1 (q + 1) 6 = 7 ∧ ((q + 1 : Nat) : Int) ≤ (x.1 0 5).toInt ∧ (κ 0 5).toInt ≤ (x.1 0 5).toInt ∧ (κ 0 8).toInt ≤ (x.1 0 8).toInt ∧ (x.1 0 8).toInt ≤ (κ 0 8).toInt + 40 ∧ ∀ pn, pn < 24 → 4 < (κ (pn + 1) 6).toInt → x.1 (pn + 1) = κ (pn + 1) := by
  obtain ⟨x, hx, hq⟩ := i_happen hC hI hT hN []
  rcases hq with ⟨-, hn⟩ | ⟨q', g1, g2, g3, g4, g5, g6, g7, g8, g9⟩
  · exfalso
    apply hev
    exact ct_cut (c := 0) 24 (Nat.zero_le _) (fun k _ hk => decide_eq_false (fun z => z (hn k hk)))
  · obtain ⟨q, rfl⟩ : ∃ i, q' = i + 1 := ⟨q' - 1, by have := g2.1; omega⟩
    have hq24 : q < 24 := by have := g2.2; omega
    obtain ⟨b1, b2, b3, b4, b5, b6⟩ := (hI.p g2).inEv g3
    obtain ⟨e1, e2⟩ := g9 h80 h81
    refine ⟨x, q, hx, g1, hq24, g5, fun v hv => ?_, g5.cst.1 q hq24, g8, Int.le_trans b4 g6.1, g6.1, e1, e2, fun pn hp h4 => ?_⟩
    · rw [g7]
      exact (nt_eq hv g2 g3 g4).symm
    · obtain ⟨j, hj, e, ho⟩ := st_j hI hp
      have h9 : (κ (pn + 1) 6).toInt = j := by rw [e, nI_toInt (by omega)]
      obtain ⟨o1, o2, o3⟩ := ho (by omega)
      exact (g6.2.2 (pn + 1) (lp_is hp) (by omega) o1 o2 o3).1
end
/-- a double that isn't below 0, compared with 0 -/
theorem fp_cmpv {r : UInt64} (h : fp_nn r) : ¬ Op.cmpValue (FP.dcmp r FP.dconst0) .g < 0 := by
  have h1 := fp_cmp h
  cases hd : FP.dcmp r FP.dconst0 with
  | none => decide
  | some o =>
    cases o with
    | lt => exact absurd hd h1
    | eq => decide
    | gt => decide
/-- the first copy of the tally's facts that the law's loop asks for -/
theorem ti_facts {z n : Nat} {X : Tp} (h : TI z X n) (hn : n ≤ 1300) : ¬ X.2.1 1000 1 < X.2.1 1000 8 ∧ ¬ X.2.1 1000 4 < X.2.1 1000 3 := by
  obtain ⟨h0, m, k, o, ba, os, h1, h2, h3, h4, h5, h6, e0, e1, e8, e6, e7, hlg, h12, h13, h14, h15⟩ := h
  have hkm : k ≤ m := by
    rw [h4]
    have := Nat.le_mul_of_pos_right k h2
    omega
  refine ⟨?_, fun z => ?_⟩
  · rw [e1, e8, nI_ltI (by omega) (by omega)]
    omega
  · rw [ti_le] at hlg
    rw [ti_ltI] at z
    omega
