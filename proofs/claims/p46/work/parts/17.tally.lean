/-- "Sandglass$World" "tally" "(I)LSandglass$Tally;" -/
def f_X7_tally (g : Geo) (μ : Mem) (nu : Int32) : Option ((Option Nat)) := if nu < 0 then (some (none)) else (if (nI (g.tz 0)) ≤ nu then (some (none)) else (grd (¬ (nu < 0 ∨ g.tz 0 ≤ nu.toNatClampNeg)) (bnd (268 + nu.toNatClampNeg) fun k_5 => grd (k_5 = 268 ∧ g.tz 0 = 1) (some (some k_5)))))
theorem hd_X7_tally : yX7_tally.cls = RX7 ∧ yX7_tally.cls ≠ "java/lang/invoke/MethodHandle" ∧ yX7_tally.cls ≠ "java/lang/invoke/VarHandle" ∧ (parseMethodDescriptor yX7_tally.desc).map (fun d => d.parameters.length) = some 1 := by decide +kernel
set_option maxHeartbeats 4000000 in
set_option maxRecDepth 100000 in
theorem c_X7_tally (l : Launch) {g : Geo} (hg : Good g) (μ : Mem) (nu : Int32) {r : (Option Nat)} (hf : f_X7_tally g μ nu = some r) : Met l yX7_tally (ws_ yX7_tally cX7_tally 2 (some (.object "Sandglass$Tally"))) (rm_ 3 64 0 0) (Pz g [.ref (g.ad 0), .int nu] (Rg g μ)) (va_Qq (fun (v : Option Nat) (_ : Unit) => v = r.map g.ad) (fun _ _ => True) (fun _ => False)) 0 0 (fun _ => False) := by
  refine Met.ofW (cc := cX7_tally) (maxL := 2) (ret := (some (.object "Sandglass$Tally"))) (by decide) rfl ?_
  intro p e s m args below meth c s₁ B hml hv
  obtain ⟨rfl, hT, hP⟩ := hv
  have hx := B.exec
  have hb := B.bytes
  have hr := B.returns
  have hts : ∀ w ∈ lw_all, w.before _ s = true := fun w h => atoms_spec (ws := (ws_ yX7_tally cX7_tally 2 (some (.object "Sandglass$Tally")))) B.pre w (List.mem_cons_of_mem _ h)
  have hown : s.vm.findClass RX7 = some m.cls := findClass_of_methodNamed B.named
  have hlocks := B.notSynchronized
  have hS : va_S (fun _ => False) s.heap s.heap [] := va_S.rf
  have hl := lv_entry ([.ref (g.ad 0), .int nu]) (n := 2) (Nat.le_of_ble_eq_true rfl)
  rw [lg_entry_eq]
  generalize (lg_sl ([.ref (g.ad 0), .int nu]) ++ List.replicate (2 - (lg_sl ([.ref (g.ad 0), .int nu])).length) Slot.unset).toArray = ls at hl ⊢
  have hl : lv_has ls 2 [(0, .ref (g.ad 0)), (1, .int nu)] := hl
  unfold f_X7_tally at hf
  refine lv_iload_n hx hb dX7_tally_0 rfl (lv_at hl 1 rfl) ?_
  refine lv_if_lt (tgt := 29) hx hb dX7_tally_1 (by decide) (fun c_1 => ?_) (fun c_1 => ?_)
  · have hf := (if_pos c_1).symm.trans hf
    refine lv_null hx hb dX7_tally_29 ?_
    exact W.aret (v := .null) (rt := .object "Sandglass$Tally") hx hb hr (Or.inl ⟨_, rfl⟩) (Or.inl rfl) (fun t9 ht hW => ⟨⟨none, (), rfl, by rw [← Option.some.inj hf]; rfl, trivial⟩, hS.F ht⟩) hS.2.2 dX7_tally_30
  · have hf := (if_neg c_1).symm.trans hf
    refine lv_iload_n hx hb dX7_tally_4 rfl (lv_at hl 1 rfl) ?_
    refine lv_aload_n hx hb dX7_tally_5 rfl (lv_at hl 0 rfl) ?_
    refine r_get hx hb hts i_X7 hown hT hP inW (fs := (fsW g)) (obW g) rfl 1 (by decide) q189 (fun _ h9 => h9) rfl dX7_tally_6 ?_
    refine va_calli (va_runV (As := []) (rest := [.int nu]) ⟨hx, hb, hml, hown, hts⟩ (c_Jx4a65c_size_8abf5 l hg μ in266 (szT g)) (cwV 0 hts (gd_V q325 q326 q327 q40 q328) rfl rfl rfl hd_Jx4a65c_size_8abf5 ⟨Nat.le_of_ble_eq_true rfl, Nat.le_of_ble_eq_true rfl⟩) ⟨Pz.blind, r_recv hT hP in266 (fs := fun _ => [.int (nI (g.tz 0)), .ref (g.ad 267), .int (nI (g.tz 0))]) (szT g) rfl, fun U hU hW => ⟨rfl, Tb.warm hW hT, by rw [hU]; exact hP⟩⟩ rfl rfl hl.1 rfl (lv_room (Nat.le_of_ble_eq_true rfl)) dX7_tally_9 ⟨Nat.le_of_ble_eq_true rfl, Nat.le_of_ble_eq_true rfl⟩) hS (fun q _ h => h.elim) (fun q h => h.elim) (fun v9 u9 t9 H locs ht9 hvm9 hw9 hB9 hz9 hk9 hS => ?_)
    have hP := Rg.keep hP (fun q h => hk9 q h id)
    rw [hw9]
    refine lv_icmp_ge (tgt := 29) hx hb dX7_tally_12 (by decide) (fun c_2 => ?_) (fun c_2 => ?_)
    · have hf := (if_pos c_2).symm.trans hf
      refine lv_null hx hb dX7_tally_29 ?_
      exact W.aret (v := .null) (rt := .object "Sandglass$Tally") hx hb hr (Or.inl ⟨_, rfl⟩) (Or.inl rfl) (fun t9 ht hW => ⟨⟨none, (), rfl, by rw [← Option.some.inj hf]; rfl, trivial⟩, hS.F ht⟩) hS.2.2 dX7_tally_30
    · have hf := (if_neg c_2).symm.trans hf
      refine lv_aload_n hx hb dX7_tally_15 rfl (lv_at hl 0 rfl) ?_
      refine r_get hx hb hts i_X7 hown hT hP inW (fs := (fsW g)) (obW g) rfl 1 (by decide) q189 (fun _ h9 => h9) rfl dX7_tally_16 ?_
      refine lv_iload_n hx hb dX7_tally_19 rfl (lv_at hl 1 rfl) ?_
      obtain ⟨hi_3, hf⟩ := grd_some hf
      have hj_4 : nu.toNatClampNeg < g.tz 0 := Nat.not_le.mp (fun z => hi_3 (Or.inr z))
      refine va_callq (va_runV (As := [.int nu]) (rest := []) ⟨hx, hb, hml, hown, hts⟩ (c_Jx4a65c_get_915e3 l hg μ (lsT hg (Nat.lt_of_le_of_lt (Nat.zero_le _) hj_4)) (nI_self (fun z => hi_3 (Or.inl z))) hj_4) (cwV 1 hts (gd_V q329 q330 q331 q40 q332) rfl rfl rfl hd_Jx4a65c_get_915e3 ⟨Nat.le_of_ble_eq_true rfl, Nat.le_of_ble_eq_true rfl⟩) ⟨Pz.blind, r_recv hT hP in266 (fs := fun _ => [.int (nI (g.tz 0)), .ref (g.ad 267), .int (nI (g.tz 0))]) (szT g) rfl, fun U hU hW => ⟨rfl, Tb.warm hW hT, by rw [hU]; exact hP⟩⟩ rfl rfl hl.1 rfl (lv_room (Nat.le_of_ble_eq_true rfl)) dX7_tally_20 ⟨Nat.le_of_ble_eq_true rfl, Nat.le_of_ble_eq_true rfl⟩) hS (fun q _ h => h.elim) (fun q h => h.elim) (fun v9 u9 t9 H locs ht9 hvm9 hw9 hB9 hz9 hk9 hS => ?_)
      have hP := Rg.keep hP (fun q h => hk9 q h id)
      rw [hw9, fnL_in hj_4]
      refine W.eq (g2 := F0 m 23 ls (.ref (g.ad (268 + nu.toNatClampNeg)) :: [])) rfl ?_
      obtain ⟨k_5, ek_5⟩ : ∃ z, 268 + nu.toNatClampNeg = z := ⟨_, rfl⟩
      rw [ek_5]
      have hf := bnd_eq hf _ ek_5
      obtain ⟨hk_5, hf⟩ := grd_some hf
      refine r_cast hx hb hts hown hT hP (inY hk_5) (fs := (fun _ => fsY g)) (obY hk_5) rfl q530 dX7_tally_23 ?_
      refine lv_goto (tgt := 30) hx hb dX7_tally_26 (by decide) ?_
      exact W.aret (v := .ref (g.ad k_5)) (rt := .object "Sandglass$Tally") hx hb hr (Or.inl ⟨_, rfl⟩) (Or.inr ⟨_, rfl⟩) (fun t9 ht hW => ⟨⟨(some (g.ad k_5)), (), rfl, by rw [← Option.some.inj hf]; rfl, trivial⟩, hS.F ht⟩) hS.2.2 dX7_tally_30
/-- "Sandglass" "demandTally" "(I)LSandglass$Tally;" -/
def f_X8_demandTally (g : Geo) (μ : Mem) (nu : Int32) : Option ((Option Nat)) := bnO (f_X7_tally g μ nu) fun r_1 => csQ r_1 (none) (fun o_3 => grd (o_3 = 268 ∧ g.tz 0 = 1) (some (some o_3)))
theorem hd_X8_demandTally : yX8_demandTally.cls = RX8 ∧ yX8_demandTally.cls ≠ "java/lang/invoke/MethodHandle" ∧ yX8_demandTally.cls ≠ "java/lang/invoke/VarHandle" ∧ (parseMethodDescriptor yX8_demandTally.desc).map (fun d => d.parameters.length) = some 1 := by decide +kernel
set_option maxHeartbeats 4000000 in
set_option maxRecDepth 100000 in
theorem c_X8_demandTally (l : Launch) {g : Geo} (hg : Good g) (hX : g.tz 1 = 1) (μ : Mem) (nu : Int32) {r : (Option Nat)} (hf : f_X8_demandTally g μ nu = some r) : Met l yX8_demandTally (ws_ yX8_demandTally cX8_demandTally 3 (some (.object "Sandglass$Tally"))) (rm_ 4 85 0 0) (Pz g [.ref (g.ad 272), .int nu] (Rg g μ)) (va_Qq (fun (v : Option Nat) (_ : Unit) => v = r.map g.ad) (fun _ _ => True) (fun _ => False)) 0 0 (fun _ => False) := by
  refine Met.ofW (cc := cX8_demandTally) (maxL := 3) (ret := (some (.object "Sandglass$Tally"))) (by decide) rfl ?_
  intro p e s m args below meth c s₁ B hml hv
  obtain ⟨rfl, hT, hP⟩ := hv
  have hx := B.exec
  have hb := B.bytes
  have hr := B.returns
  have hts : ∀ w ∈ lw_all, w.before _ s = true := fun w h => atoms_spec (ws := (ws_ yX8_demandTally cX8_demandTally 3 (some (.object "Sandglass$Tally")))) B.pre w (List.mem_cons_of_mem _ h)
  have hown : s.vm.findClass RX8 = some m.cls := findClass_of_methodNamed B.named
  have hlocks := B.notSynchronized
  have hS : va_S (fun _ => False) s.heap s.heap [] := va_S.rf
  have hl := lv_entry ([.ref (g.ad 272), .int nu]) (n := 3) (Nat.le_of_ble_eq_true rfl)
  rw [lg_entry_eq]
  generalize (lg_sl ([.ref (g.ad 272), .int nu]) ++ List.replicate (3 - (lg_sl ([.ref (g.ad 272), .int nu])).length) Slot.unset).toArray = ls at hl ⊢
  have hl : lv_has ls 3 [(0, .ref (g.ad 272)), (1, .int nu)] := hl
  unfold f_X8_demandTally at hf
  refine lv_aload_n hx hb dX8_demandTally_0 rfl (lv_at hl 0 rfl) ?_
  refine r_get hx hb hts i_X8 hown hT hP (inX hX) (fs := (fun _ => [.ref (g.ad 112), .ref (g.ad 266), .ref (g.ad 0), .ref (g.ad 273)])) (obX g) rfl 2 (by decide) q227 (fun _ h9 => h9) rfl dX8_demandTally_1 ?_
  refine lv_iload_n hx hb dX8_demandTally_4 rfl (lv_at hl 1 rfl) ?_
  obtain ⟨r_1, hc_2, hf⟩ := bnO_some hf
  refine va_callq (va_runV (As := [.int nu]) (rest := []) ⟨hx, hb, hml, hown, hts⟩ (c_X7_tally l hg μ nu  hc_2) (cwV 1 hts (gd_V q728 q527 q528 q41 q529) rfl rfl rfl hd_X7_tally ⟨Nat.le_of_ble_eq_true rfl, Nat.le_of_ble_eq_true rfl⟩) ⟨Pz.blind, r_recv hT hP inW (fs := (fsW g)) (obW g) rfl, fun U hU hW => ⟨rfl, Tb.warm hW hT, by rw [hU]; exact hP⟩⟩ rfl rfl hl.1 rfl (lv_room (Nat.le_of_ble_eq_true rfl)) dX8_demandTally_5 ⟨Nat.le_of_ble_eq_true rfl, Nat.le_of_ble_eq_true rfl⟩) hS (fun q _ h => h.elim) (fun q h => h.elim) (fun v9 u9 t9 H locs ht9 hvm9 hw9 hB9 hz9 hk9 hS => ?_)
  have hP := Rg.keep hP (fun q h => hk9 q h id)
  rw [hw9]
  cases r_1 with
  | none =>
    dsimp only [csQ] at hf
    refine W.eq (g2 := F0 m 8 ls [.null]) rfl ?_
    refine lv_astore_nN (lv' := [(2, .null), (0, .ref (g.ad 272)), (1, .int nu)]) hx hb dX8_demandTally_8 rfl hl (by decide) rfl (fun ls hl => ?_)
    refine lv_aload_nN hx hb dX8_demandTally_9 rfl (lv_at hl 0 rfl) ?_
    refine lv_ifnonnullN hx hb dX8_demandTally_10 ?_
    cases hf
  | some o_3 =>
    dsimp only [csQ] at hf
    obtain ⟨ho_3, hf⟩ := grd_some hf
    refine W.eq (g2 := F0 m 8 ls [.ref (g.ad o_3)]) rfl ?_
    refine lv_astore_n (lv' := [(2, .ref (g.ad o_3)), (0, .ref (g.ad 272)), (1, .int nu)]) hx hb dX8_demandTally_8 rfl hl (by decide) rfl (fun ls hl => ?_)
    refine lv_aload_n hx hb dX8_demandTally_9 rfl (lv_at hl 0 rfl) ?_
    refine lv_ifnonnull (tgt := 24) hx hb dX8_demandTally_10 (by decide) ?_
    refine lv_aload_n hx hb dX8_demandTally_24 rfl (lv_at hl 0 rfl) ?_
    exact W.aret (v := .ref (g.ad o_3)) (rt := .object "Sandglass$Tally") hx hb hr (Or.inl ⟨_, rfl⟩) (Or.inr ⟨_, rfl⟩) (fun t9 ht hW => ⟨⟨(some (g.ad o_3)), (), rfl, by rw [← Option.some.inj hf]; rfl, trivial⟩, hS.F ht⟩) hS.2.2 dX8_demandTally_25
/-- "Sandglass" "at" "([II)I" -/
def f_X8_atZ (g : Geo) (μ : Mem) (row : Nat) (i : Int32) : Option (Int32) := if i < 0 then (some 0) else (if 512 ≤ i then (some 0) else (grd (¬ (i < 0 ∨ 512 ≤ i.toNatClampNeg)) (some (g.ts row i.toNatClampNeg))))
theorem hd_X8_atZ : yX8_at.cls = RX8 ∧ yX8_at.cls ≠ "java/lang/invoke/MethodHandle" ∧ yX8_at.cls ≠ "java/lang/invoke/VarHandle" ∧ (parseMethodDescriptor yX8_at.desc).map (fun d => d.parameters.length) = some 2 := by decide +kernel
set_option maxHeartbeats 4000000 in
set_option maxRecDepth 100000 in
theorem c_X8_atZ (l : Launch) {g : Geo} (hg : Good g) (μ : Mem) (row : Nat) (i : Int32) (hrow : isZ g row) {r : Int32} (hf : f_X8_atZ g μ row i = some r) : Met l yX8_at (ws_ yX8_at cX8_at 2 (some .int)) (rm_ 0 0 0 0) (Pz g [.ref (g.ta row), .int i] (Rg g μ)) (va_Qi (fun (v : Int32) (_ : Unit) => v = r) (fun _ _ => True) (fun _ => False)) 0 0 (fun _ => False) := by
  refine Met.ofW (cc := cX8_at) (maxL := 2) (ret := (some .int)) (by decide) rfl ?_
  intro p e s m args below meth c s₁ B hml hv
  obtain ⟨rfl, hT, hP⟩ := hv
  have hx := B.exec
  have hb := B.bytes
  have hr := B.returns
  have hts : ∀ w ∈ lw_all, w.before _ s = true := fun w h => atoms_spec (ws := (ws_ yX8_at cX8_at 2 (some .int))) B.pre w (List.mem_cons_of_mem _ h)
  have hown : s.vm.findClass RX8 = some m.cls := findClass_of_methodNamed B.named
  have hlocks := B.notSynchronized
  have hS : va_S (fun _ => False) s.heap s.heap [] := va_S.rf
  have hl := lv_entry ([.ref (g.ta row), .int i]) (n := 2) (Nat.le_of_ble_eq_true rfl)
  rw [lg_entry_eq]
  generalize (lg_sl ([.ref (g.ta row), .int i]) ++ List.replicate (2 - (lg_sl ([.ref (g.ta row), .int i])).length) Slot.unset).toArray = ls at hl ⊢
  have hl : lv_has ls 2 [(0, .ref (g.ta row)), (1, .int i)] := hl
  unfold f_X8_atZ at hf
  refine lv_iload_n hx hb dX8_at_0 rfl (lv_at hl 1 rfl) ?_
  refine lv_if_lt (tgt := 16) hx hb dX8_at_1 (by decide) (fun c_1 => ?_) (fun c_1 => ?_)
  · have hf := (if_pos c_1).symm.trans hf
    refine lv_iconst (v := 0) hx hb dX8_at_16 (by decide) ?_
    exact W.iret (v := 0) hx hb hr (fun t9 ht hW => ⟨⟨0, (), rfl, Option.some.inj hf, trivial⟩, hS.F ht⟩) hS.2.2 dX8_at_17
  · have hf := (if_neg c_1).symm.trans hf
    refine lv_iload_n hx hb dX8_at_4 rfl (lv_at hl 1 rfl) ?_
    refine lv_aload_n hx hb dX8_at_5 rfl (lv_at hl 0 rfl) ?_
    refine rz_alen hx hb hT hP hrow dX8_at_6 ?_
    refine lv_icmp_ge (tgt := 16) hx hb dX8_at_7 (by decide) (fun c_2 => ?_) (fun c_2 => ?_)
    · have hf := (if_pos c_2).symm.trans hf
      refine lv_iconst (v := 0) hx hb dX8_at_16 (by decide) ?_
      exact W.iret (v := 0) hx hb hr (fun t9 ht hW => ⟨⟨0, (), rfl, Option.some.inj hf, trivial⟩, hS.F ht⟩) hS.2.2 dX8_at_17
    · have hf := (if_neg c_2).symm.trans hf
      refine lv_aload_n hx hb dX8_at_10 rfl (lv_at hl 0 rfl) ?_
      refine lv_iload_n hx hb dX8_at_11 rfl (lv_at hl 1 rfl) ?_
      obtain ⟨hi_3, hf⟩ := grd_some hf
      refine rz_iald hx hb hT hP hrow hi_3 dX8_at_12 ?_
      refine lv_goto (tgt := 17) hx hb dX8_at_13 (by decide) ?_
      exact W.iret (v := g.ts row i.toNatClampNeg) hx hb hr (fun t9 ht hW => ⟨⟨g.ts row i.toNatClampNeg, (), rfl, Option.some.inj hf, trivial⟩, hS.F ht⟩) hS.2.2 dX8_at_17
/-- "Sandglass$Tally" "sumAt" "(I)I" -/
def f_X6_sumAt (g : Geo) (μ : Mem) (t : Nat) (nu : Int32) : Option (Int32) := if (nu / 512) < 0 then (some 0) else (if (nI (g.tz 2)) ≤ (nu / 512) then (some 0) else (grd (¬ ((nu / 512) < 0 ∨ g.tz 2 ≤ (nu / 512).toNatClampNeg)) (bnd (1 + 2 * (nu / 512).toNatClampNeg) fun k_5 => grd (k_5 % 2 = 1 ∧ k_5 < 1 + 2 * g.tz 2) (bnO (f_X8_atZ g μ (k_5 + 1) (nu - nu / 512 * 512)) fun r_6 => some r_6))))
theorem hd_X6_sumAt : yX6_sumAt.cls = RX6 ∧ yX6_sumAt.cls ≠ "java/lang/invoke/MethodHandle" ∧ yX6_sumAt.cls ≠ "java/lang/invoke/VarHandle" ∧ (parseMethodDescriptor yX6_sumAt.desc).map (fun d => d.parameters.length) = some 1 := by decide +kernel
set_option maxHeartbeats 4000000 in
set_option maxRecDepth 100000 in
theorem c_X6_sumAt (l : Launch) {g : Geo} (hg : Good g) (μ : Mem) (t : Nat) (nu : Int32) (ht : isY g t) {r : Int32} (hf : f_X6_sumAt g μ t nu = some r) : Met l yX6_sumAt (ws_ yX6_sumAt cX6_sumAt 3 (some .int)) (rm_ 3 64 0 0) (Pz g [.ref (g.ad t), .int nu] (Rg g μ)) (va_Qi (fun (v : Int32) (_ : Unit) => v = r) (fun _ _ => True) (fun _ => False)) 0 0 (fun _ => False) := by
  refine Met.ofW (cc := cX6_sumAt) (maxL := 3) (ret := (some .int)) (by decide) rfl ?_
  intro p e s m args below meth c s₁ B hml hv
  obtain ⟨rfl, hT, hP⟩ := hv
  have hx := B.exec
  have hb := B.bytes
  have hr := B.returns
  have hts : ∀ w ∈ lw_all, w.before _ s = true := fun w h => atoms_spec (ws := (ws_ yX6_sumAt cX6_sumAt 3 (some .int))) B.pre w (List.mem_cons_of_mem _ h)
  have hown : s.vm.findClass RX6 = some m.cls := findClass_of_methodNamed B.named
  have hlocks := B.notSynchronized
  have hS : va_S (fun _ => False) s.heap s.heap [] := va_S.rf
  have hl := lv_entry ([.ref (g.ad t), .int nu]) (n := 3) (Nat.le_of_ble_eq_true rfl)
  rw [lg_entry_eq]
  generalize (lg_sl ([.ref (g.ad t), .int nu]) ++ List.replicate (3 - (lg_sl ([.ref (g.ad t), .int nu])).length) Slot.unset).toArray = ls at hl ⊢
  have hl : lv_has ls 3 [(0, .ref (g.ad t)), (1, .int nu)] := hl
  unfold f_X6_sumAt at hf
  refine lv_iload_n hx hb dX6_sumAt_0 rfl (lv_at hl 1 rfl) ?_
  refine lv_sipush (v := 512) hx hb dX6_sumAt_1 (by decide) ?_
  refine lv_idiv hx hb dX6_sumAt_4 (by decide) ?_
  refine lv_istore_n (lv' := [(2, .int (nu / 512)), (0, .ref (g.ad t)), (1, .int nu)]) hx hb dX6_sumAt_5 rfl hl (by decide) rfl (fun ls hl => ?_)
  refine lv_iload_n hx hb dX6_sumAt_6 rfl (lv_at hl 0 rfl) ?_
  refine lv_if_lt (tgt := 46) hx hb dX6_sumAt_7 (by decide) (fun c_1 => ?_) (fun c_1 => ?_)
  · have hf := (if_pos c_1).symm.trans hf
    refine lv_iconst (v := 0) hx hb dX6_sumAt_46 (by decide) ?_
    exact W.iret (v := 0) hx hb hr (fun t9 ht hW => ⟨⟨0, (), rfl, Option.some.inj hf, trivial⟩, hS.F ht⟩) hS.2.2 dX6_sumAt_47
  · have hf := (if_neg c_1).symm.trans hf
    refine lv_iload_n hx hb dX6_sumAt_10 rfl (lv_at hl 0 rfl) ?_
    refine lv_aload_n hx hb dX6_sumAt_11 rfl (lv_at hl 1 rfl) ?_
    refine r_get hx hb hts i_X6 hown hT hP (inY ht) (fs := (fun _ => fsY g)) (obY ht) rfl 9 (by decide) q1040 (fun _ h9 => h9) rfl dX6_sumAt_12 ?_
    refine va_calli (va_runV (As := []) (rest := [.int (nu / 512)]) ⟨hx, hb, hml, hown, hts⟩ (c_Jx4a65c_size_8abf5 l hg μ (in274 ht) (szK g)) (cwV 0 hts (gd_V q551 q326 q327 q40 q328) rfl rfl rfl hd_Jx4a65c_size_8abf5 ⟨Nat.le_of_ble_eq_true rfl, Nat.le_of_ble_eq_true rfl⟩) ⟨Pz.blind, r_recv hT hP (in274 ht) (fs := fun _ => [.int (nI (g.tz 2)), .ref (g.ta 0), .int (nI (g.tz 2))]) (szK g) rfl, fun U hU hW => ⟨rfl, Tb.warm hW hT, by rw [hU]; exact hP⟩⟩ rfl rfl hl.1 rfl (lv_room (Nat.le_of_ble_eq_true rfl)) dX6_sumAt_15 ⟨Nat.le_of_ble_eq_true rfl, Nat.le_of_ble_eq_true rfl⟩) hS (fun q _ h => h.elim) (fun q h => h.elim) (fun v9 u9 t9 H locs ht9 hvm9 hw9 hB9 hz9 hk9 hS => ?_)
    have hP := Rg.keep hP (fun q h => hk9 q h id)
    rw [hw9]
    refine lv_icmp_ge (tgt := 46) hx hb dX6_sumAt_18 (by decide) (fun c_2 => ?_) (fun c_2 => ?_)
    · have hf := (if_pos c_2).symm.trans hf
      refine lv_iconst (v := 0) hx hb dX6_sumAt_46 (by decide) ?_
      exact W.iret (v := 0) hx hb hr (fun t9 ht hW => ⟨⟨0, (), rfl, Option.some.inj hf, trivial⟩, hS.F ht⟩) hS.2.2 dX6_sumAt_47
    · have hf := (if_neg c_2).symm.trans hf
      refine lv_aload_n hx hb dX6_sumAt_21 rfl (lv_at hl 1 rfl) ?_
      refine r_get hx hb hts i_X6 hown hT hP (inY ht) (fs := (fun _ => fsY g)) (obY ht) rfl 9 (by decide) q1040 (fun _ h9 => h9) rfl dX6_sumAt_22 ?_
      refine lv_iload_n hx hb dX6_sumAt_25 rfl (lv_at hl 0 rfl) ?_
      obtain ⟨hi_3, hf⟩ := grd_some hf
      have hj_4 : (nu / 512).toNatClampNeg < g.tz 2 := Nat.not_le.mp (fun z => hi_3 (Or.inr z))
      refine va_callq (va_runV (As := [.int (nu / 512)]) (rest := []) ⟨hx, hb, hml, hown, hts⟩ (c_Jx4a65c_get_915e3 l hg μ (lsK hg ht (Nat.lt_of_le_of_lt (Nat.zero_le _) hj_4)) (nI_self (fun z => hi_3 (Or.inl z))) hj_4) (cwV 1 hts (gd_V q620 q330 q331 q40 q332) rfl rfl rfl hd_Jx4a65c_get_915e3 ⟨Nat.le_of_ble_eq_true rfl, Nat.le_of_ble_eq_true rfl⟩) ⟨Pz.blind, r_recv hT hP (in274 ht) (fs := fun _ => [.int (nI (g.tz 2)), .ref (g.ta 0), .int (nI (g.tz 2))]) (szK g) rfl, fun U hU hW => ⟨rfl, Tb.warm hW hT, by rw [hU]; exact hP⟩⟩ rfl rfl hl.1 rfl (lv_room (Nat.le_of_ble_eq_true rfl)) dX6_sumAt_26 ⟨Nat.le_of_ble_eq_true rfl, Nat.le_of_ble_eq_true rfl⟩) hS (fun q _ h => h.elim) (fun q h => h.elim) (fun v9 u9 t9 H locs ht9 hvm9 hw9 hB9 hz9 hk9 hS => ?_)
      have hP := Rg.keep hP (fun q h => hk9 q h id)
      rw [hw9, fnK_in hj_4]
      refine W.eq (g2 := F0 m 29 ls (.ref (g.ta (1 + 2 * (nu / 512).toNatClampNeg)) :: [])) rfl ?_
      obtain ⟨k_5, ek_5⟩ : ∃ z, 1 + 2 * (nu / 512).toNatClampNeg = z := ⟨_, rfl⟩
      rw [ek_5]
      have hf := bnd_eq hf _ ek_5
      obtain ⟨hk_5, hf⟩ := grd_some hf
      refine rk_cast hx hb hts hown hT hP hk_5 q552 dX6_sumAt_29 ?_
      refine rk_get hx hb hts i_X0 hown hT hP hk_5 q559 (fun _ h9 => h9) dX6_sumAt_32 ?_
      refine lv_iload_n hx hb dX6_sumAt_35 rfl (lv_at hl 2 rfl) ?_
      refine lv_sipush (v := 512) hx hb dX6_sumAt_36 (by decide) ?_
      refine lv_irem hx hb dX6_sumAt_39 (by decide) ?_
      obtain ⟨r_6, hc_7, hf⟩ := bnO_some hf
      refine va_calli (va_runSN (As := [.ref (g.ta (k_5 + 1)), .int (nu - nu / 512 * 512)]) (rest := []) ⟨hx, hb, hml, hown, hts⟩ (c_X8_atZ l hg μ (k_5 + 1) (nu - nu / 512 * 512) (show isK g _ from hk_5).row hc_7) ⟨va_cnB 2 hts (gd_code q464) rfl rfl rfl (hT.2.1 _ nst_6) (hts _ q37) hd_X8_atZ.2 ⟨Nat.le_of_ble_eq_true rfl, Nat.le_of_ble_eq_true rfl⟩, hts _ q463, trivial⟩ ⟨Pz.blind, fun U hU hW => ⟨rfl, Tb.warm hW hT, by rw [hU]; exact hP⟩⟩ rfl rfl hl.1 rfl (lv_room (Nat.le_of_ble_eq_true rfl)) dX6_sumAt_40 ⟨Nat.le_of_ble_eq_true rfl, Nat.le_of_ble_eq_true rfl⟩) hS (fun q _ h => h.elim) (fun q h => h.elim) (fun v9 u9 t9 H locs ht9 hvm9 hw9 hB9 hz9 hk9 hS => ?_)
      have hP := Rg.keep hP (fun q h => hk9 q h id)
      rw [hw9]
      refine lv_goto (tgt := 47) hx hb dX6_sumAt_43 (by decide) ?_
      exact W.iret (v := r_6) hx hb hr (fun t9 ht hW => ⟨⟨r_6, (), rfl, Option.some.inj hf, trivial⟩, hS.F ht⟩) hS.2.2 dX6_sumAt_47
/-- "Sandglass" "tallied" "(I)I" -/
def f_X8_tallied (g : Geo) (μ : Mem) (nu : Int32) : Option (Int32) := bnO (f_X8_demandTally g μ nu) fun r_1 => csQ r_1 (none) (fun o_3 => grd (o_3 = 268 ∧ g.tz 0 = 1) (some (g.ts 1000 1)))
theorem hd_X8_tallied : yX8_tallied.cls = RX8 ∧ yX8_tallied.cls ≠ "java/lang/invoke/MethodHandle" ∧ yX8_tallied.cls ≠ "java/lang/invoke/VarHandle" ∧ (parseMethodDescriptor yX8_tallied.desc).map (fun d => d.parameters.length) = some 1 := by decide +kernel
set_option maxHeartbeats 4000000 in
set_option maxRecDepth 100000 in
theorem c_X8_tallied (l : Launch) {g : Geo} (hg : Good g) (hX : g.tz 1 = 1) (μ : Mem) (nu : Int32) {r : Int32} (hf : f_X8_tallied g μ nu = some r) : Met l yX8_tallied (ws_ yX8_tallied cX8_tallied 2 (some .int)) (rm_ 5 107 0 0) (Pz g [.ref (g.ad 272), .int nu] (Rg g μ)) (va_Qi (fun (v : Int32) (_ : Unit) => v = r) (fun _ _ => True) (fun _ => False)) 0 0 (fun _ => False) := by
  refine Met.ofW (cc := cX8_tallied) (maxL := 2) (ret := (some .int)) (by decide) rfl ?_
  intro p e s m args below meth c s₁ B hml hv
  obtain ⟨rfl, hT, hP⟩ := hv
  have hx := B.exec
  have hb := B.bytes
  have hr := B.returns
  have hts : ∀ w ∈ lw_all, w.before _ s = true := fun w h => atoms_spec (ws := (ws_ yX8_tallied cX8_tallied 2 (some .int))) B.pre w (List.mem_cons_of_mem _ h)
  have hown : s.vm.findClass RX8 = some m.cls := findClass_of_methodNamed B.named
  have hlocks := B.notSynchronized
  have hS : va_S (fun _ => False) s.heap s.heap [] := va_S.rf
  have hl := lv_entry ([.ref (g.ad 272), .int nu]) (n := 2) (Nat.le_of_ble_eq_true rfl)
  rw [lg_entry_eq]
  generalize (lg_sl ([.ref (g.ad 272), .int nu]) ++ List.replicate (2 - (lg_sl ([.ref (g.ad 272), .int nu])).length) Slot.unset).toArray = ls at hl ⊢
  have hl : lv_has ls 2 [(0, .ref (g.ad 272)), (1, .int nu)] := hl
  unfold f_X8_tallied at hf
  refine lv_aload_n hx hb dX8_tallied_0 rfl (lv_at hl 0 rfl) ?_
  refine lv_iload_n hx hb dX8_tallied_1 rfl (lv_at hl 1 rfl) ?_
  obtain ⟨r_1, hc_2, hf⟩ := bnO_some hf
  refine va_callq (va_runV (As := [.int nu]) (rest := []) ⟨hx, hb, hml, hown, hts⟩ (c_X8_demandTally l hg hX μ nu  hc_2) (cwV 1 hts (gd_V q724 q726 q28 q37 q727) rfl rfl rfl hd_X8_demandTally ⟨Nat.le_of_ble_eq_true rfl, Nat.le_of_ble_eq_true rfl⟩) ⟨Pz.blind, r_recv hT hP (inX hX) (fs := (fun _ => [.ref (g.ad 112), .ref (g.ad 266), .ref (g.ad 0), .ref (g.ad 273)])) (obX g) rfl, fun U hU hW => ⟨rfl, Tb.warm hW hT, by rw [hU]; exact hP⟩⟩ rfl rfl hl.1 rfl (lv_room (Nat.le_of_ble_eq_true rfl)) dX8_tallied_2 ⟨Nat.le_of_ble_eq_true rfl, Nat.le_of_ble_eq_true rfl⟩) hS (fun q _ h => h.elim) (fun q h => h.elim) (fun v9 u9 t9 H locs ht9 hvm9 hw9 hB9 hz9 hk9 hS => ?_)
  have hP := Rg.keep hP (fun q h => hk9 q h id)
  rw [hw9]
  cases r_1 with
  | none =>
    dsimp only [csQ] at hf
    refine W.eq (g2 := F0 m 5 ls [.null]) rfl ?_
    cases hf
  | some o_3 =>
    dsimp only [csQ] at hf
    obtain ⟨ho_3, hf⟩ := grd_some hf
    refine W.eq (g2 := F0 m 5 ls [.ref (g.ad o_3)]) rfl ?_
    refine r_get hx hb hts i_X6 hown hT hP (inY ho_3) (fs := (fun _ => fsY g)) (obY ho_3) rfl 1 (by decide) q1027 (fun _ h9 => h9) rfl dX8_tallied_5 ?_
    exact W.iret (v := g.ts 1000 1) hx hb hr (fun t9 ht hW => ⟨⟨g.ts 1000 1, (), rfl, Option.some.inj hf, trivial⟩, hS.F ht⟩) hS.2.2 dX8_tallied_8
/-- "Sandglass" "ofTally" "(II)I" -/
def f_X8_ofTally (g : Geo) (μ : Mem) (nu : Int32) (wh : Int32) : Option (Int32) := bnO (f_X8_demandTally g μ nu) fun r_1 => csQ r_1 (if wh = 0 then none else if wh = 1 then none else if wh = 2 then none else if wh = 3 then none else none) (fun o_3 => grd (o_3 = 268 ∧ g.tz 0 = 1) (if wh = 0 then (some (g.ts 1000 2)) else if wh = 1 then (some (g.ts 1000 3)) else if wh = 2 then (some (g.ts 1000 4)) else if wh = 3 then (some (g.ts 1000 5)) else none))
theorem hd_X8_ofTally : yX8_ofTally.cls = RX8 ∧ yX8_ofTally.cls ≠ "java/lang/invoke/MethodHandle" ∧ yX8_ofTally.cls ≠ "java/lang/invoke/VarHandle" ∧ (parseMethodDescriptor yX8_ofTally.desc).map (fun d => d.parameters.length) = some 2 := by decide +kernel
set_option maxHeartbeats 4000000 in
set_option maxRecDepth 100000 in
theorem c_X8_ofTally (l : Launch) {g : Geo} (hg : Good g) (hX : g.tz 1 = 1) (μ : Mem) (nu : Int32) (wh : Int32) {r : Int32} (hf : f_X8_ofTally g μ nu wh = some r) : Met l yX8_ofTally (ws_ yX8_ofTally cX8_ofTally 4 (some .int)) (rm_ 5 107 0 0) (Pz g [.ref (g.ad 272), .int nu, .int wh] (Rg g μ)) (va_Qi (fun (v : Int32) (_ : Unit) => v = r) (fun _ _ => True) (fun _ => False)) 0 0 (fun _ => False) := by
  refine Met.ofW (cc := cX8_ofTally) (maxL := 4) (ret := (some .int)) (by decide) rfl ?_
  intro p e s m args below meth c s₁ B hml hv
  obtain ⟨rfl, hT, hP⟩ := hv
  have hx := B.exec
  have hb := B.bytes
  have hr := B.returns
  have hts : ∀ w ∈ lw_all, w.before _ s = true := fun w h => atoms_spec (ws := (ws_ yX8_ofTally cX8_ofTally 4 (some .int))) B.pre w (List.mem_cons_of_mem _ h)
  have hown : s.vm.findClass RX8 = some m.cls := findClass_of_methodNamed B.named
  have hlocks := B.notSynchronized
  have hS : va_S (fun _ => False) s.heap s.heap [] := va_S.rf
  have hl := lv_entry ([.ref (g.ad 272), .int nu, .int wh]) (n := 4) (Nat.le_of_ble_eq_true rfl)
  rw [lg_entry_eq]
  generalize (lg_sl ([.ref (g.ad 272), .int nu, .int wh]) ++ List.replicate (4 - (lg_sl ([.ref (g.ad 272), .int nu, .int wh])).length) Slot.unset).toArray = ls at hl ⊢
  have hl : lv_has ls 4 [(0, .ref (g.ad 272)), (1, .int nu), (2, .int wh)] := hl
  unfold f_X8_ofTally at hf
  refine lv_aload_n hx hb dX8_ofTally_0 rfl (lv_at hl 0 rfl) ?_
  refine lv_iload_n hx hb dX8_ofTally_1 rfl (lv_at hl 1 rfl) ?_
  obtain ⟨r_1, hc_2, hf⟩ := bnO_some hf
  refine va_callq (va_runV (As := [.int nu]) (rest := []) ⟨hx, hb, hml, hown, hts⟩ (c_X8_demandTally l hg hX μ nu  hc_2) (cwV 1 hts (gd_V q724 q726 q28 q37 q727) rfl rfl rfl hd_X8_demandTally ⟨Nat.le_of_ble_eq_true rfl, Nat.le_of_ble_eq_true rfl⟩) ⟨Pz.blind, r_recv hT hP (inX hX) (fs := (fun _ => [.ref (g.ad 112), .ref (g.ad 266), .ref (g.ad 0), .ref (g.ad 273)])) (obX g) rfl, fun U hU hW => ⟨rfl, Tb.warm hW hT, by rw [hU]; exact hP⟩⟩ rfl rfl hl.1 rfl (lv_room (Nat.le_of_ble_eq_true rfl)) dX8_ofTally_2 ⟨Nat.le_of_ble_eq_true rfl, Nat.le_of_ble_eq_true rfl⟩) hS (fun q _ h => h.elim) (fun q h => h.elim) (fun v9 u9 t9 H locs ht9 hvm9 hw9 hB9 hz9 hk9 hS => ?_)
  have hP := Rg.keep hP (fun q h => hk9 q h id)
  rw [hw9]
  cases r_1 with
  | none =>
    dsimp only [csQ] at hf
    refine W.eq (g2 := F0 m 5 ls [.null]) rfl ?_
    refine lv_astore_nN (lv' := [(3, .null), (0, .ref (g.ad 272)), (1, .int nu), (2, .int wh)]) hx hb dX8_ofTally_5 rfl hl (by decide) rfl (fun ls hl => ?_)
    refine lv_iload_n hx hb dX8_ofTally_6 rfl (lv_at hl 3 rfl) ?_
    by_cases c_4 : wh = 0
    · have hf := (if_pos c_4).symm.trans hf
      refine W.eq (g2 := F0 m 7 ls [.int 0]) (by rw [c_4]) ?_
      refine lv_tableIn (tgt := 36) hx hb dX8_ofTally_7 (by decide) (by decide) rfl (by decide) ?_
      refine lv_aload_nN hx hb dX8_ofTally_36 rfl (lv_at hl 0 rfl) ?_
      cases hf
    have hf := (if_neg c_4).symm.trans hf
    by_cases c_5 : wh = 1
    · have hf := (if_pos c_5).symm.trans hf
      refine W.eq (g2 := F0 m 7 ls [.int 1]) (by rw [c_5]) ?_
      refine lv_tableIn (tgt := 41) hx hb dX8_ofTally_7 (by decide) (by decide) rfl (by decide) ?_
      refine lv_aload_nN hx hb dX8_ofTally_41 rfl (lv_at hl 0 rfl) ?_
      cases hf
    have hf := (if_neg c_5).symm.trans hf
    by_cases c_6 : wh = 2
    · have hf := (if_pos c_6).symm.trans hf
      refine W.eq (g2 := F0 m 7 ls [.int 2]) (by rw [c_6]) ?_
      refine lv_tableIn (tgt := 46) hx hb dX8_ofTally_7 (by decide) (by decide) rfl (by decide) ?_
      refine lv_aload_nN hx hb dX8_ofTally_46 rfl (lv_at hl 0 rfl) ?_
      cases hf
    have hf := (if_neg c_6).symm.trans hf
    by_cases c_7 : wh = 3
    · have hf := (if_pos c_7).symm.trans hf
      refine W.eq (g2 := F0 m 7 ls [.int 3]) (by rw [c_7]) ?_
      refine lv_tableIn (tgt := 51) hx hb dX8_ofTally_7 (by decide) (by decide) rfl (by decide) ?_
      refine lv_aload_nN hx hb dX8_ofTally_51 rfl (lv_at hl 0 rfl) ?_
      cases hf
    have hf := (if_neg c_7).symm.trans hf
    refine lv_tableOut (tgt := 56) hx hb dX8_ofTally_7 (sw_out4 c_4 c_5 c_6 c_7) (by decide) ?_
    cases hf
  | some o_3 =>
    dsimp only [csQ] at hf
    obtain ⟨ho_3, hf⟩ := grd_some hf
    refine W.eq (g2 := F0 m 5 ls [.ref (g.ad o_3)]) rfl ?_
    refine lv_astore_n (lv' := [(3, .ref (g.ad o_3)), (0, .ref (g.ad 272)), (1, .int nu), (2, .int wh)]) hx hb dX8_ofTally_5 rfl hl (by decide) rfl (fun ls hl => ?_)
    refine lv_iload_n hx hb dX8_ofTally_6 rfl (lv_at hl 3 rfl) ?_
    by_cases c_8 : wh = 0
    · have hf := (if_pos c_8).symm.trans hf
      refine W.eq (g2 := F0 m 7 ls [.int 0]) (by rw [c_8]) ?_
      refine lv_tableIn (tgt := 36) hx hb dX8_ofTally_7 (by decide) (by decide) rfl (by decide) ?_
      refine lv_aload_n hx hb dX8_ofTally_36 rfl (lv_at hl 0 rfl) ?_
      refine r_get hx hb hts i_X6 hown hT hP (inY ho_3) (fs := (fun _ => fsY g)) (obY ho_3) rfl 2 (by decide) q1029 (fun _ h9 => h9) rfl dX8_ofTally_37 ?_
      exact W.iret (v := g.ts 1000 2) hx hb hr (fun t9 ht hW => ⟨⟨g.ts 1000 2, (), rfl, Option.some.inj hf, trivial⟩, hS.F ht⟩) hS.2.2 dX8_ofTally_40
    have hf := (if_neg c_8).symm.trans hf
    by_cases c_9 : wh = 1
    · have hf := (if_pos c_9).symm.trans hf
      refine W.eq (g2 := F0 m 7 ls [.int 1]) (by rw [c_9]) ?_
      refine lv_tableIn (tgt := 41) hx hb dX8_ofTally_7 (by decide) (by decide) rfl (by decide) ?_
      refine lv_aload_n hx hb dX8_ofTally_41 rfl (lv_at hl 0 rfl) ?_
      refine r_get hx hb hts i_X6 hown hT hP (inY ho_3) (fs := (fun _ => fsY g)) (obY ho_3) rfl 3 (by decide) q1031 (fun _ h9 => h9) rfl dX8_ofTally_42 ?_
      exact W.iret (v := g.ts 1000 3) hx hb hr (fun t9 ht hW => ⟨⟨g.ts 1000 3, (), rfl, Option.some.inj hf, trivial⟩, hS.F ht⟩) hS.2.2 dX8_ofTally_45
    have hf := (if_neg c_9).symm.trans hf
    by_cases c_10 : wh = 2
    · have hf := (if_pos c_10).symm.trans hf
      refine W.eq (g2 := F0 m 7 ls [.int 2]) (by rw [c_10]) ?_
      refine lv_tableIn (tgt := 46) hx hb dX8_ofTally_7 (by decide) (by decide) rfl (by decide) ?_
      refine lv_aload_n hx hb dX8_ofTally_46 rfl (lv_at hl 0 rfl) ?_
      refine r_get hx hb hts i_X6 hown hT hP (inY ho_3) (fs := (fun _ => fsY g)) (obY ho_3) rfl 4 (by decide) q1033 (fun _ h9 => h9) rfl dX8_ofTally_47 ?_
      exact W.iret (v := g.ts 1000 4) hx hb hr (fun t9 ht hW => ⟨⟨g.ts 1000 4, (), rfl, Option.some.inj hf, trivial⟩, hS.F ht⟩) hS.2.2 dX8_ofTally_50
    have hf := (if_neg c_10).symm.trans hf
    by_cases c_11 : wh = 3
    · have hf := (if_pos c_11).symm.trans hf
      refine W.eq (g2 := F0 m 7 ls [.int 3]) (by rw [c_11]) ?_
      refine lv_tableIn (tgt := 51) hx hb dX8_ofTally_7 (by decide) (by decide) rfl (by decide) ?_
      refine lv_aload_n hx hb dX8_ofTally_51 rfl (lv_at hl 0 rfl) ?_
      refine r_get hx hb hts i_X6 hown hT hP (inY ho_3) (fs := (fun _ => fsY g)) (obY ho_3) rfl 5 (by decide) q1035 (fun _ h9 => h9) rfl dX8_ofTally_52 ?_
      exact W.iret (v := g.ts 1000 5) hx hb hr (fun t9 ht hW => ⟨⟨g.ts 1000 5, (), rfl, Option.some.inj hf, trivial⟩, hS.F ht⟩) hS.2.2 dX8_ofTally_55
    have hf := (if_neg c_11).symm.trans hf
    refine lv_tableOut (tgt := 56) hx hb dX8_ofTally_7 (sw_out4 c_8 c_9 c_10 c_11) (by decide) ?_
    cases hf
/-- "Sandglass" "batches" "(I)I" -/
def f_X8_batches (g : Geo) (μ : Mem) (nu : Int32) : Option (Int32) := bnO (f_X8_demandTally g μ nu) fun r_1 => csQ r_1 (none) (fun o_3 => grd (o_3 = 268 ∧ g.tz 0 = 1) (some (g.ts 1000 8)))
theorem hd_X8_batches : yX8_batches.cls = RX8 ∧ yX8_batches.cls ≠ "java/lang/invoke/MethodHandle" ∧ yX8_batches.cls ≠ "java/lang/invoke/VarHandle" ∧ (parseMethodDescriptor yX8_batches.desc).map (fun d => d.parameters.length) = some 1 := by decide +kernel
set_option maxHeartbeats 4000000 in
set_option maxRecDepth 100000 in
theorem c_X8_batches (l : Launch) {g : Geo} (hg : Good g) (hX : g.tz 1 = 1) (μ : Mem) (nu : Int32) {r : Int32} (hf : f_X8_batches g μ nu = some r) : Met l yX8_batches (ws_ yX8_batches cX8_batches 2 (some .int)) (rm_ 5 107 0 0) (Pz g [.ref (g.ad 272), .int nu] (Rg g μ)) (va_Qi (fun (v : Int32) (_ : Unit) => v = r) (fun _ _ => True) (fun _ => False)) 0 0 (fun _ => False) := by
  refine Met.ofW (cc := cX8_batches) (maxL := 2) (ret := (some .int)) (by decide) rfl ?_
  intro p e s m args below meth c s₁ B hml hv
  obtain ⟨rfl, hT, hP⟩ := hv
  have hx := B.exec
  have hb := B.bytes
  have hr := B.returns
  have hts : ∀ w ∈ lw_all, w.before _ s = true := fun w h => atoms_spec (ws := (ws_ yX8_batches cX8_batches 2 (some .int))) B.pre w (List.mem_cons_of_mem _ h)
  have hown : s.vm.findClass RX8 = some m.cls := findClass_of_methodNamed B.named
  have hlocks := B.notSynchronized
  have hS : va_S (fun _ => False) s.heap s.heap [] := va_S.rf
  have hl := lv_entry ([.ref (g.ad 272), .int nu]) (n := 2) (Nat.le_of_ble_eq_true rfl)
  rw [lg_entry_eq]
  generalize (lg_sl ([.ref (g.ad 272), .int nu]) ++ List.replicate (2 - (lg_sl ([.ref (g.ad 272), .int nu])).length) Slot.unset).toArray = ls at hl ⊢
  have hl : lv_has ls 2 [(0, .ref (g.ad 272)), (1, .int nu)] := hl
  unfold f_X8_batches at hf
  refine lv_aload_n hx hb dX8_batches_0 rfl (lv_at hl 0 rfl) ?_
  refine lv_iload_n hx hb dX8_batches_1 rfl (lv_at hl 1 rfl) ?_
  obtain ⟨r_1, hc_2, hf⟩ := bnO_some hf
  refine va_callq (va_runV (As := [.int nu]) (rest := []) ⟨hx, hb, hml, hown, hts⟩ (c_X8_demandTally l hg hX μ nu  hc_2) (cwV 1 hts (gd_V q724 q726 q28 q37 q727) rfl rfl rfl hd_X8_demandTally ⟨Nat.le_of_ble_eq_true rfl, Nat.le_of_ble_eq_true rfl⟩) ⟨Pz.blind, r_recv hT hP (inX hX) (fs := (fun _ => [.ref (g.ad 112), .ref (g.ad 266), .ref (g.ad 0), .ref (g.ad 273)])) (obX g) rfl, fun U hU hW => ⟨rfl, Tb.warm hW hT, by rw [hU]; exact hP⟩⟩ rfl rfl hl.1 rfl (lv_room (Nat.le_of_ble_eq_true rfl)) dX8_batches_2 ⟨Nat.le_of_ble_eq_true rfl, Nat.le_of_ble_eq_true rfl⟩) hS (fun q _ h => h.elim) (fun q h => h.elim) (fun v9 u9 t9 H locs ht9 hvm9 hw9 hB9 hz9 hk9 hS => ?_)
  have hP := Rg.keep hP (fun q h => hk9 q h id)
  rw [hw9]
  cases r_1 with
  | none =>
    dsimp only [csQ] at hf
    refine W.eq (g2 := F0 m 5 ls [.null]) rfl ?_
    cases hf
  | some o_3 =>
    dsimp only [csQ] at hf
    obtain ⟨ho_3, hf⟩ := grd_some hf
    refine W.eq (g2 := F0 m 5 ls [.ref (g.ad o_3)]) rfl ?_
    refine r_get hx hb hts i_X6 hown hT hP (inY ho_3) (fs := (fun _ => fsY g)) (obY ho_3) rfl 8 (by decide) q1039 (fun _ h9 => h9) rfl dX8_batches_5 ?_
    exact W.iret (v := g.ts 1000 8) hx hb hr (fun t9 ht hW => ⟨⟨g.ts 1000 8, (), rfl, Option.some.inj hf, trivial⟩, hS.F ht⟩) hS.2.2 dX8_batches_8
/-- "Sandglass" "sumOf" "(II)I" -/
def f_X8_sumOf (g : Geo) (μ : Mem) (nu : Int32) (ba : Int32) : Option (Int32) := bnO (f_X8_demandTally g μ nu) fun r_1 => csQ r_1 (if ba < 0 then none else none) (fun o_3 => grd (o_3 = 268 ∧ g.tz 0 = 1) (if ba < 0 then none else (if ba < (g.ts 1000 8) then (bnO (f_X6_sumAt g μ o_3 ba) fun r_7 => some r_7) else none)))
theorem hd_X8_sumOf : yX8_sumOf.cls = RX8 ∧ yX8_sumOf.cls ≠ "java/lang/invoke/MethodHandle" ∧ yX8_sumOf.cls ≠ "java/lang/invoke/VarHandle" ∧ (parseMethodDescriptor yX8_sumOf.desc).map (fun d => d.parameters.length) = some 2 := by decide +kernel
set_option maxHeartbeats 4000000 in
set_option maxRecDepth 100000 in
theorem c_X8_sumOf (l : Launch) {g : Geo} (hg : Good g) (hX : g.tz 1 = 1) (μ : Mem) (nu : Int32) (ba : Int32) {r : Int32} (hf : f_X8_sumOf g μ nu ba = some r) : Met l yX8_sumOf (ws_ yX8_sumOf cX8_sumOf 4 (some .int)) (rm_ 5 107 0 0) (Pz g [.ref (g.ad 272), .int nu, .int ba] (Rg g μ)) (va_Qi (fun (v : Int32) (_ : Unit) => v = r) (fun _ _ => True) (fun _ => False)) 0 0 (fun _ => False) := by
  refine Met.ofW (cc := cX8_sumOf) (maxL := 4) (ret := (some .int)) (by decide) rfl ?_
  intro p e s m args below meth c s₁ B hml hv
  obtain ⟨rfl, hT, hP⟩ := hv
  have hx := B.exec
  have hb := B.bytes
  have hr := B.returns
  have hts : ∀ w ∈ lw_all, w.before _ s = true := fun w h => atoms_spec (ws := (ws_ yX8_sumOf cX8_sumOf 4 (some .int))) B.pre w (List.mem_cons_of_mem _ h)
  have hown : s.vm.findClass RX8 = some m.cls := findClass_of_methodNamed B.named
  have hlocks := B.notSynchronized
  have hS : va_S (fun _ => False) s.heap s.heap [] := va_S.rf
  have hl := lv_entry ([.ref (g.ad 272), .int nu, .int ba]) (n := 4) (Nat.le_of_ble_eq_true rfl)
  rw [lg_entry_eq]
  generalize (lg_sl ([.ref (g.ad 272), .int nu, .int ba]) ++ List.replicate (4 - (lg_sl ([.ref (g.ad 272), .int nu, .int ba])).length) Slot.unset).toArray = ls at hl ⊢
  have hl : lv_has ls 4 [(0, .ref (g.ad 272)), (1, .int nu), (2, .int ba)] := hl
  unfold f_X8_sumOf at hf
  refine lv_aload_n hx hb dX8_sumOf_0 rfl (lv_at hl 0 rfl) ?_
  refine lv_iload_n hx hb dX8_sumOf_1 rfl (lv_at hl 1 rfl) ?_
  obtain ⟨r_1, hc_2, hf⟩ := bnO_some hf
  refine va_callq (va_runV (As := [.int nu]) (rest := []) ⟨hx, hb, hml, hown, hts⟩ (c_X8_demandTally l hg hX μ nu  hc_2) (cwV 1 hts (gd_V q724 q726 q28 q37 q727) rfl rfl rfl hd_X8_demandTally ⟨Nat.le_of_ble_eq_true rfl, Nat.le_of_ble_eq_true rfl⟩) ⟨Pz.blind, r_recv hT hP (inX hX) (fs := (fun _ => [.ref (g.ad 112), .ref (g.ad 266), .ref (g.ad 0), .ref (g.ad 273)])) (obX g) rfl, fun U hU hW => ⟨rfl, Tb.warm hW hT, by rw [hU]; exact hP⟩⟩ rfl rfl hl.1 rfl (lv_room (Nat.le_of_ble_eq_true rfl)) dX8_sumOf_2 ⟨Nat.le_of_ble_eq_true rfl, Nat.le_of_ble_eq_true rfl⟩) hS (fun q _ h => h.elim) (fun q h => h.elim) (fun v9 u9 t9 H locs ht9 hvm9 hw9 hB9 hz9 hk9 hS => ?_)
  have hP := Rg.keep hP (fun q h => hk9 q h id)
  rw [hw9]
  cases r_1 with
  | none =>
    dsimp only [csQ] at hf
    refine W.eq (g2 := F0 m 5 ls [.null]) rfl ?_
    refine lv_astore_nN (lv' := [(3, .null), (0, .ref (g.ad 272)), (1, .int nu), (2, .int ba)]) hx hb dX8_sumOf_5 rfl hl (by decide) rfl (fun ls hl => ?_)
    refine lv_iload_n hx hb dX8_sumOf_6 rfl (lv_at hl 3 rfl) ?_
    refine lv_if_lt (tgt := 18) hx hb dX8_sumOf_7 (by decide) (fun c_4 => ?_) (fun c_4 => ?_)
    · have hf := (if_pos c_4).symm.trans hf
      cases hf
    · have hf := (if_neg c_4).symm.trans hf
      refine lv_iload_n hx hb dX8_sumOf_10 rfl (lv_at hl 3 rfl) ?_
      refine lv_aload_nN hx hb dX8_sumOf_11 rfl (lv_at hl 0 rfl) ?_
      cases hf
  | some o_3 =>
    dsimp only [csQ] at hf
    obtain ⟨ho_3, hf⟩ := grd_some hf
    refine W.eq (g2 := F0 m 5 ls [.ref (g.ad o_3)]) rfl ?_
    refine lv_astore_n (lv' := [(3, .ref (g.ad o_3)), (0, .ref (g.ad 272)), (1, .int nu), (2, .int ba)]) hx hb dX8_sumOf_5 rfl hl (by decide) rfl (fun ls hl => ?_)
    refine lv_iload_n hx hb dX8_sumOf_6 rfl (lv_at hl 3 rfl) ?_
    refine lv_if_lt (tgt := 18) hx hb dX8_sumOf_7 (by decide) (fun c_5 => ?_) (fun c_5 => ?_)
    · have hf := (if_pos c_5).symm.trans hf
      cases hf
    · have hf := (if_neg c_5).symm.trans hf
      refine lv_iload_n hx hb dX8_sumOf_10 rfl (lv_at hl 3 rfl) ?_
      refine lv_aload_n hx hb dX8_sumOf_11 rfl (lv_at hl 0 rfl) ?_
      refine r_get hx hb hts i_X6 hown hT hP (inY ho_3) (fs := (fun _ => fsY g)) (obY ho_3) rfl 8 (by decide) q1039 (fun _ h9 => h9) rfl dX8_sumOf_12 ?_
      refine lv_icmp_lt (tgt := 29) hx hb dX8_sumOf_15 (by decide) (fun c_6 => ?_) (fun c_6 => ?_)
      · have hf := (if_pos c_6).symm.trans hf
        refine lv_aload_n hx hb dX8_sumOf_29 rfl (lv_at hl 0 rfl) ?_
        refine lv_iload_n hx hb dX8_sumOf_30 rfl (lv_at hl 3 rfl) ?_
        obtain ⟨r_7, hc_8, hf⟩ := bnO_some hf
        refine va_calli (va_runV (As := [.int ba]) (rest := []) ⟨hx, hb, hml, hown, hts⟩ (c_X6_sumAt l hg μ o_3 ba ho_3 hc_8) (cwV 1 hts (gd_V q923 q749 q750 q54 q751) rfl rfl rfl hd_X6_sumAt ⟨Nat.le_of_ble_eq_true rfl, Nat.le_of_ble_eq_true rfl⟩) ⟨Pz.blind, r_recv hT hP (inY ho_3) (fs := (fun _ => fsY g)) (obY ho_3) rfl, fun U hU hW => ⟨rfl, Tb.warm hW hT, by rw [hU]; exact hP⟩⟩ rfl rfl hl.1 rfl (lv_room (Nat.le_of_ble_eq_true rfl)) dX8_sumOf_31 ⟨Nat.le_of_ble_eq_true rfl, Nat.le_of_ble_eq_true rfl⟩) hS (fun q _ h => h.elim) (fun q h => h.elim) (fun v9 u9 t9 H locs ht9 hvm9 hw9 hB9 hz9 hk9 hS => ?_)
        have hP := Rg.keep hP (fun q h => hk9 q h id)
        rw [hw9]
        exact W.iret (v := r_7) hx hb hr (fun t9 ht hW => ⟨⟨r_7, (), rfl, Option.some.inj hf, trivial⟩, hS.F ht⟩) hS.2.2 dX8_sumOf_34
      · have hf := (if_neg c_6).symm.trans hf
        cases hf
/-- "Sandglass" "mixTallies" "(J)J" -/
def b_X8_mixTallies_67 (g : Geo) (k9 : Mem → Int64 → Int32 → Option (Int64)) : Nat → Mem → Int64 → Int32 → Int32 → Int32 → Option (Int64)
  | 0, _, _, _, _, _ => none
  | n + 1, μ, x1, x3, x4, x5 => if x4 ≤ x5 then (k9 μ x1 (x3 + 1)) else (bnO (f_X8_sumOf g μ x3 x5) fun r_16 => bnO (f_X8_mix g.F μ x1 r_16) fun r_18 => b_X8_mixTallies_67 g k9 n μ r_18 x3 x4 (x5 + 1))
def b_X8_mixTallies_26 (g : Geo) (k9 : Mem → Int64 → Int32 → Option (Int64)) : Nat → Mem → Int64 → Int32 → Int32 → Option (Int64)
  | 0, _, _, _, _ => none
  | n + 1, μ, x1, x3, x4 => if 3 < x4 then (bnO (f_X8_batches g μ x3) fun r_7 => bnO (f_X8_mix g.F μ x1 r_7) fun r_9 => b_X8_mixTallies_67 g k9 fu μ r_9 x3 r_7 0) else (bnO (f_X8_ofTally g μ x3 x4) fun r_11 => bnO (f_X8_mix g.F μ x1 r_11) fun r_13 => b_X8_mixTallies_26 g k9 n μ r_13 x3 (x4 + 1))
def b_X8_mixTallies_2 (g : Geo) : Nat → Mem → Int64 → Int32 → Option (Int64)
  | 0, _, _, _ => none
  | n + 1, μ, x1, x3 => if (nI (g.tz 0)) ≤ x3 then (some x1) else (bnO (f_X8_tallied g μ x3) fun r_2 => bnO (f_X8_mix g.F μ x1 r_2) fun r_4 => b_X8_mixTallies_26 g (fun m9 y1 y3 => b_X8_mixTallies_2 g n m9 y1 y3) fu μ r_4 x3 0)
def f_X8_mixTallies (g : Geo) (μ : Mem) (d : Int64) : Option (Int64) := b_X8_mixTallies_2 g fu μ d 0
theorem hd_X8_mixTallies : yX8_mixTallies.cls = RX8 ∧ yX8_mixTallies.cls ≠ "java/lang/invoke/MethodHandle" ∧ yX8_mixTallies.cls ≠ "java/lang/invoke/VarHandle" ∧ (parseMethodDescriptor yX8_mixTallies.desc).map (fun d => d.parameters.length) = some 1 := by decide +kernel
set_option maxHeartbeats 4000000 in
set_option maxRecDepth 100000 in
theorem c_X8_mixTallies (l : Launch) {g : Geo} (hg : Good g) (hX : g.tz 1 = 1) (μ : Mem) (d : Int64) {r : Int64} (hf : f_X8_mixTallies g μ d = some r) : Met l yX8_mixTallies (ws_ yX8_mixTallies cX8_mixTallies 6 (some .long)) (rm_ 6 130 0 0) (Pz g [.ref (g.ad 272), .long d] (Rg g μ)) (va_Ql (fun (v : Int64) (_ : Unit) => v = r) (fun _ _ => True) (fun _ => False)) 0 0 (fun _ => False) := by
  refine Met.ofW (cc := cX8_mixTallies) (maxL := 6) (ret := (some .long)) (by decide) rfl ?_
  intro p e s m args below meth c s₁ B hml hv
  obtain ⟨rfl, hT, hP⟩ := hv
  have hx := B.exec
  have hb := B.bytes
  have hr := B.returns
  have hts : ∀ w ∈ lw_all, w.before _ s = true := fun w h => atoms_spec (ws := (ws_ yX8_mixTallies cX8_mixTallies 6 (some .long))) B.pre w (List.mem_cons_of_mem _ h)
  have hown : s.vm.findClass RX8 = some m.cls := findClass_of_methodNamed B.named
  have hlocks := B.notSynchronized
  have hS : va_S (fun _ => False) s.heap s.heap [] := va_S.rf
  have L67 : ∀ (k9 : Mem → Int64 → Int32 → Option (Int64)) (hkont : ∀ (μ : Mem) (x1 : Int64) (x3 : Int32) (H : Heap) (locs : List Loc) (ls : Array Slot), Rg g μ H → va_S (fun _ => False) s.heap H locs → lv_has ls 6 [(0, .ref (g.ad 272)), (1, .long x1), (3, .int x3)] → k9 μ x1 x3 = some r → W p l e (headSpec (ws_ yX8_mixTallies cX8_mixTallies 6 (some .long)) (rm_ 6 130 0 0)).room s m ([.ref (g.ad 272), .long d] : List Value).toArray below meth c H locs 0 0 (MQ below (va_Ql (fun (v : Int64) (_ : Unit) => v = r) (fun _ _ => True) (fun _ => False)) ([.ref (g.ad 272), .long d] : List Value).toArray s 0 0 (fun _ => False)) (F0 m 2 ls [])) (n : Nat) (μ : Mem) (x1 : Int64) (x3 : Int32) (x4 : Int32) (x5 : Int32) (H : Heap) (locs : List Loc) (ls : Array Slot), Rg g μ H → va_S (fun _ => False) s.heap H locs → lv_has ls 6 [(0, .ref (g.ad 272)), (1, .long x1), (3, .int x3), (4, .int x4), (5, .int x5)] → b_X8_mixTallies_67 g k9 n μ x1 x3 x4 x5 = some r → W p l e (headSpec (ws_ yX8_mixTallies cX8_mixTallies 6 (some .long)) (rm_ 6 130 0 0)).room s m ([.ref (g.ad 272), .long d] : List Value).toArray below meth c H locs 0 0 (MQ below (va_Ql (fun (v : Int64) (_ : Unit) => v = r) (fun _ _ => True) (fun _ => False)) ([.ref (g.ad 272), .long d] : List Value).toArray s 0 0 (fun _ => False)) (F0 m 67 ls []) := by
    intro k9 hkont n
    induction n with
    | zero => intro μ x1 x3 x4 x5 H locs ls hP hS hl  hf; cases hf
    | succ n ih =>
      intro μ x1 x3 x4 x5 H locs ls hP hS hl  hf
      rw [b_X8_mixTallies_67] at hf
      refine lv_iload hx hb dX8_mixTallies_67 (lv_at hl 4 rfl) ?_
      refine lv_iload hx hb dX8_mixTallies_69 (lv_at hl 3 rfl) ?_
      refine lv_icmp_ge (tgt := 92) hx hb dX8_mixTallies_71 (by decide) (fun c_15 => ?_) (fun c_15 => ?_)
      · have hf := (if_pos c_15).symm.trans hf
        refine lv_iinc (v := x3 + 1) (lv' := [(3, .int (x3 + 1)), (0, .ref (g.ad 272)), (1, .long x1), (4, .int x4), (5, .int x5)]) hx hb dX8_mixTallies_92 hl (k := 2) rfl rfl (by decide) rfl (fun ls hl => ?_)
        refine lv_goto (tgt := 2) hx hb dX8_mixTallies_95 (by decide) ?_
        exact hkont μ x1 (x3 + 1) _ _ _ hP hS (lv_sub hl [1, 2, 0] rfl)  hf
      · have hf := (if_neg c_15).symm.trans hf
        refine lv_lload_n hx hb dX8_mixTallies_74 rfl (lv_at hl 1 rfl) ?_
        refine lv_aload_n hx hb dX8_mixTallies_75 rfl (lv_at hl 0 rfl) ?_
        refine lv_iload_n hx hb dX8_mixTallies_76 rfl (lv_at hl 2 rfl) ?_
        refine lv_iload hx hb dX8_mixTallies_77 (lv_at hl 4 rfl) ?_
        obtain ⟨r_16, hc_17, hf⟩ := bnO_some hf
        refine va_calli (va_runV (As := [.int x3, .int x5]) (rest := [.long x1]) ⟨hx, hb, hml, hown, hts⟩ (c_X8_sumOf l hg hX μ x3 x5  hc_17) (cwV 2 hts (gd_V q918 q919 q920 q37 q921) rfl rfl rfl hd_X8_sumOf ⟨Nat.le_of_ble_eq_true rfl, Nat.le_of_ble_eq_true rfl⟩) ⟨Pz.blind, r_recv hT hP (inX hX) (fs := (fun _ => [.ref (g.ad 112), .ref (g.ad 266), .ref (g.ad 0), .ref (g.ad 273)])) (obX g) rfl, fun U hU hW => ⟨rfl, Tb.warm hW hT, by rw [hU]; exact hP⟩⟩ rfl rfl hl.1 rfl (lv_room (Nat.le_of_ble_eq_true rfl)) dX8_mixTallies_79 ⟨Nat.le_of_ble_eq_true rfl, Nat.le_of_ble_eq_true rfl⟩) hS (fun q _ h => h.elim) (fun q h => h.elim) (fun v9 u9 t9 H locs ht9 hvm9 hw9 hB9 hz9 hk9 hS => ?_)
        have hP := Rg.keep hP (fun q h => hk9 q h id)
        rw [hw9]
        obtain ⟨r_18, hc_19, hf⟩ := bnO_some hf
        refine va_calll (va_runS (As := [.long x1, .int r_16]) (rest := []) ⟨hx, hb, hml, hown, hts⟩ (c_X8_mix l hg μ x1 r_16  hc_19) (va_cwS 2 hts (gd_S q809 q810 q37 q811) rfl rfl rfl hd_X8_mix.2 ⟨Nat.le_of_ble_eq_true rfl, Nat.le_of_ble_eq_true rfl⟩) ⟨Pz.blind, fun U hU hW => ⟨rfl, Tb.warm hW hT, by rw [hU]; exact hP⟩⟩ rfl rfl hl.1 rfl (lv_room (Nat.le_of_ble_eq_true rfl)) dX8_mixTallies_82 ⟨Nat.le_of_ble_eq_true rfl, Nat.le_of_ble_eq_true rfl⟩) hS (fun q _ h => h.elim) (fun q h => h.elim) (fun v9 u9 t9 H locs ht9 hvm9 hw9 hB9 hz9 hk9 hS => ?_)
        have hP := Rg.keep hP (fun q h => hk9 q h id)
        rw [hw9]
        refine lv_lstore_n (lv' := [(1, .long r_18), (0, .ref (g.ad 272)), (3, .int x3), (4, .int x4), (5, .int x5)]) hx hb dX8_mixTallies_85 rfl hl (by decide) rfl (fun ls hl => ?_)
        refine lv_iinc (v := x5 + 1) (lv' := [(5, .int (x5 + 1)), (1, .long r_18), (0, .ref (g.ad 272)), (3, .int x3), (4, .int x4)]) hx hb dX8_mixTallies_86 hl (k := 4) rfl rfl (by decide) rfl (fun ls hl => ?_)
        refine lv_goto (tgt := 67) hx hb dX8_mixTallies_89 (by decide) ?_
        exact ih μ r_18 x3 x4 (x5 + 1) _ _ _ hP hS (lv_sub hl [2, 1, 3, 4, 0] rfl)  hf
  have L26 : ∀ (k9 : Mem → Int64 → Int32 → Option (Int64)) (hkont : ∀ (μ : Mem) (x1 : Int64) (x3 : Int32) (H : Heap) (locs : List Loc) (ls : Array Slot), Rg g μ H → va_S (fun _ => False) s.heap H locs → lv_has ls 6 [(0, .ref (g.ad 272)), (1, .long x1), (3, .int x3)] → k9 μ x1 x3 = some r → W p l e (headSpec (ws_ yX8_mixTallies cX8_mixTallies 6 (some .long)) (rm_ 6 130 0 0)).room s m ([.ref (g.ad 272), .long d] : List Value).toArray below meth c H locs 0 0 (MQ below (va_Ql (fun (v : Int64) (_ : Unit) => v = r) (fun _ _ => True) (fun _ => False)) ([.ref (g.ad 272), .long d] : List Value).toArray s 0 0 (fun _ => False)) (F0 m 2 ls [])) (n : Nat) (μ : Mem) (x1 : Int64) (x3 : Int32) (x4 : Int32) (H : Heap) (locs : List Loc) (ls : Array Slot), Rg g μ H → va_S (fun _ => False) s.heap H locs → lv_has ls 6 [(0, .ref (g.ad 272)), (1, .long x1), (3, .int x3), (4, .int x4)] → b_X8_mixTallies_26 g k9 n μ x1 x3 x4 = some r → W p l e (headSpec (ws_ yX8_mixTallies cX8_mixTallies 6 (some .long)) (rm_ 6 130 0 0)).room s m ([.ref (g.ad 272), .long d] : List Value).toArray below meth c H locs 0 0 (MQ below (va_Ql (fun (v : Int64) (_ : Unit) => v = r) (fun _ _ => True) (fun _ => False)) ([.ref (g.ad 272), .long d] : List Value).toArray s 0 0 (fun _ => False)) (F0 m 26 ls []) := by
    intro k9 hkont n
    induction n with
    | zero => intro μ x1 x3 x4 H locs ls hP hS hl  hf; cases hf
    | succ n ih =>
      intro μ x1 x3 x4 H locs ls hP hS hl  hf
      rw [b_X8_mixTallies_26] at hf
      refine lv_iload hx hb dX8_mixTallies_26 (lv_at hl 3 rfl) ?_
      refine lv_iconst (v := 3) hx hb dX8_mixTallies_28 (by decide) ?_
      refine lv_icmp_gt (tgt := 50) hx hb dX8_mixTallies_29 (by decide) (fun c_6 => ?_) (fun c_6 => ?_)
      · have hf := (if_pos c_6).symm.trans hf
        refine lv_aload_n hx hb dX8_mixTallies_50 rfl (lv_at hl 0 rfl) ?_
        refine lv_iload_n hx hb dX8_mixTallies_51 rfl (lv_at hl 2 rfl) ?_
        obtain ⟨r_7, hc_8, hf⟩ := bnO_some hf
        refine va_calli (va_runV (As := [.int x3]) (rest := []) ⟨hx, hb, hml, hown, hts⟩ (c_X8_batches l hg hX μ x3  hc_8) (cwV 1 hts (gd_V q917 q736 q737 q37 q738) rfl rfl rfl hd_X8_batches ⟨Nat.le_of_ble_eq_true rfl, Nat.le_of_ble_eq_true rfl⟩) ⟨Pz.blind, r_recv hT hP (inX hX) (fs := (fun _ => [.ref (g.ad 112), .ref (g.ad 266), .ref (g.ad 0), .ref (g.ad 273)])) (obX g) rfl, fun U hU hW => ⟨rfl, Tb.warm hW hT, by rw [hU]; exact hP⟩⟩ rfl rfl hl.1 rfl (lv_room (Nat.le_of_ble_eq_true rfl)) dX8_mixTallies_52 ⟨Nat.le_of_ble_eq_true rfl, Nat.le_of_ble_eq_true rfl⟩) hS (fun q _ h => h.elim) (fun q h => h.elim) (fun v9 u9 t9 H locs ht9 hvm9 hw9 hB9 hz9 hk9 hS => ?_)
        have hP := Rg.keep hP (fun q h => hk9 q h id)
        rw [hw9]
        refine lv_istore (lv' := [(4, .int r_7), (0, .ref (g.ad 272)), (1, .long x1), (3, .int x3)]) hx hb dX8_mixTallies_55 hl (by decide) rfl (fun ls hl => ?_)
        refine lv_lload_n hx hb dX8_mixTallies_57 rfl (lv_at hl 2 rfl) ?_
        refine lv_iload hx hb dX8_mixTallies_58 (lv_at hl 0 rfl) ?_
        obtain ⟨r_9, hc_10, hf⟩ := bnO_some hf
        refine va_calll (va_runS (As := [.long x1, .int r_7]) (rest := []) ⟨hx, hb, hml, hown, hts⟩ (c_X8_mix l hg μ x1 r_7  hc_10) (va_cwS 2 hts (gd_S q809 q810 q37 q811) rfl rfl rfl hd_X8_mix.2 ⟨Nat.le_of_ble_eq_true rfl, Nat.le_of_ble_eq_true rfl⟩) ⟨Pz.blind, fun U hU hW => ⟨rfl, Tb.warm hW hT, by rw [hU]; exact hP⟩⟩ rfl rfl hl.1 rfl (lv_room (Nat.le_of_ble_eq_true rfl)) dX8_mixTallies_60 ⟨Nat.le_of_ble_eq_true rfl, Nat.le_of_ble_eq_true rfl⟩) hS (fun q _ h => h.elim) (fun q h => h.elim) (fun v9 u9 t9 H locs ht9 hvm9 hw9 hB9 hz9 hk9 hS => ?_)
        have hP := Rg.keep hP (fun q h => hk9 q h id)
        rw [hw9]
        refine lv_lstore_n (lv' := [(1, .long r_9), (4, .int r_7), (0, .ref (g.ad 272)), (3, .int x3)]) hx hb dX8_mixTallies_63 rfl hl (by decide) rfl (fun ls hl => ?_)
        refine lv_iconst (v := 0) hx hb dX8_mixTallies_64 (by decide) ?_
        refine lv_istore (lv' := [(5, .int 0), (1, .long r_9), (4, .int r_7), (0, .ref (g.ad 272)), (3, .int x3)]) hx hb dX8_mixTallies_65 hl (by decide) rfl (fun ls hl => ?_)
        exact L67 k9 hkont fu μ r_9 x3 r_7 0 _ _ _ hP hS (lv_sub hl [3, 1, 4, 2, 0] rfl)  hf
      · have hf := (if_neg c_6).symm.trans hf
        refine lv_lload_n hx hb dX8_mixTallies_32 rfl (lv_at hl 1 rfl) ?_
        refine lv_aload_n hx hb dX8_mixTallies_33 rfl (lv_at hl 0 rfl) ?_
        refine lv_iload_n hx hb dX8_mixTallies_34 rfl (lv_at hl 2 rfl) ?_
        refine lv_iload hx hb dX8_mixTallies_35 (lv_at hl 3 rfl) ?_
        obtain ⟨r_11, hc_12, hf⟩ := bnO_some hf
        refine va_calli (va_runV (As := [.int x3, .int x4]) (rest := [.long x1]) ⟨hx, hb, hml, hown, hts⟩ (c_X8_ofTally l hg hX μ x3 x4  hc_12) (cwV 2 hts (gd_V q916 q731 q732 q37 q733) rfl rfl rfl hd_X8_ofTally ⟨Nat.le_of_ble_eq_true rfl, Nat.le_of_ble_eq_true rfl⟩) ⟨Pz.blind, r_recv hT hP (inX hX) (fs := (fun _ => [.ref (g.ad 112), .ref (g.ad 266), .ref (g.ad 0), .ref (g.ad 273)])) (obX g) rfl, fun U hU hW => ⟨rfl, Tb.warm hW hT, by rw [hU]; exact hP⟩⟩ rfl rfl hl.1 rfl (lv_room (Nat.le_of_ble_eq_true rfl)) dX8_mixTallies_37 ⟨Nat.le_of_ble_eq_true rfl, Nat.le_of_ble_eq_true rfl⟩) hS (fun q _ h => h.elim) (fun q h => h.elim) (fun v9 u9 t9 H locs ht9 hvm9 hw9 hB9 hz9 hk9 hS => ?_)
        have hP := Rg.keep hP (fun q h => hk9 q h id)
        rw [hw9]
        obtain ⟨r_13, hc_14, hf⟩ := bnO_some hf
        refine va_calll (va_runS (As := [.long x1, .int r_11]) (rest := []) ⟨hx, hb, hml, hown, hts⟩ (c_X8_mix l hg μ x1 r_11  hc_14) (va_cwS 2 hts (gd_S q809 q810 q37 q811) rfl rfl rfl hd_X8_mix.2 ⟨Nat.le_of_ble_eq_true rfl, Nat.le_of_ble_eq_true rfl⟩) ⟨Pz.blind, fun U hU hW => ⟨rfl, Tb.warm hW hT, by rw [hU]; exact hP⟩⟩ rfl rfl hl.1 rfl (lv_room (Nat.le_of_ble_eq_true rfl)) dX8_mixTallies_40 ⟨Nat.le_of_ble_eq_true rfl, Nat.le_of_ble_eq_true rfl⟩) hS (fun q _ h => h.elim) (fun q h => h.elim) (fun v9 u9 t9 H locs ht9 hvm9 hw9 hB9 hz9 hk9 hS => ?_)
        have hP := Rg.keep hP (fun q h => hk9 q h id)
        rw [hw9]
        refine lv_lstore_n (lv' := [(1, .long r_13), (0, .ref (g.ad 272)), (3, .int x3), (4, .int x4)]) hx hb dX8_mixTallies_43 rfl hl (by decide) rfl (fun ls hl => ?_)
        refine lv_iinc (v := x4 + 1) (lv' := [(4, .int (x4 + 1)), (1, .long r_13), (0, .ref (g.ad 272)), (3, .int x3)]) hx hb dX8_mixTallies_44 hl (k := 3) rfl rfl (by decide) rfl (fun ls hl => ?_)
        refine lv_goto (tgt := 26) hx hb dX8_mixTallies_47 (by decide) ?_
        exact ih μ r_13 x3 (x4 + 1) _ _ _ hP hS (lv_sub hl [2, 1, 3, 0] rfl)  hf
  have L2 : ∀ (n : Nat) (μ : Mem) (x1 : Int64) (x3 : Int32) (H : Heap) (locs : List Loc) (ls : Array Slot), Rg g μ H → va_S (fun _ => False) s.heap H locs → lv_has ls 6 [(0, .ref (g.ad 272)), (1, .long x1), (3, .int x3)] → b_X8_mixTallies_2 g n μ x1 x3 = some r → W p l e (headSpec (ws_ yX8_mixTallies cX8_mixTallies 6 (some .long)) (rm_ 6 130 0 0)).room s m ([.ref (g.ad 272), .long d] : List Value).toArray below meth c H locs 0 0 (MQ below (va_Ql (fun (v : Int64) (_ : Unit) => v = r) (fun _ _ => True) (fun _ => False)) ([.ref (g.ad 272), .long d] : List Value).toArray s 0 0 (fun _ => False)) (F0 m 2 ls []) := by
    intro n
    induction n with
    | zero => intro μ x1 x3 H locs ls hP hS hl  hf; cases hf
    | succ n ih =>
      intro μ x1 x3 H locs ls hP hS hl  hf
      rw [b_X8_mixTallies_2] at hf
      refine lv_iload_n hx hb dX8_mixTallies_2 rfl (lv_at hl 2 rfl) ?_
      refine lv_aload_n hx hb dX8_mixTallies_3 rfl (lv_at hl 0 rfl) ?_
      refine r_get hx hb hts i_X8 hown hT hP (inX hX) (fs := (fun _ => [.ref (g.ad 112), .ref (g.ad 266), .ref (g.ad 0), .ref (g.ad 273)])) (obX g) rfl 1 (by decide) q226 (fun _ h9 => h9) rfl dX8_mixTallies_4 ?_
      refine va_calli (va_runV (As := []) (rest := [.int x3]) ⟨hx, hb, hml, hown, hts⟩ (c_Jx4a65c_size_8abf5 l hg μ in266 (szT g)) (cwV 0 hts (gd_V q843 q326 q327 q40 q328) rfl rfl rfl hd_Jx4a65c_size_8abf5 ⟨Nat.le_of_ble_eq_true rfl, Nat.le_of_ble_eq_true rfl⟩) ⟨Pz.blind, r_recv hT hP in266 (fs := fun _ => [.int (nI (g.tz 0)), .ref (g.ad 267), .int (nI (g.tz 0))]) (szT g) rfl, fun U hU hW => ⟨rfl, Tb.warm hW hT, by rw [hU]; exact hP⟩⟩ rfl rfl hl.1 rfl (lv_room (Nat.le_of_ble_eq_true rfl)) dX8_mixTallies_7 ⟨Nat.le_of_ble_eq_true rfl, Nat.le_of_ble_eq_true rfl⟩) hS (fun q _ h => h.elim) (fun q h => h.elim) (fun v9 u9 t9 H locs ht9 hvm9 hw9 hB9 hz9 hk9 hS => ?_)
      have hP := Rg.keep hP (fun q h => hk9 q h id)
      rw [hw9]
      refine lv_icmp_ge (tgt := 98) hx hb dX8_mixTallies_10 (by decide) (fun c_1 => ?_) (fun c_1 => ?_)
      · have hf := (if_pos c_1).symm.trans hf
        refine lv_lload_n hx hb dX8_mixTallies_98 rfl (lv_at hl 1 rfl) ?_
        exact W.lret (v := x1) hx hb hr (fun t9 ht hW => ⟨⟨x1, (), rfl, Option.some.inj hf, trivial⟩, hS.F ht⟩) hS.2.2 dX8_mixTallies_99
      · have hf := (if_neg c_1).symm.trans hf
        refine lv_lload_n hx hb dX8_mixTallies_13 rfl (lv_at hl 1 rfl) ?_
        refine lv_aload_n hx hb dX8_mixTallies_14 rfl (lv_at hl 0 rfl) ?_
        refine lv_iload_n hx hb dX8_mixTallies_15 rfl (lv_at hl 2 rfl) ?_
        obtain ⟨r_2, hc_3, hf⟩ := bnO_some hf
        refine va_calli (va_runV (As := [.int x3]) (rest := [.long x1]) ⟨hx, hb, hml, hown, hts⟩ (c_X8_tallied l hg hX μ x3  hc_3) (cwV 1 hts (gd_V q915 q721 q722 q37 q723) rfl rfl rfl hd_X8_tallied ⟨Nat.le_of_ble_eq_true rfl, Nat.le_of_ble_eq_true rfl⟩) ⟨Pz.blind, r_recv hT hP (inX hX) (fs := (fun _ => [.ref (g.ad 112), .ref (g.ad 266), .ref (g.ad 0), .ref (g.ad 273)])) (obX g) rfl, fun U hU hW => ⟨rfl, Tb.warm hW hT, by rw [hU]; exact hP⟩⟩ rfl rfl hl.1 rfl (lv_room (Nat.le_of_ble_eq_true rfl)) dX8_mixTallies_16 ⟨Nat.le_of_ble_eq_true rfl, Nat.le_of_ble_eq_true rfl⟩) hS (fun q _ h => h.elim) (fun q h => h.elim) (fun v9 u9 t9 H locs ht9 hvm9 hw9 hB9 hz9 hk9 hS => ?_)
        have hP := Rg.keep hP (fun q h => hk9 q h id)
        rw [hw9]
        obtain ⟨r_4, hc_5, hf⟩ := bnO_some hf
        refine va_calll (va_runS (As := [.long x1, .int r_2]) (rest := []) ⟨hx, hb, hml, hown, hts⟩ (c_X8_mix l hg μ x1 r_2  hc_5) (va_cwS 2 hts (gd_S q809 q810 q37 q811) rfl rfl rfl hd_X8_mix.2 ⟨Nat.le_of_ble_eq_true rfl, Nat.le_of_ble_eq_true rfl⟩) ⟨Pz.blind, fun U hU hW => ⟨rfl, Tb.warm hW hT, by rw [hU]; exact hP⟩⟩ rfl rfl hl.1 rfl (lv_room (Nat.le_of_ble_eq_true rfl)) dX8_mixTallies_19 ⟨Nat.le_of_ble_eq_true rfl, Nat.le_of_ble_eq_true rfl⟩) hS (fun q _ h => h.elim) (fun q h => h.elim) (fun v9 u9 t9 H locs ht9 hvm9 hw9 hB9 hz9 hk9 hS => ?_)
        have hP := Rg.keep hP (fun q h => hk9 q h id)
        rw [hw9]
        refine lv_lstore_n (lv' := [(1, .long r_4), (0, .ref (g.ad 272)), (3, .int x3)]) hx hb dX8_mixTallies_22 rfl hl (by decide) rfl (fun ls hl => ?_)
        refine lv_iconst (v := 0) hx hb dX8_mixTallies_23 (by decide) ?_
        refine lv_istore (lv' := [(4, .int 0), (1, .long r_4), (0, .ref (g.ad 272)), (3, .int x3)]) hx hb dX8_mixTallies_24 hl (by decide) rfl (fun ls hl => ?_)
        exact L26 _ (fun m9 y1 y3 H locs ls hP hS hl  hf => ih m9 y1 y3 H locs ls hP hS hl  hf) fu μ r_4 x3 0 _ _ _ hP hS (lv_sub hl [2, 1, 3, 0] rfl)  hf
  have hl := lv_entry ([.ref (g.ad 272), .long d]) (n := 6) (Nat.le_of_ble_eq_true rfl)
  rw [lg_entry_eq]
  generalize (lg_sl ([.ref (g.ad 272), .long d]) ++ List.replicate (6 - (lg_sl ([.ref (g.ad 272), .long d])).length) Slot.unset).toArray = ls at hl ⊢
  have hl : lv_has ls 6 [(0, .ref (g.ad 272)), (1, .long d)] := hl
  unfold f_X8_mixTallies at hf
  refine lv_iconst (v := 0) hx hb dX8_mixTallies_0 (by decide) ?_
  refine lv_istore_n (lv' := [(3, .int 0), (0, .ref (g.ad 272)), (1, .long d)]) hx hb dX8_mixTallies_1 rfl hl (by decide) rfl (fun ls hl => ?_)
  exact L2 fu μ d 0 _ _ _ hP hS (lv_sub hl [1, 2, 0] rfl)  hf
/-- "Sandglass" "digest" "()J" -/
def b_X8_digest_78 (g : Geo) : Nat → Mem → Int64 → Int32 → Option (Int64)
  | 0, _, _, _ => none
  | n + 1, μ, x1, x3 => if 4 ≤ x3 then (bnO (f_X8_mixTallies g μ x1) fun r_32 => some r_32) else (bnO (f_X8_awaiting g.F μ x3) fun r_34 => bnO (f_X8_mix g.F μ x1 r_34) fun r_36 => b_X8_digest_78 g n μ r_36 (x3 + 1))
def f_X8_digest (g : Geo) (μ : Mem) : Option (Int64) := bnO (f_X8_time g.F μ ) fun r_1 => bnO (f_X8_mix g.F μ 58032 r_1) fun r_3 => bnO (f_X8_luck g.F μ ) fun r_5 => bnO (f_X8_mix g.F μ r_3 r_5) fun r_7 => bnO (f_X8_events g.F μ ) fun r_9 => bnO (f_X8_mix g.F μ r_7 r_9) fun r_11 => bnO (f_X8_nextTime g.F μ ) fun r_13 => bnO (f_X8_mix g.F μ r_11 r_13) fun r_15 => bnO (f_X8_processes g.F μ ) fun r_17 => bnO (f_X8_mix g.F μ r_15 r_17) fun r_19 => bnO (f_X8_done g.F μ ) fun r_21 => bnO (f_X8_mix g.F μ r_19 r_21) fun r_23 => bnO (f_X8_mixProcesses g.F μ r_23) fun r_25 => bnO (f_X8_mixResources g.F μ r_25) fun r_27 => bnO (f_X8_mixStores g.F μ r_27) fun r_29 => b_X8_digest_78 g fu μ r_29 0
theorem hd_X8_digest : yX8_digest.cls = RX8 ∧ yX8_digest.cls ≠ "java/lang/invoke/MethodHandle" ∧ yX8_digest.cls ≠ "java/lang/invoke/VarHandle" ∧ (parseMethodDescriptor yX8_digest.desc).map (fun d => d.parameters.length) = some 0 := by decide +kernel
set_option maxHeartbeats 4000000 in
set_option maxRecDepth 100000 in
theorem c_X8_digest (l : Launch) {g : Geo} (hg : Good g) (hX : g.tz 1 = 1) (μ : Mem) {r : Int64} (hf : f_X8_digest g μ  = some r) : Met l yX8_digest (ws_ yX8_digest cX8_digest 4 (some .long)) (rm_ 7 155 0 0) (Pz g [.ref (g.ad 272)] (Rg g μ)) (va_Ql (fun (v : Int64) (_ : Unit) => v = r) (fun _ _ => True) (fun _ => False)) 0 0 (fun _ => False) := by
  refine Met.ofW (cc := cX8_digest) (maxL := 4) (ret := (some .long)) (by decide) rfl ?_
  intro p e s m args below meth c s₁ B hml hv
  obtain ⟨rfl, hT, hP⟩ := hv
  have hx := B.exec
  have hb := B.bytes
  have hr := B.returns
  have hts : ∀ w ∈ lw_all, w.before _ s = true := fun w h => atoms_spec (ws := (ws_ yX8_digest cX8_digest 4 (some .long))) B.pre w (List.mem_cons_of_mem _ h)
  have hown : s.vm.findClass RX8 = some m.cls := findClass_of_methodNamed B.named
  have hlocks := B.notSynchronized
  have hS : va_S (fun _ => False) s.heap s.heap [] := va_S.rf
  have L78 : ∀ (n : Nat) (μ : Mem) (x1 : Int64) (x3 : Int32) (H : Heap) (locs : List Loc) (ls : Array Slot), Rg g μ H → va_S (fun _ => False) s.heap H locs → lv_has ls 4 [(0, .ref (g.ad 272)), (1, .long x1), (3, .int x3)] → b_X8_digest_78 g n μ x1 x3 = some r → W p l e (headSpec (ws_ yX8_digest cX8_digest 4 (some .long)) (rm_ 7 155 0 0)).room s m ([.ref (g.ad 272)] : List Value).toArray below meth c H locs 0 0 (MQ below (va_Ql (fun (v : Int64) (_ : Unit) => v = r) (fun _ _ => True) (fun _ => False)) ([.ref (g.ad 272)] : List Value).toArray s 0 0 (fun _ => False)) (F0 m 78 ls []) := by
    intro n
    induction n with
    | zero => intro μ x1 x3 H locs ls hP hS hl  hf; cases hf
    | succ n ih =>
      intro μ x1 x3 H locs ls hP hS hl  hf
      rw [b_X8_digest_78] at hf
      refine lv_iload_n hx hb dX8_digest_78 rfl (lv_at hl 2 rfl) ?_
      refine lv_iconst (v := 4) hx hb dX8_digest_79 (by decide) ?_
      refine lv_icmp_ge (tgt := 99) hx hb dX8_digest_80 (by decide) (fun c_31 => ?_) (fun c_31 => ?_)
      · have hf := (if_pos c_31).symm.trans hf
        refine lv_aload_n hx hb dX8_digest_99 rfl (lv_at hl 0 rfl) ?_
        refine lv_lload_n hx hb dX8_digest_100 rfl (lv_at hl 1 rfl) ?_
        obtain ⟨r_32, hc_33, hf⟩ := bnO_some hf
        refine va_calll (va_runV (As := [.long x1]) (rest := []) ⟨hx, hb, hml, hown, hts⟩ (c_X8_mixTallies l hg hX μ x1  hc_33) (cwV 1 hts (gd_V q911 q913 q34 q37 q914) rfl rfl rfl hd_X8_mixTallies ⟨Nat.le_of_ble_eq_true rfl, Nat.le_of_ble_eq_true rfl⟩) ⟨Pz.blind, r_recv hT hP (inX hX) (fs := (fun _ => [.ref (g.ad 112), .ref (g.ad 266), .ref (g.ad 0), .ref (g.ad 273)])) (obX g) rfl, fun U hU hW => ⟨rfl, Tb.warm hW hT, by rw [hU]; exact hP⟩⟩ rfl rfl hl.1 rfl (lv_room (Nat.le_of_ble_eq_true rfl)) dX8_digest_101 ⟨Nat.le_of_ble_eq_true rfl, Nat.le_of_ble_eq_true rfl⟩) hS (fun q _ h => h.elim) (fun q h => h.elim) (fun v9 u9 t9 H locs ht9 hvm9 hw9 hB9 hz9 hk9 hS => ?_)
        have hP := Rg.keep hP (fun q h => hk9 q h id)
        rw [hw9]
        exact W.lret (v := r_32) hx hb hr (fun t9 ht hW => ⟨⟨r_32, (), rfl, Option.some.inj hf, trivial⟩, hS.F ht⟩) hS.2.2 dX8_digest_104
      · have hf := (if_neg c_31).symm.trans hf
        refine lv_lload_n hx hb dX8_digest_83 rfl (lv_at hl 1 rfl) ?_
        refine lv_aload_n hx hb dX8_digest_84 rfl (lv_at hl 0 rfl) ?_
        refine lv_iload_n hx hb dX8_digest_85 rfl (lv_at hl 2 rfl) ?_
        obtain ⟨r_34, hc_35, hf⟩ := bnO_some hf
        refine va_calli (va_runV (As := [.int x3]) (rest := [.long x1]) ⟨hx, hb, hml, hown, hts⟩ (c_X8_awaiting l hg hX μ x3  hc_35) (cwV 1 hts (gd_V q903 q904 q905 q37 q906) rfl rfl rfl hd_X8_awaiting ⟨Nat.le_of_ble_eq_true rfl, Nat.le_of_ble_eq_true rfl⟩) ⟨Pz.blind, r_recv hT hP (inX hX) (fs := (fun _ => [.ref (g.ad 112), .ref (g.ad 266), .ref (g.ad 0), .ref (g.ad 273)])) (obX g) rfl, fun U hU hW => ⟨rfl, Tb.warm hW hT, by rw [hU]; exact hP⟩⟩ rfl rfl hl.1 rfl (lv_room (Nat.le_of_ble_eq_true rfl)) dX8_digest_86 ⟨Nat.le_of_ble_eq_true rfl, Nat.le_of_ble_eq_true rfl⟩) hS (fun q _ h => h.elim) (fun q h => h.elim) (fun v9 u9 t9 H locs ht9 hvm9 hw9 hB9 hz9 hk9 hS => ?_)
        have hP := Rg.keep hP (fun q h => hk9 q h id)
        rw [hw9]
        obtain ⟨r_36, hc_37, hf⟩ := bnO_some hf
        refine va_calll (va_runS (As := [.long x1, .int r_34]) (rest := []) ⟨hx, hb, hml, hown, hts⟩ (c_X8_mix l hg μ x1 r_34  hc_37) (va_cwS 2 hts (gd_S q809 q810 q37 q811) rfl rfl rfl hd_X8_mix.2 ⟨Nat.le_of_ble_eq_true rfl, Nat.le_of_ble_eq_true rfl⟩) ⟨Pz.blind, fun U hU hW => ⟨rfl, Tb.warm hW hT, by rw [hU]; exact hP⟩⟩ rfl rfl hl.1 rfl (lv_room (Nat.le_of_ble_eq_true rfl)) dX8_digest_89 ⟨Nat.le_of_ble_eq_true rfl, Nat.le_of_ble_eq_true rfl⟩) hS (fun q _ h => h.elim) (fun q h => h.elim) (fun v9 u9 t9 H locs ht9 hvm9 hw9 hB9 hz9 hk9 hS => ?_)
        have hP := Rg.keep hP (fun q h => hk9 q h id)
        rw [hw9]
        refine lv_lstore_n (lv' := [(1, .long r_36), (0, .ref (g.ad 272)), (3, .int x3)]) hx hb dX8_digest_92 rfl hl (by decide) rfl (fun ls hl => ?_)
        refine lv_iinc (v := x3 + 1) (lv' := [(3, .int (x3 + 1)), (1, .long r_36), (0, .ref (g.ad 272))]) hx hb dX8_digest_93 hl (k := 2) rfl rfl (by decide) rfl (fun ls hl => ?_)
        refine lv_goto (tgt := 78) hx hb dX8_digest_96 (by decide) ?_
        exact ih μ r_36 (x3 + 1) _ _ _ hP hS (lv_sub hl [2, 1, 0] rfl)  hf
  have hl := lv_entry ([.ref (g.ad 272)]) (n := 4) (Nat.le_of_ble_eq_true rfl)
  rw [lg_entry_eq]
  generalize (lg_sl ([.ref (g.ad 272)]) ++ List.replicate (4 - (lg_sl ([.ref (g.ad 272)])).length) Slot.unset).toArray = ls at hl ⊢
  have hl : lv_has ls 4 [(0, .ref (g.ad 272))] := hl
  unfold f_X8_digest at hf
  refine lv_ldc2 hx hb hown (v := 58032) (hts _ q807) dX8_digest_0 ?_
  refine lv_lstore_n (lv' := [(1, .long 58032), (0, .ref (g.ad 272))]) hx hb dX8_digest_3 rfl hl (by decide) rfl (fun ls hl => ?_)
  refine lv_lload_n hx hb dX8_digest_4 rfl (lv_at hl 0 rfl) ?_
  refine lv_aload_n hx hb dX8_digest_5 rfl (lv_at hl 1 rfl) ?_
  obtain ⟨r_1, hc_2, hf⟩ := bnO_some hf
  refine va_calli (va_runV (As := []) (rest := [.long 58032]) ⟨hx, hb, hml, hown, hts⟩ (c_X8_time l hg hX μ   hc_2) (cwV 0 hts (gd_V q808 q673 q674 q37 q675) rfl rfl rfl hd_X8_time ⟨Nat.le_of_ble_eq_true rfl, Nat.le_of_ble_eq_true rfl⟩) ⟨Pz.blind, r_recv hT hP (inX hX) (fs := (fun _ => [.ref (g.ad 112), .ref (g.ad 266), .ref (g.ad 0), .ref (g.ad 273)])) (obX g) rfl, fun U hU hW => ⟨rfl, Tb.warm hW hT, by rw [hU]; exact hP⟩⟩ rfl rfl hl.1 rfl (lv_room (Nat.le_of_ble_eq_true rfl)) dX8_digest_6 ⟨Nat.le_of_ble_eq_true rfl, Nat.le_of_ble_eq_true rfl⟩) hS (fun q _ h => h.elim) (fun q h => h.elim) (fun v9 u9 t9 H locs ht9 hvm9 hw9 hB9 hz9 hk9 hS => ?_)
  have hP := Rg.keep hP (fun q h => hk9 q h id)
  rw [hw9]
  obtain ⟨r_3, hc_4, hf⟩ := bnO_some hf
  refine va_calll (va_runS (As := [.long 58032, .int r_1]) (rest := []) ⟨hx, hb, hml, hown, hts⟩ (c_X8_mix l hg μ 58032 r_1  hc_4) (va_cwS 2 hts (gd_S q809 q810 q37 q811) rfl rfl rfl hd_X8_mix.2 ⟨Nat.le_of_ble_eq_true rfl, Nat.le_of_ble_eq_true rfl⟩) ⟨Pz.blind, fun U hU hW => ⟨rfl, Tb.warm hW hT, by rw [hU]; exact hP⟩⟩ rfl rfl hl.1 rfl (lv_room (Nat.le_of_ble_eq_true rfl)) dX8_digest_9 ⟨Nat.le_of_ble_eq_true rfl, Nat.le_of_ble_eq_true rfl⟩) hS (fun q _ h => h.elim) (fun q h => h.elim) (fun v9 u9 t9 H locs ht9 hvm9 hw9 hB9 hz9 hk9 hS => ?_)
  have hP := Rg.keep hP (fun q h => hk9 q h id)
  rw [hw9]
  refine lv_lstore_n (lv' := [(1, .long r_3), (0, .ref (g.ad 272))]) hx hb dX8_digest_12 rfl hl (by decide) rfl (fun ls hl => ?_)
  refine lv_lload_n hx hb dX8_digest_13 rfl (lv_at hl 0 rfl) ?_
  refine lv_aload_n hx hb dX8_digest_14 rfl (lv_at hl 1 rfl) ?_
  obtain ⟨r_5, hc_6, hf⟩ := bnO_some hf
  refine va_calli (va_runV (As := []) (rest := [.long r_3]) ⟨hx, hb, hml, hown, hts⟩ (c_X8_luck l hg hX μ   hc_6) (cwV 0 hts (gd_V q813 q814 q815 q37 q816) rfl rfl rfl hd_X8_luck ⟨Nat.le_of_ble_eq_true rfl, Nat.le_of_ble_eq_true rfl⟩) ⟨Pz.blind, r_recv hT hP (inX hX) (fs := (fun _ => [.ref (g.ad 112), .ref (g.ad 266), .ref (g.ad 0), .ref (g.ad 273)])) (obX g) rfl, fun U hU hW => ⟨rfl, Tb.warm hW hT, by rw [hU]; exact hP⟩⟩ rfl rfl hl.1 rfl (lv_room (Nat.le_of_ble_eq_true rfl)) dX8_digest_15 ⟨Nat.le_of_ble_eq_true rfl, Nat.le_of_ble_eq_true rfl⟩) hS (fun q _ h => h.elim) (fun q h => h.elim) (fun v9 u9 t9 H locs ht9 hvm9 hw9 hB9 hz9 hk9 hS => ?_)
  have hP := Rg.keep hP (fun q h => hk9 q h id)
  rw [hw9]
  obtain ⟨r_7, hc_8, hf⟩ := bnO_some hf
  refine va_calll (va_runS (As := [.long r_3, .int r_5]) (rest := []) ⟨hx, hb, hml, hown, hts⟩ (c_X8_mix l hg μ r_3 r_5  hc_8) (va_cwS 2 hts (gd_S q809 q810 q37 q811) rfl rfl rfl hd_X8_mix.2 ⟨Nat.le_of_ble_eq_true rfl, Nat.le_of_ble_eq_true rfl⟩) ⟨Pz.blind, fun U hU hW => ⟨rfl, Tb.warm hW hT, by rw [hU]; exact hP⟩⟩ rfl rfl hl.1 rfl (lv_room (Nat.le_of_ble_eq_true rfl)) dX8_digest_18 ⟨Nat.le_of_ble_eq_true rfl, Nat.le_of_ble_eq_true rfl⟩) hS (fun q _ h => h.elim) (fun q h => h.elim) (fun v9 u9 t9 H locs ht9 hvm9 hw9 hB9 hz9 hk9 hS => ?_)
  have hP := Rg.keep hP (fun q h => hk9 q h id)
  rw [hw9]
  refine lv_lstore_n (lv' := [(1, .long r_7), (0, .ref (g.ad 272))]) hx hb dX8_digest_21 rfl hl (by decide) rfl (fun ls hl => ?_)
  refine lv_lload_n hx hb dX8_digest_22 rfl (lv_at hl 0 rfl) ?_
  refine lv_aload_n hx hb dX8_digest_23 rfl (lv_at hl 1 rfl) ?_
  obtain ⟨r_9, hc_10, hf⟩ := bnO_some hf
  refine va_calli (va_runV (As := []) (rest := [.long r_7]) ⟨hx, hb, hml, hown, hts⟩ (c_X8_events l hg hX μ   hc_10) (cwV 0 hts (gd_V q817 q677 q678 q37 q679) rfl rfl rfl hd_X8_events ⟨Nat.le_of_ble_eq_true rfl, Nat.le_of_ble_eq_true rfl⟩) ⟨Pz.blind, r_recv hT hP (inX hX) (fs := (fun _ => [.ref (g.ad 112), .ref (g.ad 266), .ref (g.ad 0), .ref (g.ad 273)])) (obX g) rfl, fun U hU hW => ⟨rfl, Tb.warm hW hT, by rw [hU]; exact hP⟩⟩ rfl rfl hl.1 rfl (lv_room (Nat.le_of_ble_eq_true rfl)) dX8_digest_24 ⟨Nat.le_of_ble_eq_true rfl, Nat.le_of_ble_eq_true rfl⟩) hS (fun q _ h => h.elim) (fun q h => h.elim) (fun v9 u9 t9 H locs ht9 hvm9 hw9 hB9 hz9 hk9 hS => ?_)
  have hP := Rg.keep hP (fun q h => hk9 q h id)
  rw [hw9]
  obtain ⟨r_11, hc_12, hf⟩ := bnO_some hf
  refine va_calll (va_runS (As := [.long r_7, .int r_9]) (rest := []) ⟨hx, hb, hml, hown, hts⟩ (c_X8_mix l hg μ r_7 r_9  hc_12) (va_cwS 2 hts (gd_S q809 q810 q37 q811) rfl rfl rfl hd_X8_mix.2 ⟨Nat.le_of_ble_eq_true rfl, Nat.le_of_ble_eq_true rfl⟩) ⟨Pz.blind, fun U hU hW => ⟨rfl, Tb.warm hW hT, by rw [hU]; exact hP⟩⟩ rfl rfl hl.1 rfl (lv_room (Nat.le_of_ble_eq_true rfl)) dX8_digest_27 ⟨Nat.le_of_ble_eq_true rfl, Nat.le_of_ble_eq_true rfl⟩) hS (fun q _ h => h.elim) (fun q h => h.elim) (fun v9 u9 t9 H locs ht9 hvm9 hw9 hB9 hz9 hk9 hS => ?_)
  have hP := Rg.keep hP (fun q h => hk9 q h id)
  rw [hw9]
  refine lv_lstore_n (lv' := [(1, .long r_11), (0, .ref (g.ad 272))]) hx hb dX8_digest_30 rfl hl (by decide) rfl (fun ls hl => ?_)
  refine lv_lload_n hx hb dX8_digest_31 rfl (lv_at hl 0 rfl) ?_
  refine lv_aload_n hx hb dX8_digest_32 rfl (lv_at hl 1 rfl) ?_
  obtain ⟨r_13, hc_14, hf⟩ := bnO_some hf
  refine va_calli (va_runV (As := []) (rest := [.long r_11]) ⟨hx, hb, hml, hown, hts⟩ (c_X8_nextTime l hg hX μ   hc_14) (cwV 0 hts (gd_V q818 q685 q686 q37 q687) rfl rfl rfl hd_X8_nextTime ⟨Nat.le_of_ble_eq_true rfl, Nat.le_of_ble_eq_true rfl⟩) ⟨Pz.blind, r_recv hT hP (inX hX) (fs := (fun _ => [.ref (g.ad 112), .ref (g.ad 266), .ref (g.ad 0), .ref (g.ad 273)])) (obX g) rfl, fun U hU hW => ⟨rfl, Tb.warm hW hT, by rw [hU]; exact hP⟩⟩ rfl rfl hl.1 rfl (lv_room (Nat.le_of_ble_eq_true rfl)) dX8_digest_33 ⟨Nat.le_of_ble_eq_true rfl, Nat.le_of_ble_eq_true rfl⟩) hS (fun q _ h => h.elim) (fun q h => h.elim) (fun v9 u9 t9 H locs ht9 hvm9 hw9 hB9 hz9 hk9 hS => ?_)
  have hP := Rg.keep hP (fun q h => hk9 q h id)
  rw [hw9]
  obtain ⟨r_15, hc_16, hf⟩ := bnO_some hf
  refine va_calll (va_runS (As := [.long r_11, .int r_13]) (rest := []) ⟨hx, hb, hml, hown, hts⟩ (c_X8_mix l hg μ r_11 r_13  hc_16) (va_cwS 2 hts (gd_S q809 q810 q37 q811) rfl rfl rfl hd_X8_mix.2 ⟨Nat.le_of_ble_eq_true rfl, Nat.le_of_ble_eq_true rfl⟩) ⟨Pz.blind, fun U hU hW => ⟨rfl, Tb.warm hW hT, by rw [hU]; exact hP⟩⟩ rfl rfl hl.1 rfl (lv_room (Nat.le_of_ble_eq_true rfl)) dX8_digest_36 ⟨Nat.le_of_ble_eq_true rfl, Nat.le_of_ble_eq_true rfl⟩) hS (fun q _ h => h.elim) (fun q h => h.elim) (fun v9 u9 t9 H locs ht9 hvm9 hw9 hB9 hz9 hk9 hS => ?_)
  have hP := Rg.keep hP (fun q h => hk9 q h id)
  rw [hw9]
  refine lv_lstore_n (lv' := [(1, .long r_15), (0, .ref (g.ad 272))]) hx hb dX8_digest_39 rfl hl (by decide) rfl (fun ls hl => ?_)
  refine lv_lload_n hx hb dX8_digest_40 rfl (lv_at hl 0 rfl) ?_
  refine lv_aload_n hx hb dX8_digest_41 rfl (lv_at hl 1 rfl) ?_
  obtain ⟨r_17, hc_18, hf⟩ := bnO_some hf
  refine va_calli (va_runV (As := []) (rest := [.long r_15]) ⟨hx, hb, hml, hown, hts⟩ (c_X8_processes l hg hX μ   hc_18) (cwV 0 hts (gd_V q819 q690 q691 q37 q692) rfl rfl rfl hd_X8_processes ⟨Nat.le_of_ble_eq_true rfl, Nat.le_of_ble_eq_true rfl⟩) ⟨Pz.blind, r_recv hT hP (inX hX) (fs := (fun _ => [.ref (g.ad 112), .ref (g.ad 266), .ref (g.ad 0), .ref (g.ad 273)])) (obX g) rfl, fun U hU hW => ⟨rfl, Tb.warm hW hT, by rw [hU]; exact hP⟩⟩ rfl rfl hl.1 rfl (lv_room (Nat.le_of_ble_eq_true rfl)) dX8_digest_42 ⟨Nat.le_of_ble_eq_true rfl, Nat.le_of_ble_eq_true rfl⟩) hS (fun q _ h => h.elim) (fun q h => h.elim) (fun v9 u9 t9 H locs ht9 hvm9 hw9 hB9 hz9 hk9 hS => ?_)
  have hP := Rg.keep hP (fun q h => hk9 q h id)
  rw [hw9]
  obtain ⟨r_19, hc_20, hf⟩ := bnO_some hf
  refine va_calll (va_runS (As := [.long r_15, .int r_17]) (rest := []) ⟨hx, hb, hml, hown, hts⟩ (c_X8_mix l hg μ r_15 r_17  hc_20) (va_cwS 2 hts (gd_S q809 q810 q37 q811) rfl rfl rfl hd_X8_mix.2 ⟨Nat.le_of_ble_eq_true rfl, Nat.le_of_ble_eq_true rfl⟩) ⟨Pz.blind, fun U hU hW => ⟨rfl, Tb.warm hW hT, by rw [hU]; exact hP⟩⟩ rfl rfl hl.1 rfl (lv_room (Nat.le_of_ble_eq_true rfl)) dX8_digest_45 ⟨Nat.le_of_ble_eq_true rfl, Nat.le_of_ble_eq_true rfl⟩) hS (fun q _ h => h.elim) (fun q h => h.elim) (fun v9 u9 t9 H locs ht9 hvm9 hw9 hB9 hz9 hk9 hS => ?_)
  have hP := Rg.keep hP (fun q h => hk9 q h id)
  rw [hw9]
  refine lv_lstore_n (lv' := [(1, .long r_19), (0, .ref (g.ad 272))]) hx hb dX8_digest_48 rfl hl (by decide) rfl (fun ls hl => ?_)
  refine lv_lload_n hx hb dX8_digest_49 rfl (lv_at hl 0 rfl) ?_
  refine lv_aload_n hx hb dX8_digest_50 rfl (lv_at hl 1 rfl) ?_
  obtain ⟨r_21, hc_22, hf⟩ := bnO_some hf
  refine va_calli (va_runV (As := []) (rest := [.long r_19]) ⟨hx, hb, hml, hown, hts⟩ (c_X8_done l hg hX μ   hc_22) (cwV 0 hts (gd_V q820 q694 q695 q37 q696) rfl rfl rfl hd_X8_done ⟨Nat.le_of_ble_eq_true rfl, Nat.le_of_ble_eq_true rfl⟩) ⟨Pz.blind, r_recv hT hP (inX hX) (fs := (fun _ => [.ref (g.ad 112), .ref (g.ad 266), .ref (g.ad 0), .ref (g.ad 273)])) (obX g) rfl, fun U hU hW => ⟨rfl, Tb.warm hW hT, by rw [hU]; exact hP⟩⟩ rfl rfl hl.1 rfl (lv_room (Nat.le_of_ble_eq_true rfl)) dX8_digest_51 ⟨Nat.le_of_ble_eq_true rfl, Nat.le_of_ble_eq_true rfl⟩) hS (fun q _ h => h.elim) (fun q h => h.elim) (fun v9 u9 t9 H locs ht9 hvm9 hw9 hB9 hz9 hk9 hS => ?_)
  have hP := Rg.keep hP (fun q h => hk9 q h id)
  rw [hw9]
  obtain ⟨r_23, hc_24, hf⟩ := bnO_some hf
  refine va_calll (va_runS (As := [.long r_19, .int r_21]) (rest := []) ⟨hx, hb, hml, hown, hts⟩ (c_X8_mix l hg μ r_19 r_21  hc_24) (va_cwS 2 hts (gd_S q809 q810 q37 q811) rfl rfl rfl hd_X8_mix.2 ⟨Nat.le_of_ble_eq_true rfl, Nat.le_of_ble_eq_true rfl⟩) ⟨Pz.blind, fun U hU hW => ⟨rfl, Tb.warm hW hT, by rw [hU]; exact hP⟩⟩ rfl rfl hl.1 rfl (lv_room (Nat.le_of_ble_eq_true rfl)) dX8_digest_54 ⟨Nat.le_of_ble_eq_true rfl, Nat.le_of_ble_eq_true rfl⟩) hS (fun q _ h => h.elim) (fun q h => h.elim) (fun v9 u9 t9 H locs ht9 hvm9 hw9 hB9 hz9 hk9 hS => ?_)
  have hP := Rg.keep hP (fun q h => hk9 q h id)
  rw [hw9]
  refine lv_lstore_n (lv' := [(1, .long r_23), (0, .ref (g.ad 272))]) hx hb dX8_digest_57 rfl hl (by decide) rfl (fun ls hl => ?_)
  refine lv_aload_n hx hb dX8_digest_58 rfl (lv_at hl 1 rfl) ?_
  refine lv_lload_n hx hb dX8_digest_59 rfl (lv_at hl 0 rfl) ?_
  obtain ⟨r_25, hc_26, hf⟩ := bnO_some hf
  refine va_calll (va_runV (As := [.long r_23]) (rest := []) ⟨hx, hb, hml, hown, hts⟩ (c_X8_mixProcesses l hg hX μ r_23  hc_26) (cwV 1 hts (gd_V q821 q823 q29 q37 q824) rfl rfl rfl hd_X8_mixProcesses ⟨Nat.le_of_ble_eq_true rfl, Nat.le_of_ble_eq_true rfl⟩) ⟨Pz.blind, r_recv hT hP (inX hX) (fs := (fun _ => [.ref (g.ad 112), .ref (g.ad 266), .ref (g.ad 0), .ref (g.ad 273)])) (obX g) rfl, fun U hU hW => ⟨rfl, Tb.warm hW hT, by rw [hU]; exact hP⟩⟩ rfl rfl hl.1 rfl (lv_room (Nat.le_of_ble_eq_true rfl)) dX8_digest_60 ⟨Nat.le_of_ble_eq_true rfl, Nat.le_of_ble_eq_true rfl⟩) hS (fun q _ h => h.elim) (fun q h => h.elim) (fun v9 u9 t9 H locs ht9 hvm9 hw9 hB9 hz9 hk9 hS => ?_)
  have hP := Rg.keep hP (fun q h => hk9 q h id)
  rw [hw9]
  refine lv_lstore_n (lv' := [(1, .long r_25), (0, .ref (g.ad 272))]) hx hb dX8_digest_63 rfl hl (by decide) rfl (fun ls hl => ?_)
  refine lv_aload_n hx hb dX8_digest_64 rfl (lv_at hl 1 rfl) ?_
  refine lv_lload_n hx hb dX8_digest_65 rfl (lv_at hl 0 rfl) ?_
  obtain ⟨r_27, hc_28, hf⟩ := bnO_some hf
  refine va_calll (va_runV (As := [.long r_25]) (rest := []) ⟨hx, hb, hml, hown, hts⟩ (c_X8_mixResources l hg hX μ r_25  hc_28) (cwV 1 hts (gd_V q845 q847 q30 q37 q848) rfl rfl rfl hd_X8_mixResources ⟨Nat.le_of_ble_eq_true rfl, Nat.le_of_ble_eq_true rfl⟩) ⟨Pz.blind, r_recv hT hP (inX hX) (fs := (fun _ => [.ref (g.ad 112), .ref (g.ad 266), .ref (g.ad 0), .ref (g.ad 273)])) (obX g) rfl, fun U hU hW => ⟨rfl, Tb.warm hW hT, by rw [hU]; exact hP⟩⟩ rfl rfl hl.1 rfl (lv_room (Nat.le_of_ble_eq_true rfl)) dX8_digest_66 ⟨Nat.le_of_ble_eq_true rfl, Nat.le_of_ble_eq_true rfl⟩) hS (fun q _ h => h.elim) (fun q h => h.elim) (fun v9 u9 t9 H locs ht9 hvm9 hw9 hB9 hz9 hk9 hS => ?_)
  have hP := Rg.keep hP (fun q h => hk9 q h id)
  rw [hw9]
  refine lv_lstore_n (lv' := [(1, .long r_27), (0, .ref (g.ad 272))]) hx hb dX8_digest_69 rfl hl (by decide) rfl (fun ls hl => ?_)
  refine lv_aload_n hx hb dX8_digest_70 rfl (lv_at hl 1 rfl) ?_
  refine lv_lload_n hx hb dX8_digest_71 rfl (lv_at hl 0 rfl) ?_
  obtain ⟨r_29, hc_30, hf⟩ := bnO_some hf
  refine va_calll (va_runV (As := [.long r_27]) (rest := []) ⟨hx, hb, hml, hown, hts⟩ (c_X8_mixStores l hg hX μ r_27  hc_30) (cwV 1 hts (gd_V q880 q882 q32 q37 q883) rfl rfl rfl hd_X8_mixStores ⟨Nat.le_of_ble_eq_true rfl, Nat.le_of_ble_eq_true rfl⟩) ⟨Pz.blind, r_recv hT hP (inX hX) (fs := (fun _ => [.ref (g.ad 112), .ref (g.ad 266), .ref (g.ad 0), .ref (g.ad 273)])) (obX g) rfl, fun U hU hW => ⟨rfl, Tb.warm hW hT, by rw [hU]; exact hP⟩⟩ rfl rfl hl.1 rfl (lv_room (Nat.le_of_ble_eq_true rfl)) dX8_digest_72 ⟨Nat.le_of_ble_eq_true rfl, Nat.le_of_ble_eq_true rfl⟩) hS (fun q _ h => h.elim) (fun q h => h.elim) (fun v9 u9 t9 H locs ht9 hvm9 hw9 hB9 hz9 hk9 hS => ?_)
  have hP := Rg.keep hP (fun q h => hk9 q h id)
  rw [hw9]
  refine lv_lstore_n (lv' := [(1, .long r_29), (0, .ref (g.ad 272))]) hx hb dX8_digest_75 rfl hl (by decide) rfl (fun ls hl => ?_)
  refine lv_iconst (v := 0) hx hb dX8_digest_76 (by decide) ?_
  refine lv_istore_n (lv' := [(3, .int 0), (1, .long r_29), (0, .ref (g.ad 272))]) hx hb dX8_digest_77 rfl hl (by decide) rfl (fun ls hl => ?_)
  exact L78 fu μ r_29 0 _ _ _ hP hS (lv_sub hl [2, 1, 0] rfl)  hf
