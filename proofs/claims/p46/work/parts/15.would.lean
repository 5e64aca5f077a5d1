/-- "Sandglass" "endOf" "(II)I" -/
def f_X8_endOf (g g2 : Fg) (μ κ : Mem) (pn : Int32) (mo : Int32) : Option (Mem × Int32) := bnO (f_X8_demandProcess g2 κ pn) fun r_1 => csQ r_1 (bnO (f_X8_isIn g μ mo 1 100) fun r_4 => if r_4 = 0 then none else none) (fun o_3 => grd (1 ≤ o_3 ∧ o_3 < 25) (bnO (f_X8_isIn g μ mo 1 100) fun r_7 => if r_7 = 0 then none else (bnO (f_X2_isOver g2 κ o_3) fun r_10 => if r_10 = 0 then (bnO (f_X7_copyFrom2 g g2 μ κ ) fun μ_15 => bn3 (f_X7_runToEndOf g μ_15 [] pn mo) fun μ_18 lg_19 r_16 => some (μ_18, r_16)) else (some (μ, κ 0 6)))))
theorem hd_X8_endOf : yX8_endOf.cls = RX8 ∧ yX8_endOf.cls ≠ "java/lang/invoke/MethodHandle" ∧ yX8_endOf.cls ≠ "java/lang/invoke/VarHandle" ∧ (parseMethodDescriptor yX8_endOf.desc).map (fun d => d.parameters.length) = some 2 := by decide +kernel
set_option maxHeartbeats 4000000 in
set_option maxRecDepth 100000 in
theorem c_X8_endOf (l : Launch) {g g2 : Geo} (hg : Good g) (hg2 : Good g2) (hdis : Dis g g2) (hsh : Shr g g2) (hz : g.tz 0 = 0) (hX : g2.tz 1 = 1) (htr : g2.ad 273 = g.ad 0) (μ κ : Mem) (sz : Nat) (pn : Int32) (mo : Int32) {r : Mem × Int32} (hf : f_X8_endOf g.F g2.F μ κ pn mo = some r) : Met l yX8_endOf (ws_ yX8_endOf cX8_endOf 4 (some .int)) (rm_ 8 177 0 0) (Pz2 g g2 [.ref (g2.ad 272), .int pn, .int mo] (fun H9 => H9.size = sz ∧ Rg g μ H9 ∧ Rg g2 κ H9)) (va_Qi (fun (v : Int32) (_ : Unit) => v = r.2) (fun _ t => Rg g r.1 t.heap) (Ag g sz)) 0 0 (Ag g sz) := by
  refine Met.ofW (cc := cX8_endOf) (maxL := 4) (ret := (some .int)) (by decide) rfl ?_
  intro p e s m args below meth c s₁ B hml hv
  obtain ⟨rfl, hT, hT2, hsz, hP, hQ⟩ := hv
  have hx := B.exec
  have hb := B.bytes
  have hr := B.returns
  have hts : ∀ w ∈ lw_all, w.before _ s = true := fun w h => atoms_spec (ws := (ws_ yX8_endOf cX8_endOf 4 (some .int))) B.pre w (List.mem_cons_of_mem _ h)
  have hown : s.vm.findClass RX8 = some m.cls := findClass_of_methodNamed B.named
  have hlocks := B.notSynchronized
  subst hsz
  have hD := fun ν => Ag.apart hg s.heap.size ν
  have hC := hP.sh
  have hN := Ag.shr hg hP
  have hN2 := Ag.dis hdis hQ
  have hS : va_S (Ag g s.heap.size) s.heap s.heap [] := va_S.rf
  have hl := lv_entry ([.ref (g2.ad 272), .int pn, .int mo]) (n := 4) (Nat.le_of_ble_eq_true rfl)
  rw [lg_entry_eq]
  generalize (lg_sl ([.ref (g2.ad 272), .int pn, .int mo]) ++ List.replicate (4 - (lg_sl ([.ref (g2.ad 272), .int pn, .int mo])).length) Slot.unset).toArray = ls at hl ⊢
  have hl : lv_has ls 4 [(0, .ref (g2.ad 272)), (1, .int pn), (2, .int mo)] := hl
  unfold f_X8_endOf at hf
  refine lv_aload_n hx hb dX8_endOf_0 rfl (lv_at hl 0 rfl) ?_
  refine lv_iload_n hx hb dX8_endOf_1 rfl (lv_at hl 1 rfl) ?_
  obtain ⟨r_1, hc_2, hf⟩ := bnO_some hf
  refine va_callq (va_runV (As := [.int pn]) (rest := []) ⟨hx, hb, hml, hown, hts⟩ (c_X8_demandProcess l hg2 hX κ pn  hc_2) (cwV 1 hts (gd_V q647 q649 q26 q37 q650) rfl rfl rfl hd_X8_demandProcess ⟨Nat.le_of_ble_eq_true rfl, Nat.le_of_ble_eq_true rfl⟩) ⟨Pz.blind, r_recv hT2 (Rg.off hQ hS hN2) (inX hX) (fs := (fun _ => [.ref (g2.ad 112), .ref (g2.ad 266), .ref (g2.ad 0), .ref (g2.ad 273)])) (obX g2) rfl, fun U hU hW => ⟨rfl, Tb.warm hW hT2, by rw [hU]; exact (Rg.off hQ hS hN2)⟩⟩ rfl rfl hl.1 rfl (lv_room (Nat.le_of_ble_eq_true rfl)) dX8_endOf_2 ⟨Nat.le_of_ble_eq_true rfl, Nat.le_of_ble_eq_true rfl⟩) hS (fun q _ h => h.elim) (fun q h => h.elim) (fun v9 u9 t9 H locs ht9 hvm9 hw9 hB9 hz9 hk9 hS => ?_)
  have hP := Rg.keep hP (fun q h => hk9 q h id)
  rw [hw9]
  cases r_1 with
  | none =>
    dsimp only [csQ] at hf
    refine W.eq (g2 := F0 m 5 ls [.null]) rfl ?_
    refine lv_astore_nN (lv' := [(3, .null), (0, .ref (g2.ad 272)), (1, .int pn), (2, .int mo)]) hx hb dX8_endOf_5 rfl hl (by decide) rfl (fun ls hl => ?_)
    refine lv_iload_n hx hb dX8_endOf_6 rfl (lv_at hl 3 rfl) ?_
    refine lv_iconst (v := 1) hx hb dX8_endOf_7 (by decide) ?_
    refine lv_bipush (v := 100) hx hb dX8_endOf_8 (by decide) ?_
    obtain ⟨r_4, hc_5, hf⟩ := bnO_some hf
    refine va_calli (va_runS (As := [.int mo, .int 1, .int 100]) (rest := []) ⟨hx, hb, hml, hown, hts⟩ (c_X8_isIn l hg μ mo 1 100  hc_5) (va_cwS 3 hts (gd_S q242 q243 q37 q244) rfl rfl rfl hd_X8_isIn.2 ⟨Nat.le_of_ble_eq_true rfl, Nat.le_of_ble_eq_true rfl⟩) ⟨Pz.blind, fun U hU hW => ⟨rfl, Tb.warm hW hT, by rw [hU]; exact hP⟩⟩ rfl rfl hl.1 rfl (lv_room (Nat.le_of_ble_eq_true rfl)) dX8_endOf_10 ⟨Nat.le_of_ble_eq_true rfl, Nat.le_of_ble_eq_true rfl⟩) hS (fun q _ h => h.elim) (fun q h => h.elim) (fun v9 u9 t9 H locs ht9 hvm9 hw9 hB9 hz9 hk9 hS => ?_)
    have hP := Rg.keep hP (fun q h => hk9 q h id)
    rw [hw9]
    refine lv_if_ne (tgt := 27) hx hb dX8_endOf_13 (by decide) (fun c_6 => ?_) (fun c_6 => ?_)
    · have hf := (if_neg c_6).symm.trans hf
      refine lv_aload_nN hx hb dX8_endOf_27 rfl (lv_at hl 0 rfl) ?_
      cases hf
    · have hf := (if_pos c_6).symm.trans hf
      cases hf
  | some o_3 =>
    dsimp only [csQ] at hf
    obtain ⟨ho_3, hf⟩ := grd_some hf
    refine W.eq (g2 := F0 m 5 ls [.ref (g2.ad o_3)]) rfl ?_
    refine lv_astore_n (lv' := [(3, .ref (g2.ad o_3)), (0, .ref (g2.ad 272)), (1, .int pn), (2, .int mo)]) hx hb dX8_endOf_5 rfl hl (by decide) rfl (fun ls hl => ?_)
    refine lv_iload_n hx hb dX8_endOf_6 rfl (lv_at hl 3 rfl) ?_
    refine lv_iconst (v := 1) hx hb dX8_endOf_7 (by decide) ?_
    refine lv_bipush (v := 100) hx hb dX8_endOf_8 (by decide) ?_
    obtain ⟨r_7, hc_8, hf⟩ := bnO_some hf
    refine va_calli (va_runS (As := [.int mo, .int 1, .int 100]) (rest := []) ⟨hx, hb, hml, hown, hts⟩ (c_X8_isIn l hg μ mo 1 100  hc_8) (va_cwS 3 hts (gd_S q242 q243 q37 q244) rfl rfl rfl hd_X8_isIn.2 ⟨Nat.le_of_ble_eq_true rfl, Nat.le_of_ble_eq_true rfl⟩) ⟨Pz.blind, fun U hU hW => ⟨rfl, Tb.warm hW hT, by rw [hU]; exact hP⟩⟩ rfl rfl hl.1 rfl (lv_room (Nat.le_of_ble_eq_true rfl)) dX8_endOf_10 ⟨Nat.le_of_ble_eq_true rfl, Nat.le_of_ble_eq_true rfl⟩) hS (fun q _ h => h.elim) (fun q h => h.elim) (fun v9 u9 t9 H locs ht9 hvm9 hw9 hB9 hz9 hk9 hS => ?_)
    have hP := Rg.keep hP (fun q h => hk9 q h id)
    rw [hw9]
    refine lv_if_ne (tgt := 27) hx hb dX8_endOf_13 (by decide) (fun c_9 => ?_) (fun c_9 => ?_)
    · have hf := (if_neg c_9).symm.trans hf
      refine lv_aload_n hx hb dX8_endOf_27 rfl (lv_at hl 0 rfl) ?_
      obtain ⟨r_10, hc_11, hf⟩ := bnO_some hf
      refine va_calli (va_runV (As := []) (rest := []) ⟨hx, hb, hml, hown, hts⟩ (c_X2_isOver l hg2 κ o_3 ho_3 hc_11) (cwV 0 hts (gd_V q665 q631 q632 q42 q633) rfl rfl rfl hd_X2_isOver ⟨Nat.le_of_ble_eq_true rfl, Nat.le_of_ble_eq_true rfl⟩) ⟨Pz.blind, r_recv hT2 (Rg.off hQ hS hN2) (inP ho_3) (fs := (fsP g2 o_3)) (obP ho_3) rfl, fun U hU hW => ⟨rfl, Tb.warm hW hT2, by rw [hU]; exact (Rg.off hQ hS hN2)⟩⟩ rfl rfl hl.1 rfl (lv_room (Nat.le_of_ble_eq_true rfl)) dX8_endOf_28 ⟨Nat.le_of_ble_eq_true rfl, Nat.le_of_ble_eq_true rfl⟩) hS (fun q _ h => h.elim) (fun q h => h.elim) (fun v9 u9 t9 H locs ht9 hvm9 hw9 hB9 hz9 hk9 hS => ?_)
      have hP := Rg.keep hP (fun q h => hk9 q h id)
      rw [hw9]
      refine lv_if_eq (tgt := 42) hx hb dX8_endOf_31 (by decide) (fun c_12 => ?_) (fun c_12 => ?_)
      · have hf := (if_pos c_12).symm.trans hf
        refine lv_aload_n hx hb dX8_endOf_42 rfl (lv_at hl 1 rfl) ?_
        refine r_get hx hb hts i_X8 hown hT2 (Rg.off hQ hS hN2) (inX hX) (fs := (fun _ => [.ref (g2.ad 112), .ref (g2.ad 266), .ref (g2.ad 0), .ref (g2.ad 273)])) (obX g2) rfl 3 (by decide) q228 (fun _ h9 => h9) rfl dX8_endOf_43 ?_
        refine W.eq (g2 := F0 m 46 ls [.ref (g.ad 0)]) (by rw [htr]) ?_
        refine lv_aload_n hx hb dX8_endOf_46 rfl (lv_at hl 1 rfl) ?_
        refine r_get hx hb hts i_X8 hown hT2 (Rg.off hQ hS hN2) (inX hX) (fs := (fun _ => [.ref (g2.ad 112), .ref (g2.ad 266), .ref (g2.ad 0), .ref (g2.ad 273)])) (obX g2) rfl 2 (by decide) q227 (fun _ h9 => h9) rfl dX8_endOf_47 ?_
        obtain ⟨μ_15, hc_14, hf⟩ := bnO_some hf
        refine va_callv (va_runV (As := [.ref (g2.ad 0)]) (rest := []) ⟨hx, hb, hml, hown, hts⟩ (c_X7_copyFrom2 l hg hg2 hdis hsh μ κ H.size   hc_14) (cwV 1 hts (gd_V q765 q766 q767 q41 q768) rfl rfl rfl hd_X7_copyFrom2 ⟨Nat.le_of_ble_eq_true rfl, Nat.le_of_ble_eq_true rfl⟩) ⟨Pz2.blind, r_recv hT hP inW (fs := (fsW g)) (obW g) rfl, fun U hU hW => ⟨rfl, Tb.warm hW hT, Tb.warm hW hT2, by rw [hU], by rw [hU]; exact hP, by rw [hU]; exact (Rg.off hQ hS hN2)⟩⟩ rfl rfl hl.1 rfl (lv_room (Nat.le_of_ble_eq_true rfl)) dX8_endOf_50 ⟨Nat.le_of_ble_eq_true rfl, Nat.le_of_ble_eq_true rfl⟩) hS (fun q _ h => Ag.sub rfl hS q h) (fun q h => Ag.sub rfl hS q h) (fun u9 t9 H locs ht9 hvm9 hw9 hB9 hz9 hk9 hS => ?_)
        have hP : Rg g μ_15 H := by rw [← ht9]; exact hB9
        refine lv_aload_n hx hb dX8_endOf_53 rfl (lv_at hl 1 rfl) ?_
        refine r_get hx hb hts i_X8 hown hT2 (Rg.off hQ hS hN2) (inX hX) (fs := (fun _ => [.ref (g2.ad 112), .ref (g2.ad 266), .ref (g2.ad 0), .ref (g2.ad 273)])) (obX g2) rfl 3 (by decide) q228 (fun _ h9 => h9) rfl dX8_endOf_54 ?_
        refine W.eq (g2 := F0 m 57 ls [.ref (g.ad 0)]) (by rw [htr]) ?_
        refine lv_iload_n hx hb dX8_endOf_57 rfl (lv_at hl 2 rfl) ?_
        refine lv_iload_n hx hb dX8_endOf_58 rfl (lv_at hl 3 rfl) ?_
        obtain ⟨μ_18, lg_19, r_16, hc_17, hf⟩ := bn3_some hf
        refine va_calli (va_runV (As := [.int pn, .int mo]) (rest := []) ⟨hx, hb, hml, hown, hts⟩ (c_X7_runToEndOf l hg hz μ_15 [] H.size pn mo  hc_17) (cwV 2 hts (gd_V q784 q785 q786 q41 q787) rfl rfl rfl hd_X7_runToEndOf ⟨Nat.le_of_ble_eq_true rfl, Nat.le_of_ble_eq_true rfl⟩) ⟨Pz.blind, r_recv hT hP inW (fs := (fsW g)) (obW g) rfl, fun U hU hW => ⟨rfl, Tb.warm hW hT, by rw [hU], by rw [hU]; exact hP⟩⟩ rfl rfl hl.1 rfl (lv_room (Nat.le_of_ble_eq_true rfl)) dX8_endOf_59 ⟨Nat.le_of_ble_eq_true rfl, Nat.le_of_ble_eq_true rfl⟩) hS (fun q _ h => Ag.sub rfl hS q h) (fun q h => Ag.sub rfl hS q h) (fun v9 u9 t9 H locs ht9 hvm9 hw9 hB9 hz9 hk9 hS => ?_)
        have hP : Rg g μ_18 H := by rw [← ht9]; exact hB9
        rw [hw9]
        exact W.iret (v := r_16) hx hb hr (fun t9 ht hW => ⟨⟨r_16, (), rfl, by show r_16 = r.2; rw [← Option.some.inj hf], by show Rg g r.1 t9.heap; rw [ht, ← Option.some.inj hf]; exact hP⟩, hS.F ht⟩) hS.2.2 dX8_endOf_62
      · have hf := (if_neg c_12).symm.trans hf
        refine lv_aload_n hx hb dX8_endOf_34 rfl (lv_at hl 1 rfl) ?_
        refine r_get hx hb hts i_X8 hown hT2 (Rg.off hQ hS hN2) (inX hX) (fs := (fun _ => [.ref (g2.ad 112), .ref (g2.ad 266), .ref (g2.ad 0), .ref (g2.ad 273)])) (obX g2) rfl 2 (by decide) q227 (fun _ h9 => h9) rfl dX8_endOf_35 ?_
        refine r_get hx hb hts i_X7 hown hT2 (Rg.off hQ hS hN2) inW (fs := (fsW g2)) (obW g2) rfl 6 (by decide) q198 (fun _ h9 => h9) rfl dX8_endOf_38 ?_
        exact W.iret (v := κ 0 6) hx hb hr (fun t9 ht hW => ⟨⟨κ 0 6, (), rfl, by show κ 0 6 = r.2; rw [← Option.some.inj hf], by show Rg g r.1 t9.heap; rw [ht, ← Option.some.inj hf]; exact hP⟩, hS.F ht⟩) hS.2.2 dX8_endOf_41
    · have hf := (if_pos c_9).symm.trans hf
      cases hf
/-- "Sandglass" "wouldBeBusy" "(II)I" -/
def f_X8_wouldBeBusy (g g2 : Fg) (μ κ : Mem) (rn : Int32) (ti : Int32) : Option (Mem × Int32) := bnO (f_X8_demandResource g2 κ rn) fun r_1 => bnO (f_X8_isIn g μ ti 0 999) fun r_4 => if r_4 = 0 then none else (bnO (f_X7_copyFrom2 g g2 μ κ ) fun μ_9 => bn3 (f_X7_runFor g μ_9 [] ti) fun μ_12 lg_13 r_10 => bnO (f_X7_resource g μ_12 rn) fun r_14 => csQ r_14 (some (μ_12, 0)) (fun o_16 => grd (102 ≤ o_16 ∧ o_16 < 102 + g.sz 0 ∧ o_16 < 108) (some (μ_12, μ_12 o_16 4))))
theorem hd_X8_wouldBeBusy : yX8_wouldBeBusy.cls = RX8 ∧ yX8_wouldBeBusy.cls ≠ "java/lang/invoke/MethodHandle" ∧ yX8_wouldBeBusy.cls ≠ "java/lang/invoke/VarHandle" ∧ (parseMethodDescriptor yX8_wouldBeBusy.desc).map (fun d => d.parameters.length) = some 2 := by decide +kernel
set_option maxHeartbeats 4000000 in
set_option maxRecDepth 100000 in
theorem c_X8_wouldBeBusy (l : Launch) {g g2 : Geo} (hg : Good g) (hg2 : Good g2) (hdis : Dis g g2) (hsh : Shr g g2) (hz : g.tz 0 = 0) (hX : g2.tz 1 = 1) (htr : g2.ad 273 = g.ad 0) (μ κ : Mem) (sz : Nat) (rn : Int32) (ti : Int32) {r : Mem × Int32} (hf : f_X8_wouldBeBusy g.F g2.F μ κ rn ti = some r) : Met l yX8_wouldBeBusy (ws_ yX8_wouldBeBusy cX8_wouldBeBusy 4 (some .int)) (rm_ 8 176 0 0) (Pz2 g g2 [.ref (g2.ad 272), .int rn, .int ti] (fun H9 => H9.size = sz ∧ Rg g μ H9 ∧ Rg g2 κ H9)) (va_Qi (fun (v : Int32) (_ : Unit) => v = r.2) (fun _ t => Rg g r.1 t.heap) (Ag g sz)) 0 0 (Ag g sz) := by
  refine Met.ofW (cc := cX8_wouldBeBusy) (maxL := 4) (ret := (some .int)) (by decide) rfl ?_
  intro p e s m args below meth c s₁ B hml hv
  obtain ⟨rfl, hT, hT2, hsz, hP, hQ⟩ := hv
  have hx := B.exec
  have hb := B.bytes
  have hr := B.returns
  have hts : ∀ w ∈ lw_all, w.before _ s = true := fun w h => atoms_spec (ws := (ws_ yX8_wouldBeBusy cX8_wouldBeBusy 4 (some .int))) B.pre w (List.mem_cons_of_mem _ h)
  have hown : s.vm.findClass RX8 = some m.cls := findClass_of_methodNamed B.named
  have hlocks := B.notSynchronized
  subst hsz
  have hD := fun ν => Ag.apart hg s.heap.size ν
  have hC := hP.sh
  have hN := Ag.shr hg hP
  have hN2 := Ag.dis hdis hQ
  have hS : va_S (Ag g s.heap.size) s.heap s.heap [] := va_S.rf
  have hl := lv_entry ([.ref (g2.ad 272), .int rn, .int ti]) (n := 4) (Nat.le_of_ble_eq_true rfl)
  rw [lg_entry_eq]
  generalize (lg_sl ([.ref (g2.ad 272), .int rn, .int ti]) ++ List.replicate (4 - (lg_sl ([.ref (g2.ad 272), .int rn, .int ti])).length) Slot.unset).toArray = ls at hl ⊢
  have hl : lv_has ls 4 [(0, .ref (g2.ad 272)), (1, .int rn), (2, .int ti)] := hl
  unfold f_X8_wouldBeBusy at hf
  refine lv_aload_n hx hb dX8_wouldBeBusy_0 rfl (lv_at hl 0 rfl) ?_
  refine lv_iload_n hx hb dX8_wouldBeBusy_1 rfl (lv_at hl 1 rfl) ?_
  obtain ⟨r_1, hc_2, hf⟩ := bnO_some hf
  refine va_callq (va_runV (As := [.int rn]) (rest := []) ⟨hx, hb, hml, hown, hts⟩ (c_X8_demandResource l hg2 hX κ rn  hc_2) (cwV 1 hts (gd_V q709 q711 q27 q37 q712) rfl rfl rfl hd_X8_demandResource ⟨Nat.le_of_ble_eq_true rfl, Nat.le_of_ble_eq_true rfl⟩) ⟨Pz.blind, r_recv hT2 (Rg.off hQ hS hN2) (inX hX) (fs := (fun _ => [.ref (g2.ad 112), .ref (g2.ad 266), .ref (g2.ad 0), .ref (g2.ad 273)])) (obX g2) rfl, fun U hU hW => ⟨rfl, Tb.warm hW hT2, by rw [hU]; exact (Rg.off hQ hS hN2)⟩⟩ rfl rfl hl.1 rfl (lv_room (Nat.le_of_ble_eq_true rfl)) dX8_wouldBeBusy_2 ⟨Nat.le_of_ble_eq_true rfl, Nat.le_of_ble_eq_true rfl⟩) hS (fun q _ h => h.elim) (fun q h => h.elim) (fun v9 u9 t9 H locs ht9 hvm9 hw9 hB9 hz9 hk9 hS => ?_)
  have hP := Rg.keep hP (fun q h => hk9 q h id)
  rw [hw9]
  refine r_popQ hx hb dX8_wouldBeBusy_5 ?_
  refine lv_iload_n hx hb dX8_wouldBeBusy_6 rfl (lv_at hl 2 rfl) ?_
  refine lv_iconst (v := 0) hx hb dX8_wouldBeBusy_7 (by decide) ?_
  refine lv_sipush (v := 999) hx hb dX8_wouldBeBusy_8 (by decide) ?_
  obtain ⟨r_4, hc_5, hf⟩ := bnO_some hf
  refine va_calli (va_runS (As := [.int ti, .int 0, .int 999]) (rest := []) ⟨hx, hb, hml, hown, hts⟩ (c_X8_isIn l hg μ ti 0 999  hc_5) (va_cwS 3 hts (gd_S q242 q243 q37 q244) rfl rfl rfl hd_X8_isIn.2 ⟨Nat.le_of_ble_eq_true rfl, Nat.le_of_ble_eq_true rfl⟩) ⟨Pz.blind, fun U hU hW => ⟨rfl, Tb.warm hW hT, by rw [hU]; exact hP⟩⟩ rfl rfl hl.1 rfl (lv_room (Nat.le_of_ble_eq_true rfl)) dX8_wouldBeBusy_11 ⟨Nat.le_of_ble_eq_true rfl, Nat.le_of_ble_eq_true rfl⟩) hS (fun q _ h => h.elim) (fun q h => h.elim) (fun v9 u9 t9 H locs ht9 hvm9 hw9 hB9 hz9 hk9 hS => ?_)
  have hP := Rg.keep hP (fun q h => hk9 q h id)
  rw [hw9]
  refine lv_if_ne (tgt := 27) hx hb dX8_wouldBeBusy_14 (by decide) (fun c_6 => ?_) (fun c_6 => ?_)
  · have hf := (if_neg c_6).symm.trans hf
    refine lv_aload_n hx hb dX8_wouldBeBusy_27 rfl (lv_at hl 0 rfl) ?_
    refine r_get hx hb hts i_X8 hown hT2 (Rg.off hQ hS hN2) (inX hX) (fs := (fun _ => [.ref (g2.ad 112), .ref (g2.ad 266), .ref (g2.ad 0), .ref (g2.ad 273)])) (obX g2) rfl 3 (by decide) q228 (fun _ h9 => h9) rfl dX8_wouldBeBusy_28 ?_
    refine W.eq (g2 := F0 m 31 ls [.ref (g.ad 0)]) (by rw [htr]) ?_
    refine lv_aload_n hx hb dX8_wouldBeBusy_31 rfl (lv_at hl 0 rfl) ?_
    refine r_get hx hb hts i_X8 hown hT2 (Rg.off hQ hS hN2) (inX hX) (fs := (fun _ => [.ref (g2.ad 112), .ref (g2.ad 266), .ref (g2.ad 0), .ref (g2.ad 273)])) (obX g2) rfl 2 (by decide) q227 (fun _ h9 => h9) rfl dX8_wouldBeBusy_32 ?_
    obtain ⟨μ_9, hc_8, hf⟩ := bnO_some hf
    refine va_callv (va_runV (As := [.ref (g2.ad 0)]) (rest := []) ⟨hx, hb, hml, hown, hts⟩ (c_X7_copyFrom2 l hg hg2 hdis hsh μ κ H.size   hc_8) (cwV 1 hts (gd_V q765 q766 q767 q41 q768) rfl rfl rfl hd_X7_copyFrom2 ⟨Nat.le_of_ble_eq_true rfl, Nat.le_of_ble_eq_true rfl⟩) ⟨Pz2.blind, r_recv hT hP inW (fs := (fsW g)) (obW g) rfl, fun U hU hW => ⟨rfl, Tb.warm hW hT, Tb.warm hW hT2, by rw [hU], by rw [hU]; exact hP, by rw [hU]; exact (Rg.off hQ hS hN2)⟩⟩ rfl rfl hl.1 rfl (lv_room (Nat.le_of_ble_eq_true rfl)) dX8_wouldBeBusy_35 ⟨Nat.le_of_ble_eq_true rfl, Nat.le_of_ble_eq_true rfl⟩) hS (fun q _ h => Ag.sub rfl hS q h) (fun q h => Ag.sub rfl hS q h) (fun u9 t9 H locs ht9 hvm9 hw9 hB9 hz9 hk9 hS => ?_)
    have hP : Rg g μ_9 H := by rw [← ht9]; exact hB9
    refine lv_aload_n hx hb dX8_wouldBeBusy_38 rfl (lv_at hl 0 rfl) ?_
    refine r_get hx hb hts i_X8 hown hT2 (Rg.off hQ hS hN2) (inX hX) (fs := (fun _ => [.ref (g2.ad 112), .ref (g2.ad 266), .ref (g2.ad 0), .ref (g2.ad 273)])) (obX g2) rfl 3 (by decide) q228 (fun _ h9 => h9) rfl dX8_wouldBeBusy_39 ?_
    refine W.eq (g2 := F0 m 42 ls [.ref (g.ad 0)]) (by rw [htr]) ?_
    refine lv_iload_n hx hb dX8_wouldBeBusy_42 rfl (lv_at hl 2 rfl) ?_
    obtain ⟨μ_12, lg_13, r_10, hc_11, hf⟩ := bn3_some hf
    refine va_calli (va_runV (As := [.int ti]) (rest := []) ⟨hx, hb, hml, hown, hts⟩ (c_X7_runFor l hg hz μ_9 [] H.size ti  hc_11) (cwV 1 hts (gd_V q795 q796 q797 q41 q798) rfl rfl rfl hd_X7_runFor ⟨Nat.le_of_ble_eq_true rfl, Nat.le_of_ble_eq_true rfl⟩) ⟨Pz.blind, r_recv hT hP inW (fs := (fsW g)) (obW g) rfl, fun U hU hW => ⟨rfl, Tb.warm hW hT, by rw [hU], by rw [hU]; exact hP⟩⟩ rfl rfl hl.1 rfl (lv_room (Nat.le_of_ble_eq_true rfl)) dX8_wouldBeBusy_43 ⟨Nat.le_of_ble_eq_true rfl, Nat.le_of_ble_eq_true rfl⟩) hS (fun q _ h => Ag.sub rfl hS q h) (fun q h => Ag.sub rfl hS q h) (fun v9 u9 t9 H locs ht9 hvm9 hw9 hB9 hz9 hk9 hS => ?_)
    have hP : Rg g μ_12 H := by rw [← ht9]; exact hB9
    rw [hw9]
    refine lv_pop hx hb dX8_wouldBeBusy_46 rfl ?_
    refine lv_aload_n hx hb dX8_wouldBeBusy_47 rfl (lv_at hl 0 rfl) ?_
    refine r_get hx hb hts i_X8 hown hT2 (Rg.off hQ hS hN2) (inX hX) (fs := (fun _ => [.ref (g2.ad 112), .ref (g2.ad 266), .ref (g2.ad 0), .ref (g2.ad 273)])) (obX g2) rfl 3 (by decide) q228 (fun _ h9 => h9) rfl dX8_wouldBeBusy_48 ?_
    refine W.eq (g2 := F0 m 51 ls [.ref (g.ad 0)]) (by rw [htr]) ?_
    refine lv_iload_n hx hb dX8_wouldBeBusy_51 rfl (lv_at hl 1 rfl) ?_
    obtain ⟨r_14, hc_15, hf⟩ := bnO_some hf
    refine va_callq (va_runV (As := [.int rn]) (rest := []) ⟨hx, hb, hml, hown, hts⟩ (c_X7_resource l hg μ_12 rn  hc_15) (cwV 1 hts (gd_V q713 q431 q432 q41 q433) rfl rfl rfl hd_X7_resource ⟨Nat.le_of_ble_eq_true rfl, Nat.le_of_ble_eq_true rfl⟩) ⟨Pz.blind, r_recv hT hP inW (fs := (fsW g)) (obW g) rfl, fun U hU hW => ⟨rfl, Tb.warm hW hT, by rw [hU]; exact hP⟩⟩ rfl rfl hl.1 rfl (lv_room (Nat.le_of_ble_eq_true rfl)) dX8_wouldBeBusy_52 ⟨Nat.le_of_ble_eq_true rfl, Nat.le_of_ble_eq_true rfl⟩) hS (fun q _ h => h.elim) (fun q h => h.elim) (fun v9 u9 t9 H locs ht9 hvm9 hw9 hB9 hz9 hk9 hS => ?_)
    have hP := Rg.keep hP (fun q h => hk9 q h id)
    rw [hw9]
    cases r_14 with
    | none =>
      dsimp only [csQ] at hf
      refine W.eq (g2 := F0 m 55 ls [.null]) rfl ?_
      refine lv_astore_nN (lv' := [(3, .null), (0, .ref (g2.ad 272)), (1, .int rn), (2, .int ti)]) hx hb dX8_wouldBeBusy_55 rfl hl (by decide) rfl (fun ls hl => ?_)
      refine lv_aload_nN hx hb dX8_wouldBeBusy_56 rfl (lv_at hl 0 rfl) ?_
      refine lv_ifnonnullN hx hb dX8_wouldBeBusy_57 ?_
      refine lv_iconst (v := 0) hx hb dX8_wouldBeBusy_60 (by decide) ?_
      refine lv_goto (tgt := 68) hx hb dX8_wouldBeBusy_61 (by decide) ?_
      exact W.iret (v := 0) hx hb hr (fun t9 ht hW => ⟨⟨0, (), rfl, by show 0 = r.2; rw [← Option.some.inj hf], by show Rg g r.1 t9.heap; rw [ht, ← Option.some.inj hf]; exact hP⟩, hS.F ht⟩) hS.2.2 dX8_wouldBeBusy_68
    | some o_16 =>
      dsimp only [csQ] at hf
      obtain ⟨ho_16, hf⟩ := grd_some hf
      refine W.eq (g2 := F0 m 55 ls [.ref (g.ad o_16)]) rfl ?_
      refine lv_astore_n (lv' := [(3, .ref (g.ad o_16)), (0, .ref (g2.ad 272)), (1, .int rn), (2, .int ti)]) hx hb dX8_wouldBeBusy_55 rfl hl (by decide) rfl (fun ls hl => ?_)
      refine lv_aload_n hx hb dX8_wouldBeBusy_56 rfl (lv_at hl 0 rfl) ?_
      refine lv_ifnonnull (tgt := 64) hx hb dX8_wouldBeBusy_57 (by decide) ?_
      refine lv_aload_n hx hb dX8_wouldBeBusy_64 rfl (lv_at hl 0 rfl) ?_
      refine r_get hx hb hts i_X3 hown hT hP (inR ho_16) (fs := fsR) (obR ho_16) rfl 4 (by decide) q959 (fun _ h9 => h9) rfl dX8_wouldBeBusy_65 ?_
      exact W.iret (v := μ_12 o_16 4) hx hb hr (fun t9 ht hW => ⟨⟨μ_12 o_16 4, (), rfl, by show μ_12 o_16 4 = r.2; rw [← Option.some.inj hf], by show Rg g r.1 t9.heap; rw [ht, ← Option.some.inj hf]; exact hP⟩, hS.F ht⟩) hS.2.2 dX8_wouldBeBusy_68
  · have hf := (if_pos c_6).symm.trans hf
    cases hf
