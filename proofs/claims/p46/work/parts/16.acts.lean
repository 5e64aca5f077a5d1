/-- "Sandglass" "setLuck" "(I)I" -/
def f_X8_setLuck (g : Fg) (μ : Mem) (lu : Int32) : Option (Mem × Int32) := bnO (f_X8_isIn g μ lu 0 9999) fun r_1 => if r_1 = 0 then none else (bnd (put μ 0 7 lu) fun μ_4 => some (μ_4, μ 0 7))
theorem hd_X8_setLuck : yX8_setLuck.cls = RX8 ∧ yX8_setLuck.cls ≠ "java/lang/invoke/MethodHandle" ∧ yX8_setLuck.cls ≠ "java/lang/invoke/VarHandle" ∧ (parseMethodDescriptor yX8_setLuck.desc).map (fun d => d.parameters.length) = some 1 := by decide +kernel
set_option maxHeartbeats 4000000 in
set_option maxRecDepth 100000 in
theorem c_X8_setLuck (l : Launch) {g : Geo} (hg : Good g) (hX : g.tz 1 = 1) (μ : Mem) (sz : Nat) (lu : Int32) {r : Mem × Int32} (hf : f_X8_setLuck g.F μ lu = some r) : Met l yX8_setLuck (ws_ yX8_setLuck cX8_setLuck 3 (some .int)) (rm_ 1 22 0 0) (Pz g [.ref (g.ad 272), .int lu] (fun H9 => H9.size = sz ∧ Rg g μ H9)) (va_Qi (fun (v : Int32) (_ : Unit) => v = r.2) (fun _ t => Rg g r.1 t.heap) (Ag g sz)) 0 0 (Ag g sz) := by
  refine Met.ofW (cc := cX8_setLuck) (maxL := 3) (ret := (some .int)) (by decide) rfl ?_
  intro p e s m args below meth c s₁ B hml hv
  obtain ⟨rfl, hT, hsz, hP⟩ := hv
  have hx := B.exec
  have hb := B.bytes
  have hr := B.returns
  have hts : ∀ w ∈ lw_all, w.before _ s = true := fun w h => atoms_spec (ws := (ws_ yX8_setLuck cX8_setLuck 3 (some .int))) B.pre w (List.mem_cons_of_mem _ h)
  have hown : s.vm.findClass RX8 = some m.cls := findClass_of_methodNamed B.named
  have hlocks := B.notSynchronized
  subst hsz
  have hD := fun ν => Ag.apart hg s.heap.size ν
  have hC := hP.sh
  have hN := Ag.shr hg hP
  have hS : va_S (Ag g s.heap.size) s.heap s.heap [] := va_S.rf
  have hl := lv_entry ([.ref (g.ad 272), .int lu]) (n := 3) (Nat.le_of_ble_eq_true rfl)
  rw [lg_entry_eq]
  generalize (lg_sl ([.ref (g.ad 272), .int lu]) ++ List.replicate (3 - (lg_sl ([.ref (g.ad 272), .int lu])).length) Slot.unset).toArray = ls at hl ⊢
  have hl : lv_has ls 3 [(0, .ref (g.ad 272)), (1, .int lu)] := hl
  unfold f_X8_setLuck at hf
  refine lv_iload_n hx hb dX8_setLuck_0 rfl (lv_at hl 1 rfl) ?_
  refine lv_iconst (v := 0) hx hb dX8_setLuck_1 (by decide) ?_
  refine lv_sipush (v := 9999) hx hb dX8_setLuck_2 (by decide) ?_
  obtain ⟨r_1, hc_2, hf⟩ := bnO_some hf
  refine va_calli (va_runS (As := [.int lu, .int 0, .int 9999]) (rest := []) ⟨hx, hb, hml, hown, hts⟩ (c_X8_isIn l hg μ lu 0 9999  hc_2) (va_cwS 3 hts (gd_S q242 q243 q37 q244) rfl rfl rfl hd_X8_isIn.2 ⟨Nat.le_of_ble_eq_true rfl, Nat.le_of_ble_eq_true rfl⟩) ⟨Pz.blind, fun U hU hW => ⟨rfl, Tb.warm hW hT, by rw [hU]; exact hP⟩⟩ rfl rfl hl.1 rfl (lv_room (Nat.le_of_ble_eq_true rfl)) dX8_setLuck_5 ⟨Nat.le_of_ble_eq_true rfl, Nat.le_of_ble_eq_true rfl⟩) hS (fun q _ h => h.elim) (fun q h => h.elim) (fun v9 u9 t9 H locs ht9 hvm9 hw9 hB9 hz9 hk9 hS => ?_)
  have hP := Rg.keep hP (fun q h => hk9 q h id)
  rw [hw9]
  refine lv_if_ne (tgt := 21) hx hb dX8_setLuck_8 (by decide) (fun c_3 => ?_) (fun c_3 => ?_)
  · have hf := (if_neg c_3).symm.trans hf
    refine lv_aload_n hx hb dX8_setLuck_21 rfl (lv_at hl 0 rfl) ?_
    refine r_get hx hb hts i_X8 hown hT hP (inX hX) (fs := (fun _ => [.ref (g.ad 112), .ref (g.ad 266), .ref (g.ad 0), .ref (g.ad 273)])) (obX g) rfl 2 (by decide) q227 (fun _ h9 => h9) rfl dX8_setLuck_22 ?_
    refine r_get hx hb hts i_X7 hown hT hP inW (fs := (fsW g)) (obW g) rfl 7 (by decide) q200 (fun _ h9 => h9) rfl dX8_setLuck_25 ?_
    refine lv_istore_n (lv' := [(2, .int (μ 0 7)), (0, .ref (g.ad 272)), (1, .int lu)]) hx hb dX8_setLuck_28 rfl hl (by decide) rfl (fun ls hl => ?_)
    refine lv_aload_n hx hb dX8_setLuck_29 rfl (lv_at hl 1 rfl) ?_
    refine r_get hx hb hts i_X8 hown hT hP (inX hX) (fs := (fun _ => [.ref (g.ad 112), .ref (g.ad 266), .ref (g.ad 0), .ref (g.ad 273)])) (obX g) rfl 2 (by decide) q227 (fun _ h9 => h9) rfl dX8_setLuck_30 ?_
    refine lv_iload_n hx hb dX8_setLuck_33 rfl (lv_at hl 2 rfl) ?_
    refine r_put hx hb hts i_X7 tyX7 tyX7_ok nmX7 hown hT hP hD hC hN hS mtW (fs := (fsW g)) (obW g) rfl 7 (by decide) q200 (fun _ h9 => h9) rfl (ty := .int) (x := lu) rfl rfl rfl (fun _ => rfl) (Nat.le_of_ble_eq_true rfl) dX8_setLuck_34 (fun H locs hP hS => ?_)
    obtain ⟨μ_4, eμ_4⟩ : ∃ z, put μ 0 7 lu = z := ⟨_, rfl⟩
    rw [eμ_4] at hP
    have hf := bnd_eq hf _ eμ_4
    refine lv_iload_n hx hb dX8_setLuck_37 rfl (lv_at hl 0 rfl) ?_
    exact W.iret (v := μ 0 7) hx hb hr (fun t9 ht hW => ⟨⟨μ 0 7, (), rfl, by show μ 0 7 = r.2; rw [← Option.some.inj hf], by show Rg g r.1 t9.heap; rw [ht, ← Option.some.inj hf]; exact hP⟩, hS.F ht⟩) hS.2.2 dX8_setLuck_38
  · have hf := (if_pos c_3).symm.trans hf
    cases hf
/-- "Sandglass" "interrupt" "(I)I" -/
def f_X8_interrupt (g : Fg) (μ : Mem) (pn : Int32) : Option (Mem × Int32) := bnO (f_X8_demandProcess g μ pn) fun r_1 => csQ r_1 (none) (fun o_3 => grd (1 ≤ o_3 ∧ o_3 < 25) (bnO (f_X8_isIn g μ (μ o_3 6) 1 4) fun r_4 => if r_4 = 0 then none else (bnO (f_X7_interruptOne g μ o_3) fun μ_9 => some (μ_9, μ_9 o_3 5))))
theorem hd_X8_interrupt : yX8_interrupt.cls = RX8 ∧ yX8_interrupt.cls ≠ "java/lang/invoke/MethodHandle" ∧ yX8_interrupt.cls ≠ "java/lang/invoke/VarHandle" ∧ (parseMethodDescriptor yX8_interrupt.desc).map (fun d => d.parameters.length) = some 1 := by decide +kernel
set_option maxHeartbeats 4000000 in
set_option maxRecDepth 100000 in
theorem c_X8_interrupt (l : Launch) {g : Geo} (hg : Good g) (hX : g.tz 1 = 1) (μ : Mem) (sz : Nat) (pn : Int32) {r : Mem × Int32} (hf : f_X8_interrupt g.F μ pn = some r) : Met l yX8_interrupt (ws_ yX8_interrupt cX8_interrupt 3 (some .int)) (rm_ 6 128 0 0) (Pz g [.ref (g.ad 272), .int pn] (fun H9 => H9.size = sz ∧ Rg g μ H9)) (va_Qi (fun (v : Int32) (_ : Unit) => v = r.2) (fun _ t => Rg g r.1 t.heap) (Ag g sz)) 0 0 (Ag g sz) := by
  refine Met.ofW (cc := cX8_interrupt) (maxL := 3) (ret := (some .int)) (by decide) rfl ?_
  intro p e s m args below meth c s₁ B hml hv
  obtain ⟨rfl, hT, hsz, hP⟩ := hv
  have hx := B.exec
  have hb := B.bytes
  have hr := B.returns
  have hts : ∀ w ∈ lw_all, w.before _ s = true := fun w h => atoms_spec (ws := (ws_ yX8_interrupt cX8_interrupt 3 (some .int))) B.pre w (List.mem_cons_of_mem _ h)
  have hown : s.vm.findClass RX8 = some m.cls := findClass_of_methodNamed B.named
  have hlocks := B.notSynchronized
  subst hsz
  have hD := fun ν => Ag.apart hg s.heap.size ν
  have hC := hP.sh
  have hN := Ag.shr hg hP
  have hS : va_S (Ag g s.heap.size) s.heap s.heap [] := va_S.rf
  have hl := lv_entry ([.ref (g.ad 272), .int pn]) (n := 3) (Nat.le_of_ble_eq_true rfl)
  rw [lg_entry_eq]
  generalize (lg_sl ([.ref (g.ad 272), .int pn]) ++ List.replicate (3 - (lg_sl ([.ref (g.ad 272), .int pn])).length) Slot.unset).toArray = ls at hl ⊢
  have hl : lv_has ls 3 [(0, .ref (g.ad 272)), (1, .int pn)] := hl
  unfold f_X8_interrupt at hf
  refine lv_aload_n hx hb dX8_interrupt_0 rfl (lv_at hl 0 rfl) ?_
  refine lv_iload_n hx hb dX8_interrupt_1 rfl (lv_at hl 1 rfl) ?_
  obtain ⟨r_1, hc_2, hf⟩ := bnO_some hf
  refine va_callq (va_runV (As := [.int pn]) (rest := []) ⟨hx, hb, hml, hown, hts⟩ (c_X8_demandProcess l hg hX μ pn  hc_2) (cwV 1 hts (gd_V q647 q649 q26 q37 q650) rfl rfl rfl hd_X8_demandProcess ⟨Nat.le_of_ble_eq_true rfl, Nat.le_of_ble_eq_true rfl⟩) ⟨Pz.blind, r_recv hT hP (inX hX) (fs := (fun _ => [.ref (g.ad 112), .ref (g.ad 266), .ref (g.ad 0), .ref (g.ad 273)])) (obX g) rfl, fun U hU hW => ⟨rfl, Tb.warm hW hT, by rw [hU]; exact hP⟩⟩ rfl rfl hl.1 rfl (lv_room (Nat.le_of_ble_eq_true rfl)) dX8_interrupt_2 ⟨Nat.le_of_ble_eq_true rfl, Nat.le_of_ble_eq_true rfl⟩) hS (fun q _ h => h.elim) (fun q h => h.elim) (fun v9 u9 t9 H locs ht9 hvm9 hw9 hB9 hz9 hk9 hS => ?_)
  have hP := Rg.keep hP (fun q h => hk9 q h id)
  rw [hw9]
  cases r_1 with
  | none =>
    dsimp only [csQ] at hf
    refine W.eq (g2 := F0 m 5 ls [.null]) rfl ?_
    refine lv_astore_nN (lv' := [(2, .null), (0, .ref (g.ad 272)), (1, .int pn)]) hx hb dX8_interrupt_5 rfl hl (by decide) rfl (fun ls hl => ?_)
    refine lv_aload_nN hx hb dX8_interrupt_6 rfl (lv_at hl 0 rfl) ?_
    cases hf
  | some o_3 =>
    dsimp only [csQ] at hf
    obtain ⟨ho_3, hf⟩ := grd_some hf
    refine W.eq (g2 := F0 m 5 ls [.ref (g.ad o_3)]) rfl ?_
    refine lv_astore_n (lv' := [(2, .ref (g.ad o_3)), (0, .ref (g.ad 272)), (1, .int pn)]) hx hb dX8_interrupt_5 rfl hl (by decide) rfl (fun ls hl => ?_)
    refine lv_aload_n hx hb dX8_interrupt_6 rfl (lv_at hl 0 rfl) ?_
    refine r_get hx hb hts i_X2 hown hT hP (inP ho_3) (fs := (fsP g o_3)) (obP ho_3) rfl 6 (by decide) q129 (fun _ h9 => h9) rfl dX8_interrupt_7 ?_
    refine lv_iconst (v := 1) hx hb dX8_interrupt_10 (by decide) ?_
    refine lv_iconst (v := 4) hx hb dX8_interrupt_11 (by decide) ?_
    obtain ⟨r_4, hc_5, hf⟩ := bnO_some hf
    refine va_calli (va_runS (As := [.int (μ o_3 6), .int 1, .int 4]) (rest := []) ⟨hx, hb, hml, hown, hts⟩ (c_X8_isIn l hg μ (μ o_3 6) 1 4  hc_5) (va_cwS 3 hts (gd_S q242 q243 q37 q244) rfl rfl rfl hd_X8_isIn.2 ⟨Nat.le_of_ble_eq_true rfl, Nat.le_of_ble_eq_true rfl⟩) ⟨Pz.blind, fun U hU hW => ⟨rfl, Tb.warm hW hT, by rw [hU]; exact hP⟩⟩ rfl rfl hl.1 rfl (lv_room (Nat.le_of_ble_eq_true rfl)) dX8_interrupt_12 ⟨Nat.le_of_ble_eq_true rfl, Nat.le_of_ble_eq_true rfl⟩) hS (fun q _ h => h.elim) (fun q h => h.elim) (fun v9 u9 t9 H locs ht9 hvm9 hw9 hB9 hz9 hk9 hS => ?_)
    have hP := Rg.keep hP (fun q h => hk9 q h id)
    rw [hw9]
    refine lv_if_ne (tgt := 28) hx hb dX8_interrupt_15 (by decide) (fun c_6 => ?_) (fun c_6 => ?_)
    · have hf := (if_neg c_6).symm.trans hf
      refine lv_aload_n hx hb dX8_interrupt_28 rfl (lv_at hl 1 rfl) ?_
      refine r_get hx hb hts i_X8 hown hT hP (inX hX) (fs := (fun _ => [.ref (g.ad 112), .ref (g.ad 266), .ref (g.ad 0), .ref (g.ad 273)])) (obX g) rfl 2 (by decide) q227 (fun _ h9 => h9) rfl dX8_interrupt_29 ?_
      refine lv_aload_n hx hb dX8_interrupt_32 rfl (lv_at hl 0 rfl) ?_
      obtain ⟨μ_9, hc_8, hf⟩ := bnO_some hf
      refine va_callv (va_runV (As := [.ref (g.ad o_3)]) (rest := []) ⟨hx, hb, hml, hown, hts⟩ (c_X7_interruptOne l hg μ H.size o_3 ho_3 hc_8) (cwV 1 hts (gd_V q657 q658 q659 q41 q660) rfl rfl rfl hd_X7_interruptOne ⟨Nat.le_of_ble_eq_true rfl, Nat.le_of_ble_eq_true rfl⟩) ⟨Pz.blind, r_recv hT hP inW (fs := (fsW g)) (obW g) rfl, fun U hU hW => ⟨rfl, Tb.warm hW hT, by rw [hU], by rw [hU]; exact hP⟩⟩ rfl rfl hl.1 rfl (lv_room (Nat.le_of_ble_eq_true rfl)) dX8_interrupt_33 ⟨Nat.le_of_ble_eq_true rfl, Nat.le_of_ble_eq_true rfl⟩) hS (fun q _ h => Ag.sub rfl hS q h) (fun q h => Ag.sub rfl hS q h) (fun u9 t9 H locs ht9 hvm9 hw9 hB9 hz9 hk9 hS => ?_)
      have hP : Rg g μ_9 H := by rw [← ht9]; exact hB9
      refine lv_aload_n hx hb dX8_interrupt_36 rfl (lv_at hl 0 rfl) ?_
      refine r_get hx hb hts i_X2 hown hT hP (inP ho_3) (fs := (fsP g o_3)) (obP ho_3) rfl 5 (by decide) q126 (fun _ h9 => h9) rfl dX8_interrupt_37 ?_
      exact W.iret (v := μ_9 o_3 5) hx hb hr (fun t9 ht hW => ⟨⟨μ_9 o_3 5, (), rfl, by show μ_9 o_3 5 = r.2; rw [← Option.some.inj hf], by show Rg g r.1 t9.heap; rw [ht, ← Option.some.inj hf]; exact hP⟩, hS.F ht⟩) hS.2.2 dX8_interrupt_40
    · have hf := (if_pos c_6).symm.trans hf
      cases hf
/-- "Sandglass" "cancel" "(I)I" -/
def f_X8_cancel (g : Fg) (μ : Mem) (pn : Int32) : Option (Mem × Int32) := bnO (f_X8_demandProcess g μ pn) fun r_1 => csQ r_1 (none) (fun o_3 => grd (1 ≤ o_3 ∧ o_3 < 25) (bnO (f_X2_isOver g μ o_3) fun r_4 => if r_4 = 0 then (bnO (f_X2_heldInAll g μ o_3) fun r_7 => bnO (f_X7_finish g μ o_3 7) fun μ_11 => some (μ_11, r_7)) else none))
theorem hd_X8_cancel : yX8_cancel.cls = RX8 ∧ yX8_cancel.cls ≠ "java/lang/invoke/MethodHandle" ∧ yX8_cancel.cls ≠ "java/lang/invoke/VarHandle" ∧ (parseMethodDescriptor yX8_cancel.desc).map (fun d => d.parameters.length) = some 1 := by decide +kernel
set_option maxHeartbeats 4000000 in
set_option maxRecDepth 100000 in
theorem c_X8_cancel (l : Launch) {g : Geo} (hg : Good g) (hX : g.tz 1 = 1) (μ : Mem) (sz : Nat) (pn : Int32) {r : Mem × Int32} (hf : f_X8_cancel g.F μ pn = some r) : Met l yX8_cancel (ws_ yX8_cancel cX8_cancel 4 (some .int)) (rm_ 6 130 0 0) (Pz g [.ref (g.ad 272), .int pn] (fun H9 => H9.size = sz ∧ Rg g μ H9)) (va_Qi (fun (v : Int32) (_ : Unit) => v = r.2) (fun _ t => Rg g r.1 t.heap) (Ag g sz)) 0 0 (Ag g sz) := by
  refine Met.ofW (cc := cX8_cancel) (maxL := 4) (ret := (some .int)) (by decide) rfl ?_
  intro p e s m args below meth c s₁ B hml hv
  obtain ⟨rfl, hT, hsz, hP⟩ := hv
  have hx := B.exec
  have hb := B.bytes
  have hr := B.returns
  have hts : ∀ w ∈ lw_all, w.before _ s = true := fun w h => atoms_spec (ws := (ws_ yX8_cancel cX8_cancel 4 (some .int))) B.pre w (List.mem_cons_of_mem _ h)
  have hown : s.vm.findClass RX8 = some m.cls := findClass_of_methodNamed B.named
  have hlocks := B.notSynchronized
  subst hsz
  have hD := fun ν => Ag.apart hg s.heap.size ν
  have hC := hP.sh
  have hN := Ag.shr hg hP
  have hS : va_S (Ag g s.heap.size) s.heap s.heap [] := va_S.rf
  have hl := lv_entry ([.ref (g.ad 272), .int pn]) (n := 4) (Nat.le_of_ble_eq_true rfl)
  rw [lg_entry_eq]
  generalize (lg_sl ([.ref (g.ad 272), .int pn]) ++ List.replicate (4 - (lg_sl ([.ref (g.ad 272), .int pn])).length) Slot.unset).toArray = ls at hl ⊢
  have hl : lv_has ls 4 [(0, .ref (g.ad 272)), (1, .int pn)] := hl
  unfold f_X8_cancel at hf
  refine lv_aload_n hx hb dX8_cancel_0 rfl (lv_at hl 0 rfl) ?_
  refine lv_iload_n hx hb dX8_cancel_1 rfl (lv_at hl 1 rfl) ?_
  obtain ⟨r_1, hc_2, hf⟩ := bnO_some hf
  refine va_callq (va_runV (As := [.int pn]) (rest := []) ⟨hx, hb, hml, hown, hts⟩ (c_X8_demandProcess l hg hX μ pn  hc_2) (cwV 1 hts (gd_V q647 q649 q26 q37 q650) rfl rfl rfl hd_X8_demandProcess ⟨Nat.le_of_ble_eq_true rfl, Nat.le_of_ble_eq_true rfl⟩) ⟨Pz.blind, r_recv hT hP (inX hX) (fs := (fun _ => [.ref (g.ad 112), .ref (g.ad 266), .ref (g.ad 0), .ref (g.ad 273)])) (obX g) rfl, fun U hU hW => ⟨rfl, Tb.warm hW hT, by rw [hU]; exact hP⟩⟩ rfl rfl hl.1 rfl (lv_room (Nat.le_of_ble_eq_true rfl)) dX8_cancel_2 ⟨Nat.le_of_ble_eq_true rfl, Nat.le_of_ble_eq_true rfl⟩) hS (fun q _ h => h.elim) (fun q h => h.elim) (fun v9 u9 t9 H locs ht9 hvm9 hw9 hB9 hz9 hk9 hS => ?_)
  have hP := Rg.keep hP (fun q h => hk9 q h id)
  rw [hw9]
  cases r_1 with
  | none =>
    dsimp only [csQ] at hf
    refine W.eq (g2 := F0 m 5 ls [.null]) rfl ?_
    refine lv_astore_nN (lv' := [(2, .null), (0, .ref (g.ad 272)), (1, .int pn)]) hx hb dX8_cancel_5 rfl hl (by decide) rfl (fun ls hl => ?_)
    refine lv_aload_nN hx hb dX8_cancel_6 rfl (lv_at hl 0 rfl) ?_
    cases hf
  | some o_3 =>
    dsimp only [csQ] at hf
    obtain ⟨ho_3, hf⟩ := grd_some hf
    refine W.eq (g2 := F0 m 5 ls [.ref (g.ad o_3)]) rfl ?_
    refine lv_astore_n (lv' := [(2, .ref (g.ad o_3)), (0, .ref (g.ad 272)), (1, .int pn)]) hx hb dX8_cancel_5 rfl hl (by decide) rfl (fun ls hl => ?_)
    refine lv_aload_n hx hb dX8_cancel_6 rfl (lv_at hl 0 rfl) ?_
    obtain ⟨r_4, hc_5, hf⟩ := bnO_some hf
    refine va_calli (va_runV (As := []) (rest := []) ⟨hx, hb, hml, hown, hts⟩ (c_X2_isOver l hg μ o_3 ho_3 hc_5) (cwV 0 hts (gd_V q665 q631 q632 q42 q633) rfl rfl rfl hd_X2_isOver ⟨Nat.le_of_ble_eq_true rfl, Nat.le_of_ble_eq_true rfl⟩) ⟨Pz.blind, r_recv hT hP (inP ho_3) (fs := (fsP g o_3)) (obP ho_3) rfl, fun U hU hW => ⟨rfl, Tb.warm hW hT, by rw [hU]; exact hP⟩⟩ rfl rfl hl.1 rfl (lv_room (Nat.le_of_ble_eq_true rfl)) dX8_cancel_7 ⟨Nat.le_of_ble_eq_true rfl, Nat.le_of_ble_eq_true rfl⟩) hS (fun q _ h => h.elim) (fun q h => h.elim) (fun v9 u9 t9 H locs ht9 hvm9 hw9 hB9 hz9 hk9 hS => ?_)
    have hP := Rg.keep hP (fun q h => hk9 q h id)
    rw [hw9]
    refine lv_if_eq (tgt := 23) hx hb dX8_cancel_10 (by decide) (fun c_6 => ?_) (fun c_6 => ?_)
    · have hf := (if_pos c_6).symm.trans hf
      refine lv_aload_n hx hb dX8_cancel_23 rfl (lv_at hl 0 rfl) ?_
      obtain ⟨r_7, hc_8, hf⟩ := bnO_some hf
      refine va_calli (va_runV (As := []) (rest := []) ⟨hx, hb, hml, hown, hts⟩ (c_X2_heldInAll l hg μ o_3 ho_3 hc_8) (cwV 0 hts (gd_V q667 q668 q669 q42 q670) rfl rfl rfl hd_X2_heldInAll ⟨Nat.le_of_ble_eq_true rfl, Nat.le_of_ble_eq_true rfl⟩) ⟨Pz.blind, r_recv hT hP (inP ho_3) (fs := (fsP g o_3)) (obP ho_3) rfl, fun U hU hW => ⟨rfl, Tb.warm hW hT, by rw [hU]; exact hP⟩⟩ rfl rfl hl.1 rfl (lv_room (Nat.le_of_ble_eq_true rfl)) dX8_cancel_24 ⟨Nat.le_of_ble_eq_true rfl, Nat.le_of_ble_eq_true rfl⟩) hS (fun q _ h => h.elim) (fun q h => h.elim) (fun v9 u9 t9 H locs ht9 hvm9 hw9 hB9 hz9 hk9 hS => ?_)
      have hP := Rg.keep hP (fun q h => hk9 q h id)
      rw [hw9]
      refine lv_istore_n (lv' := [(3, .int r_7), (2, .ref (g.ad o_3)), (0, .ref (g.ad 272)), (1, .int pn)]) hx hb dX8_cancel_27 rfl hl (by decide) rfl (fun ls hl => ?_)
      refine lv_aload_n hx hb dX8_cancel_28 rfl (lv_at hl 2 rfl) ?_
      refine r_get hx hb hts i_X8 hown hT hP (inX hX) (fs := (fun _ => [.ref (g.ad 112), .ref (g.ad 266), .ref (g.ad 0), .ref (g.ad 273)])) (obX g) rfl 2 (by decide) q227 (fun _ h9 => h9) rfl dX8_cancel_29 ?_
      refine lv_aload_n hx hb dX8_cancel_32 rfl (lv_at hl 1 rfl) ?_
      refine lv_bipush (v := 7) hx hb dX8_cancel_33 (by decide) ?_
      obtain ⟨μ_11, hc_10, hf⟩ := bnO_some hf
      refine va_callv (va_runV (As := [.ref (g.ad o_3), .int 7]) (rest := []) ⟨hx, hb, hml, hown, hts⟩ (c_X7_finish l hg μ H.size o_3 7 ho_3 hc_10) (cwV 2 hts (gd_V q671 q635 q636 q41 q637) rfl rfl rfl hd_X7_finish ⟨Nat.le_of_ble_eq_true rfl, Nat.le_of_ble_eq_true rfl⟩) ⟨Pz.blind, r_recv hT hP inW (fs := (fsW g)) (obW g) rfl, fun U hU hW => ⟨rfl, Tb.warm hW hT, by rw [hU], by rw [hU]; exact hP⟩⟩ rfl rfl hl.1 rfl (lv_room (Nat.le_of_ble_eq_true rfl)) dX8_cancel_35 ⟨Nat.le_of_ble_eq_true rfl, Nat.le_of_ble_eq_true rfl⟩) hS (fun q _ h => Ag.sub rfl hS q h) (fun q h => Ag.sub rfl hS q h) (fun u9 t9 H locs ht9 hvm9 hw9 hB9 hz9 hk9 hS => ?_)
      have hP : Rg g μ_11 H := by rw [← ht9]; exact hB9
      refine lv_iload_n hx hb dX8_cancel_38 rfl (lv_at hl 0 rfl) ?_
      exact W.iret (v := r_7) hx hb hr (fun t9 ht hW => ⟨⟨r_7, (), rfl, by show r_7 = r.2; rw [← Option.some.inj hf], by show Rg g r.1 t9.heap; rw [ht, ← Option.some.inj hf]; exact hP⟩, hS.F ht⟩) hS.2.2 dX8_cancel_39
    · have hf := (if_neg c_6).symm.trans hf
      cases hf
