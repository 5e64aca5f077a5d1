/-- "Sandglass$Tally" "lowPart" "(JI)J" -/
def f_X6_lowPart (g : Fg) (μ : Mem) (xx : Int64) (bi : Int32) : Option (Int64) := some (xx &&& ((1 <<< (bi.toInt64 &&& 63)) - 1))
theorem hd_X6_lowPart : yX6_lowPart.cls = RX6 ∧ yX6_lowPart.cls ≠ "java/lang/invoke/MethodHandle" ∧ yX6_lowPart.cls ≠ "java/lang/invoke/VarHandle" ∧ (parseMethodDescriptor yX6_lowPart.desc).map (fun d => d.parameters.length) = some 2 := by decide +kernel
set_option maxHeartbeats 4000000 in
set_option maxRecDepth 100000 in
theorem c_X6_lowPart (l : Launch) {g : Geo} (hg : Good g) (μ : Mem) (xx : Int64) (bi : Int32) {r : Int64} (hf : f_X6_lowPart g.F μ xx bi = some r) : Met l yX6_lowPart (ws_ yX6_lowPart cX6_lowPart 3 (some .long)) (rm_ 0 0 0 0) (Pz g [.long xx, .int bi] (Rg g μ)) (va_Ql (fun (v : Int64) (_ : Unit) => v = r) (fun _ _ => True) (fun _ => False)) 0 0 (fun _ => False) := by
  refine Met.ofW (cc := cX6_lowPart) (maxL := 3) (ret := (some .long)) (by decide) rfl ?_
  intro p e s m args below meth c s₁ B hml hv
  obtain ⟨rfl, hT, hP⟩ := hv
  have hx := B.exec
  have hb := B.bytes
  have hr := B.returns
  have hts : ∀ w ∈ lw_all, w.before _ s = true := fun w h => atoms_spec (ws := (ws_ yX6_lowPart cX6_lowPart 3 (some .long))) B.pre w (List.mem_cons_of_mem _ h)
  have hown : s.vm.findClass RX6 = some m.cls := findClass_of_methodNamed B.named
  have hlocks := B.notSynchronized
  have hS : va_S (fun _ => False) s.heap s.heap [] := va_S.rf
  have hl := lv_entry ([.long xx, .int bi]) (n := 3) (Nat.le_of_ble_eq_true rfl)
  rw [lg_entry_eq]
  generalize (lg_sl ([.long xx, .int bi]) ++ List.replicate (3 - (lg_sl ([.long xx, .int bi])).length) Slot.unset).toArray = ls at hl ⊢
  have hl : lv_has ls 3 [(0, .long xx), (2, .int bi)] := hl
  unfold f_X6_lowPart at hf
  refine lv_lload_n hx hb dX6_lowPart_0 rfl (lv_at hl 0 rfl) ?_
  refine lv_lconst (v := 1) hx hb dX6_lowPart_1 (by decide) ?_
  refine lv_iload_n hx hb dX6_lowPart_2 rfl (lv_at hl 1 rfl) ?_
  refine lv_lshl (v := 1 <<< (bi.toInt64 &&& 63)) hx hb dX6_lowPart_3 rfl ?_
  refine lv_lconst (v := 1) hx hb dX6_lowPart_4 (by decide) ?_
  refine lv_lsub hx hb dX6_lowPart_5 ?_
  refine lv_land hx hb dX6_lowPart_6 ?_
  exact W.lret (v := xx &&& ((1 <<< (bi.toInt64 &&& 63)) - 1)) hx hb hr (fun t9 ht hW => ⟨⟨xx &&& ((1 <<< (bi.toInt64 &&& 63)) - 1), (), rfl, Option.some.inj hf, trivial⟩, hS.F ht⟩) hS.2.2 dX6_lowPart_7
/-- "Sandglass$Tally" "overBar" "(JJJJ)D" -/
def f_X6_overBar (g : Fg) (μ : Mem) (ka : Int64) (al : Int64) (qh : Int64) (ql : Int64) : Option (Unit) := bnO (f_X6_lowPart g μ al 20) fun r_1 => bnO (f_X6_lowPart g μ ((2 * (al >>> ((20 : Int32).toInt64 &&& 63))) * r_1) 20) fun r_3 => bnO (f_X6_lowPart g μ (((ka * ql) - (r_1 * r_1)) - (r_3 <<< ((20 : Int32).toInt64 &&& 63))) 40) fun r_5 => grd (0 ≤ ((((ka * qh) - ((al >>> ((20 : Int32).toInt64 &&& 63)) * (al >>> ((20 : Int32).toInt64 &&& 63)))) - (((2 * (al >>> ((20 : Int32).toInt64 &&& 63))) * r_1) >>> ((20 : Int32).toInt64 &&& 63))) + ((((ka * ql) - (r_1 * r_1)) - (r_3 <<< ((20 : Int32).toInt64 &&& 63))) >>> ((40 : Int32).toInt64 &&& 63))).toInt) (grd (0 ≤ r_5.toInt) (some ()))
theorem hd_X6_overBar : yX6_overBar.cls = RX6 ∧ yX6_overBar.cls ≠ "java/lang/invoke/MethodHandle" ∧ yX6_overBar.cls ≠ "java/lang/invoke/VarHandle" ∧ (parseMethodDescriptor yX6_overBar.desc).map (fun d => d.parameters.length) = some 4 := by decide +kernel
set_option maxHeartbeats 4000000 in
set_option maxRecDepth 100000 in
theorem c_X6_overBar (l : Launch) {g : Geo} (hg : Good g) (μ : Mem) (ka : Int64) (al : Int64) (qh : Int64) (ql : Int64) {r : Unit} (hf : f_X6_overBar g.F μ ka al qh ql = some r) : MetD lw_cs l yX6_overBar (ws_ yX6_overBar cX6_overBar 18 (some .double)) (rm_ 1 22 0 0) (Pz g [.long ka, .long al, .long qh, .long ql] (Rg g μ)) (va_Qd (fun (v : UInt64) (_ : Unit) => fp_nn v) (fun _ _ => True) (fun _ => False)) 0 0 (fun _ => False) := by
  refine MetD.ofW (cc := cX6_overBar) (maxL := 18) (ret := (some .double)) (by decide) rfl ?_
  intro p e s m args below meth c s₁ B hml hv hd
  obtain ⟨rfl, hT, hP⟩ := hv
  have hx := B.exec
  have hb := B.bytes
  have hr := B.returns
  have hts : ∀ w ∈ lw_all, w.before _ s = true := fun w h => atoms_spec (ws := (ws_ yX6_overBar cX6_overBar 18 (some .double))) B.pre w (List.mem_cons_of_mem _ h)
  have hown : s.vm.findClass RX6 = some m.cls := findClass_of_methodNamed B.named
  have hlocks := B.notSynchronized
  have hts0 := hts
  have hts := dr_words hts0 s.drawn
  have hT0 := hT
  have hT : Tb g (s.setDrawn s.drawn) := hT0
  have hS : va_S (fun _ => False) s.heap s.heap [] := va_S.rf
  have hl := lv_entry ([.long ka, .long al, .long qh, .long ql]) (n := 18) (Nat.le_of_ble_eq_true rfl)
  rw [lg_entry_eq]
  generalize (lg_sl ([.long ka, .long al, .long qh, .long ql]) ++ List.replicate (18 - (lg_sl ([.long ka, .long al, .long qh, .long ql])).length) Slot.unset).toArray = ls at hl ⊢
  have hl : lv_has ls 18 [(0, .long ka), (2, .long al), (4, .long qh), (6, .long ql)] := hl
  unfold f_X6_overBar at hf
  refine lv_lload_n hx hb dX6_overBar_0 rfl (lv_at hl 1 rfl) ?_
  refine lv_bipush (v := 20) hx hb dX6_overBar_1 (by decide) ?_
  refine lv_lshr (v := al >>> ((20 : Int32).toInt64 &&& 63)) hx hb dX6_overBar_3 rfl ?_
  refine lv_lstore (lv' := [(8, .long (al >>> ((20 : Int32).toInt64 &&& 63))), (0, .long ka), (2, .long al), (4, .long qh), (6, .long ql)]) hx hb dX6_overBar_4 hl (by decide) rfl (fun ls hl => ?_)
  refine lv_lload_n hx hb dX6_overBar_6 rfl (lv_at hl 2 rfl) ?_
  refine lv_bipush (v := 20) hx hb dX6_overBar_7 (by decide) ?_
  obtain ⟨r_1, hc_2, hf⟩ := bnO_some hf
  refine va_calll (va_runS (As := [.long al, .int 20]) (rest := []) ⟨hx, hb, hml, hown, hts⟩ (c_X6_lowPart l hg μ al 20  hc_2) (va_cwS 2 hts (gd_S q753 q754 q54 q755) rfl rfl rfl hd_X6_lowPart.2 ⟨Nat.le_of_ble_eq_true rfl, Nat.le_of_ble_eq_true rfl⟩) ⟨Pz.blind, fun U hU hW => ⟨rfl, Tb.warm hW hT, by rw [hU]; exact hP⟩⟩ rfl rfl hl.1 rfl (lv_room (Nat.le_of_ble_eq_true rfl)) dX6_overBar_9 ⟨Nat.le_of_ble_eq_true rfl, Nat.le_of_ble_eq_true rfl⟩) hS (fun q _ h => h.elim) (fun q h => h.elim) (fun v9 u9 t9 H locs ht9 hvm9 hw9 hB9 hz9 hk9 hS => ?_)
  have hP := Rg.keep hP (fun q h => hk9 q h id)
  rw [hw9]
  refine lv_lstore (lv' := [(10, .long r_1), (8, .long (al >>> ((20 : Int32).toInt64 &&& 63))), (0, .long ka), (2, .long al), (4, .long qh), (6, .long ql)]) hx hb dX6_overBar_12 hl (by decide) rfl (fun ls hl => ?_)
  refine lv_ldc2 hx hb hown (v := 2) (hts _ q747) dX6_overBar_14 ?_
  refine lv_lload hx hb dX6_overBar_17 (lv_at hl 1 rfl) ?_
  refine lv_lmul hx hb dX6_overBar_19 ?_
  refine lv_lload hx hb dX6_overBar_20 (lv_at hl 0 rfl) ?_
  refine lv_lmul hx hb dX6_overBar_22 ?_
  refine lv_lstore (lv' := [(12, .long ((2 * (al >>> ((20 : Int32).toInt64 &&& 63))) * r_1)), (10, .long r_1), (8, .long (al >>> ((20 : Int32).toInt64 &&& 63))), (0, .long ka), (2, .long al), (4, .long qh), (6, .long ql)]) hx hb dX6_overBar_23 hl (by decide) rfl (fun ls hl => ?_)
  refine lv_lload_n hx hb dX6_overBar_25 rfl (lv_at hl 3 rfl) ?_
  refine lv_lload hx hb dX6_overBar_26 (lv_at hl 5 rfl) ?_
  refine lv_lmul hx hb dX6_overBar_28 ?_
  refine lv_lload hx hb dX6_overBar_29 (lv_at hl 2 rfl) ?_
  refine lv_lload hx hb dX6_overBar_31 (lv_at hl 2 rfl) ?_
  refine lv_lmul hx hb dX6_overBar_33 ?_
  refine lv_lsub hx hb dX6_overBar_34 ?_
  refine lv_lload hx hb dX6_overBar_35 (lv_at hl 0 rfl) ?_
  refine lv_bipush (v := 20) hx hb dX6_overBar_37 (by decide) ?_
  refine lv_lshr (v := ((2 * (al >>> ((20 : Int32).toInt64 &&& 63))) * r_1) >>> ((20 : Int32).toInt64 &&& 63)) hx hb dX6_overBar_39 rfl ?_
  refine lv_lsub hx hb dX6_overBar_40 ?_
  refine lv_lstore (lv' := [(14, .long (((ka * qh) - ((al >>> ((20 : Int32).toInt64 &&& 63)) * (al >>> ((20 : Int32).toInt64 &&& 63)))) - (((2 * (al >>> ((20 : Int32).toInt64 &&& 63))) * r_1) >>> ((20 : Int32).toInt64 &&& 63)))), (12, .long ((2 * (al >>> ((20 : Int32).toInt64 &&& 63))) * r_1)), (10, .long r_1), (8, .long (al >>> ((20 : Int32).toInt64 &&& 63))), (0, .long ka), (2, .long al), (4, .long qh), (6, .long ql)]) hx hb dX6_overBar_41 hl (by decide) rfl (fun ls hl => ?_)
  refine lv_lload_n hx hb dX6_overBar_43 rfl (lv_at hl 4 rfl) ?_
  refine lv_lload hx hb dX6_overBar_44 (lv_at hl 7 rfl) ?_
  refine lv_lmul hx hb dX6_overBar_46 ?_
  refine lv_lload hx hb dX6_overBar_47 (lv_at hl 2 rfl) ?_
  refine lv_lload hx hb dX6_overBar_49 (lv_at hl 2 rfl) ?_
  refine lv_lmul hx hb dX6_overBar_51 ?_
  refine lv_lsub hx hb dX6_overBar_52 ?_
  refine lv_lload hx hb dX6_overBar_53 (lv_at hl 1 rfl) ?_
  refine lv_bipush (v := 20) hx hb dX6_overBar_55 (by decide) ?_
  obtain ⟨r_3, hc_4, hf⟩ := bnO_some hf
  refine va_calll (va_runS (As := [.long ((2 * (al >>> ((20 : Int32).toInt64 &&& 63))) * r_1), .int 20]) (rest := [.long ((ka * ql) - (r_1 * r_1))]) ⟨hx, hb, hml, hown, hts⟩ (c_X6_lowPart l hg μ ((2 * (al >>> ((20 : Int32).toInt64 &&& 63))) * r_1) 20  hc_4) (va_cwS 2 hts (gd_S q753 q754 q54 q755) rfl rfl rfl hd_X6_lowPart.2 ⟨Nat.le_of_ble_eq_true rfl, Nat.le_of_ble_eq_true rfl⟩) ⟨Pz.blind, fun U hU hW => ⟨rfl, Tb.warm hW hT, by rw [hU]; exact hP⟩⟩ rfl rfl hl.1 rfl (lv_room (Nat.le_of_ble_eq_true rfl)) dX6_overBar_57 ⟨Nat.le_of_ble_eq_true rfl, Nat.le_of_ble_eq_true rfl⟩) hS (fun q _ h => h.elim) (fun q h => h.elim) (fun v9 u9 t9 H locs ht9 hvm9 hw9 hB9 hz9 hk9 hS => ?_)
  have hP := Rg.keep hP (fun q h => hk9 q h id)
  rw [hw9]
  refine lv_bipush (v := 20) hx hb dX6_overBar_60 (by decide) ?_
  refine lv_lshl (v := r_3 <<< ((20 : Int32).toInt64 &&& 63)) hx hb dX6_overBar_62 rfl ?_
  refine lv_lsub hx hb dX6_overBar_63 ?_
  refine lv_lstore (lv' := [(16, .long (((ka * ql) - (r_1 * r_1)) - (r_3 <<< ((20 : Int32).toInt64 &&& 63)))), (14, .long (((ka * qh) - ((al >>> ((20 : Int32).toInt64 &&& 63)) * (al >>> ((20 : Int32).toInt64 &&& 63)))) - (((2 * (al >>> ((20 : Int32).toInt64 &&& 63))) * r_1) >>> ((20 : Int32).toInt64 &&& 63)))), (12, .long ((2 * (al >>> ((20 : Int32).toInt64 &&& 63))) * r_1)), (10, .long r_1), (8, .long (al >>> ((20 : Int32).toInt64 &&& 63))), (0, .long ka), (2, .long al), (4, .long qh), (6, .long ql)]) hx hb dX6_overBar_64 hl (by decide) rfl (fun ls hl => ?_)
  refine lv_lload hx hb dX6_overBar_66 (lv_at hl 1 rfl) ?_
  refine lv_lload hx hb dX6_overBar_68 (lv_at hl 0 rfl) ?_
  refine lv_bipush (v := 40) hx hb dX6_overBar_70 (by decide) ?_
  refine lv_lshr (v := (((ka * ql) - (r_1 * r_1)) - (r_3 <<< ((20 : Int32).toInt64 &&& 63))) >>> ((40 : Int32).toInt64 &&& 63)) hx hb dX6_overBar_72 rfl ?_
  refine lv_ladd hx hb dX6_overBar_73 ?_
  refine lv_lstore (lv' := [(14, .long ((((ka * qh) - ((al >>> ((20 : Int32).toInt64 &&& 63)) * (al >>> ((20 : Int32).toInt64 &&& 63)))) - (((2 * (al >>> ((20 : Int32).toInt64 &&& 63))) * r_1) >>> ((20 : Int32).toInt64 &&& 63))) + ((((ka * ql) - (r_1 * r_1)) - (r_3 <<< ((20 : Int32).toInt64 &&& 63))) >>> ((40 : Int32).toInt64 &&& 63)))), (16, .long (((ka * ql) - (r_1 * r_1)) - (r_3 <<< ((20 : Int32).toInt64 &&& 63)))), (12, .long ((2 * (al >>> ((20 : Int32).toInt64 &&& 63))) * r_1)), (10, .long r_1), (8, .long (al >>> ((20 : Int32).toInt64 &&& 63))), (0, .long ka), (2, .long al), (4, .long qh), (6, .long ql)]) hx hb dX6_overBar_74 hl (by decide) rfl (fun ls hl => ?_)
  refine lv_lload hx hb dX6_overBar_76 (lv_at hl 1 rfl) ?_
  refine lv_bipush (v := 40) hx hb dX6_overBar_78 (by decide) ?_
  obtain ⟨r_5, hc_6, hf⟩ := bnO_some hf
  refine va_calll (va_runS (As := [.long (((ka * ql) - (r_1 * r_1)) - (r_3 <<< ((20 : Int32).toInt64 &&& 63))), .int 40]) (rest := []) ⟨hx, hb, hml, hown, hts⟩ (c_X6_lowPart l hg μ (((ka * ql) - (r_1 * r_1)) - (r_3 <<< ((20 : Int32).toInt64 &&& 63))) 40  hc_6) (va_cwS 2 hts (gd_S q753 q754 q54 q755) rfl rfl rfl hd_X6_lowPart.2 ⟨Nat.le_of_ble_eq_true rfl, Nat.le_of_ble_eq_true rfl⟩) ⟨Pz.blind, fun U hU hW => ⟨rfl, Tb.warm hW hT, by rw [hU]; exact hP⟩⟩ rfl rfl hl.1 rfl (lv_room (Nat.le_of_ble_eq_true rfl)) dX6_overBar_80 ⟨Nat.le_of_ble_eq_true rfl, Nat.le_of_ble_eq_true rfl⟩) hS (fun q _ h => h.elim) (fun q h => h.elim) (fun v9 u9 t9 H locs ht9 hvm9 hw9 hB9 hz9 hk9 hS => ?_)
  have hP := Rg.keep hP (fun q h => hk9 q h id)
  rw [hw9]
  refine lv_lstore (lv' := [(16, .long r_5), (14, .long ((((ka * qh) - ((al >>> ((20 : Int32).toInt64 &&& 63)) * (al >>> ((20 : Int32).toInt64 &&& 63)))) - (((2 * (al >>> ((20 : Int32).toInt64 &&& 63))) * r_1) >>> ((20 : Int32).toInt64 &&& 63))) + ((((ka * ql) - (r_1 * r_1)) - (r_3 <<< ((20 : Int32).toInt64 &&& 63))) >>> ((40 : Int32).toInt64 &&& 63)))), (12, .long ((2 * (al >>> ((20 : Int32).toInt64 &&& 63))) * r_1)), (10, .long r_1), (8, .long (al >>> ((20 : Int32).toInt64 &&& 63))), (0, .long ka), (2, .long al), (4, .long qh), (6, .long ql)]) hx hb dX6_overBar_83 hl (by decide) rfl (fun ls hl => ?_)
  refine lv_lload hx hb dX6_overBar_85 (lv_at hl 1 rfl) ?_
  obtain ⟨hz_7, hf⟩ := grd_some hf
  refine lv_l2d hx hb dX6_overBar_87 ?_
  refine lv_ldc2d hx hb hown (v := 4787326403894837248) (hts _ q759) dX6_overBar_88 ?_
  refine lv_dmul_any hd lw_bits hx hb dX6_overBar_91 (fun y_8 d_9 hal_10 hd => ?_)
  have hts := dr_words hts0 d_9
  have hT : Tb g (s.setDrawn d_9) := hT0
  refine lv_lload hx hb dX6_overBar_92 (lv_at hl 0 rfl) ?_
  obtain ⟨hz_11, hf⟩ := grd_some hf
  refine lv_l2d hx hb dX6_overBar_94 ?_
  refine lv_dadd_any hd lw_bits hx hb dX6_overBar_95 (fun y_12 d_13 hal_14 hd => ?_)
  have hts := dr_words hts0 d_13
  have hT : Tb g (s.setDrawn d_13) := hT0
  refine W.endD hd ?_
  exact W.dret (v := y_12) hx hb hr (fun t9 ht hW => ⟨⟨y_12, (), rfl, (fp_alike hal_14 (fp_dadd (fp_alike hal_10 (fp_dmul (fp_l2d hz_7) (fp_small (by decide +kernel)))) (fp_l2d hz_11))), trivial⟩, hS.F ht⟩) hS.2.2 dX6_overBar_96
/-- "Sandglass$Tally" "variance" "()D" -/
def b_X6_variance_27 (g : Geo) : Nat → Mem → Nat → Int64 → Int64 → Int64 → Int64 → Int32 → Option (Unit)
  | 0, _, _, _, _, _, _, _ => none
  | n + 1, μ, x0, x1, x3, x5, x7, x9 => if (g.ts 1000 8) ≤ x9 then (if (lg_cmp (((x1 * (x1 - 1)) * ((g.ts 1000 0).toInt64)) * ((g.ts 1000 0).toInt64)) 0) ≤ 0 then (some ()) else (bnO (f_X6_overBar g.F μ x1 x3 x5 x7) fun r_4 => grd (0 ≤ (((x1 * (x1 - 1)) * ((g.ts 1000 0).toInt64)) * ((g.ts 1000 0).toInt64)).toInt) (some ()))) else (bnO (f_X6_sumAt g μ x0 x9) fun r_12 => bnO (f_X6_lowPart g.F μ (x7 + (r_12.toInt64 * r_12.toInt64)) 40) fun r_14 => b_X6_variance_27 g n μ x0 x1 (x3 + r_12.toInt64) (x5 + ((x7 + (r_12.toInt64 * r_12.toInt64)) >>> ((40 : Int32).toInt64 &&& 63))) r_14 (x9 + 1))
def f_X6_variance (g : Geo) (μ : Mem) (t : Nat) : Option (Unit) := if 0 ≤ (lg_cmp ((g.ts 1000 8).toInt64) 2) then (b_X6_variance_27 g fu μ t ((g.ts 1000 8).toInt64) 0 0 0 0) else (some ())
theorem hd_X6_variance : yX6_variance.cls = RX6 ∧ yX6_variance.cls ≠ "java/lang/invoke/MethodHandle" ∧ yX6_variance.cls ≠ "java/lang/invoke/VarHandle" ∧ (parseMethodDescriptor yX6_variance.desc).map (fun d => d.parameters.length) = some 0 := by decide +kernel
set_option maxHeartbeats 4000000 in
set_option maxRecDepth 100000 in
theorem c_X6_variance (l : Launch) {g : Geo} (hg : Good g) (μ : Mem) (t : Nat) (ht : isY g t) {r : Unit} (hf : f_X6_variance g μ t = some r) : MetD lw_cs l yX6_variance (ws_ yX6_variance cX6_variance 12 (some .double)) (rm_ 4 86 0 0) (Pz g [.ref (g.ad t)] (Rg g μ)) (va_Qd (fun (v : UInt64) (_ : Unit) => fp_nn v) (fun _ _ => True) (fun _ => False)) 0 0 (fun _ => False) := by
  refine MetD.ofW (cc := cX6_variance) (maxL := 12) (ret := (some .double)) (by decide) rfl ?_
  intro p e s m args below meth c s₁ B hml hv hd
  obtain ⟨rfl, hT, hP⟩ := hv
  have hx := B.exec
  have hb := B.bytes
  have hr := B.returns
  have hts : ∀ w ∈ lw_all, w.before _ s = true := fun w h => atoms_spec (ws := (ws_ yX6_variance cX6_variance 12 (some .double))) B.pre w (List.mem_cons_of_mem _ h)
  have hown : s.vm.findClass RX6 = some m.cls := findClass_of_methodNamed B.named
  have hlocks := B.notSynchronized
  have hts0 := hts
  have hts := dr_words hts0 s.drawn
  have hT0 := hT
  have hT : Tb g (s.setDrawn s.drawn) := hT0
  have hS : va_S (fun _ => False) s.heap s.heap [] := va_S.rf
  have L27 : ∀ (n : Nat) (μ : Mem) (x0 : Nat) (x1 : Int64) (x3 : Int64) (x5 : Int64) (x7 : Int64) (x9 : Int32) (H : Heap) (locs : List Loc) (ls : Array Slot), Rg g μ H → va_S (fun _ => False) s.heap H locs → lv_has ls 12 [(0, .ref (g.ad x0)), (1, .long x1), (3, .long x3), (5, .long x5), (7, .long x7), (9, .int x9)] → isY g x0 → b_X6_variance_27 g n μ x0 x1 x3 x5 x7 x9 = some r → W p l e (headSpec (ws_ yX6_variance cX6_variance 12 (some .double)) (rm_ 4 86 0 0)).room (s.setDrawn s.drawn) m ([.ref (g.ad t)] : List Value).toArray below meth c H locs 0 0 (MQD lw_cs below (va_Qd (fun (v : UInt64) (_ : Unit) => fp_nn v) (fun _ _ => True) (fun _ => False)) ([.ref (g.ad t)] : List Value).toArray s 0 0 (fun _ => False)) (F0 m 27 ls []) := by
    intro n
    induction n with
    | zero => intro μ x0 x1 x3 x5 x7 x9 H locs ls hP hS hl hx0 hf; cases hf
    | succ n ih =>
      intro μ x0 x1 x3 x5 x7 x9 H locs ls hP hS hl hx0 hf
      rw [b_X6_variance_27] at hf
      refine lv_iload hx hb dX6_variance_27 (lv_at hl 5 rfl) ?_
      refine lv_aload_n hx hb dX6_variance_29 rfl (lv_at hl 0 rfl) ?_
      refine r_get hx hb hts i_X6 hown hT hP (inY hx0) (fs := (fun _ => fsY g)) (obY hx0) rfl 8 (by decide) q1038 (fun _ h9 => h9) rfl dX6_variance_30 ?_
      refine lv_icmp_ge (tgt := 85) hx hb dX6_variance_33 (by decide) (fun c_2 => ?_) (fun c_2 => ?_)
      · have hf := (if_pos c_2).symm.trans hf
        refine lv_lload_n hx hb dX6_variance_85 rfl (lv_at hl 1 rfl) ?_
        refine lv_lload_n hx hb dX6_variance_86 rfl (lv_at hl 1 rfl) ?_
        refine lv_lconst (v := 1) hx hb dX6_variance_87 (by decide) ?_
        refine lv_lsub hx hb dX6_variance_88 ?_
        refine lv_lmul hx hb dX6_variance_89 ?_
        refine lv_aload_n hx hb dX6_variance_90 rfl (lv_at hl 0 rfl) ?_
        refine r_get hx hb hts i_X6 hown hT hP (inY hx0) (fs := (fun _ => fsY g)) (obY hx0) rfl 0 (by decide) q1025 (fun _ h9 => h9) rfl dX6_variance_91 ?_
        refine lv_i2l (v := (g.ts 1000 0).toInt64) hx hb dX6_variance_94 rfl ?_
        refine lv_lmul hx hb dX6_variance_95 ?_
        refine lv_aload_n hx hb dX6_variance_96 rfl (lv_at hl 0 rfl) ?_
        refine r_get hx hb hts i_X6 hown hT hP (inY hx0) (fs := (fun _ => fsY g)) (obY hx0) rfl 0 (by decide) q1025 (fun _ h9 => h9) rfl dX6_variance_97 ?_
        refine lv_i2l (v := (g.ts 1000 0).toInt64) hx hb dX6_variance_100 rfl ?_
        refine lv_lmul hx hb dX6_variance_101 ?_
        refine lv_lstore (lv' := [(9, .long (((x1 * (x1 - 1)) * ((g.ts 1000 0).toInt64)) * ((g.ts 1000 0).toInt64))), (0, .ref (g.ad x0)), (1, .long x1), (3, .long x3), (5, .long x5), (7, .long x7)]) hx hb dX6_variance_102 hl (by decide) rfl (fun ls hl => ?_)
        refine lv_lload hx hb dX6_variance_104 (lv_at hl 0 rfl) ?_
        refine lv_lconst (v := 0) hx hb dX6_variance_106 (by decide) ?_
        refine W.lcmp hx hb dX6_variance_107 ?_
        refine lv_if_le (tgt := 127) hx hb dX6_variance_108 (by decide) (fun c_3 => ?_) (fun c_3 => ?_)
        · have hf := (if_pos c_3).symm.trans hf
          refine lv_dconst0 hx hb dX6_variance_127 ?_
          refine W.endD hd ?_
          exact W.dret (v := FP.dconst0) hx hb hr (fun t9 ht hW => ⟨⟨FP.dconst0, (), rfl, fp_0, trivial⟩, hS.F ht⟩) hS.2.2 dX6_variance_128
        · have hf := (if_neg c_3).symm.trans hf
          refine lv_lload_n hx hb dX6_variance_111 rfl (lv_at hl 2 rfl) ?_
          refine lv_lload_n hx hb dX6_variance_112 rfl (lv_at hl 3 rfl) ?_
          refine lv_lload hx hb dX6_variance_113 (lv_at hl 4 rfl) ?_
          refine lv_lload hx hb dX6_variance_115 (lv_at hl 5 rfl) ?_
          obtain ⟨r_4, hc_5, hf⟩ := bnO_some hf
          refine va_calldD hd (va_runS_D (As := [.long x1, .long x3, .long x5, .long x7]) (rest := []) ⟨hx, hb, hml, hown, hts⟩ (c_X6_overBar l hg μ x1 x3 x5 x7  hc_5) (va_cwS 4 hts (gd_S q756 q757 q54 q758) rfl rfl rfl hd_X6_overBar.2 ⟨Nat.le_of_ble_eq_true rfl, Nat.le_of_ble_eq_true rfl⟩) ⟨Pz.blind, fun U hU hW => ⟨rfl, Tb.warm hW hT, by rw [hU]; exact hP⟩⟩ rfl rfl hl.1 rfl (lv_room (Nat.le_of_ble_eq_true rfl)) dX6_variance_117 ⟨Nat.le_of_ble_eq_true rfl, Nat.le_of_ble_eq_true rfl⟩) hS (fun q _ h => h.elim) (fun q h => h.elim) (fun y_6 u9 t9 H locs ht9 hvm9 hy_6 hB9 hz9 hk9 hS d_7 hd => ?_)
          have hP := Rg.keep hP (fun q h => hk9 q h id)
          have hts := dr_words hts0 d_7
          have hT : Tb g (s.setDrawn d_7) := hT0
          refine lv_lload hx hb dX6_variance_120 (lv_at hl 0 rfl) ?_
          obtain ⟨hz_8, hf⟩ := grd_some hf
          refine lv_l2d hx hb dX6_variance_122 ?_
          refine lv_ddiv_any hd lw_bits hx hb dX6_variance_123 (fun y_9 d_10 hal_11 hd => ?_)
          have hts := dr_words hts0 d_10
          have hT : Tb g (s.setDrawn d_10) := hT0
          refine lv_goto (tgt := 128) hx hb dX6_variance_124 (by decide) ?_
          refine W.endD hd ?_
          exact W.dret (v := y_9) hx hb hr (fun t9 ht hW => ⟨⟨y_9, (), rfl, (fp_alike hal_11 (fp_ddiv hy_6 (fp_l2d hz_8))), trivial⟩, hS.F ht⟩) hS.2.2 dX6_variance_128
      · have hf := (if_neg c_2).symm.trans hf
        refine lv_aload_n hx hb dX6_variance_36 rfl (lv_at hl 0 rfl) ?_
        refine lv_iload hx hb dX6_variance_37 (lv_at hl 5 rfl) ?_
        obtain ⟨r_12, hc_13, hf⟩ := bnO_some hf
        refine va_calli (va_runV (As := [.int x9]) (rest := []) ⟨hx, hb, hml, hown, hts⟩ (c_X6_sumAt l hg μ x0 x9 hx0 hc_13) (cwV 1 hts (gd_V q748 q749 q750 q54 q751) rfl rfl rfl hd_X6_sumAt ⟨Nat.le_of_ble_eq_true rfl, Nat.le_of_ble_eq_true rfl⟩) ⟨Pz.blind, r_recv hT hP (inY hx0) (fs := (fun _ => fsY g)) (obY hx0) rfl, fun U hU hW => ⟨rfl, Tb.warm hW hT, by rw [hU]; exact hP⟩⟩ rfl rfl hl.1 rfl (lv_room (Nat.le_of_ble_eq_true rfl)) dX6_variance_39 ⟨Nat.le_of_ble_eq_true rfl, Nat.le_of_ble_eq_true rfl⟩) hS (fun q _ h => h.elim) (fun q h => h.elim) (fun v9 u9 t9 H locs ht9 hvm9 hw9 hB9 hz9 hk9 hS => ?_)
        have hP := Rg.keep hP (fun q h => hk9 q h id)
        rw [hw9]
        refine lv_i2l (v := r_12.toInt64) hx hb dX6_variance_42 rfl ?_
        refine lv_lstore (lv' := [(10, .long r_12.toInt64), (0, .ref (g.ad x0)), (1, .long x1), (3, .long x3), (5, .long x5), (7, .long x7), (9, .int x9)]) hx hb dX6_variance_43 hl (by decide) rfl (fun ls hl => ?_)
        refine lv_lload_n hx hb dX6_variance_45 rfl (lv_at hl 3 rfl) ?_
        refine lv_lload hx hb dX6_variance_46 (lv_at hl 0 rfl) ?_
        refine lv_ladd hx hb dX6_variance_48 ?_
        refine lv_lstore_n (lv' := [(3, .long (x3 + r_12.toInt64)), (10, .long r_12.toInt64), (0, .ref (g.ad x0)), (1, .long x1), (5, .long x5), (7, .long x7), (9, .int x9)]) hx hb dX6_variance_49 rfl hl (by decide) rfl (fun ls hl => ?_)
        refine lv_lload hx hb dX6_variance_50 (lv_at hl 5 rfl) ?_
        refine lv_lload hx hb dX6_variance_52 (lv_at hl 1 rfl) ?_
        refine lv_lload hx hb dX6_variance_54 (lv_at hl 1 rfl) ?_
        refine lv_lmul hx hb dX6_variance_56 ?_
        refine lv_ladd hx hb dX6_variance_57 ?_
        refine lv_lstore (lv' := [(7, .long (x7 + (r_12.toInt64 * r_12.toInt64))), (3, .long (x3 + r_12.toInt64)), (10, .long r_12.toInt64), (0, .ref (g.ad x0)), (1, .long x1), (5, .long x5), (9, .int x9)]) hx hb dX6_variance_58 hl (by decide) rfl (fun ls hl => ?_)
        refine lv_lload hx hb dX6_variance_60 (lv_at hl 5 rfl) ?_
        refine lv_lload hx hb dX6_variance_62 (lv_at hl 0 rfl) ?_
        refine lv_bipush (v := 40) hx hb dX6_variance_64 (by decide) ?_
        refine lv_lshr (v := (x7 + (r_12.toInt64 * r_12.toInt64)) >>> ((40 : Int32).toInt64 &&& 63)) hx hb dX6_variance_66 rfl ?_
        refine lv_ladd hx hb dX6_variance_67 ?_
        refine lv_lstore (lv' := [(5, .long (x5 + ((x7 + (r_12.toInt64 * r_12.toInt64)) >>> ((40 : Int32).toInt64 &&& 63)))), (7, .long (x7 + (r_12.toInt64 * r_12.toInt64))), (3, .long (x3 + r_12.toInt64)), (10, .long r_12.toInt64), (0, .ref (g.ad x0)), (1, .long x1), (9, .int x9)]) hx hb dX6_variance_68 hl (by decide) rfl (fun ls hl => ?_)
        refine lv_lload hx hb dX6_variance_70 (lv_at hl 1 rfl) ?_
        refine lv_bipush (v := 40) hx hb dX6_variance_72 (by decide) ?_
        obtain ⟨r_14, hc_15, hf⟩ := bnO_some hf
        refine va_calll (va_runS (As := [.long (x7 + (r_12.toInt64 * r_12.toInt64)), .int 40]) (rest := []) ⟨hx, hb, hml, hown, hts⟩ (c_X6_lowPart l hg μ (x7 + (r_12.toInt64 * r_12.toInt64)) 40  hc_15) (va_cwS 2 hts (gd_S q753 q754 q54 q755) rfl rfl rfl hd_X6_lowPart.2 ⟨Nat.le_of_ble_eq_true rfl, Nat.le_of_ble_eq_true rfl⟩) ⟨Pz.blind, fun U hU hW => ⟨rfl, Tb.warm hW hT, by rw [hU]; exact hP⟩⟩ rfl rfl hl.1 rfl (lv_room (Nat.le_of_ble_eq_true rfl)) dX6_variance_74 ⟨Nat.le_of_ble_eq_true rfl, Nat.le_of_ble_eq_true rfl⟩) hS (fun q _ h => h.elim) (fun q h => h.elim) (fun v9 u9 t9 H locs ht9 hvm9 hw9 hB9 hz9 hk9 hS => ?_)
        have hP := Rg.keep hP (fun q h => hk9 q h id)
        rw [hw9]
        refine lv_lstore (lv' := [(7, .long r_14), (5, .long (x5 + ((x7 + (r_12.toInt64 * r_12.toInt64)) >>> ((40 : Int32).toInt64 &&& 63)))), (3, .long (x3 + r_12.toInt64)), (10, .long r_12.toInt64), (0, .ref (g.ad x0)), (1, .long x1), (9, .int x9)]) hx hb dX6_variance_77 hl (by decide) rfl (fun ls hl => ?_)
        refine lv_iinc (v := x9 + 1) (lv' := [(9, .int (x9 + 1)), (7, .long r_14), (5, .long (x5 + ((x7 + (r_12.toInt64 * r_12.toInt64)) >>> ((40 : Int32).toInt64 &&& 63)))), (3, .long (x3 + r_12.toInt64)), (10, .long r_12.toInt64), (0, .ref (g.ad x0)), (1, .long x1)]) hx hb dX6_variance_79 hl (k := 6) rfl rfl (by decide) rfl (fun ls hl => ?_)
        refine lv_goto (tgt := 27) hx hb dX6_variance_82 (by decide) ?_
        exact ih μ x0 x1 (x3 + r_12.toInt64) (x5 + ((x7 + (r_12.toInt64 * r_12.toInt64)) >>> ((40 : Int32).toInt64 &&& 63))) r_14 (x9 + 1) _ _ _ hP hS (lv_sub hl [5, 6, 3, 2, 1, 0] rfl) hx0 hf
  have hl := lv_entry ([.ref (g.ad t)]) (n := 12) (Nat.le_of_ble_eq_true rfl)
  rw [lg_entry_eq]
  generalize (lg_sl ([.ref (g.ad t)]) ++ List.replicate (12 - (lg_sl ([.ref (g.ad t)])).length) Slot.unset).toArray = ls at hl ⊢
  have hl : lv_has ls 12 [(0, .ref (g.ad t))] := hl
  unfold f_X6_variance at hf
  refine lv_aload_n hx hb dX6_variance_0 rfl (lv_at hl 0 rfl) ?_
  refine r_get hx hb hts i_X6 hown hT hP (inY ht) (fs := (fun _ => fsY g)) (obY ht) rfl 8 (by decide) q1038 (fun _ h9 => h9) rfl dX6_variance_1 ?_
  refine lv_i2l (v := (g.ts 1000 8).toInt64) hx hb dX6_variance_4 rfl ?_
  refine lv_lstore_n (lv' := [(1, .long ((g.ts 1000 8).toInt64)), (0, .ref (g.ad t))]) hx hb dX6_variance_5 rfl hl (by decide) rfl (fun ls hl => ?_)
  refine lv_lload_n hx hb dX6_variance_6 rfl (lv_at hl 0 rfl) ?_
  refine lv_ldc2 hx hb hown (v := 2) (hts _ q747) dX6_variance_7 ?_
  refine W.lcmp hx hb dX6_variance_10 ?_
  refine lv_if_ge (tgt := 16) hx hb dX6_variance_11 (by decide) (fun c_1 => ?_) (fun c_1 => ?_)
  · have hf := (if_pos c_1).symm.trans hf
    refine lv_lconst (v := 0) hx hb dX6_variance_16 (by decide) ?_
    refine lv_lstore_n (lv' := [(3, .long 0), (1, .long ((g.ts 1000 8).toInt64)), (0, .ref (g.ad t))]) hx hb dX6_variance_17 rfl hl (by decide) rfl (fun ls hl => ?_)
    refine lv_lconst (v := 0) hx hb dX6_variance_18 (by decide) ?_
    refine lv_lstore (lv' := [(5, .long 0), (3, .long 0), (1, .long ((g.ts 1000 8).toInt64)), (0, .ref (g.ad t))]) hx hb dX6_variance_19 hl (by decide) rfl (fun ls hl => ?_)
    refine lv_lconst (v := 0) hx hb dX6_variance_21 (by decide) ?_
    refine lv_lstore (lv' := [(7, .long 0), (5, .long 0), (3, .long 0), (1, .long ((g.ts 1000 8).toInt64)), (0, .ref (g.ad t))]) hx hb dX6_variance_22 hl (by decide) rfl (fun ls hl => ?_)
    refine lv_iconst (v := 0) hx hb dX6_variance_24 (by decide) ?_
    refine lv_istore (lv' := [(9, .int 0), (7, .long 0), (5, .long 0), (3, .long 0), (1, .long ((g.ts 1000 8).toInt64)), (0, .ref (g.ad t))]) hx hb dX6_variance_25 hl (by decide) rfl (fun ls hl => ?_)
    exact L27 fu μ t ((g.ts 1000 8).toInt64) 0 0 0 0 _ _ _ hP hS (lv_sub hl [5, 4, 3, 2, 1, 0] rfl) ht hf
  · have hf := (if_neg c_1).symm.trans hf
    refine lv_dconst0 hx hb dX6_variance_14 ?_
    refine W.endD hd ?_
    exact W.dret (v := FP.dconst0) hx hb hr (fun t9 ht hW => ⟨⟨FP.dconst0, (), rfl, fp_0, trivial⟩, hS.F ht⟩) hS.2.2 dX6_variance_15
/-- "Sandglass" "spread" "(I)D" -/
def f_X8_spread (g : Geo) (μ : Mem) (nu : Int32) : Option (Unit) := bnO (f_X8_demandTally g μ nu) fun r_1 => csQ r_1 (none) (fun o_3 => grd (o_3 = 268 ∧ g.tz 0 = 1) (bnO (f_X6_variance g μ o_3) fun r_4 => some ()))
theorem hd_X8_spread : yX8_spread.cls = RX8 ∧ yX8_spread.cls ≠ "java/lang/invoke/MethodHandle" ∧ yX8_spread.cls ≠ "java/lang/invoke/VarHandle" ∧ (parseMethodDescriptor yX8_spread.desc).map (fun d => d.parameters.length) = some 1 := by decide +kernel
set_option maxHeartbeats 4000000 in
set_option maxRecDepth 100000 in
theorem c_X8_spread (l : Launch) {g : Geo} (hg : Good g) (hX : g.tz 1 = 1) (μ : Mem) (nu : Int32) {r : Unit} (hf : f_X8_spread g μ nu = some r) : MetD lw_cs l yX8_spread (ws_ yX8_spread cX8_spread 2 (some .double)) (rm_ 5 117 0 0) (Pz g [.ref (g.ad 272), .int nu] (Rg g μ)) (va_Qd (fun (v : UInt64) (_ : Unit) => fp_nn v) (fun _ _ => True) (fun _ => False)) 0 0 (fun _ => False) := by
  refine MetD.ofW (cc := cX8_spread) (maxL := 2) (ret := (some .double)) (by decide) rfl ?_
  intro p e s m args below meth c s₁ B hml hv hd
  obtain ⟨rfl, hT, hP⟩ := hv
  have hx := B.exec
  have hb := B.bytes
  have hr := B.returns
  have hts : ∀ w ∈ lw_all, w.before _ s = true := fun w h => atoms_spec (ws := (ws_ yX8_spread cX8_spread 2 (some .double))) B.pre w (List.mem_cons_of_mem _ h)
  have hown : s.vm.findClass RX8 = some m.cls := findClass_of_methodNamed B.named
  have hlocks := B.notSynchronized
  have hts0 := hts
  have hts := dr_words hts0 s.drawn
  have hT0 := hT
  have hT : Tb g (s.setDrawn s.drawn) := hT0
  have hS : va_S (fun _ => False) s.heap s.heap [] := va_S.rf
  have hl := lv_entry ([.ref (g.ad 272), .int nu]) (n := 2) (Nat.le_of_ble_eq_true rfl)
  rw [lg_entry_eq]
  generalize (lg_sl ([.ref (g.ad 272), .int nu]) ++ List.replicate (2 - (lg_sl ([.ref (g.ad 272), .int nu])).length) Slot.unset).toArray = ls at hl ⊢
  have hl : lv_has ls 2 [(0, .ref (g.ad 272)), (1, .int nu)] := hl
  unfold f_X8_spread at hf
  refine lv_aload_n hx hb dX8_spread_0 rfl (lv_at hl 0 rfl) ?_
  refine lv_iload_n hx hb dX8_spread_1 rfl (lv_at hl 1 rfl) ?_
  obtain ⟨r_1, hc_2, hf⟩ := bnO_some hf
  refine va_callq (va_runV (As := [.int nu]) (rest := []) ⟨hx, hb, hml, hown, hts⟩ (c_X8_demandTally l hg hX μ nu  hc_2) (cwV 1 hts (gd_V q724 q726 q28 q37 q727) rfl rfl rfl hd_X8_demandTally ⟨Nat.le_of_ble_eq_true rfl, Nat.le_of_ble_eq_true rfl⟩) ⟨Pz.blind, r_recv hT hP (inX hX) (fs := (fun _ => [.ref (g.ad 112), .ref (g.ad 266), .ref (g.ad 0), .ref (g.ad 273)])) (obX g) rfl, fun U hU hW => ⟨rfl, Tb.warm hW hT, by rw [hU]; exact hP⟩⟩ rfl rfl hl.1 rfl (lv_room (Nat.le_of_ble_eq_true rfl)) dX8_spread_2 ⟨Nat.le_of_ble_eq_true rfl, Nat.le_of_ble_eq_true rfl⟩) hS (fun q _ h => h.elim) (fun q h => h.elim) (fun v9 u9 t9 H locs ht9 hvm9 hw9 hB9 hz9 hk9 hS => ?_)
  have hP := Rg.keep hP (fun q h => hk9 q h id)
  rw [hw9]
  cases r_1 with
  | none =>
    dsimp only [csQ] at hf
    refine W.eq (g2 := F0 m 5 ls [.null]) rfl ?_
    cases hf
  | some o_3 =>
    dsimp only [csQ] at hf
    obtain ⟨ho_3, hf⟩ := grd_some hf
    refine W.eq (g2 := F0 m 5 ls [.ref (g.ad o_3)]) rfl ?_
    obtain ⟨r_4, hc_5, hf⟩ := bnO_some hf
    refine va_calldD hd (va_runV_D (As := []) (rest := []) ⟨hx, hb, hml, hown, hts⟩ (c_X6_variance l hg μ o_3 ho_3 hc_5) (cwV 0 hts (gd_V q743 q744 q745 q54 q746) rfl rfl rfl hd_X6_variance ⟨Nat.le_of_ble_eq_true rfl, Nat.le_of_ble_eq_true rfl⟩) ⟨Pz.blind, r_recv hT hP (inY ho_3) (fs := (fun _ => fsY g)) (obY ho_3) rfl, fun U hU hW => ⟨rfl, Tb.warm hW hT, by rw [hU]; exact hP⟩⟩ rfl rfl hl.1 rfl (lv_room (Nat.le_of_ble_eq_true rfl)) dX8_spread_5 ⟨Nat.le_of_ble_eq_true rfl, Nat.le_of_ble_eq_true rfl⟩) hS (fun q _ h => h.elim) (fun q h => h.elim) (fun y_6 u9 t9 H locs ht9 hvm9 hy_6 hB9 hz9 hk9 hS d_7 hd => ?_)
    have hP := Rg.keep hP (fun q h => hk9 q h id)
    have hts := dr_words hts0 d_7
    have hT : Tb g (s.setDrawn d_7) := hT0
    refine W.endD hd ?_
    exact W.dret (v := y_6) hx hb hr (fun t9 ht hW => ⟨⟨y_6, (), rfl, hy_6, trivial⟩, hS.F ht⟩) hS.2.2 dX8_spread_8
