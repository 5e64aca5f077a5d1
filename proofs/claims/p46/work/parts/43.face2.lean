/-- "Sandglass" "isInstruction" "(III)Z" -/
def f_X8_isInstruction (g : Geo) (μ : Mem) (co : Int32) (a : Int32) (b : Int32) : Option (Int32) := if co = 0 then (bnO (f_X8_isIn g.F μ a 0 99) fun r_2 => if r_2 = 0 then (some 0) else (bnO (f_X8_isIn g.F μ b 0 50) fun r_5 => if r_5 = 0 then (some 0) else (some 1))) else if co = 1 then (bnO (f_X7_resource g.F μ a) fun r_9 => csQ r_9 (some 0) (fun o_11 => grd (102 ≤ o_11 ∧ o_11 < 102 + g.sz 0 ∧ o_11 < 108) (bnO (f_X8_isIn g.F μ b 1 9) fun r_12 => if r_12 = 0 then (some 0) else (some 1)))) else if co = 2 then (bnO (f_X7_resource g.F μ a) fun r_16 => csQ r_16 (some 0) (fun o_18 => grd (102 ≤ o_18 ∧ o_18 < 102 + g.sz 0 ∧ o_18 < 108) (bnO (f_X8_isIn g.F μ b 1 9) fun r_19 => if r_19 = 0 then (some 0) else (some 1)))) else if co = 3 then (bnO (f_X7_store g.F μ a) fun r_23 => csQ r_23 (some 0) (fun o_25 => grd (108 ≤ o_25 ∧ o_25 < 108 + g.sz 1 ∧ o_25 < 112) (bnO (f_X8_isIn g.F μ b 1 99) fun r_26 => if r_26 = 0 then (some 0) else (some 1)))) else if co = 4 then (bnO (f_X7_store g.F μ a) fun r_30 => csQ r_30 (some 0) (fun o_32 => grd (108 ≤ o_32 ∧ o_32 < 108 + g.sz 1 ∧ o_32 < 112) (bnO (f_X8_isIn g.F μ b 1 99) fun r_33 => if r_33 = 0 then (some 0) else (some 1)))) else if co = 5 then (bnO (f_X8_isSignal g.F μ a) fun r_37 => grd (r_37 = 0 ∨ r_37 = 1) (some r_37)) else if co = 6 then (bnO (f_X8_isSignal g.F μ a) fun r_41 => grd (r_41 = 0 ∨ r_41 = 1) (some r_41)) else if co = 7 then (bnO (f_X7_script g.F μ a) fun r_45 => csQ r_45 (some 0) (fun o_47 => grd (114 ≤ o_47 ∧ o_47 < 114 + g.sz 2 ∧ o_47 < 122) (bnO (f_X8_isIn g.F μ b 0 9) fun r_48 => if r_48 = 0 then (some 0) else (some 1)))) else if co = 8 then (some 1) else if co = 9 then (bnO (f_X7_tally g μ a) fun r_53 => csQ r_53 (some 0) (fun o_55 => grd (o_55 = 268 ∧ g.tz 0 = 1) (some 1))) else if co = 10 then (bnO (f_X8_isIn g.F μ a 0 15) fun r_57 => if r_57 = 0 then (some 0) else (bnO (f_X8_isIn g.F μ b 0 20) fun r_60 => if r_60 = 0 then (some 0) else (some 1))) else if co = 11 then (some 1) else if co = 12 then (bnO (f_X8_isIn g.F μ a 0 9) fun r_65 => grd (r_65 = 0 ∨ r_65 = 1) (some r_65)) else if co = 13 then (bnO (f_X7_store g.F μ a) fun r_69 => csQ r_69 (some 0) (fun o_71 => grd (108 ≤ o_71 ∧ o_71 < 108 + g.sz 1 ∧ o_71 < 112) (bnO (f_X8_isIn g.F μ b 1 99) fun r_72 => if r_72 = 0 then (some 0) else (some 1)))) else (some 0)
theorem hd_X8_isInstruction : yX8_isInstruction.cls = RX8 ∧ yX8_isInstruction.cls ≠ "java/lang/invoke/MethodHandle" ∧ yX8_isInstruction.cls ≠ "java/lang/invoke/VarHandle" ∧ (parseMethodDescriptor yX8_isInstruction.desc).map (fun d => d.parameters.length) = some 3 := by decide +kernel
set_option maxHeartbeats 4000000 in
set_option maxRecDepth 100000 in
theorem c_X8_isInstruction (l : Launch) {g : Geo} (hg : Good g) (hX : g.tz 1 = 1) (μ : Mem) (co : Int32) (a : Int32) (b : Int32) {r : Int32} (hf : f_X8_isInstruction g μ co a b = some r) : Met l yX8_isInstruction (ws_ yX8_isInstruction cX8_isInstruction 4 (some .boolean)) (rm_ 4 85 0 0) (Pz g [.ref (g.ad 272), .int co, .int a, .int b] (Rg g μ)) (va_Qi (fun (v : Int32) (_ : Unit) => v = r) (fun _ _ => True) (fun _ => False)) 0 0 (fun _ => False) := by
  refine Met.ofW (cc := cX8_isInstruction) (maxL := 4) (ret := (some .boolean)) (by decide) rfl ?_
  intro p e s m args below meth c s₁ B hml hv
  obtain ⟨rfl, hT, hP⟩ := hv
  have hx := B.exec
  have hb := B.bytes
  have hr := B.returns
  have hts : ∀ w ∈ lw_all, w.before _ s = true := fun w h => atoms_spec (ws := (ws_ yX8_isInstruction cX8_isInstruction 4 (some .boolean))) B.pre w (List.mem_cons_of_mem _ h)
  have hown : s.vm.findClass RX8 = some m.cls := findClass_of_methodNamed B.named
  have hlocks := B.notSynchronized
  have hS : va_S (fun _ => False) s.heap s.heap [] := va_S.rf
  have hl := lv_entry ([.ref (g.ad 272), .int co, .int a, .int b]) (n := 4) (Nat.le_of_ble_eq_true rfl)
  rw [lg_entry_eq]
  generalize (lg_sl ([.ref (g.ad 272), .int co, .int a, .int b]) ++ List.replicate (4 - (lg_sl ([.ref (g.ad 272), .int co, .int a, .int b])).length) Slot.unset).toArray = ls at hl ⊢
  have hl : lv_has ls 4 [(0, .ref (g.ad 272)), (1, .int co), (2, .int a), (3, .int b)] := hl
  unfold f_X8_isInstruction at hf
  refine lv_iload_n hx hb dX8_isInstruction_0 rfl (lv_at hl 1 rfl) ?_
  by_cases c_1 : co = 0
  · have hf := (if_pos c_1).symm.trans hf
    refine W.eq (g2 := F0 m 1 ls [.int 0]) (by rw [c_1]) ?_
    refine lv_tableIn (tgt := 72) hx hb dX8_isInstruction_1 (by decide) (by decide) rfl (by decide) ?_
    refine lv_iload_n hx hb dX8_isInstruction_72 rfl (lv_at hl 2 rfl) ?_
    refine lv_iconst (v := 0) hx hb dX8_isInstruction_73 (by decide) ?_
    refine lv_bipush (v := 99) hx hb dX8_isInstruction_74 (by decide) ?_
    obtain ⟨r_2, hc_3, hf⟩ := bnO_some hf
    refine va_calli (va_runS (As := [.int a, .int 0, .int 99]) (rest := []) ⟨hx, hb, hml, hown, hts⟩ (c_X8_isIn l hg μ a 0 99  hc_3) (va_cwS 3 hts (gd_S q242 q243 q37 q244) rfl rfl rfl hd_X8_isIn.2 ⟨Nat.le_of_ble_eq_true rfl, Nat.le_of_ble_eq_true rfl⟩) ⟨Pz.blind, fun U hU hW => ⟨rfl, Tb.warm hW hT, by rw [hU]; exact hP⟩⟩ rfl rfl hl.1 rfl (lv_room (Nat.le_of_ble_eq_true rfl)) dX8_isInstruction_76 ⟨Nat.le_of_ble_eq_true rfl, Nat.le_of_ble_eq_true rfl⟩) hS (fun q _ h => h.elim) (fun q h => h.elim) (fun v9 u9 t9 H locs ht9 hvm9 hw9 hB9 hz9 hk9 hS => ?_)
    have hP := Rg.keep hP (fun q h => hk9 q h id)
    rw [hw9]
    refine lv_if_eq (tgt := 96) hx hb dX8_isInstruction_79 (by decide) (fun c_4 => ?_) (fun c_4 => ?_)
    · have hf := (if_pos c_4).symm.trans hf
      refine lv_iconst (v := 0) hx hb dX8_isInstruction_96 (by decide) ?_
      exact W.zret (v := 0) (ty := .boolean) hx hb hr (by decide) (fun t9 ht hW => ⟨⟨0, (), rfl, Option.some.inj hf, trivial⟩, hS.F ht⟩) hS.2.2 dX8_isInstruction_97
    · have hf := (if_neg c_4).symm.trans hf
      refine lv_iload_n hx hb dX8_isInstruction_82 rfl (lv_at hl 3 rfl) ?_
      refine lv_iconst (v := 0) hx hb dX8_isInstruction_83 (by decide) ?_
      refine lv_bipush (v := 50) hx hb dX8_isInstruction_84 (by decide) ?_
      obtain ⟨r_5, hc_6, hf⟩ := bnO_some hf
      refine va_calli (va_runS (As := [.int b, .int 0, .int 50]) (rest := []) ⟨hx, hb, hml, hown, hts⟩ (c_X8_isIn l hg μ b 0 50  hc_6) (va_cwS 3 hts (gd_S q242 q243 q37 q244) rfl rfl rfl hd_X8_isIn.2 ⟨Nat.le_of_ble_eq_true rfl, Nat.le_of_ble_eq_true rfl⟩) ⟨Pz.blind, fun U hU hW => ⟨rfl, Tb.warm hW hT, by rw [hU]; exact hP⟩⟩ rfl rfl hl.1 rfl (lv_room (Nat.le_of_ble_eq_true rfl)) dX8_isInstruction_86 ⟨Nat.le_of_ble_eq_true rfl, Nat.le_of_ble_eq_true rfl⟩) hS (fun q _ h => h.elim) (fun q h => h.elim) (fun v9 u9 t9 H locs ht9 hvm9 hw9 hB9 hz9 hk9 hS => ?_)
      have hP := Rg.keep hP (fun q h => hk9 q h id)
      rw [hw9]
      refine lv_if_eq (tgt := 96) hx hb dX8_isInstruction_89 (by decide) (fun c_7 => ?_) (fun c_7 => ?_)
      · have hf := (if_pos c_7).symm.trans hf
        refine lv_iconst (v := 0) hx hb dX8_isInstruction_96 (by decide) ?_
        exact W.zret (v := 0) (ty := .boolean) hx hb hr (by decide) (fun t9 ht hW => ⟨⟨0, (), rfl, Option.some.inj hf, trivial⟩, hS.F ht⟩) hS.2.2 dX8_isInstruction_97
      · have hf := (if_neg c_7).symm.trans hf
        refine lv_iconst (v := 1) hx hb dX8_isInstruction_92 (by decide) ?_
        refine lv_goto (tgt := 97) hx hb dX8_isInstruction_93 (by decide) ?_
        exact W.zret (v := 1) (ty := .boolean) hx hb hr (by decide) (fun t9 ht hW => ⟨⟨1, (), rfl, Option.some.inj hf, trivial⟩, hS.F ht⟩) hS.2.2 dX8_isInstruction_97
  have hf := (if_neg c_1).symm.trans hf
  by_cases c_8 : co = 1
  · have hf := (if_pos c_8).symm.trans hf
    refine W.eq (g2 := F0 m 1 ls [.int 1]) (by rw [c_8]) ?_
    refine lv_tableIn (tgt := 98) hx hb dX8_isInstruction_1 (by decide) (by decide) rfl (by decide) ?_
    refine lv_aload_n hx hb dX8_isInstruction_98 rfl (lv_at hl 0 rfl) ?_
    refine r_get hx hb hts i_X8 hown hT hP (inX hX) (fs := (fun _ => [.ref (g.ad 112), .ref (g.ad 266), .ref (g.ad 0), .ref (g.ad 273)])) (obX g) rfl 2 (by decide) q227 (fun _ h9 => h9) rfl dX8_isInstruction_99 ?_
    refine lv_iload_n hx hb dX8_isInstruction_102 rfl (lv_at hl 2 rfl) ?_
    obtain ⟨r_9, hc_10, hf⟩ := bnO_some hf
    refine va_callq (va_runV (As := [.int a]) (rest := []) ⟨hx, hb, hml, hown, hts⟩ (c_X7_resource l hg μ a  hc_10) (cwV 1 hts (gd_V q713 q431 q432 q41 q433) rfl rfl rfl hd_X7_resource ⟨Nat.le_of_ble_eq_true rfl, Nat.le_of_ble_eq_true rfl⟩) ⟨Pz.blind, r_recv hT hP inW (fs := (fsW g)) (obW g) rfl, fun U hU hW => ⟨rfl, Tb.warm hW hT, by rw [hU]; exact hP⟩⟩ rfl rfl hl.1 rfl (lv_room (Nat.le_of_ble_eq_true rfl)) dX8_isInstruction_103 ⟨Nat.le_of_ble_eq_true rfl, Nat.le_of_ble_eq_true rfl⟩) hS (fun q _ h => h.elim) (fun q h => h.elim) (fun v9 u9 t9 H locs ht9 hvm9 hw9 hB9 hz9 hk9 hS => ?_)
    have hP := Rg.keep hP (fun q h => hk9 q h id)
    rw [hw9]
    cases r_9 with
    | none =>
      dsimp only [csQ] at hf
      refine W.eq (g2 := F0 m 106 ls [.null]) rfl ?_
      refine lv_ifnullN (tgt := 123) hx hb dX8_isInstruction_106 (by decide) ?_
      refine lv_iconst (v := 0) hx hb dX8_isInstruction_123 (by decide) ?_
      exact W.zret (v := 0) (ty := .boolean) hx hb hr (by decide) (fun t9 ht hW => ⟨⟨0, (), rfl, Option.some.inj hf, trivial⟩, hS.F ht⟩) hS.2.2 dX8_isInstruction_124
    | some o_11 =>
      dsimp only [csQ] at hf
      obtain ⟨ho_11, hf⟩ := grd_some hf
      refine W.eq (g2 := F0 m 106 ls [.ref (g.ad o_11)]) rfl ?_
      refine lv_ifnull hx hb dX8_isInstruction_106 ?_
      refine lv_iload_n hx hb dX8_isInstruction_109 rfl (lv_at hl 3 rfl) ?_
      refine lv_iconst (v := 1) hx hb dX8_isInstruction_110 (by decide) ?_
      refine lv_bipush (v := 9) hx hb dX8_isInstruction_111 (by decide) ?_
      obtain ⟨r_12, hc_13, hf⟩ := bnO_some hf
      refine va_calli (va_runS (As := [.int b, .int 1, .int 9]) (rest := []) ⟨hx, hb, hml, hown, hts⟩ (c_X8_isIn l hg μ b 1 9  hc_13) (va_cwS 3 hts (gd_S q242 q243 q37 q244) rfl rfl rfl hd_X8_isIn.2 ⟨Nat.le_of_ble_eq_true rfl, Nat.le_of_ble_eq_true rfl⟩) ⟨Pz.blind, fun U hU hW => ⟨rfl, Tb.warm hW hT, by rw [hU]; exact hP⟩⟩ rfl rfl hl.1 rfl (lv_room (Nat.le_of_ble_eq_true rfl)) dX8_isInstruction_113 ⟨Nat.le_of_ble_eq_true rfl, Nat.le_of_ble_eq_true rfl⟩) hS (fun q _ h => h.elim) (fun q h => h.elim) (fun v9 u9 t9 H locs ht9 hvm9 hw9 hB9 hz9 hk9 hS => ?_)
      have hP := Rg.keep hP (fun q h => hk9 q h id)
      rw [hw9]
      refine lv_if_eq (tgt := 123) hx hb dX8_isInstruction_116 (by decide) (fun c_14 => ?_) (fun c_14 => ?_)
      · have hf := (if_pos c_14).symm.trans hf
        refine lv_iconst (v := 0) hx hb dX8_isInstruction_123 (by decide) ?_
        exact W.zret (v := 0) (ty := .boolean) hx hb hr (by decide) (fun t9 ht hW => ⟨⟨0, (), rfl, Option.some.inj hf, trivial⟩, hS.F ht⟩) hS.2.2 dX8_isInstruction_124
      · have hf := (if_neg c_14).symm.trans hf
        refine lv_iconst (v := 1) hx hb dX8_isInstruction_119 (by decide) ?_
        refine lv_goto (tgt := 124) hx hb dX8_isInstruction_120 (by decide) ?_
        exact W.zret (v := 1) (ty := .boolean) hx hb hr (by decide) (fun t9 ht hW => ⟨⟨1, (), rfl, Option.some.inj hf, trivial⟩, hS.F ht⟩) hS.2.2 dX8_isInstruction_124
  have hf := (if_neg c_8).symm.trans hf
  by_cases c_15 : co = 2
  · have hf := (if_pos c_15).symm.trans hf
    refine W.eq (g2 := F0 m 1 ls [.int 2]) (by rw [c_15]) ?_
    refine lv_tableIn (tgt := 98) hx hb dX8_isInstruction_1 (by decide) (by decide) rfl (by decide) ?_
    refine lv_aload_n hx hb dX8_isInstruction_98 rfl (lv_at hl 0 rfl) ?_
    refine r_get hx hb hts i_X8 hown hT hP (inX hX) (fs := (fun _ => [.ref (g.ad 112), .ref (g.ad 266), .ref (g.ad 0), .ref (g.ad 273)])) (obX g) rfl 2 (by decide) q227 (fun _ h9 => h9) rfl dX8_isInstruction_99 ?_
    refine lv_iload_n hx hb dX8_isInstruction_102 rfl (lv_at hl 2 rfl) ?_
    obtain ⟨r_16, hc_17, hf⟩ := bnO_some hf
    refine va_callq (va_runV (As := [.int a]) (rest := []) ⟨hx, hb, hml, hown, hts⟩ (c_X7_resource l hg μ a  hc_17) (cwV 1 hts (gd_V q713 q431 q432 q41 q433) rfl rfl rfl hd_X7_resource ⟨Nat.le_of_ble_eq_true rfl, Nat.le_of_ble_eq_true rfl⟩) ⟨Pz.blind, r_recv hT hP inW (fs := (fsW g)) (obW g) rfl, fun U hU hW => ⟨rfl, Tb.warm hW hT, by rw [hU]; exact hP⟩⟩ rfl rfl hl.1 rfl (lv_room (Nat.le_of_ble_eq_true rfl)) dX8_isInstruction_103 ⟨Nat.le_of_ble_eq_true rfl, Nat.le_of_ble_eq_true rfl⟩) hS (fun q _ h => h.elim) (fun q h => h.elim) (fun v9 u9 t9 H locs ht9 hvm9 hw9 hB9 hz9 hk9 hS => ?_)
    have hP := Rg.keep hP (fun q h => hk9 q h id)
    rw [hw9]
    cases r_16 with
    | none =>
      dsimp only [csQ] at hf
      refine W.eq (g2 := F0 m 106 ls [.null]) rfl ?_
      refine lv_ifnullN (tgt := 123) hx hb dX8_isInstruction_106 (by decide) ?_
      refine lv_iconst (v := 0) hx hb dX8_isInstruction_123 (by decide) ?_
      exact W.zret (v := 0) (ty := .boolean) hx hb hr (by decide) (fun t9 ht hW => ⟨⟨0, (), rfl, Option.some.inj hf, trivial⟩, hS.F ht⟩) hS.2.2 dX8_isInstruction_124
    | some o_18 =>
      dsimp only [csQ] at hf
      obtain ⟨ho_18, hf⟩ := grd_some hf
      refine W.eq (g2 := F0 m 106 ls [.ref (g.ad o_18)]) rfl ?_
      refine lv_ifnull hx hb dX8_isInstruction_106 ?_
      refine lv_iload_n hx hb dX8_isInstruction_109 rfl (lv_at hl 3 rfl) ?_
      refine lv_iconst (v := 1) hx hb dX8_isInstruction_110 (by decide) ?_
      refine lv_bipush (v := 9) hx hb dX8_isInstruction_111 (by decide) ?_
      obtain ⟨r_19, hc_20, hf⟩ := bnO_some hf
      refine va_calli (va_runS (As := [.int b, .int 1, .int 9]) (rest := []) ⟨hx, hb, hml, hown, hts⟩ (c_X8_isIn l hg μ b 1 9  hc_20) (va_cwS 3 hts (gd_S q242 q243 q37 q244) rfl rfl rfl hd_X8_isIn.2 ⟨Nat.le_of_ble_eq_true rfl, Nat.le_of_ble_eq_true rfl⟩) ⟨Pz.blind, fun U hU hW => ⟨rfl, Tb.warm hW hT, by rw [hU]; exact hP⟩⟩ rfl rfl hl.1 rfl (lv_room (Nat.le_of_ble_eq_true rfl)) dX8_isInstruction_113 ⟨Nat.le_of_ble_eq_true rfl, Nat.le_of_ble_eq_true rfl⟩) hS (fun q _ h => h.elim) (fun q h => h.elim) (fun v9 u9 t9 H locs ht9 hvm9 hw9 hB9 hz9 hk9 hS => ?_)
      have hP := Rg.keep hP (fun q h => hk9 q h id)
      rw [hw9]
      refine lv_if_eq (tgt := 123) hx hb dX8_isInstruction_116 (by decide) (fun c_21 => ?_) (fun c_21 => ?_)
      · have hf := (if_pos c_21).symm.trans hf
        refine lv_iconst (v := 0) hx hb dX8_isInstruction_123 (by decide) ?_
        exact W.zret (v := 0) (ty := .boolean) hx hb hr (by decide) (fun t9 ht hW => ⟨⟨0, (), rfl, Option.some.inj hf, trivial⟩, hS.F ht⟩) hS.2.2 dX8_isInstruction_124
      · have hf := (if_neg c_21).symm.trans hf
        refine lv_iconst (v := 1) hx hb dX8_isInstruction_119 (by decide) ?_
        refine lv_goto (tgt := 124) hx hb dX8_isInstruction_120 (by decide) ?_
        exact W.zret (v := 1) (ty := .boolean) hx hb hr (by decide) (fun t9 ht hW => ⟨⟨1, (), rfl, Option.some.inj hf, trivial⟩, hS.F ht⟩) hS.2.2 dX8_isInstruction_124
  have hf := (if_neg c_15).symm.trans hf
  by_cases c_22 : co = 3
  · have hf := (if_pos c_22).symm.trans hf
    refine W.eq (g2 := F0 m 1 ls [.int 3]) (by rw [c_22]) ?_
    refine lv_tableIn (tgt := 125) hx hb dX8_isInstruction_1 (by decide) (by decide) rfl (by decide) ?_
    refine lv_aload_n hx hb dX8_isInstruction_125 rfl (lv_at hl 0 rfl) ?_
    refine r_get hx hb hts i_X8 hown hT hP (inX hX) (fs := (fun _ => [.ref (g.ad 112), .ref (g.ad 266), .ref (g.ad 0), .ref (g.ad 273)])) (obX g) rfl 2 (by decide) q227 (fun _ h9 => h9) rfl dX8_isInstruction_126 ?_
    refine lv_iload_n hx hb dX8_isInstruction_129 rfl (lv_at hl 2 rfl) ?_
    obtain ⟨r_23, hc_24, hf⟩ := bnO_some hf
    refine va_callq (va_runV (As := [.int a]) (rest := []) ⟨hx, hb, hml, hown, hts⟩ (c_X7_store l hg μ a  hc_24) (cwV 1 hts (gd_V q892 q500 q501 q41 q502) rfl rfl rfl hd_X7_store ⟨Nat.le_of_ble_eq_true rfl, Nat.le_of_ble_eq_true rfl⟩) ⟨Pz.blind, r_recv hT hP inW (fs := (fsW g)) (obW g) rfl, fun U hU hW => ⟨rfl, Tb.warm hW hT, by rw [hU]; exact hP⟩⟩ rfl rfl hl.1 rfl (lv_room (Nat.le_of_ble_eq_true rfl)) dX8_isInstruction_130 ⟨Nat.le_of_ble_eq_true rfl, Nat.le_of_ble_eq_true rfl⟩) hS (fun q _ h => h.elim) (fun q h => h.elim) (fun v9 u9 t9 H locs ht9 hvm9 hw9 hB9 hz9 hk9 hS => ?_)
    have hP := Rg.keep hP (fun q h => hk9 q h id)
    rw [hw9]
    cases r_23 with
    | none =>
      dsimp only [csQ] at hf
      refine W.eq (g2 := F0 m 133 ls [.null]) rfl ?_
      refine lv_ifnullN (tgt := 150) hx hb dX8_isInstruction_133 (by decide) ?_
      refine lv_iconst (v := 0) hx hb dX8_isInstruction_150 (by decide) ?_
      exact W.zret (v := 0) (ty := .boolean) hx hb hr (by decide) (fun t9 ht hW => ⟨⟨0, (), rfl, Option.some.inj hf, trivial⟩, hS.F ht⟩) hS.2.2 dX8_isInstruction_151
    | some o_25 =>
      dsimp only [csQ] at hf
      obtain ⟨ho_25, hf⟩ := grd_some hf
      refine W.eq (g2 := F0 m 133 ls [.ref (g.ad o_25)]) rfl ?_
      refine lv_ifnull hx hb dX8_isInstruction_133 ?_
      refine lv_iload_n hx hb dX8_isInstruction_136 rfl (lv_at hl 3 rfl) ?_
      refine lv_iconst (v := 1) hx hb dX8_isInstruction_137 (by decide) ?_
      refine lv_bipush (v := 99) hx hb dX8_isInstruction_138 (by decide) ?_
      obtain ⟨r_26, hc_27, hf⟩ := bnO_some hf
      refine va_calli (va_runS (As := [.int b, .int 1, .int 99]) (rest := []) ⟨hx, hb, hml, hown, hts⟩ (c_X8_isIn l hg μ b 1 99  hc_27) (va_cwS 3 hts (gd_S q242 q243 q37 q244) rfl rfl rfl hd_X8_isIn.2 ⟨Nat.le_of_ble_eq_true rfl, Nat.le_of_ble_eq_true rfl⟩) ⟨Pz.blind, fun U hU hW => ⟨rfl, Tb.warm hW hT, by rw [hU]; exact hP⟩⟩ rfl rfl hl.1 rfl (lv_room (Nat.le_of_ble_eq_true rfl)) dX8_isInstruction_140 ⟨Nat.le_of_ble_eq_true rfl, Nat.le_of_ble_eq_true rfl⟩) hS (fun q _ h => h.elim) (fun q h => h.elim) (fun v9 u9 t9 H locs ht9 hvm9 hw9 hB9 hz9 hk9 hS => ?_)
      have hP := Rg.keep hP (fun q h => hk9 q h id)
      rw [hw9]
      refine lv_if_eq (tgt := 150) hx hb dX8_isInstruction_143 (by decide) (fun c_28 => ?_) (fun c_28 => ?_)
      · have hf := (if_pos c_28).symm.trans hf
        refine lv_iconst (v := 0) hx hb dX8_isInstruction_150 (by decide) ?_
        exact W.zret (v := 0) (ty := .boolean) hx hb hr (by decide) (fun t9 ht hW => ⟨⟨0, (), rfl, Option.some.inj hf, trivial⟩, hS.F ht⟩) hS.2.2 dX8_isInstruction_151
      · have hf := (if_neg c_28).symm.trans hf
        refine lv_iconst (v := 1) hx hb dX8_isInstruction_146 (by decide) ?_
        refine lv_goto (tgt := 151) hx hb dX8_isInstruction_147 (by decide) ?_
        exact W.zret (v := 1) (ty := .boolean) hx hb hr (by decide) (fun t9 ht hW => ⟨⟨1, (), rfl, Option.some.inj hf, trivial⟩, hS.F ht⟩) hS.2.2 dX8_isInstruction_151
  have hf := (if_neg c_22).symm.trans hf
  by_cases c_29 : co = 4
  · have hf := (if_pos c_29).symm.trans hf
    refine W.eq (g2 := F0 m 1 ls [.int 4]) (by rw [c_29]) ?_
    refine lv_tableIn (tgt := 125) hx hb dX8_isInstruction_1 (by decide) (by decide) rfl (by decide) ?_
    refine lv_aload_n hx hb dX8_isInstruction_125 rfl (lv_at hl 0 rfl) ?_
    refine r_get hx hb hts i_X8 hown hT hP (inX hX) (fs := (fun _ => [.ref (g.ad 112), .ref (g.ad 266), .ref (g.ad 0), .ref (g.ad 273)])) (obX g) rfl 2 (by decide) q227 (fun _ h9 => h9) rfl dX8_isInstruction_126 ?_
    refine lv_iload_n hx hb dX8_isInstruction_129 rfl (lv_at hl 2 rfl) ?_
    obtain ⟨r_30, hc_31, hf⟩ := bnO_some hf
    refine va_callq (va_runV (As := [.int a]) (rest := []) ⟨hx, hb, hml, hown, hts⟩ (c_X7_store l hg μ a  hc_31) (cwV 1 hts (gd_V q892 q500 q501 q41 q502) rfl rfl rfl hd_X7_store ⟨Nat.le_of_ble_eq_true rfl, Nat.le_of_ble_eq_true rfl⟩) ⟨Pz.blind, r_recv hT hP inW (fs := (fsW g)) (obW g) rfl, fun U hU hW => ⟨rfl, Tb.warm hW hT, by rw [hU]; exact hP⟩⟩ rfl rfl hl.1 rfl (lv_room (Nat.le_of_ble_eq_true rfl)) dX8_isInstruction_130 ⟨Nat.le_of_ble_eq_true rfl, Nat.le_of_ble_eq_true rfl⟩) hS (fun q _ h => h.elim) (fun q h => h.elim) (fun v9 u9 t9 H locs ht9 hvm9 hw9 hB9 hz9 hk9 hS => ?_)
    have hP := Rg.keep hP (fun q h => hk9 q h id)
    rw [hw9]
    cases r_30 with
    | none =>
      dsimp only [csQ] at hf
      refine W.eq (g2 := F0 m 133 ls [.null]) rfl ?_
      refine lv_ifnullN (tgt := 150) hx hb dX8_isInstruction_133 (by decide) ?_
      refine lv_iconst (v := 0) hx hb dX8_isInstruction_150 (by decide) ?_
      exact W.zret (v := 0) (ty := .boolean) hx hb hr (by decide) (fun t9 ht hW => ⟨⟨0, (), rfl, Option.some.inj hf, trivial⟩, hS.F ht⟩) hS.2.2 dX8_isInstruction_151
    | some o_32 =>
      dsimp only [csQ] at hf
      obtain ⟨ho_32, hf⟩ := grd_some hf
      refine W.eq (g2 := F0 m 133 ls [.ref (g.ad o_32)]) rfl ?_
      refine lv_ifnull hx hb dX8_isInstruction_133 ?_
      refine lv_iload_n hx hb dX8_isInstruction_136 rfl (lv_at hl 3 rfl) ?_
      refine lv_iconst (v := 1) hx hb dX8_isInstruction_137 (by decide) ?_
      refine lv_bipush (v := 99) hx hb dX8_isInstruction_138 (by decide) ?_
      obtain ⟨r_33, hc_34, hf⟩ := bnO_some hf
      refine va_calli (va_runS (As := [.int b, .int 1, .int 99]) (rest := []) ⟨hx, hb, hml, hown, hts⟩ (c_X8_isIn l hg μ b 1 99  hc_34) (va_cwS 3 hts (gd_S q242 q243 q37 q244) rfl rfl rfl hd_X8_isIn.2 ⟨Nat.le_of_ble_eq_true rfl, Nat.le_of_ble_eq_true rfl⟩) ⟨Pz.blind, fun U hU hW => ⟨rfl, Tb.warm hW hT, by rw [hU]; exact hP⟩⟩ rfl rfl hl.1 rfl (lv_room (Nat.le_of_ble_eq_true rfl)) dX8_isInstruction_140 ⟨Nat.le_of_ble_eq_true rfl, Nat.le_of_ble_eq_true rfl⟩) hS (fun q _ h => h.elim) (fun q h => h.elim) (fun v9 u9 t9 H locs ht9 hvm9 hw9 hB9 hz9 hk9 hS => ?_)
      have hP := Rg.keep hP (fun q h => hk9 q h id)
      rw [hw9]
      refine lv_if_eq (tgt := 150) hx hb dX8_isInstruction_143 (by decide) (fun c_35 => ?_) (fun c_35 => ?_)
      · have hf := (if_pos c_35).symm.trans hf
        refine lv_iconst (v := 0) hx hb dX8_isInstruction_150 (by decide) ?_
        exact W.zret (v := 0) (ty := .boolean) hx hb hr (by decide) (fun t9 ht hW => ⟨⟨0, (), rfl, Option.some.inj hf, trivial⟩, hS.F ht⟩) hS.2.2 dX8_isInstruction_151
      · have hf := (if_neg c_35).symm.trans hf
        refine lv_iconst (v := 1) hx hb dX8_isInstruction_146 (by decide) ?_
        refine lv_goto (tgt := 151) hx hb dX8_isInstruction_147 (by decide) ?_
        exact W.zret (v := 1) (ty := .boolean) hx hb hr (by decide) (fun t9 ht hW => ⟨⟨1, (), rfl, Option.some.inj hf, trivial⟩, hS.F ht⟩) hS.2.2 dX8_isInstruction_151
  have hf := (if_neg c_29).symm.trans hf
  by_cases c_36 : co = 5
  · have hf := (if_pos c_36).symm.trans hf
    refine W.eq (g2 := F0 m 1 ls [.int 5]) (by rw [c_36]) ?_
    refine lv_tableIn (tgt := 152) hx hb dX8_isInstruction_1 (by decide) (by decide) rfl (by decide) ?_
    refine lv_iload_n hx hb dX8_isInstruction_152 rfl (lv_at hl 2 rfl) ?_
    obtain ⟨r_37, hc_38, hf⟩ := bnO_some hf
    refine va_calli (va_runS (As := [.int a]) (rest := []) ⟨hx, hb, hml, hown, hts⟩ (c_X8_isSignal l hg μ a  hc_38) (va_cwS 1 hts (gd_S q907 q908 q37 q909) rfl rfl rfl hd_X8_isSignal.2 ⟨Nat.le_of_ble_eq_true rfl, Nat.le_of_ble_eq_true rfl⟩) ⟨Pz.blind, fun U hU hW => ⟨rfl, Tb.warm hW hT, by rw [hU]; exact hP⟩⟩ rfl rfl hl.1 rfl (lv_room (Nat.le_of_ble_eq_true rfl)) dX8_isInstruction_153 ⟨Nat.le_of_ble_eq_true rfl, Nat.le_of_ble_eq_true rfl⟩) hS (fun q _ h => h.elim) (fun q h => h.elim) (fun v9 u9 t9 H locs ht9 hvm9 hw9 hB9 hz9 hk9 hS => ?_)
    have hP := Rg.keep hP (fun q h => hk9 q h id)
    rw [hw9]
    obtain ⟨hb_39, hf⟩ := grd_some hf
    exact W.zret (v := r_37) (ty := .boolean) hx hb hr (nar01 hb_39) (fun t9 ht hW => ⟨⟨r_37, (), rfl, Option.some.inj hf, trivial⟩, hS.F ht⟩) hS.2.2 dX8_isInstruction_156
  have hf := (if_neg c_36).symm.trans hf
  by_cases c_40 : co = 6
  · have hf := (if_pos c_40).symm.trans hf
    refine W.eq (g2 := F0 m 1 ls [.int 6]) (by rw [c_40]) ?_
    refine lv_tableIn (tgt := 152) hx hb dX8_isInstruction_1 (by decide) (by decide) rfl (by decide) ?_
    refine lv_iload_n hx hb dX8_isInstruction_152 rfl (lv_at hl 2 rfl) ?_
    obtain ⟨r_41, hc_42, hf⟩ := bnO_some hf
    refine va_calli (va_runS (As := [.int a]) (rest := []) ⟨hx, hb, hml, hown, hts⟩ (c_X8_isSignal l hg μ a  hc_42) (va_cwS 1 hts (gd_S q907 q908 q37 q909) rfl rfl rfl hd_X8_isSignal.2 ⟨Nat.le_of_ble_eq_true rfl, Nat.le_of_ble_eq_true rfl⟩) ⟨Pz.blind, fun U hU hW => ⟨rfl, Tb.warm hW hT, by rw [hU]; exact hP⟩⟩ rfl rfl hl.1 rfl (lv_room (Nat.le_of_ble_eq_true rfl)) dX8_isInstruction_153 ⟨Nat.le_of_ble_eq_true rfl, Nat.le_of_ble_eq_true rfl⟩) hS (fun q _ h => h.elim) (fun q h => h.elim) (fun v9 u9 t9 H locs ht9 hvm9 hw9 hB9 hz9 hk9 hS => ?_)
    have hP := Rg.keep hP (fun q h => hk9 q h id)
    rw [hw9]
    obtain ⟨hb_43, hf⟩ := grd_some hf
    exact W.zret (v := r_41) (ty := .boolean) hx hb hr (nar01 hb_43) (fun t9 ht hW => ⟨⟨r_41, (), rfl, Option.some.inj hf, trivial⟩, hS.F ht⟩) hS.2.2 dX8_isInstruction_156
  have hf := (if_neg c_40).symm.trans hf
  by_cases c_44 : co = 7
  · have hf := (if_pos c_44).symm.trans hf
    refine W.eq (g2 := F0 m 1 ls [.int 7]) (by rw [c_44]) ?_
    refine lv_tableIn (tgt := 157) hx hb dX8_isInstruction_1 (by decide) (by decide) rfl (by decide) ?_
    refine lv_aload_n hx hb dX8_isInstruction_157 rfl (lv_at hl 0 rfl) ?_
    refine r_get hx hb hts i_X8 hown hT hP (inX hX) (fs := (fun _ => [.ref (g.ad 112), .ref (g.ad 266), .ref (g.ad 0), .ref (g.ad 273)])) (obX g) rfl 2 (by decide) q227 (fun _ h9 => h9) rfl dX8_isInstruction_158 ?_
    refine lv_iload_n hx hb dX8_isInstruction_161 rfl (lv_at hl 2 rfl) ?_
    obtain ⟨r_45, hc_46, hf⟩ := bnO_some hf
    refine va_callq (va_runV (As := [.int a]) (rest := []) ⟨hx, hb, hml, hown, hts⟩ (c_X7_script l hg μ a  hc_46) (cwV 1 hts (gd_V q321 q322 q323 q41 q324) rfl rfl rfl hd_X7_script ⟨Nat.le_of_ble_eq_true rfl, Nat.le_of_ble_eq_true rfl⟩) ⟨Pz.blind, r_recv hT hP inW (fs := (fsW g)) (obW g) rfl, fun U hU hW => ⟨rfl, Tb.warm hW hT, by rw [hU]; exact hP⟩⟩ rfl rfl hl.1 rfl (lv_room (Nat.le_of_ble_eq_true rfl)) dX8_isInstruction_162 ⟨Nat.le_of_ble_eq_true rfl, Nat.le_of_ble_eq_true rfl⟩) hS (fun q _ h => h.elim) (fun q h => h.elim) (fun v9 u9 t9 H locs ht9 hvm9 hw9 hB9 hz9 hk9 hS => ?_)
    have hP := Rg.keep hP (fun q h => hk9 q h id)
    rw [hw9]
    cases r_45 with
    | none =>
      dsimp only [csQ] at hf
      refine W.eq (g2 := F0 m 165 ls [.null]) rfl ?_
      refine lv_ifnullN (tgt := 182) hx hb dX8_isInstruction_165 (by decide) ?_
      refine lv_iconst (v := 0) hx hb dX8_isInstruction_182 (by decide) ?_
      exact W.zret (v := 0) (ty := .boolean) hx hb hr (by decide) (fun t9 ht hW => ⟨⟨0, (), rfl, Option.some.inj hf, trivial⟩, hS.F ht⟩) hS.2.2 dX8_isInstruction_183
    | some o_47 =>
      dsimp only [csQ] at hf
      obtain ⟨ho_47, hf⟩ := grd_some hf
      refine W.eq (g2 := F0 m 165 ls [.ref (g.ad o_47)]) rfl ?_
      refine lv_ifnull hx hb dX8_isInstruction_165 ?_
      refine lv_iload_n hx hb dX8_isInstruction_168 rfl (lv_at hl 3 rfl) ?_
      refine lv_iconst (v := 0) hx hb dX8_isInstruction_169 (by decide) ?_
      refine lv_bipush (v := 9) hx hb dX8_isInstruction_170 (by decide) ?_
      obtain ⟨r_48, hc_49, hf⟩ := bnO_some hf
      refine va_calli (va_runS (As := [.int b, .int 0, .int 9]) (rest := []) ⟨hx, hb, hml, hown, hts⟩ (c_X8_isIn l hg μ b 0 9  hc_49) (va_cwS 3 hts (gd_S q242 q243 q37 q244) rfl rfl rfl hd_X8_isIn.2 ⟨Nat.le_of_ble_eq_true rfl, Nat.le_of_ble_eq_true rfl⟩) ⟨Pz.blind, fun U hU hW => ⟨rfl, Tb.warm hW hT, by rw [hU]; exact hP⟩⟩ rfl rfl hl.1 rfl (lv_room (Nat.le_of_ble_eq_true rfl)) dX8_isInstruction_172 ⟨Nat.le_of_ble_eq_true rfl, Nat.le_of_ble_eq_true rfl⟩) hS (fun q _ h => h.elim) (fun q h => h.elim) (fun v9 u9 t9 H locs ht9 hvm9 hw9 hB9 hz9 hk9 hS => ?_)
      have hP := Rg.keep hP (fun q h => hk9 q h id)
      rw [hw9]
      refine lv_if_eq (tgt := 182) hx hb dX8_isInstruction_175 (by decide) (fun c_50 => ?_) (fun c_50 => ?_)
      · have hf := (if_pos c_50).symm.trans hf
        refine lv_iconst (v := 0) hx hb dX8_isInstruction_182 (by decide) ?_
        exact W.zret (v := 0) (ty := .boolean) hx hb hr (by decide) (fun t9 ht hW => ⟨⟨0, (), rfl, Option.some.inj hf, trivial⟩, hS.F ht⟩) hS.2.2 dX8_isInstruction_183
      · have hf := (if_neg c_50).symm.trans hf
        refine lv_iconst (v := 1) hx hb dX8_isInstruction_178 (by decide) ?_
        refine lv_goto (tgt := 183) hx hb dX8_isInstruction_179 (by decide) ?_
        exact W.zret (v := 1) (ty := .boolean) hx hb hr (by decide) (fun t9 ht hW => ⟨⟨1, (), rfl, Option.some.inj hf, trivial⟩, hS.F ht⟩) hS.2.2 dX8_isInstruction_183
  have hf := (if_neg c_44).symm.trans hf
  by_cases c_51 : co = 8
  · have hf := (if_pos c_51).symm.trans hf
    refine W.eq (g2 := F0 m 1 ls [.int 8]) (by rw [c_51]) ?_
    refine lv_tableIn (tgt := 184) hx hb dX8_isInstruction_1 (by decide) (by decide) rfl (by decide) ?_
    refine lv_iconst (v := 1) hx hb dX8_isInstruction_184 (by decide) ?_
    exact W.zret (v := 1) (ty := .boolean) hx hb hr (by decide) (fun t9 ht hW => ⟨⟨1, (), rfl, Option.some.inj hf, trivial⟩, hS.F ht⟩) hS.2.2 dX8_isInstruction_185
  have hf := (if_neg c_51).symm.trans hf
  by_cases c_52 : co = 9
  · have hf := (if_pos c_52).symm.trans hf
    refine W.eq (g2 := F0 m 1 ls [.int 9]) (by rw [c_52]) ?_
    refine lv_tableIn (tgt := 186) hx hb dX8_isInstruction_1 (by decide) (by decide) rfl (by decide) ?_
    refine lv_aload_n hx hb dX8_isInstruction_186 rfl (lv_at hl 0 rfl) ?_
    refine r_get hx hb hts i_X8 hown hT hP (inX hX) (fs := (fun _ => [.ref (g.ad 112), .ref (g.ad 266), .ref (g.ad 0), .ref (g.ad 273)])) (obX g) rfl 2 (by decide) q227 (fun _ h9 => h9) rfl dX8_isInstruction_187 ?_
    refine lv_iload_n hx hb dX8_isInstruction_190 rfl (lv_at hl 2 rfl) ?_
    obtain ⟨r_53, hc_54, hf⟩ := bnO_some hf
    refine va_callq (va_runV (As := [.int a]) (rest := []) ⟨hx, hb, hml, hown, hts⟩ (c_X7_tally l hg μ a  hc_54) (cwV 1 hts (gd_V q728 q527 q528 q41 q529) rfl rfl rfl hd_X7_tally ⟨Nat.le_of_ble_eq_true rfl, Nat.le_of_ble_eq_true rfl⟩) ⟨Pz.blind, r_recv hT hP inW (fs := (fsW g)) (obW g) rfl, fun U hU hW => ⟨rfl, Tb.warm hW hT, by rw [hU]; exact hP⟩⟩ rfl rfl hl.1 rfl (lv_room (Nat.le_of_ble_eq_true rfl)) dX8_isInstruction_191 ⟨Nat.le_of_ble_eq_true rfl, Nat.le_of_ble_eq_true rfl⟩) hS (fun q _ h => h.elim) (fun q h => h.elim) (fun v9 u9 t9 H locs ht9 hvm9 hw9 hB9 hz9 hk9 hS => ?_)
    have hP := Rg.keep hP (fun q h => hk9 q h id)
    rw [hw9]
    cases r_53 with
    | none =>
      dsimp only [csQ] at hf
      refine W.eq (g2 := F0 m 194 ls [.null]) rfl ?_
      refine lv_ifnullN (tgt := 201) hx hb dX8_isInstruction_194 (by decide) ?_
      refine lv_iconst (v := 0) hx hb dX8_isInstruction_201 (by decide) ?_
      exact W.zret (v := 0) (ty := .boolean) hx hb hr (by decide) (fun t9 ht hW => ⟨⟨0, (), rfl, Option.some.inj hf, trivial⟩, hS.F ht⟩) hS.2.2 dX8_isInstruction_202
    | some o_55 =>
      dsimp only [csQ] at hf
      obtain ⟨ho_55, hf⟩ := grd_some hf
      refine W.eq (g2 := F0 m 194 ls [.ref (g.ad o_55)]) rfl ?_
      refine lv_ifnull hx hb dX8_isInstruction_194 ?_
      refine lv_iconst (v := 1) hx hb dX8_isInstruction_197 (by decide) ?_
      refine lv_goto (tgt := 202) hx hb dX8_isInstruction_198 (by decide) ?_
      exact W.zret (v := 1) (ty := .boolean) hx hb hr (by decide) (fun t9 ht hW => ⟨⟨1, (), rfl, Option.some.inj hf, trivial⟩, hS.F ht⟩) hS.2.2 dX8_isInstruction_202
  have hf := (if_neg c_52).symm.trans hf
  by_cases c_56 : co = 10
  · have hf := (if_pos c_56).symm.trans hf
    refine W.eq (g2 := F0 m 1 ls [.int 10]) (by rw [c_56]) ?_
    refine lv_tableIn (tgt := 203) hx hb dX8_isInstruction_1 (by decide) (by decide) rfl (by decide) ?_
    refine lv_iload_n hx hb dX8_isInstruction_203 rfl (lv_at hl 2 rfl) ?_
    refine lv_iconst (v := 0) hx hb dX8_isInstruction_204 (by decide) ?_
    refine lv_bipush (v := 15) hx hb dX8_isInstruction_205 (by decide) ?_
    obtain ⟨r_57, hc_58, hf⟩ := bnO_some hf
    refine va_calli (va_runS (As := [.int a, .int 0, .int 15]) (rest := []) ⟨hx, hb, hml, hown, hts⟩ (c_X8_isIn l hg μ a 0 15  hc_58) (va_cwS 3 hts (gd_S q242 q243 q37 q244) rfl rfl rfl hd_X8_isIn.2 ⟨Nat.le_of_ble_eq_true rfl, Nat.le_of_ble_eq_true rfl⟩) ⟨Pz.blind, fun U hU hW => ⟨rfl, Tb.warm hW hT, by rw [hU]; exact hP⟩⟩ rfl rfl hl.1 rfl (lv_room (Nat.le_of_ble_eq_true rfl)) dX8_isInstruction_207 ⟨Nat.le_of_ble_eq_true rfl, Nat.le_of_ble_eq_true rfl⟩) hS (fun q _ h => h.elim) (fun q h => h.elim) (fun v9 u9 t9 H locs ht9 hvm9 hw9 hB9 hz9 hk9 hS => ?_)
    have hP := Rg.keep hP (fun q h => hk9 q h id)
    rw [hw9]
    refine lv_if_eq (tgt := 227) hx hb dX8_isInstruction_210 (by decide) (fun c_59 => ?_) (fun c_59 => ?_)
    · have hf := (if_pos c_59).symm.trans hf
      refine lv_iconst (v := 0) hx hb dX8_isInstruction_227 (by decide) ?_
      exact W.zret (v := 0) (ty := .boolean) hx hb hr (by decide) (fun t9 ht hW => ⟨⟨0, (), rfl, Option.some.inj hf, trivial⟩, hS.F ht⟩) hS.2.2 dX8_isInstruction_228
    · have hf := (if_neg c_59).symm.trans hf
      refine lv_iload_n hx hb dX8_isInstruction_213 rfl (lv_at hl 3 rfl) ?_
      refine lv_iconst (v := 0) hx hb dX8_isInstruction_214 (by decide) ?_
      refine lv_bipush (v := 20) hx hb dX8_isInstruction_215 (by decide) ?_
      obtain ⟨r_60, hc_61, hf⟩ := bnO_some hf
      refine va_calli (va_runS (As := [.int b, .int 0, .int 20]) (rest := []) ⟨hx, hb, hml, hown, hts⟩ (c_X8_isIn l hg μ b 0 20  hc_61) (va_cwS 3 hts (gd_S q242 q243 q37 q244) rfl rfl rfl hd_X8_isIn.2 ⟨Nat.le_of_ble_eq_true rfl, Nat.le_of_ble_eq_true rfl⟩) ⟨Pz.blind, fun U hU hW => ⟨rfl, Tb.warm hW hT, by rw [hU]; exact hP⟩⟩ rfl rfl hl.1 rfl (lv_room (Nat.le_of_ble_eq_true rfl)) dX8_isInstruction_217 ⟨Nat.le_of_ble_eq_true rfl, Nat.le_of_ble_eq_true rfl⟩) hS (fun q _ h => h.elim) (fun q h => h.elim) (fun v9 u9 t9 H locs ht9 hvm9 hw9 hB9 hz9 hk9 hS => ?_)
      have hP := Rg.keep hP (fun q h => hk9 q h id)
      rw [hw9]
      refine lv_if_eq (tgt := 227) hx hb dX8_isInstruction_220 (by decide) (fun c_62 => ?_) (fun c_62 => ?_)
      · have hf := (if_pos c_62).symm.trans hf
        refine lv_iconst (v := 0) hx hb dX8_isInstruction_227 (by decide) ?_
        exact W.zret (v := 0) (ty := .boolean) hx hb hr (by decide) (fun t9 ht hW => ⟨⟨0, (), rfl, Option.some.inj hf, trivial⟩, hS.F ht⟩) hS.2.2 dX8_isInstruction_228
      · have hf := (if_neg c_62).symm.trans hf
        refine lv_iconst (v := 1) hx hb dX8_isInstruction_223 (by decide) ?_
        refine lv_goto (tgt := 228) hx hb dX8_isInstruction_224 (by decide) ?_
        exact W.zret (v := 1) (ty := .boolean) hx hb hr (by decide) (fun t9 ht hW => ⟨⟨1, (), rfl, Option.some.inj hf, trivial⟩, hS.F ht⟩) hS.2.2 dX8_isInstruction_228
  have hf := (if_neg c_56).symm.trans hf
  by_cases c_63 : co = 11
  · have hf := (if_pos c_63).symm.trans hf
    refine W.eq (g2 := F0 m 1 ls [.int 11]) (by rw [c_63]) ?_
    refine lv_tableIn (tgt := 184) hx hb dX8_isInstruction_1 (by decide) (by decide) rfl (by decide) ?_
    refine lv_iconst (v := 1) hx hb dX8_isInstruction_184 (by decide) ?_
    exact W.zret (v := 1) (ty := .boolean) hx hb hr (by decide) (fun t9 ht hW => ⟨⟨1, (), rfl, Option.some.inj hf, trivial⟩, hS.F ht⟩) hS.2.2 dX8_isInstruction_185
  have hf := (if_neg c_63).symm.trans hf
  by_cases c_64 : co = 12
  · have hf := (if_pos c_64).symm.trans hf
    refine W.eq (g2 := F0 m 1 ls [.int 12]) (by rw [c_64]) ?_
    refine lv_tableIn (tgt := 229) hx hb dX8_isInstruction_1 (by decide) (by decide) rfl (by decide) ?_
    refine lv_iload_n hx hb dX8_isInstruction_229 rfl (lv_at hl 2 rfl) ?_
    refine lv_iconst (v := 0) hx hb dX8_isInstruction_230 (by decide) ?_
    refine lv_bipush (v := 9) hx hb dX8_isInstruction_231 (by decide) ?_
    obtain ⟨r_65, hc_66, hf⟩ := bnO_some hf
    refine va_calli (va_runS (As := [.int a, .int 0, .int 9]) (rest := []) ⟨hx, hb, hml, hown, hts⟩ (c_X8_isIn l hg μ a 0 9  hc_66) (va_cwS 3 hts (gd_S q242 q243 q37 q244) rfl rfl rfl hd_X8_isIn.2 ⟨Nat.le_of_ble_eq_true rfl, Nat.le_of_ble_eq_true rfl⟩) ⟨Pz.blind, fun U hU hW => ⟨rfl, Tb.warm hW hT, by rw [hU]; exact hP⟩⟩ rfl rfl hl.1 rfl (lv_room (Nat.le_of_ble_eq_true rfl)) dX8_isInstruction_233 ⟨Nat.le_of_ble_eq_true rfl, Nat.le_of_ble_eq_true rfl⟩) hS (fun q _ h => h.elim) (fun q h => h.elim) (fun v9 u9 t9 H locs ht9 hvm9 hw9 hB9 hz9 hk9 hS => ?_)
    have hP := Rg.keep hP (fun q h => hk9 q h id)
    rw [hw9]
    obtain ⟨hb_67, hf⟩ := grd_some hf
    exact W.zret (v := r_65) (ty := .boolean) hx hb hr (nar01 hb_67) (fun t9 ht hW => ⟨⟨r_65, (), rfl, Option.some.inj hf, trivial⟩, hS.F ht⟩) hS.2.2 dX8_isInstruction_236
  have hf := (if_neg c_64).symm.trans hf
  by_cases c_68 : co = 13
  · have hf := (if_pos c_68).symm.trans hf
    refine W.eq (g2 := F0 m 1 ls [.int 13]) (by rw [c_68]) ?_
    refine lv_tableIn (tgt := 125) hx hb dX8_isInstruction_1 (by decide) (by decide) rfl (by decide) ?_
    refine lv_aload_n hx hb dX8_isInstruction_125 rfl (lv_at hl 0 rfl) ?_
    refine r_get hx hb hts i_X8 hown hT hP (inX hX) (fs := (fun _ => [.ref (g.ad 112), .ref (g.ad 266), .ref (g.ad 0), .ref (g.ad 273)])) (obX g) rfl 2 (by decide) q227 (fun _ h9 => h9) rfl dX8_isInstruction_126 ?_
    refine lv_iload_n hx hb dX8_isInstruction_129 rfl (lv_at hl 2 rfl) ?_
    obtain ⟨r_69, hc_70, hf⟩ := bnO_some hf
    refine va_callq (va_runV (As := [.int a]) (rest := []) ⟨hx, hb, hml, hown, hts⟩ (c_X7_store l hg μ a  hc_70) (cwV 1 hts (gd_V q892 q500 q501 q41 q502) rfl rfl rfl hd_X7_store ⟨Nat.le_of_ble_eq_true rfl, Nat.le_of_ble_eq_true rfl⟩) ⟨Pz.blind, r_recv hT hP inW (fs := (fsW g)) (obW g) rfl, fun U hU hW => ⟨rfl, Tb.warm hW hT, by rw [hU]; exact hP⟩⟩ rfl rfl hl.1 rfl (lv_room (Nat.le_of_ble_eq_true rfl)) dX8_isInstruction_130 ⟨Nat.le_of_ble_eq_true rfl, Nat.le_of_ble_eq_true rfl⟩) hS (fun q _ h => h.elim) (fun q h => h.elim) (fun v9 u9 t9 H locs ht9 hvm9 hw9 hB9 hz9 hk9 hS => ?_)
    have hP := Rg.keep hP (fun q h => hk9 q h id)
    rw [hw9]
    cases r_69 with
    | none =>
      dsimp only [csQ] at hf
      refine W.eq (g2 := F0 m 133 ls [.null]) rfl ?_
      refine lv_ifnullN (tgt := 150) hx hb dX8_isInstruction_133 (by decide) ?_
      refine lv_iconst (v := 0) hx hb dX8_isInstruction_150 (by decide) ?_
      exact W.zret (v := 0) (ty := .boolean) hx hb hr (by decide) (fun t9 ht hW => ⟨⟨0, (), rfl, Option.some.inj hf, trivial⟩, hS.F ht⟩) hS.2.2 dX8_isInstruction_151
    | some o_71 =>
      dsimp only [csQ] at hf
      obtain ⟨ho_71, hf⟩ := grd_some hf
      refine W.eq (g2 := F0 m 133 ls [.ref (g.ad o_71)]) rfl ?_
      refine lv_ifnull hx hb dX8_isInstruction_133 ?_
      refine lv_iload_n hx hb dX8_isInstruction_136 rfl (lv_at hl 3 rfl) ?_
      refine lv_iconst (v := 1) hx hb dX8_isInstruction_137 (by decide) ?_
      refine lv_bipush (v := 99) hx hb dX8_isInstruction_138 (by decide) ?_
      obtain ⟨r_72, hc_73, hf⟩ := bnO_some hf
      refine va_calli (va_runS (As := [.int b, .int 1, .int 99]) (rest := []) ⟨hx, hb, hml, hown, hts⟩ (c_X8_isIn l hg μ b 1 99  hc_73) (va_cwS 3 hts (gd_S q242 q243 q37 q244) rfl rfl rfl hd_X8_isIn.2 ⟨Nat.le_of_ble_eq_true rfl, Nat.le_of_ble_eq_true rfl⟩) ⟨Pz.blind, fun U hU hW => ⟨rfl, Tb.warm hW hT, by rw [hU]; exact hP⟩⟩ rfl rfl hl.1 rfl (lv_room (Nat.le_of_ble_eq_true rfl)) dX8_isInstruction_140 ⟨Nat.le_of_ble_eq_true rfl, Nat.le_of_ble_eq_true rfl⟩) hS (fun q _ h => h.elim) (fun q h => h.elim) (fun v9 u9 t9 H locs ht9 hvm9 hw9 hB9 hz9 hk9 hS => ?_)
      have hP := Rg.keep hP (fun q h => hk9 q h id)
      rw [hw9]
      refine lv_if_eq (tgt := 150) hx hb dX8_isInstruction_143 (by decide) (fun c_74 => ?_) (fun c_74 => ?_)
      · have hf := (if_pos c_74).symm.trans hf
        refine lv_iconst (v := 0) hx hb dX8_isInstruction_150 (by decide) ?_
        exact W.zret (v := 0) (ty := .boolean) hx hb hr (by decide) (fun t9 ht hW => ⟨⟨0, (), rfl, Option.some.inj hf, trivial⟩, hS.F ht⟩) hS.2.2 dX8_isInstruction_151
      · have hf := (if_neg c_74).symm.trans hf
        refine lv_iconst (v := 1) hx hb dX8_isInstruction_146 (by decide) ?_
        refine lv_goto (tgt := 151) hx hb dX8_isInstruction_147 (by decide) ?_
        exact W.zret (v := 1) (ty := .boolean) hx hb hr (by decide) (fun t9 ht hW => ⟨⟨1, (), rfl, Option.some.inj hf, trivial⟩, hS.F ht⟩) hS.2.2 dX8_isInstruction_151
  have hf := (if_neg c_68).symm.trans hf
  refine lv_tableOut (tgt := 237) hx hb dX8_isInstruction_1 (sw_out14 c_1 c_8 c_15 c_22 c_29 c_36 c_40 c_44 c_51 c_52 c_56 c_63 c_64 c_68) (by decide) ?_
  refine lv_iconst (v := 0) hx hb dX8_isInstruction_237 (by decide) ?_
  exact W.zret (v := 0) (ty := .boolean) hx hb hr (by decide) (fun t9 ht hW => ⟨⟨0, (), rfl, Option.some.inj hf, trivial⟩, hS.F ht⟩) hS.2.2 dX8_isInstruction_238
/-- "Sandglass" "start" "(III)I" -/
def f_X8_start (g : Fg) (μ : Mem) (sc : Int32) (rk : Int32) (de : Int32) : Option (Mem × Int32) := bnO (f_X8_demandScript g μ sc) fun r_1 => csQ r_1 (bnO (f_X8_isIn g μ rk 0 9) fun r_4 => if r_4 = 0 then none else (bnO (f_X8_isIn g μ de 0 999) fun r_7 => if r_7 = 0 then none else (if (μ 0 5) < 24 then (bnO (f_X7_beginN g μ rk de) fun μ_13 => some (μ_13, (μ_13 0 5) - 1)) else none))) (fun o_3 => grd (114 ≤ o_3 ∧ o_3 < 114 + g.sz 2 ∧ o_3 < 122) (bnO (f_X8_isIn g μ rk 0 9) fun r_14 => if r_14 = 0 then none else (bnO (f_X8_isIn g μ de 0 999) fun r_17 => if r_17 = 0 then none else (if (μ 0 5) < 24 then (bnO (f_X7_beginC g μ o_3 rk de) fun μ_23 => some (μ_23, (μ_23 0 5) - 1)) else none))))
theorem hd_X8_start : yX8_start.cls = RX8 ∧ yX8_start.cls ≠ "java/lang/invoke/MethodHandle" ∧ yX8_start.cls ≠ "java/lang/invoke/VarHandle" ∧ (parseMethodDescriptor yX8_start.desc).map (fun d => d.parameters.length) = some 3 := by decide +kernel
set_option maxHeartbeats 4000000 in
set_option maxRecDepth 100000 in
theorem c_X8_start (l : Launch) {g : Geo} (hg : Good g) (hX : g.tz 1 = 1) (μ : Mem) (sz : Nat) (sc : Int32) (rk : Int32) (de : Int32) {r : Mem × Int32} (hf : f_X8_start g.F μ sc rk de = some r) : Met l yX8_start (ws_ yX8_start cX8_start 5 (some .int)) (rm_ 5 107 0 0) (Pz g [.ref (g.ad 272), .int sc, .int rk, .int de] (fun H9 => H9.size = sz ∧ Rg g μ H9)) (va_Qi (fun (v : Int32) (_ : Unit) => v = r.2) (fun _ t => Rg g r.1 t.heap) (Ag g sz)) 0 0 (Ag g sz) := by
  refine Met.ofW (cc := cX8_start) (maxL := 5) (ret := (some .int)) (by decide) rfl ?_
  intro p e s m args below meth c s₁ B hml hv
  obtain ⟨rfl, hT, hsz, hP⟩ := hv
  have hx := B.exec
  have hb := B.bytes
  have hr := B.returns
  have hts : ∀ w ∈ lw_all, w.before _ s = true := fun w h => atoms_spec (ws := (ws_ yX8_start cX8_start 5 (some .int))) B.pre w (List.mem_cons_of_mem _ h)
  have hown : s.vm.findClass RX8 = some m.cls := findClass_of_methodNamed B.named
  have hlocks := B.notSynchronized
  subst hsz
  have hD := fun ν => Ag.apart hg s.heap.size ν
  have hC := hP.sh
  have hN := Ag.shr hg hP
  have hS : va_S (Ag g s.heap.size) s.heap s.heap [] := va_S.rf
  have hl := lv_entry ([.ref (g.ad 272), .int sc, .int rk, .int de]) (n := 5) (Nat.le_of_ble_eq_true rfl)
  rw [lg_entry_eq]
  generalize (lg_sl ([.ref (g.ad 272), .int sc, .int rk, .int de]) ++ List.replicate (5 - (lg_sl ([.ref (g.ad 272), .int sc, .int rk, .int de])).length) Slot.unset).toArray = ls at hl ⊢
  have hl : lv_has ls 5 [(0, .ref (g.ad 272)), (1, .int sc), (2, .int rk), (3, .int de)] := hl
  unfold f_X8_start at hf
  refine lv_aload_n hx hb dX8_start_0 rfl (lv_at hl 0 rfl) ?_
  refine lv_iload_n hx hb dX8_start_1 rfl (lv_at hl 1 rfl) ?_
  obtain ⟨r_1, hc_2, hf⟩ := bnO_some hf
  refine va_callq (va_runV (As := [.int sc]) (rest := []) ⟨hx, hb, hml, hown, hts⟩ (c_X8_demandScript l hg hX μ sc  hc_2) (cwV 1 hts (gd_V q317 q319 q1 q37 q320) rfl rfl rfl hd_X8_demandScript ⟨Nat.le_of_ble_eq_true rfl, Nat.le_of_ble_eq_true rfl⟩) ⟨Pz.blind, r_recv hT hP (inX hX) (fs := (fun _ => [.ref (g.ad 112), .ref (g.ad 266), .ref (g.ad 0), .ref (g.ad 273)])) (obX g) rfl, fun U hU hW => ⟨rfl, Tb.warm hW hT, by rw [hU]; exact hP⟩⟩ rfl rfl hl.1 rfl (lv_room (Nat.le_of_ble_eq_true rfl)) dX8_start_2 ⟨Nat.le_of_ble_eq_true rfl, Nat.le_of_ble_eq_true rfl⟩) hS (fun q _ h => h.elim) (fun q h => h.elim) (fun v9 u9 t9 H locs ht9 hvm9 hw9 hB9 hz9 hk9 hS => ?_)
  have hP := Rg.keep hP (fun q h => hk9 q h id)
  rw [hw9]
  cases r_1 with
  | none =>
    dsimp only [csQ] at hf
    refine W.eq (g2 := F0 m 5 ls [.null]) rfl ?_
    refine lv_astoreN (lv' := [(4, .null), (0, .ref (g.ad 272)), (1, .int sc), (2, .int rk), (3, .int de)]) hx hb dX8_start_5 hl (by decide) rfl (fun ls hl => ?_)
    refine lv_iload_n hx hb dX8_start_7 rfl (lv_at hl 3 rfl) ?_
    refine lv_iconst (v := 0) hx hb dX8_start_8 (by decide) ?_
    refine lv_bipush (v := 9) hx hb dX8_start_9 (by decide) ?_
    obtain ⟨r_4, hc_5, hf⟩ := bnO_some hf
    refine va_calli (va_runS (As := [.int rk, .int 0, .int 9]) (rest := []) ⟨hx, hb, hml, hown, hts⟩ (c_X8_isIn l hg μ rk 0 9  hc_5) (va_cwS 3 hts (gd_S q242 q243 q37 q244) rfl rfl rfl hd_X8_isIn.2 ⟨Nat.le_of_ble_eq_true rfl, Nat.le_of_ble_eq_true rfl⟩) ⟨Pz.blind, fun U hU hW => ⟨rfl, Tb.warm hW hT, by rw [hU]; exact hP⟩⟩ rfl rfl hl.1 rfl (lv_room (Nat.le_of_ble_eq_true rfl)) dX8_start_11 ⟨Nat.le_of_ble_eq_true rfl, Nat.le_of_ble_eq_true rfl⟩) hS (fun q _ h => h.elim) (fun q h => h.elim) (fun v9 u9 t9 H locs ht9 hvm9 hw9 hB9 hz9 hk9 hS => ?_)
    have hP := Rg.keep hP (fun q h => hk9 q h id)
    rw [hw9]
    refine lv_if_eq (tgt := 28) hx hb dX8_start_14 (by decide) (fun c_6 => ?_) (fun c_6 => ?_)
    · have hf := (if_pos c_6).symm.trans hf
      cases hf
    · have hf := (if_neg c_6).symm.trans hf
      refine lv_iload_n hx hb dX8_start_17 rfl (lv_at hl 4 rfl) ?_
      refine lv_iconst (v := 0) hx hb dX8_start_18 (by decide) ?_
      refine lv_sipush (v := 999) hx hb dX8_start_19 (by decide) ?_
      obtain ⟨r_7, hc_8, hf⟩ := bnO_some hf
      refine va_calli (va_runS (As := [.int de, .int 0, .int 999]) (rest := []) ⟨hx, hb, hml, hown, hts⟩ (c_X8_isIn l hg μ de 0 999  hc_8) (va_cwS 3 hts (gd_S q242 q243 q37 q244) rfl rfl rfl hd_X8_isIn.2 ⟨Nat.le_of_ble_eq_true rfl, Nat.le_of_ble_eq_true rfl⟩) ⟨Pz.blind, fun U hU hW => ⟨rfl, Tb.warm hW hT, by rw [hU]; exact hP⟩⟩ rfl rfl hl.1 rfl (lv_room (Nat.le_of_ble_eq_true rfl)) dX8_start_22 ⟨Nat.le_of_ble_eq_true rfl, Nat.le_of_ble_eq_true rfl⟩) hS (fun q _ h => h.elim) (fun q h => h.elim) (fun v9 u9 t9 H locs ht9 hvm9 hw9 hB9 hz9 hk9 hS => ?_)
      have hP := Rg.keep hP (fun q h => hk9 q h id)
      rw [hw9]
      refine lv_if_ne (tgt := 38) hx hb dX8_start_25 (by decide) (fun c_9 => ?_) (fun c_9 => ?_)
      · have hf := (if_neg c_9).symm.trans hf
        refine lv_aload_n hx hb dX8_start_38 rfl (lv_at hl 1 rfl) ?_
        refine r_get hx hb hts i_X8 hown hT hP (inX hX) (fs := (fun _ => [.ref (g.ad 112), .ref (g.ad 266), .ref (g.ad 0), .ref (g.ad 273)])) (obX g) rfl 2 (by decide) q227 (fun _ h9 => h9) rfl dX8_start_39 ?_
        refine r_get hx hb hts i_X7 hown hT hP inW (fs := (fsW g)) (obW g) rfl 5 (by decide) q196 (fun _ h9 => h9) rfl dX8_start_42 ?_
        refine lv_bipush (v := 24) hx hb dX8_start_45 (by decide) ?_
        refine lv_icmp_lt (tgt := 60) hx hb dX8_start_47 (by decide) (fun c_10 => ?_) (fun c_10 => ?_)
        · have hf := (if_pos c_10).symm.trans hf
          refine lv_aload_n hx hb dX8_start_60 rfl (lv_at hl 1 rfl) ?_
          refine r_get hx hb hts i_X8 hown hT hP (inX hX) (fs := (fun _ => [.ref (g.ad 112), .ref (g.ad 266), .ref (g.ad 0), .ref (g.ad 273)])) (obX g) rfl 2 (by decide) q227 (fun _ h9 => h9) rfl dX8_start_61 ?_
          refine lv_aloadN hx hb dX8_start_64 (lv_at hl 0 rfl) ?_
          refine lv_iload_n hx hb dX8_start_66 rfl (lv_at hl 3 rfl) ?_
          refine lv_iload_n hx hb dX8_start_67 rfl (lv_at hl 4 rfl) ?_
          obtain ⟨μ_13, hc_12, hf⟩ := bnO_some hf
          refine va_callv (va_runV (As := [.null, .int rk, .int de]) (rest := []) ⟨hx, hb, hml, hown, hts⟩ (c_X7_beginN l hg μ H.size rk de  hc_12) (cwV 3 hts (gd_V q377 q378 q379 q41 q380) rfl rfl rfl hd_X7_beginN ⟨Nat.le_of_ble_eq_true rfl, Nat.le_of_ble_eq_true rfl⟩) ⟨Pz.blind, r_recv hT hP inW (fs := (fsW g)) (obW g) rfl, fun U hU hW => ⟨rfl, Tb.warm hW hT, by rw [hU], by rw [hU]; exact hP⟩⟩ rfl rfl hl.1 rfl (lv_room (Nat.le_of_ble_eq_true rfl)) dX8_start_68 ⟨Nat.le_of_ble_eq_true rfl, Nat.le_of_ble_eq_true rfl⟩) hS (fun q _ h => Ag.sub rfl hS q h) (fun q h => Ag.sub rfl hS q h) (fun u9 t9 H locs ht9 hvm9 hw9 hB9 hz9 hk9 hS => ?_)
          have hP : Rg g μ_13 H := by rw [← ht9]; exact hB9
          refine lv_aload_n hx hb dX8_start_71 rfl (lv_at hl 1 rfl) ?_
          refine r_get hx hb hts i_X8 hown hT hP (inX hX) (fs := (fun _ => [.ref (g.ad 112), .ref (g.ad 266), .ref (g.ad 0), .ref (g.ad 273)])) (obX g) rfl 2 (by decide) q227 (fun _ h9 => h9) rfl dX8_start_72 ?_
          refine r_get hx hb hts i_X7 hown hT hP inW (fs := (fsW g)) (obW g) rfl 5 (by decide) q196 (fun _ h9 => h9) rfl dX8_start_75 ?_
          refine lv_iconst (v := 1) hx hb dX8_start_78 (by decide) ?_
          refine lv_isub hx hb dX8_start_79 ?_
          exact W.iret (v := (μ_13 0 5) - 1) hx hb hr (fun t9 ht hW => ⟨⟨(μ_13 0 5) - 1, (), rfl, by show (μ_13 0 5) - 1 = r.2; rw [← Option.some.inj hf], by show Rg g r.1 t9.heap; rw [ht, ← Option.some.inj hf]; exact hP⟩, hS.F ht⟩) hS.2.2 dX8_start_80
        · have hf := (if_neg c_10).symm.trans hf
          cases hf
      · have hf := (if_pos c_9).symm.trans hf
        cases hf
  | some o_3 =>
    dsimp only [csQ] at hf
    obtain ⟨ho_3, hf⟩ := grd_some hf
    refine W.eq (g2 := F0 m 5 ls [.ref (g.ad o_3)]) rfl ?_
    refine lv_astore (lv' := [(4, .ref (g.ad o_3)), (0, .ref (g.ad 272)), (1, .int sc), (2, .int rk), (3, .int de)]) hx hb dX8_start_5 hl (by decide) rfl (fun ls hl => ?_)
    refine lv_iload_n hx hb dX8_start_7 rfl (lv_at hl 3 rfl) ?_
    refine lv_iconst (v := 0) hx hb dX8_start_8 (by decide) ?_
    refine lv_bipush (v := 9) hx hb dX8_start_9 (by decide) ?_
    obtain ⟨r_14, hc_15, hf⟩ := bnO_some hf
    refine va_calli (va_runS (As := [.int rk, .int 0, .int 9]) (rest := []) ⟨hx, hb, hml, hown, hts⟩ (c_X8_isIn l hg μ rk 0 9  hc_15) (va_cwS 3 hts (gd_S q242 q243 q37 q244) rfl rfl rfl hd_X8_isIn.2 ⟨Nat.le_of_ble_eq_true rfl, Nat.le_of_ble_eq_true rfl⟩) ⟨Pz.blind, fun U hU hW => ⟨rfl, Tb.warm hW hT, by rw [hU]; exact hP⟩⟩ rfl rfl hl.1 rfl (lv_room (Nat.le_of_ble_eq_true rfl)) dX8_start_11 ⟨Nat.le_of_ble_eq_true rfl, Nat.le_of_ble_eq_true rfl⟩) hS (fun q _ h => h.elim) (fun q h => h.elim) (fun v9 u9 t9 H locs ht9 hvm9 hw9 hB9 hz9 hk9 hS => ?_)
    have hP := Rg.keep hP (fun q h => hk9 q h id)
    rw [hw9]
    refine lv_if_eq (tgt := 28) hx hb dX8_start_14 (by decide) (fun c_16 => ?_) (fun c_16 => ?_)
    · have hf := (if_pos c_16).symm.trans hf
      cases hf
    · have hf := (if_neg c_16).symm.trans hf
      refine lv_iload_n hx hb dX8_start_17 rfl (lv_at hl 4 rfl) ?_
      refine lv_iconst (v := 0) hx hb dX8_start_18 (by decide) ?_
      refine lv_sipush (v := 999) hx hb dX8_start_19 (by decide) ?_
      obtain ⟨r_17, hc_18, hf⟩ := bnO_some hf
      refine va_calli (va_runS (As := [.int de, .int 0, .int 999]) (rest := []) ⟨hx, hb, hml, hown, hts⟩ (c_X8_isIn l hg μ de 0 999  hc_18) (va_cwS 3 hts (gd_S q242 q243 q37 q244) rfl rfl rfl hd_X8_isIn.2 ⟨Nat.le_of_ble_eq_true rfl, Nat.le_of_ble_eq_true rfl⟩) ⟨Pz.blind, fun U hU hW => ⟨rfl, Tb.warm hW hT, by rw [hU]; exact hP⟩⟩ rfl rfl hl.1 rfl (lv_room (Nat.le_of_ble_eq_true rfl)) dX8_start_22 ⟨Nat.le_of_ble_eq_true rfl, Nat.le_of_ble_eq_true rfl⟩) hS (fun q _ h => h.elim) (fun q h => h.elim) (fun v9 u9 t9 H locs ht9 hvm9 hw9 hB9 hz9 hk9 hS => ?_)
      have hP := Rg.keep hP (fun q h => hk9 q h id)
      rw [hw9]
      refine lv_if_ne (tgt := 38) hx hb dX8_start_25 (by decide) (fun c_19 => ?_) (fun c_19 => ?_)
      · have hf := (if_neg c_19).symm.trans hf
        refine lv_aload_n hx hb dX8_start_38 rfl (lv_at hl 1 rfl) ?_
        refine r_get hx hb hts i_X8 hown hT hP (inX hX) (fs := (fun _ => [.ref (g.ad 112), .ref (g.ad 266), .ref (g.ad 0), .ref (g.ad 273)])) (obX g) rfl 2 (by decide) q227 (fun _ h9 => h9) rfl dX8_start_39 ?_
        refine r_get hx hb hts i_X7 hown hT hP inW (fs := (fsW g)) (obW g) rfl 5 (by decide) q196 (fun _ h9 => h9) rfl dX8_start_42 ?_
        refine lv_bipush (v := 24) hx hb dX8_start_45 (by decide) ?_
        refine lv_icmp_lt (tgt := 60) hx hb dX8_start_47 (by decide) (fun c_20 => ?_) (fun c_20 => ?_)
        · have hf := (if_pos c_20).symm.trans hf
          refine lv_aload_n hx hb dX8_start_60 rfl (lv_at hl 1 rfl) ?_
          refine r_get hx hb hts i_X8 hown hT hP (inX hX) (fs := (fun _ => [.ref (g.ad 112), .ref (g.ad 266), .ref (g.ad 0), .ref (g.ad 273)])) (obX g) rfl 2 (by decide) q227 (fun _ h9 => h9) rfl dX8_start_61 ?_
          refine lv_aload hx hb dX8_start_64 (lv_at hl 0 rfl) ?_
          refine lv_iload_n hx hb dX8_start_66 rfl (lv_at hl 3 rfl) ?_
          refine lv_iload_n hx hb dX8_start_67 rfl (lv_at hl 4 rfl) ?_
          obtain ⟨μ_23, hc_22, hf⟩ := bnO_some hf
          refine va_callv (va_runV (As := [.ref (g.ad o_3), .int rk, .int de]) (rest := []) ⟨hx, hb, hml, hown, hts⟩ (c_X7_beginC l hg μ H.size o_3 rk de ho_3 hc_22) (cwV 3 hts (gd_V q377 q378 q379 q41 q380) rfl rfl rfl hd_X7_beginC ⟨Nat.le_of_ble_eq_true rfl, Nat.le_of_ble_eq_true rfl⟩) ⟨Pz.blind, r_recv hT hP inW (fs := (fsW g)) (obW g) rfl, fun U hU hW => ⟨rfl, Tb.warm hW hT, by rw [hU], by rw [hU]; exact hP⟩⟩ rfl rfl hl.1 rfl (lv_room (Nat.le_of_ble_eq_true rfl)) dX8_start_68 ⟨Nat.le_of_ble_eq_true rfl, Nat.le_of_ble_eq_true rfl⟩) hS (fun q _ h => Ag.sub rfl hS q h) (fun q h => Ag.sub rfl hS q h) (fun u9 t9 H locs ht9 hvm9 hw9 hB9 hz9 hk9 hS => ?_)
          have hP : Rg g μ_23 H := by rw [← ht9]; exact hB9
          refine lv_aload_n hx hb dX8_start_71 rfl (lv_at hl 1 rfl) ?_
          refine r_get hx hb hts i_X8 hown hT hP (inX hX) (fs := (fun _ => [.ref (g.ad 112), .ref (g.ad 266), .ref (g.ad 0), .ref (g.ad 273)])) (obX g) rfl 2 (by decide) q227 (fun _ h9 => h9) rfl dX8_start_72 ?_
          refine r_get hx hb hts i_X7 hown hT hP inW (fs := (fsW g)) (obW g) rfl 5 (by decide) q196 (fun _ h9 => h9) rfl dX8_start_75 ?_
          refine lv_iconst (v := 1) hx hb dX8_start_78 (by decide) ?_
          refine lv_isub hx hb dX8_start_79 ?_
          exact W.iret (v := (μ_23 0 5) - 1) hx hb hr (fun t9 ht hW => ⟨⟨(μ_23 0 5) - 1, (), rfl, by show (μ_23 0 5) - 1 = r.2; rw [← Option.some.inj hf], by show Rg g r.1 t9.heap; rw [ht, ← Option.some.inj hf]; exact hP⟩, hS.F ht⟩) hS.2.2 dX8_start_80
        · have hf := (if_neg c_20).symm.trans hf
          cases hf
      · have hf := (if_pos c_19).symm.trans hf
        cases hf
