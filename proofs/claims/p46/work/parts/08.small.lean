/-- "Sandglass$Proc" "yieldsBefore" "(LSandglass$Proc;I)Z" -/
def f_X2_yieldsBefore (g : Fg) (μ : Mem) (t : Nat) (o : Nat) (rn : Int32) : Option (Int32) := if (μ o 2) < (μ t 2) then (some 1) else (if (μ t 2) = (μ o 2) then (bnO (f_X8_at g μ (t + 72) rn) fun r_3 => bnO (f_X8_at g μ (o + 72) rn) fun r_5 => if r_3 ≤ r_5 then (some 0) else (some 1)) else (some 0))
theorem hd_X2_yieldsBefore : yX2_yieldsBefore.cls = RX2 ∧ yX2_yieldsBefore.cls ≠ "java/lang/invoke/MethodHandle" ∧ yX2_yieldsBefore.cls ≠ "java/lang/invoke/VarHandle" ∧ (parseMethodDescriptor yX2_yieldsBefore.desc).map (fun d => d.parameters.length) = some 2 := by decide +kernel
set_option maxHeartbeats 4000000 in
set_option maxRecDepth 100000 in
theorem c_X2_yieldsBefore (l : Launch) {g : Geo} (hg : Good g) (μ : Mem) (t : Nat) (o : Nat) (rn : Int32) (ht : isP t) (ho : isP o) {r : Int32} (hf : f_X2_yieldsBefore g.F μ t o rn = some r) : Met l yX2_yieldsBefore (ws_ yX2_yieldsBefore cX2_yieldsBefore 3 (some .boolean)) (rm_ 1 21 0 0) (Pz g [.ref (g.ad t), .ref (g.ad o), .int rn] (Rg g μ)) (va_Qi (fun (v : Int32) (_ : Unit) => v = r) (fun _ _ => True) (fun _ => False)) 0 0 (fun _ => False) := by
  refine Met.ofW (cc := cX2_yieldsBefore) (maxL := 3) (ret := (some .boolean)) (by decide) rfl ?_
  intro p e s m args below meth c s₁ B hml hv
  obtain ⟨rfl, hT, hP⟩ := hv
  have hx := B.exec
  have hb := B.bytes
  have hr := B.returns
  have hts : ∀ w ∈ lw_all, w.before _ s = true := fun w h => atoms_spec (ws := (ws_ yX2_yieldsBefore cX2_yieldsBefore 3 (some .boolean))) B.pre w (List.mem_cons_of_mem _ h)
  have hown : s.vm.findClass RX2 = some m.cls := findClass_of_methodNamed B.named
  have hlocks := B.notSynchronized
  have hS : va_S (fun _ => False) s.heap s.heap [] := va_S.rf
  have hl := lv_entry ([.ref (g.ad t), .ref (g.ad o), .int rn]) (n := 3) (Nat.le_of_ble_eq_true rfl)
  rw [lg_entry_eq]
  generalize (lg_sl ([.ref (g.ad t), .ref (g.ad o), .int rn]) ++ List.replicate (3 - (lg_sl ([.ref (g.ad t), .ref (g.ad o), .int rn])).length) Slot.unset).toArray = ls at hl ⊢
  have hl : lv_has ls 3 [(0, .ref (g.ad t)), (1, .ref (g.ad o)), (2, .int rn)] := hl
  unfold f_X2_yieldsBefore at hf
  refine lv_aload_n hx hb dX2_yieldsBefore_0 rfl (lv_at hl 0 rfl) ?_
  refine r_get hx hb hts i_X2 hown hT hP (inP ht) (fs := (fsP g t)) (obP ht) rfl 2 (by decide) q115 (fun _ h9 => h9) rfl dX2_yieldsBefore_1 ?_
  refine lv_aload_n hx hb dX2_yieldsBefore_4 rfl (lv_at hl 1 rfl) ?_
  refine r_get hx hb hts i_X2 hown hT hP (inP ho) (fs := (fsP g o)) (obP ho) rfl 2 (by decide) q115 (fun _ h9 => h9) rfl dX2_yieldsBefore_5 ?_
  refine lv_icmp_gt (tgt := 41) hx hb dX2_yieldsBefore_8 (by decide) (fun c_1 => ?_) (fun c_1 => ?_)
  · have hf := (if_pos c_1).symm.trans hf
    refine lv_iconst (v := 1) hx hb dX2_yieldsBefore_41 (by decide) ?_
    refine lv_goto (tgt := 46) hx hb dX2_yieldsBefore_42 (by decide) ?_
    exact W.zret (v := 1) (ty := .boolean) hx hb hr (by decide) (fun t9 ht hW => ⟨⟨1, (), rfl, Option.some.inj hf, trivial⟩, hS.F ht⟩) hS.2.2 dX2_yieldsBefore_46
  · have hf := (if_neg c_1).symm.trans hf
    refine lv_aload_n hx hb dX2_yieldsBefore_11 rfl (lv_at hl 0 rfl) ?_
    refine r_get hx hb hts i_X2 hown hT hP (inP ht) (fs := (fsP g t)) (obP ht) rfl 2 (by decide) q115 (fun _ h9 => h9) rfl dX2_yieldsBefore_12 ?_
    refine lv_aload_n hx hb dX2_yieldsBefore_15 rfl (lv_at hl 1 rfl) ?_
    refine r_get hx hb hts i_X2 hown hT hP (inP ho) (fs := (fsP g o)) (obP ho) rfl 2 (by decide) q115 (fun _ h9 => h9) rfl dX2_yieldsBefore_16 ?_
    refine lv_icmp_ne (tgt := 45) hx hb dX2_yieldsBefore_19 (by decide) (fun c_2 => ?_) (fun c_2 => ?_)
    · have hf := (if_neg c_2).symm.trans hf
      refine lv_iconst (v := 0) hx hb dX2_yieldsBefore_45 (by decide) ?_
      exact W.zret (v := 0) (ty := .boolean) hx hb hr (by decide) (fun t9 ht hW => ⟨⟨0, (), rfl, Option.some.inj hf, trivial⟩, hS.F ht⟩) hS.2.2 dX2_yieldsBefore_46
    · have hf := (if_pos c_2).symm.trans hf
      refine lv_aload_n hx hb dX2_yieldsBefore_22 rfl (lv_at hl 0 rfl) ?_
      refine r_get hx hb hts i_X2 hown hT hP (inP ht) (fs := (fsP g t)) (obP ht) rfl 16 (by decide) q150 (fun _ h9 => h9) rfl dX2_yieldsBefore_23 ?_
      refine lv_iload_n hx hb dX2_yieldsBefore_26 rfl (lv_at hl 2 rfl) ?_
      obtain ⟨r_3, hc_4, hf⟩ := bnO_some hf
      refine va_calli (va_runSN (As := [.ref (g.ad (t + 72)), .int rn]) (rest := []) ⟨hx, hb, hml, hown, hts⟩ (c_X8_at l hg μ (t + 72) rn (show isP _ from ht).got hc_4) ⟨va_cnB 2 hts (gd_code q464) rfl rfl rfl (hT.2.1 _ nst_1) (hts _ q37) hd_X8_at.2 ⟨Nat.le_of_ble_eq_true rfl, Nat.le_of_ble_eq_true rfl⟩, hts _ q463, trivial⟩ ⟨Pz.blind, fun U hU hW => ⟨rfl, Tb.warm hW hT, by rw [hU]; exact hP⟩⟩ rfl rfl hl.1 rfl (lv_room (Nat.le_of_ble_eq_true rfl)) dX2_yieldsBefore_27 ⟨Nat.le_of_ble_eq_true rfl, Nat.le_of_ble_eq_true rfl⟩) hS (fun q _ h => h.elim) (fun q h => h.elim) (fun v9 u9 t9 H locs ht9 hvm9 hw9 hB9 hz9 hk9 hS => ?_)
      have hP := Rg.keep hP (fun q h => hk9 q h id)
      rw [hw9]
      refine lv_aload_n hx hb dX2_yieldsBefore_30 rfl (lv_at hl 1 rfl) ?_
      refine r_get hx hb hts i_X2 hown hT hP (inP ho) (fs := (fsP g o)) (obP ho) rfl 16 (by decide) q150 (fun _ h9 => h9) rfl dX2_yieldsBefore_31 ?_
      refine lv_iload_n hx hb dX2_yieldsBefore_34 rfl (lv_at hl 2 rfl) ?_
      obtain ⟨r_5, hc_6, hf⟩ := bnO_some hf
      refine va_calli (va_runSN (As := [.ref (g.ad (o + 72)), .int rn]) (rest := [.int r_3]) ⟨hx, hb, hml, hown, hts⟩ (c_X8_at l hg μ (o + 72) rn (show isP _ from ho).got hc_6) ⟨va_cnB 2 hts (gd_code q464) rfl rfl rfl (hT.2.1 _ nst_1) (hts _ q37) hd_X8_at.2 ⟨Nat.le_of_ble_eq_true rfl, Nat.le_of_ble_eq_true rfl⟩, hts _ q463, trivial⟩ ⟨Pz.blind, fun U hU hW => ⟨rfl, Tb.warm hW hT, by rw [hU]; exact hP⟩⟩ rfl rfl hl.1 rfl (lv_room (Nat.le_of_ble_eq_true rfl)) dX2_yieldsBefore_35 ⟨Nat.le_of_ble_eq_true rfl, Nat.le_of_ble_eq_true rfl⟩) hS (fun q _ h => h.elim) (fun q h => h.elim) (fun v9 u9 t9 H locs ht9 hvm9 hw9 hB9 hz9 hk9 hS => ?_)
      have hP := Rg.keep hP (fun q h => hk9 q h id)
      rw [hw9]
      refine lv_icmp_le (tgt := 45) hx hb dX2_yieldsBefore_38 (by decide) (fun c_7 => ?_) (fun c_7 => ?_)
      · have hf := (if_pos c_7).symm.trans hf
        refine lv_iconst (v := 0) hx hb dX2_yieldsBefore_45 (by decide) ?_
        exact W.zret (v := 0) (ty := .boolean) hx hb hr (by decide) (fun t9 ht hW => ⟨⟨0, (), rfl, Option.some.inj hf, trivial⟩, hS.F ht⟩) hS.2.2 dX2_yieldsBefore_46
      · have hf := (if_neg c_7).symm.trans hf
        refine lv_iconst (v := 1) hx hb dX2_yieldsBefore_41 (by decide) ?_
        refine lv_goto (tgt := 46) hx hb dX2_yieldsBefore_42 (by decide) ?_
        exact W.zret (v := 1) (ty := .boolean) hx hb hr (by decide) (fun t9 ht hW => ⟨⟨1, (), rfl, Option.some.inj hf, trivial⟩, hS.F ht⟩) hS.2.2 dX2_yieldsBefore_46
/-- "Sandglass$Proc" "heldInAll" "()I" -/
def b_X2_heldInAll_13 (g : Fg) : Nat → Mem → Int32 → Nat → Int32 → Int32 → Option (Int32)
  | 0, _, _, _, _, _ => none
  | n + 1, μ, x1, x2, x3, x4 => if x3 ≤ x4 then (some x1) else (grd (¬ (x4 < 0 ∨ alen x2 ≤ x4.toNatClampNeg)) (b_X2_heldInAll_13 g n μ (x1 + (μ x2 x4.toNatClampNeg)) x2 x3 (x4 + 1)))
def f_X2_heldInAll (g : Fg) (μ : Mem) (t : Nat) : Option (Int32) := b_X2_heldInAll_13 g fu μ 0 (t + 48) (nI (alen (t + 48))) 0
theorem hd_X2_heldInAll : yX2_heldInAll.cls = RX2 ∧ yX2_heldInAll.cls ≠ "java/lang/invoke/MethodHandle" ∧ yX2_heldInAll.cls ≠ "java/lang/invoke/VarHandle" ∧ (parseMethodDescriptor yX2_heldInAll.desc).map (fun d => d.parameters.length) = some 0 := by decide +kernel
set_option maxHeartbeats 4000000 in
set_option maxRecDepth 100000 in
theorem c_X2_heldInAll (l : Launch) {g : Geo} (hg : Good g) (μ : Mem) (t : Nat) (ht : isP t) {r : Int32} (hf : f_X2_heldInAll g.F μ t = some r) : Met l yX2_heldInAll (ws_ yX2_heldInAll cX2_heldInAll 6 (some .int)) (rm_ 0 0 0 0) (Pz g [.ref (g.ad t)] (Rg g μ)) (va_Qi (fun (v : Int32) (_ : Unit) => v = r) (fun _ _ => True) (fun _ => False)) 0 0 (fun _ => False) := by
  refine Met.ofW (cc := cX2_heldInAll) (maxL := 6) (ret := (some .int)) (by decide) rfl ?_
  intro p e s m args below meth c s₁ B hml hv
  obtain ⟨rfl, hT, hP⟩ := hv
  have hx := B.exec
  have hb := B.bytes
  have hr := B.returns
  have hts : ∀ w ∈ lw_all, w.before _ s = true := fun w h => atoms_spec (ws := (ws_ yX2_heldInAll cX2_heldInAll 6 (some .int))) B.pre w (List.mem_cons_of_mem _ h)
  have hown : s.vm.findClass RX2 = some m.cls := findClass_of_methodNamed B.named
  have hlocks := B.notSynchronized
  have hS : va_S (fun _ => False) s.heap s.heap [] := va_S.rf
  have L13 : ∀ (n : Nat) (μ : Mem) (x1 : Int32) (x2 : Nat) (x3 : Int32) (x4 : Int32) (H : Heap) (locs : List Loc) (ls : Array Slot), Rg g μ H → va_S (fun _ => False) s.heap H locs → lv_has ls 6 [(1, .int x1), (2, .ref (g.ad x2)), (3, .int x3), (4, .int x4)] → isA x2 → b_X2_heldInAll_13 g.F n μ x1 x2 x3 x4 = some r → W p l e (headSpec (ws_ yX2_heldInAll cX2_heldInAll 6 (some .int)) (rm_ 0 0 0 0)).room s m ([.ref (g.ad t)] : List Value).toArray below meth c H locs 0 0 (MQ below (va_Qi (fun (v : Int32) (_ : Unit) => v = r) (fun _ _ => True) (fun _ => False)) ([.ref (g.ad t)] : List Value).toArray s 0 0 (fun _ => False)) (F0 m 13 ls []) := by
    intro n
    induction n with
    | zero => intro μ x1 x2 x3 x4 H locs ls hP hS hl hx2 hf; cases hf
    | succ n ih =>
      intro μ x1 x2 x3 x4 H locs ls hP hS hl hx2 hf
      rw [b_X2_heldInAll_13] at hf
      refine lv_iload hx hb dX2_heldInAll_13 (lv_at hl 3 rfl) ?_
      refine lv_iload_n hx hb dX2_heldInAll_15 rfl (lv_at hl 2 rfl) ?_
      refine lv_icmp_ge (tgt := 36) hx hb dX2_heldInAll_16 (by decide) (fun c_1 => ?_) (fun c_1 => ?_)
      · have hf := (if_pos c_1).symm.trans hf
        refine lv_iload_n hx hb dX2_heldInAll_36 rfl (lv_at hl 0 rfl) ?_
        exact W.iret (v := x1) hx hb hr (fun t9 ht hW => ⟨⟨x1, (), rfl, Option.some.inj hf, trivial⟩, hS.F ht⟩) hS.2.2 dX2_heldInAll_37
      · have hf := (if_neg c_1).symm.trans hf
        refine lv_aload_n hx hb dX2_heldInAll_19 rfl (lv_at hl 1 rfl) ?_
        refine lv_iload hx hb dX2_heldInAll_20 (lv_at hl 3 rfl) ?_
        obtain ⟨hi_2, hf⟩ := grd_some hf
        refine r_iald hx hb hT hP hx2 hi_2 dX2_heldInAll_22 ?_
        refine lv_istore (lv' := [(5, .int (μ x2 x4.toNatClampNeg)), (1, .int x1), (2, .ref (g.ad x2)), (3, .int x3), (4, .int x4)]) hx hb dX2_heldInAll_23 hl (by decide) rfl (fun ls hl => ?_)
        refine lv_iload_n hx hb dX2_heldInAll_25 rfl (lv_at hl 1 rfl) ?_
        refine lv_iload hx hb dX2_heldInAll_26 (lv_at hl 0 rfl) ?_
        refine lv_iadd hx hb dX2_heldInAll_28 ?_
        refine lv_istore_n (lv' := [(1, .int (x1 + (μ x2 x4.toNatClampNeg))), (5, .int (μ x2 x4.toNatClampNeg)), (2, .ref (g.ad x2)), (3, .int x3), (4, .int x4)]) hx hb dX2_heldInAll_29 rfl hl (by decide) rfl (fun ls hl => ?_)
        refine lv_iinc (v := x4 + 1) (lv' := [(4, .int (x4 + 1)), (1, .int (x1 + (μ x2 x4.toNatClampNeg))), (5, .int (μ x2 x4.toNatClampNeg)), (2, .ref (g.ad x2)), (3, .int x3)]) hx hb dX2_heldInAll_30 hl (k := 4) rfl rfl (by decide) rfl (fun ls hl => ?_)
        refine lv_goto (tgt := 13) hx hb dX2_heldInAll_33 (by decide) ?_
        exact ih μ (x1 + (μ x2 x4.toNatClampNeg)) x2 x3 (x4 + 1) _ _ _ hP hS (lv_sub hl [1, 3, 4, 0] rfl) hx2 hf
  have hl := lv_entry ([.ref (g.ad t)]) (n := 6) (Nat.le_of_ble_eq_true rfl)
  rw [lg_entry_eq]
  generalize (lg_sl ([.ref (g.ad t)]) ++ List.replicate (6 - (lg_sl ([.ref (g.ad t)])).length) Slot.unset).toArray = ls at hl ⊢
  have hl : lv_has ls 6 [(0, .ref (g.ad t))] := hl
  unfold f_X2_heldInAll at hf
  refine lv_iconst (v := 0) hx hb dX2_heldInAll_0 (by decide) ?_
  refine lv_istore_n (lv' := [(1, .int 0), (0, .ref (g.ad t))]) hx hb dX2_heldInAll_1 rfl hl (by decide) rfl (fun ls hl => ?_)
  refine lv_aload_n hx hb dX2_heldInAll_2 rfl (lv_at hl 1 rfl) ?_
  refine r_get hx hb hts i_X2 hown hT hP (inP ht) (fs := (fsP g t)) (obP ht) rfl 15 (by decide) q147 (fun _ h9 => h9) rfl dX2_heldInAll_3 ?_
  refine lv_astore_n (lv' := [(2, .ref (g.ad (t + 48))), (1, .int 0), (0, .ref (g.ad t))]) hx hb dX2_heldInAll_6 rfl hl (by decide) rfl (fun ls hl => ?_)
  refine lv_aload_n hx hb dX2_heldInAll_7 rfl (lv_at hl 0 rfl) ?_
  refine r_alenA hx hb hT hP (show isP _ from ht).hld dX2_heldInAll_8 ?_
  refine lv_istore_n (lv' := [(3, .int (nI (alen (t + 48)))), (2, .ref (g.ad (t + 48))), (1, .int 0), (0, .ref (g.ad t))]) hx hb dX2_heldInAll_9 rfl hl (by decide) rfl (fun ls hl => ?_)
  refine lv_iconst (v := 0) hx hb dX2_heldInAll_10 (by decide) ?_
  refine lv_istore (lv' := [(4, .int 0), (3, .int (nI (alen (t + 48)))), (2, .ref (g.ad (t + 48))), (1, .int 0), (0, .ref (g.ad t))]) hx hb dX2_heldInAll_11 hl (by decide) rfl (fun ls hl => ?_)
  exact L13 fu μ 0 (t + 48) (nI (alen (t + 48))) 0 _ _ _ hP hS (lv_sub hl [3, 2, 1, 0] rfl) (show isP _ from ht).hld hf
/-- "Sandglass$Store" "row" "(Z)I" -/
def f_X5_row (g : Fg) (μ : Mem) (t : Nat) (get : Int32) : Option (Int32) := if get = 0 then (some ((μ t 0) + 6)) else (some ((μ t 0) + 10))
theorem hd_X5_row : yX5_row.cls = RX5 ∧ yX5_row.cls ≠ "java/lang/invoke/MethodHandle" ∧ yX5_row.cls ≠ "java/lang/invoke/VarHandle" ∧ (parseMethodDescriptor yX5_row.desc).map (fun d => d.parameters.length) = some 1 := by decide +kernel
set_option maxHeartbeats 4000000 in
set_option maxRecDepth 100000 in
theorem c_X5_row (l : Launch) {g : Geo} (hg : Good g) (μ : Mem) (t : Nat) (get : Int32) (ht : isS g t) {r : Int32} (hf : f_X5_row g.F μ t get = some r) : Met l yX5_row (ws_ yX5_row cX5_row 2 (some .int)) (rm_ 0 0 0 0) (Pz g [.ref (g.ad t), .int get] (Rg g μ)) (va_Qi (fun (v : Int32) (_ : Unit) => v = r) (fun _ _ => True) (fun _ => False)) 0 0 (fun _ => False) := by
  refine Met.ofW (cc := cX5_row) (maxL := 2) (ret := (some .int)) (by decide) rfl ?_
  intro p e s m args below meth c s₁ B hml hv
  obtain ⟨rfl, hT, hP⟩ := hv
  have hx := B.exec
  have hb := B.bytes
  have hr := B.returns
  have hts : ∀ w ∈ lw_all, w.before _ s = true := fun w h => atoms_spec (ws := (ws_ yX5_row cX5_row 2 (some .int))) B.pre w (List.mem_cons_of_mem _ h)
  have hown : s.vm.findClass RX5 = some m.cls := findClass_of_methodNamed B.named
  have hlocks := B.notSynchronized
  have hS : va_S (fun _ => False) s.heap s.heap [] := va_S.rf
  have hl := lv_entry ([.ref (g.ad t), .int get]) (n := 2) (Nat.le_of_ble_eq_true rfl)
  rw [lg_entry_eq]
  generalize (lg_sl ([.ref (g.ad t), .int get]) ++ List.replicate (2 - (lg_sl ([.ref (g.ad t), .int get])).length) Slot.unset).toArray = ls at hl ⊢
  have hl : lv_has ls 2 [(0, .ref (g.ad t)), (1, .int get)] := hl
  unfold f_X5_row at hf
  refine lv_aload_n hx hb dX5_row_0 rfl (lv_at hl 0 rfl) ?_
  refine r_get hx hb hts i_X5 hown hT hP (inS ht) (fs := fsS) (obS ht) rfl 0 (by decide) q994 (fun _ h9 => h9) rfl dX5_row_1 ?_
  refine lv_iload_n hx hb dX5_row_4 rfl (lv_at hl 1 rfl) ?_
  refine lv_if_eq (tgt := 13) hx hb dX5_row_5 (by decide) (fun c_1 => ?_) (fun c_1 => ?_)
  · have hf := (if_pos c_1).symm.trans hf
    refine lv_bipush (v := 6) hx hb dX5_row_13 (by decide) ?_
    refine lv_iadd hx hb dX5_row_15 ?_
    exact W.iret (v := (μ t 0) + 6) hx hb hr (fun t9 ht hW => ⟨⟨(μ t 0) + 6, (), rfl, Option.some.inj hf, trivial⟩, hS.F ht⟩) hS.2.2 dX5_row_16
  · have hf := (if_neg c_1).symm.trans hf
    refine lv_bipush (v := 10) hx hb dX5_row_8 (by decide) ?_
    refine lv_goto (tgt := 15) hx hb dX5_row_10 (by decide) ?_
    refine lv_iadd hx hb dX5_row_15 ?_
    exact W.iret (v := (μ t 0) + 10) hx hb hr (fun t9 ht hW => ⟨⟨(μ t 0) + 10, (), rfl, Option.some.inj hf, trivial⟩, hS.F ht⟩) hS.2.2 dX5_row_16
/-- "Sandglass$Store" "allows" "(I)Z" -/
def f_X5_allows (g : Fg) (μ : Mem) (t : Nat) (ch : Int32) : Option (Int32) := bnO (f_X8_isIn g μ ((μ t 2) + ch) 0 (μ t 1)) fun r_1 => grd (r_1 = 0 ∨ r_1 = 1) (some r_1)
theorem hd_X5_allows : yX5_allows.cls = RX5 ∧ yX5_allows.cls ≠ "java/lang/invoke/MethodHandle" ∧ yX5_allows.cls ≠ "java/lang/invoke/VarHandle" ∧ (parseMethodDescriptor yX5_allows.desc).map (fun d => d.parameters.length) = some 1 := by decide +kernel
set_option maxHeartbeats 4000000 in
set_option maxRecDepth 100000 in
theorem c_X5_allows (l : Launch) {g : Geo} (hg : Good g) (μ : Mem) (t : Nat) (ch : Int32) (ht : isS g t) {r : Int32} (hf : f_X5_allows g.F μ t ch = some r) : Met l yX5_allows (ws_ yX5_allows cX5_allows 2 (some .boolean)) (rm_ 1 22 0 0) (Pz g [.ref (g.ad t), .int ch] (Rg g μ)) (va_Qi (fun (v : Int32) (_ : Unit) => v = r) (fun _ _ => True) (fun _ => False)) 0 0 (fun _ => False) := by
  refine Met.ofW (cc := cX5_allows) (maxL := 2) (ret := (some .boolean)) (by decide) rfl ?_
  intro p e s m args below meth c s₁ B hml hv
  obtain ⟨rfl, hT, hP⟩ := hv
  have hx := B.exec
  have hb := B.bytes
  have hr := B.returns
  have hts : ∀ w ∈ lw_all, w.before _ s = true := fun w h => atoms_spec (ws := (ws_ yX5_allows cX5_allows 2 (some .boolean))) B.pre w (List.mem_cons_of_mem _ h)
  have hown : s.vm.findClass RX5 = some m.cls := findClass_of_methodNamed B.named
  have hlocks := B.notSynchronized
  have hS : va_S (fun _ => False) s.heap s.heap [] := va_S.rf
  have hl := lv_entry ([.ref (g.ad t), .int ch]) (n := 2) (Nat.le_of_ble_eq_true rfl)
  rw [lg_entry_eq]
  generalize (lg_sl ([.ref (g.ad t), .int ch]) ++ List.replicate (2 - (lg_sl ([.ref (g.ad t), .int ch])).length) Slot.unset).toArray = ls at hl ⊢
  have hl : lv_has ls 2 [(0, .ref (g.ad t)), (1, .int ch)] := hl
  unfold f_X5_allows at hf
  refine lv_aload_n hx hb dX5_allows_0 rfl (lv_at hl 0 rfl) ?_
  refine r_get hx hb hts i_X5 hown hT hP (inS ht) (fs := fsS) (obS ht) rfl 2 (by decide) q997 (fun _ h9 => h9) rfl dX5_allows_1 ?_
  refine lv_iload_n hx hb dX5_allows_4 rfl (lv_at hl 1 rfl) ?_
  refine lv_iadd hx hb dX5_allows_5 ?_
  refine lv_iconst (v := 0) hx hb dX5_allows_6 (by decide) ?_
  refine lv_aload_n hx hb dX5_allows_7 rfl (lv_at hl 0 rfl) ?_
  refine r_get hx hb hts i_X5 hown hT hP (inS ht) (fs := fsS) (obS ht) rfl 1 (by decide) q995 (fun _ h9 => h9) rfl dX5_allows_8 ?_
  obtain ⟨r_1, hc_2, hf⟩ := bnO_some hf
  refine va_calli (va_runSN (As := [.int ((μ t 2) + ch), .int 0, .int (μ t 1)]) (rest := []) ⟨hx, hb, hml, hown, hts⟩ (c_X8_isIn l hg μ ((μ t 2) + ch) 0 (μ t 1)  hc_2) ⟨va_cnB 3 hts (gd_code q244) rfl rfl rfl (hT.2.1 _ nst_2) (hts _ q37) hd_X8_isIn.2 ⟨Nat.le_of_ble_eq_true rfl, Nat.le_of_ble_eq_true rfl⟩, hts _ q243, trivial⟩ ⟨Pz.blind, fun U hU hW => ⟨rfl, Tb.warm hW hT, by rw [hU]; exact hP⟩⟩ rfl rfl hl.1 rfl (lv_room (Nat.le_of_ble_eq_true rfl)) dX5_allows_11 ⟨Nat.le_of_ble_eq_true rfl, Nat.le_of_ble_eq_true rfl⟩) hS (fun q _ h => h.elim) (fun q h => h.elim) (fun v9 u9 t9 H locs ht9 hvm9 hw9 hB9 hz9 hk9 hS => ?_)
  have hP := Rg.keep hP (fun q h => hk9 q h id)
  rw [hw9]
  obtain ⟨hb_3, hf⟩ := grd_some hf
  exact W.zret (v := r_1) (ty := .boolean) hx hb hr (nar01 hb_3) (fun t9 ht hW => ⟨⟨r_1, (), rfl, Option.some.inj hf, trivial⟩, hS.F ht⟩) hS.2.2 dX5_allows_14
/-- "Sandglass$Script" "instructionAt" "(I)LSandglass$Instruction;" -/
def f_X4_instructionAt (g : Fg) (μ : Mem) (t : Nat) (pl : Int32) : Option ((Option Nat)) := if pl < 0 then (some (none)) else (if (nI (g.sz (t - 104))) ≤ pl then (some (none)) else (grd (¬ (pl < 0 ∨ g.sz (t - 104) ≤ pl.toNatClampNeg)) (bnd (138 + 16 * (t - 114) + pl.toNatClampNeg) fun k_5 => grd (138 ≤ k_5 ∧ k_5 < 266 ∧ (k_5 - 138) / 16 < g.sz 2 ∧ (k_5 - 138) % 16 < g.sz (10 + (k_5 - 138) / 16)) (some (some k_5)))))
theorem hd_X4_instructionAt : yX4_instructionAt.cls = RX4 ∧ yX4_instructionAt.cls ≠ "java/lang/invoke/MethodHandle" ∧ yX4_instructionAt.cls ≠ "java/lang/invoke/VarHandle" ∧ (parseMethodDescriptor yX4_instructionAt.desc).map (fun d => d.parameters.length) = some 1 := by decide +kernel
set_option maxHeartbeats 4000000 in
set_option maxRecDepth 100000 in
theorem c_X4_instructionAt (l : Launch) {g : Geo} (hg : Good g) (μ : Mem) (t : Nat) (pl : Int32) (ht : isC g t) {r : (Option Nat)} (hf : f_X4_instructionAt g.F μ t pl = some r) : Met l yX4_instructionAt (ws_ yX4_instructionAt cX4_instructionAt 2 (some (.object "Sandglass$Instruction"))) (rm_ 3 64 0 0) (Pz g [.ref (g.ad t), .int pl] (Rg g μ)) (va_Qq (fun (v : Option Nat) (_ : Unit) => v = r.map g.ad) (fun _ _ => True) (fun _ => False)) 0 0 (fun _ => False) := by
  refine Met.ofW (cc := cX4_instructionAt) (maxL := 2) (ret := (some (.object "Sandglass$Instruction"))) (by decide) rfl ?_
  intro p e s m args below meth c s₁ B hml hv
  obtain ⟨rfl, hT, hP⟩ := hv
  have hx := B.exec
  have hb := B.bytes
  have hr := B.returns
  have hts : ∀ w ∈ lw_all, w.before _ s = true := fun w h => atoms_spec (ws := (ws_ yX4_instructionAt cX4_instructionAt 2 (some (.object "Sandglass$Instruction")))) B.pre w (List.mem_cons_of_mem _ h)
  have hown : s.vm.findClass RX4 = some m.cls := findClass_of_methodNamed B.named
  have hlocks := B.notSynchronized
  have hS : va_S (fun _ => False) s.heap s.heap [] := va_S.rf
  have hl := lv_entry ([.ref (g.ad t), .int pl]) (n := 2) (Nat.le_of_ble_eq_true rfl)
  rw [lg_entry_eq]
  generalize (lg_sl ([.ref (g.ad t), .int pl]) ++ List.replicate (2 - (lg_sl ([.ref (g.ad t), .int pl])).length) Slot.unset).toArray = ls at hl ⊢
  have hl : lv_has ls 2 [(0, .ref (g.ad t)), (1, .int pl)] := hl
  unfold f_X4_instructionAt at hf
  refine lv_iload_n hx hb dX4_instructionAt_0 rfl (lv_at hl 1 rfl) ?_
  refine lv_if_lt (tgt := 29) hx hb dX4_instructionAt_1 (by decide) (fun c_1 => ?_) (fun c_1 => ?_)
  · have hf := (if_pos c_1).symm.trans hf
    refine lv_null hx hb dX4_instructionAt_29 ?_
    exact W.aret (v := .null) (rt := .object "Sandglass$Instruction") hx hb hr (Or.inl ⟨_, rfl⟩) (Or.inl rfl) (fun t9 ht hW => ⟨⟨none, (), rfl, by rw [← Option.some.inj hf]; rfl, trivial⟩, hS.F ht⟩) hS.2.2 dX4_instructionAt_30
  · have hf := (if_neg c_1).symm.trans hf
    refine lv_iload_n hx hb dX4_instructionAt_4 rfl (lv_at hl 1 rfl) ?_
    refine lv_aload_n hx hb dX4_instructionAt_5 rfl (lv_at hl 0 rfl) ?_
    refine r_get hx hb hts i_X4 hown hT hP (inC ht) (fs := (fun _ => fsC g t (g.sh t))) (obC ht) rfl 0 (by decide) q1077 (fun _ h9 => h9) rfl dX4_instructionAt_6 ?_
    refine va_calli (va_runV (As := []) (rest := [.int pl]) ⟨hx, hb, hml, hown, hts⟩ (c_Jx4a65c_size_8abf5 l hg μ (inNL ht) (szN ht)) (cwV 0 hts (gd_V q419 q326 q327 q40 q328) rfl rfl rfl hd_Jx4a65c_size_8abf5 ⟨Nat.le_of_ble_eq_true rfl, Nat.le_of_ble_eq_true rfl⟩) ⟨Pz.blind, r_recv hT hP (inNL ht) (fs := fun _ => [.int (nI (g.sz (t - 104))), .ref (g.ad (t + 16)), .int (nI (g.sz (t - 104)))]) (szN ht) rfl, fun U hU hW => ⟨rfl, Tb.warm hW hT, by rw [hU]; exact hP⟩⟩ rfl rfl hl.1 rfl (lv_room (Nat.le_of_ble_eq_true rfl)) dX4_instructionAt_9 ⟨Nat.le_of_ble_eq_true rfl, Nat.le_of_ble_eq_true rfl⟩) hS (fun q _ h => h.elim) (fun q h => h.elim) (fun v9 u9 t9 H locs ht9 hvm9 hw9 hB9 hz9 hk9 hS => ?_)
    have hP := Rg.keep hP (fun q h => hk9 q h id)
    rw [hw9]
    refine lv_icmp_ge (tgt := 29) hx hb dX4_instructionAt_12 (by decide) (fun c_2 => ?_) (fun c_2 => ?_)
    · have hf := (if_pos c_2).symm.trans hf
      refine lv_null hx hb dX4_instructionAt_29 ?_
      exact W.aret (v := .null) (rt := .object "Sandglass$Instruction") hx hb hr (Or.inl ⟨_, rfl⟩) (Or.inl rfl) (fun t9 ht hW => ⟨⟨none, (), rfl, by rw [← Option.some.inj hf]; rfl, trivial⟩, hS.F ht⟩) hS.2.2 dX4_instructionAt_30
    · have hf := (if_neg c_2).symm.trans hf
      refine lv_aload_n hx hb dX4_instructionAt_15 rfl (lv_at hl 0 rfl) ?_
      refine r_get hx hb hts i_X4 hown hT hP (inC ht) (fs := (fun _ => fsC g t (g.sh t))) (obC ht) rfl 0 (by decide) q1077 (fun _ h9 => h9) rfl dX4_instructionAt_16 ?_
      refine lv_iload_n hx hb dX4_instructionAt_19 rfl (lv_at hl 1 rfl) ?_
      obtain ⟨hi_3, hf⟩ := grd_some hf
      have hj_4 : pl.toNatClampNeg < g.sz (t - 104) := Nat.not_le.mp (fun z => hi_3 (Or.inr z))
      refine va_callq (va_runV (As := [.int pl]) (rest := []) ⟨hx, hb, hml, hown, hts⟩ (c_Jx4a65c_get_915e3 l hg μ (lsN hg ht (Nat.lt_of_le_of_lt (Nat.zero_le _) hj_4)) (nI_self (fun z => hi_3 (Or.inl z))) hj_4) (cwV 1 hts (gd_V q420 q330 q331 q40 q332) rfl rfl rfl hd_Jx4a65c_get_915e3 ⟨Nat.le_of_ble_eq_true rfl, Nat.le_of_ble_eq_true rfl⟩) ⟨Pz.blind, r_recv hT hP (inNL ht) (fs := fun _ => [.int (nI (g.sz (t - 104))), .ref (g.ad (t + 16)), .int (nI (g.sz (t - 104)))]) (szN ht) rfl, fun U hU hW => ⟨rfl, Tb.warm hW hT, by rw [hU]; exact hP⟩⟩ rfl rfl hl.1 rfl (lv_room (Nat.le_of_ble_eq_true rfl)) dX4_instructionAt_20 ⟨Nat.le_of_ble_eq_true rfl, Nat.le_of_ble_eq_true rfl⟩) hS (fun q _ h => h.elim) (fun q h => h.elim) (fun v9 u9 t9 H locs ht9 hvm9 hw9 hB9 hz9 hk9 hS => ?_)
      have hP := Rg.keep hP (fun q h => hk9 q h id)
      rw [hw9, fnL_in hj_4]
      refine W.eq (g2 := F0 m 23 ls (.ref (g.ad (138 + 16 * (t - 114) + pl.toNatClampNeg)) :: [])) rfl ?_
      obtain ⟨k_5, ek_5⟩ : ∃ z, 138 + 16 * (t - 114) + pl.toNatClampNeg = z := ⟨_, rfl⟩
      rw [ek_5]
      have hf := bnd_eq hf _ ek_5
      obtain ⟨hk_5, hf⟩ := grd_some hf
      refine r_cast hx hb hts hown hT hP (inN hk_5) (fs := (fun _ => fsS (g.sh k_5))) (obN hk_5) rfl q421 dX4_instructionAt_23 ?_
      refine lv_goto (tgt := 30) hx hb dX4_instructionAt_26 (by decide) ?_
      exact W.aret (v := .ref (g.ad k_5)) (rt := .object "Sandglass$Instruction") hx hb hr (Or.inl ⟨_, rfl⟩) (Or.inr ⟨_, rfl⟩) (fun t9 ht hW => ⟨⟨(some (g.ad k_5)), (), rfl, by rw [← Option.some.inj hf]; rfl, trivial⟩, hS.F ht⟩) hS.2.2 dX4_instructionAt_30
/-- "Sandglass$Proc" "nextInstruction" "()LSandglass$Instruction;" -/
def f_X2_nextInstruction (g : Fg) (μ : Mem) (t : Nat) : Option ((Option Nat)) := csQ (srf (μ t 1)) (some (none)) (fun o_1 => grd (114 ≤ o_1 ∧ o_1 < 114 + g.sz 2 ∧ o_1 < 122) (bnO (f_X4_instructionAt g μ o_1 (μ t 3)) fun r_2 => csQ r_2 (some (none)) (fun o_4 => grd (138 ≤ o_4 ∧ o_4 < 266 ∧ (o_4 - 138) / 16 < g.sz 2 ∧ (o_4 - 138) % 16 < g.sz (10 + (o_4 - 138) / 16)) (some (some o_4)))))
theorem hd_X2_nextInstruction : yX2_nextInstruction.cls = RX2 ∧ yX2_nextInstruction.cls ≠ "java/lang/invoke/MethodHandle" ∧ yX2_nextInstruction.cls ≠ "java/lang/invoke/VarHandle" ∧ (parseMethodDescriptor yX2_nextInstruction.desc).map (fun d => d.parameters.length) = some 0 := by decide +kernel
set_option maxHeartbeats 4000000 in
set_option maxRecDepth 100000 in
theorem c_X2_nextInstruction (l : Launch) {g : Geo} (hg : Good g) (μ : Mem) (t : Nat) (ht : isP t) {r : (Option Nat)} (hf : f_X2_nextInstruction g.F μ t = some r) : Met l yX2_nextInstruction (ws_ yX2_nextInstruction cX2_nextInstruction 1 (some (.object "Sandglass$Instruction"))) (rm_ 4 85 0 0) (Pz g [.ref (g.ad t)] (Rg g μ)) (va_Qq (fun (v : Option Nat) (_ : Unit) => v = r.map g.ad) (fun _ _ => True) (fun _ => False)) 0 0 (fun _ => False) := by
  refine Met.ofW (cc := cX2_nextInstruction) (maxL := 1) (ret := (some (.object "Sandglass$Instruction"))) (by decide) rfl ?_
  intro p e s m args below meth c s₁ B hml hv
  obtain ⟨rfl, hT, hP⟩ := hv
  have hx := B.exec
  have hb := B.bytes
  have hr := B.returns
  have hts : ∀ w ∈ lw_all, w.before _ s = true := fun w h => atoms_spec (ws := (ws_ yX2_nextInstruction cX2_nextInstruction 1 (some (.object "Sandglass$Instruction")))) B.pre w (List.mem_cons_of_mem _ h)
  have hown : s.vm.findClass RX2 = some m.cls := findClass_of_methodNamed B.named
  have hlocks := B.notSynchronized
  have hS : va_S (fun _ => False) s.heap s.heap [] := va_S.rf
  have hl := lv_entry ([.ref (g.ad t)]) (n := 1) (Nat.le_of_ble_eq_true rfl)
  rw [lg_entry_eq]
  generalize (lg_sl ([.ref (g.ad t)]) ++ List.replicate (1 - (lg_sl ([.ref (g.ad t)])).length) Slot.unset).toArray = ls at hl ⊢
  have hl : lv_has ls 1 [(0, .ref (g.ad t))] := hl
  unfold f_X2_nextInstruction at hf
  refine lv_aload_n hx hb dX2_nextInstruction_0 rfl (lv_at hl 0 rfl) ?_
  refine r_get hx hb hts i_X2 hown hT hP (inP ht) (fs := (fsP g t)) (obP ht) rfl 1 (by decide) q113 (fun _ h9 => h9) rfl dX2_nextInstruction_1 ?_
  rw [sref_srf]
  cases ho_19 : srf (μ t 1) with
  | none =>
    rw [ho_19] at hf
    dsimp only [csQ] at hf
    refine W.eq (g2 := F0 m 4 ls [.null]) rfl ?_
    refine lv_ifnonnullN hx hb dX2_nextInstruction_4 ?_
    refine lv_null hx hb dX2_nextInstruction_7 ?_
    refine lv_goto (tgt := 22) hx hb dX2_nextInstruction_8 (by decide) ?_
    exact W.aret (v := .null) (rt := .object "Sandglass$Instruction") hx hb hr (Or.inl ⟨_, rfl⟩) (Or.inl rfl) (fun t9 ht hW => ⟨⟨none, (), rfl, by rw [← Option.some.inj hf]; rfl, trivial⟩, hS.F ht⟩) hS.2.2 dX2_nextInstruction_22
  | some o_1 =>
    rw [ho_19] at hf
    dsimp only [csQ] at hf
    obtain ⟨ho_1, hf⟩ := grd_some hf
    refine W.eq (g2 := F0 m 4 ls [.ref (g.ad o_1)]) rfl ?_
    refine lv_ifnonnull (tgt := 11) hx hb dX2_nextInstruction_4 (by decide) ?_
    refine lv_aload_n hx hb dX2_nextInstruction_11 rfl (lv_at hl 0 rfl) ?_
    refine r_get hx hb hts i_X2 hown hT hP (inP ht) (fs := (fsP g t)) (obP ht) rfl 1 (by decide) q113 (fun _ h9 => h9) rfl dX2_nextInstruction_12 ?_
    rw [sref_srf, ho_19]
    refine W.eq (g2 := F0 m 15 ls [.ref (g.ad o_1)]) rfl ?_
    refine lv_aload_n hx hb dX2_nextInstruction_15 rfl (lv_at hl 0 rfl) ?_
    refine r_get hx hb hts i_X2 hown hT hP (inP ht) (fs := (fsP g t)) (obP ht) rfl 3 (by decide) q118 (fun _ h9 => h9) rfl dX2_nextInstruction_16 ?_
    obtain ⟨r_2, hc_3, hf⟩ := bnO_some hf
    refine va_callq (va_runV (As := [.int (μ t 3)]) (rest := []) ⟨hx, hb, hml, hown, hts⟩ (c_X4_instructionAt l hg μ o_1 (μ t 3) ho_1 hc_3) (cwV 1 hts (gd_V q415 q416 q417 q55 q418) rfl rfl rfl hd_X4_instructionAt ⟨Nat.le_of_ble_eq_true rfl, Nat.le_of_ble_eq_true rfl⟩) ⟨Pz.blind, r_recv hT hP (inC ho_1) (fs := (fun _ => fsC g o_1 (g.sh o_1))) (obC ho_1) rfl, fun U hU hW => ⟨rfl, Tb.warm hW hT, by rw [hU]; exact hP⟩⟩ rfl rfl hl.1 rfl (lv_room (Nat.le_of_ble_eq_true rfl)) dX2_nextInstruction_19 ⟨Nat.le_of_ble_eq_true rfl, Nat.le_of_ble_eq_true rfl⟩) hS (fun q _ h => h.elim) (fun q h => h.elim) (fun v9 u9 t9 H locs ht9 hvm9 hw9 hB9 hz9 hk9 hS => ?_)
    have hP := Rg.keep hP (fun q h => hk9 q h id)
    rw [hw9]
    cases r_2 with
    | none =>
      dsimp only [csQ] at hf
      refine W.eq (g2 := F0 m 22 ls [.null]) rfl ?_
      exact W.aret (v := .null) (rt := .object "Sandglass$Instruction") hx hb hr (Or.inl ⟨_, rfl⟩) (Or.inl rfl) (fun t9 ht hW => ⟨⟨none, (), rfl, by rw [← Option.some.inj hf]; rfl, trivial⟩, hS.F ht⟩) hS.2.2 dX2_nextInstruction_22
    | some o_4 =>
      dsimp only [csQ] at hf
      obtain ⟨ho_4, hf⟩ := grd_some hf
      refine W.eq (g2 := F0 m 22 ls [.ref (g.ad o_4)]) rfl ?_
      exact W.aret (v := .ref (g.ad o_4)) (rt := .object "Sandglass$Instruction") hx hb hr (Or.inl ⟨_, rfl⟩) (Or.inr ⟨_, rfl⟩) (fun t9 ht hW => ⟨⟨(some (g.ad o_4)), (), rfl, by rw [← Option.some.inj hf]; rfl, trivial⟩, hS.F ht⟩) hS.2.2 dX2_nextInstruction_22
/-- "Sandglass$World" "resource" "(I)LSandglass$Resource;" -/
def f_X7_resource (g : Fg) (μ : Mem) (nu : Int32) : Option ((Option Nat)) := if nu < 0 then (some (none)) else (if (nI (g.sz 0)) ≤ nu then (some (none)) else (grd (¬ (nu < 0 ∨ g.sz 0 ≤ nu.toNatClampNeg)) (bnd (102 + nu.toNatClampNeg) fun k_5 => grd (102 ≤ k_5 ∧ k_5 < 102 + g.sz 0 ∧ k_5 < 108) (some (some k_5)))))
theorem hd_X7_resource : yX7_resource.cls = RX7 ∧ yX7_resource.cls ≠ "java/lang/invoke/MethodHandle" ∧ yX7_resource.cls ≠ "java/lang/invoke/VarHandle" ∧ (parseMethodDescriptor yX7_resource.desc).map (fun d => d.parameters.length) = some 1 := by decide +kernel
set_option maxHeartbeats 4000000 in
set_option maxRecDepth 100000 in
theorem c_X7_resource (l : Launch) {g : Geo} (hg : Good g) (μ : Mem) (nu : Int32) {r : (Option Nat)} (hf : f_X7_resource g.F μ nu = some r) : Met l yX7_resource (ws_ yX7_resource cX7_resource 2 (some (.object "Sandglass$Resource"))) (rm_ 3 64 0 0) (Pz g [.ref (g.ad 0), .int nu] (Rg g μ)) (va_Qq (fun (v : Option Nat) (_ : Unit) => v = r.map g.ad) (fun _ _ => True) (fun _ => False)) 0 0 (fun _ => False) := by
  refine Met.ofW (cc := cX7_resource) (maxL := 2) (ret := (some (.object "Sandglass$Resource"))) (by decide) rfl ?_
  intro p e s m args below meth c s₁ B hml hv
  obtain ⟨rfl, hT, hP⟩ := hv
  have hx := B.exec
  have hb := B.bytes
  have hr := B.returns
  have hts : ∀ w ∈ lw_all, w.before _ s = true := fun w h => atoms_spec (ws := (ws_ yX7_resource cX7_resource 2 (some (.object "Sandglass$Resource")))) B.pre w (List.mem_cons_of_mem _ h)
  have hown : s.vm.findClass RX7 = some m.cls := findClass_of_methodNamed B.named
  have hlocks := B.notSynchronized
  have hS : va_S (fun _ => False) s.heap s.heap [] := va_S.rf
  have hl := lv_entry ([.ref (g.ad 0), .int nu]) (n := 2) (Nat.le_of_ble_eq_true rfl)
  rw [lg_entry_eq]
  generalize (lg_sl ([.ref (g.ad 0), .int nu]) ++ List.replicate (2 - (lg_sl ([.ref (g.ad 0), .int nu])).length) Slot.unset).toArray = ls at hl ⊢
  have hl : lv_has ls 2 [(0, .ref (g.ad 0)), (1, .int nu)] := hl
  unfold f_X7_resource at hf
  refine lv_iload_n hx hb dX7_resource_0 rfl (lv_at hl 1 rfl) ?_
  refine lv_if_lt (tgt := 29) hx hb dX7_resource_1 (by decide) (fun c_1 => ?_) (fun c_1 => ?_)
  · have hf := (if_pos c_1).symm.trans hf
    refine lv_null hx hb dX7_resource_29 ?_
    exact W.aret (v := .null) (rt := .object "Sandglass$Resource") hx hb hr (Or.inl ⟨_, rfl⟩) (Or.inl rfl) (fun t9 ht hW => ⟨⟨none, (), rfl, by rw [← Option.some.inj hf]; rfl, trivial⟩, hS.F ht⟩) hS.2.2 dX7_resource_30
  · have hf := (if_neg c_1).symm.trans hf
    refine lv_iload_n hx hb dX7_resource_4 rfl (lv_at hl 1 rfl) ?_
    refine lv_aload_n hx hb dX7_resource_5 rfl (lv_at hl 0 rfl) ?_
    refine r_get hx hb hts i_X7 hown hT hP inW (fs := (fsW g)) (obW g) rfl 2 (by decide) q190 (fun _ h9 => h9) rfl dX7_resource_6 ?_
    refine va_calli (va_runV (As := []) (rest := [.int nu]) ⟨hx, hb, hml, hown, hts⟩ (c_Jx4a65c_size_8abf5 l hg μ in98 (szR g)) (cwV 0 hts (gd_V q325 q326 q327 q40 q328) rfl rfl rfl hd_Jx4a65c_size_8abf5 ⟨Nat.le_of_ble_eq_true rfl, Nat.le_of_ble_eq_true rfl⟩) ⟨Pz.blind, r_recv hT hP in98 (fs := fun _ => [.int (nI (g.sz 0)), .ref (g.ad 99), .int (nI (g.sz 0))]) (szR g) rfl, fun U hU hW => ⟨rfl, Tb.warm hW hT, by rw [hU]; exact hP⟩⟩ rfl rfl hl.1 rfl (lv_room (Nat.le_of_ble_eq_true rfl)) dX7_resource_9 ⟨Nat.le_of_ble_eq_true rfl, Nat.le_of_ble_eq_true rfl⟩) hS (fun q _ h => h.elim) (fun q h => h.elim) (fun v9 u9 t9 H locs ht9 hvm9 hw9 hB9 hz9 hk9 hS => ?_)
    have hP := Rg.keep hP (fun q h => hk9 q h id)
    rw [hw9]
    refine lv_icmp_ge (tgt := 29) hx hb dX7_resource_12 (by decide) (fun c_2 => ?_) (fun c_2 => ?_)
    · have hf := (if_pos c_2).symm.trans hf
      refine lv_null hx hb dX7_resource_29 ?_
      exact W.aret (v := .null) (rt := .object "Sandglass$Resource") hx hb hr (Or.inl ⟨_, rfl⟩) (Or.inl rfl) (fun t9 ht hW => ⟨⟨none, (), rfl, by rw [← Option.some.inj hf]; rfl, trivial⟩, hS.F ht⟩) hS.2.2 dX7_resource_30
    · have hf := (if_neg c_2).symm.trans hf
      refine lv_aload_n hx hb dX7_resource_15 rfl (lv_at hl 0 rfl) ?_
      refine r_get hx hb hts i_X7 hown hT hP inW (fs := (fsW g)) (obW g) rfl 2 (by decide) q190 (fun _ h9 => h9) rfl dX7_resource_16 ?_
      refine lv_iload_n hx hb dX7_resource_19 rfl (lv_at hl 1 rfl) ?_
      obtain ⟨hi_3, hf⟩ := grd_some hf
      have hj_4 : nu.toNatClampNeg < g.sz 0 := Nat.not_le.mp (fun z => hi_3 (Or.inr z))
      refine va_callq (va_runV (As := [.int nu]) (rest := []) ⟨hx, hb, hml, hown, hts⟩ (c_Jx4a65c_get_915e3 l hg μ (lsR hg (Nat.lt_of_le_of_lt (Nat.zero_le _) hj_4)) (nI_self (fun z => hi_3 (Or.inl z))) hj_4) (cwV 1 hts (gd_V q329 q330 q331 q40 q332) rfl rfl rfl hd_Jx4a65c_get_915e3 ⟨Nat.le_of_ble_eq_true rfl, Nat.le_of_ble_eq_true rfl⟩) ⟨Pz.blind, r_recv hT hP in98 (fs := fun _ => [.int (nI (g.sz 0)), .ref (g.ad 99), .int (nI (g.sz 0))]) (szR g) rfl, fun U hU hW => ⟨rfl, Tb.warm hW hT, by rw [hU]; exact hP⟩⟩ rfl rfl hl.1 rfl (lv_room (Nat.le_of_ble_eq_true rfl)) dX7_resource_20 ⟨Nat.le_of_ble_eq_true rfl, Nat.le_of_ble_eq_true rfl⟩) hS (fun q _ h => h.elim) (fun q h => h.elim) (fun v9 u9 t9 H locs ht9 hvm9 hw9 hB9 hz9 hk9 hS => ?_)
      have hP := Rg.keep hP (fun q h => hk9 q h id)
      rw [hw9, fnL_in hj_4]
      refine W.eq (g2 := F0 m 23 ls (.ref (g.ad (102 + nu.toNatClampNeg)) :: [])) rfl ?_
      obtain ⟨k_5, ek_5⟩ : ∃ z, 102 + nu.toNatClampNeg = z := ⟨_, rfl⟩
      rw [ek_5]
      have hf := bnd_eq hf _ ek_5
      obtain ⟨hk_5, hf⟩ := grd_some hf
      refine r_cast hx hb hts hown hT hP (inR hk_5) (fs := fsR) (obR hk_5) rfl q405 dX7_resource_23 ?_
      refine lv_goto (tgt := 30) hx hb dX7_resource_26 (by decide) ?_
      exact W.aret (v := .ref (g.ad k_5)) (rt := .object "Sandglass$Resource") hx hb hr (Or.inl ⟨_, rfl⟩) (Or.inr ⟨_, rfl⟩) (fun t9 ht hW => ⟨⟨(some (g.ad k_5)), (), rfl, by rw [← Option.some.inj hf]; rfl, trivial⟩, hS.F ht⟩) hS.2.2 dX7_resource_30
/-- "Sandglass$World" "store" "(I)LSandglass$Store;" -/
def f_X7_store (g : Fg) (μ : Mem) (nu : Int32) : Option ((Option Nat)) := if nu < 0 then (some (none)) else (if (nI (g.sz 1)) ≤ nu then (some (none)) else (grd (¬ (nu < 0 ∨ g.sz 1 ≤ nu.toNatClampNeg)) (bnd (108 + nu.toNatClampNeg) fun k_5 => grd (108 ≤ k_5 ∧ k_5 < 108 + g.sz 1 ∧ k_5 < 112) (some (some k_5)))))
theorem hd_X7_store : yX7_store.cls = RX7 ∧ yX7_store.cls ≠ "java/lang/invoke/MethodHandle" ∧ yX7_store.cls ≠ "java/lang/invoke/VarHandle" ∧ (parseMethodDescriptor yX7_store.desc).map (fun d => d.parameters.length) = some 1 := by decide +kernel
set_option maxHeartbeats 4000000 in
set_option maxRecDepth 100000 in
theorem c_X7_store (l : Launch) {g : Geo} (hg : Good g) (μ : Mem) (nu : Int32) {r : (Option Nat)} (hf : f_X7_store g.F μ nu = some r) : Met l yX7_store (ws_ yX7_store cX7_store 2 (some (.object "Sandglass$Store"))) (rm_ 3 64 0 0) (Pz g [.ref (g.ad 0), .int nu] (Rg g μ)) (va_Qq (fun (v : Option Nat) (_ : Unit) => v = r.map g.ad) (fun _ _ => True) (fun _ => False)) 0 0 (fun _ => False) := by
  refine Met.ofW (cc := cX7_store) (maxL := 2) (ret := (some (.object "Sandglass$Store"))) (by decide) rfl ?_
  intro p e s m args below meth c s₁ B hml hv
  obtain ⟨rfl, hT, hP⟩ := hv
  have hx := B.exec
  have hb := B.bytes
  have hr := B.returns
  have hts : ∀ w ∈ lw_all, w.before _ s = true := fun w h => atoms_spec (ws := (ws_ yX7_store cX7_store 2 (some (.object "Sandglass$Store")))) B.pre w (List.mem_cons_of_mem _ h)
  have hown : s.vm.findClass RX7 = some m.cls := findClass_of_methodNamed B.named
  have hlocks := B.notSynchronized
  have hS : va_S (fun _ => False) s.heap s.heap [] := va_S.rf
  have hl := lv_entry ([.ref (g.ad 0), .int nu]) (n := 2) (Nat.le_of_ble_eq_true rfl)
  rw [lg_entry_eq]
  generalize (lg_sl ([.ref (g.ad 0), .int nu]) ++ List.replicate (2 - (lg_sl ([.ref (g.ad 0), .int nu])).length) Slot.unset).toArray = ls at hl ⊢
  have hl : lv_has ls 2 [(0, .ref (g.ad 0)), (1, .int nu)] := hl
  unfold f_X7_store at hf
  refine lv_iload_n hx hb dX7_store_0 rfl (lv_at hl 1 rfl) ?_
  refine lv_if_lt (tgt := 29) hx hb dX7_store_1 (by decide) (fun c_1 => ?_) (fun c_1 => ?_)
  · have hf := (if_pos c_1).symm.trans hf
    refine lv_null hx hb dX7_store_29 ?_
    exact W.aret (v := .null) (rt := .object "Sandglass$Store") hx hb hr (Or.inl ⟨_, rfl⟩) (Or.inl rfl) (fun t9 ht hW => ⟨⟨none, (), rfl, by rw [← Option.some.inj hf]; rfl, trivial⟩, hS.F ht⟩) hS.2.2 dX7_store_30
  · have hf := (if_neg c_1).symm.trans hf
    refine lv_iload_n hx hb dX7_store_4 rfl (lv_at hl 1 rfl) ?_
    refine lv_aload_n hx hb dX7_store_5 rfl (lv_at hl 0 rfl) ?_
    refine r_get hx hb hts i_X7 hown hT hP inW (fs := (fsW g)) (obW g) rfl 3 (by decide) q192 (fun _ h9 => h9) rfl dX7_store_6 ?_
    refine va_calli (va_runV (As := []) (rest := [.int nu]) ⟨hx, hb, hml, hown, hts⟩ (c_Jx4a65c_size_8abf5 l hg μ in100 (szS g)) (cwV 0 hts (gd_V q325 q326 q327 q40 q328) rfl rfl rfl hd_Jx4a65c_size_8abf5 ⟨Nat.le_of_ble_eq_true rfl, Nat.le_of_ble_eq_true rfl⟩) ⟨Pz.blind, r_recv hT hP in100 (fs := fun _ => [.int (nI (g.sz 1)), .ref (g.ad 101), .int (nI (g.sz 1))]) (szS g) rfl, fun U hU hW => ⟨rfl, Tb.warm hW hT, by rw [hU]; exact hP⟩⟩ rfl rfl hl.1 rfl (lv_room (Nat.le_of_ble_eq_true rfl)) dX7_store_9 ⟨Nat.le_of_ble_eq_true rfl, Nat.le_of_ble_eq_true rfl⟩) hS (fun q _ h => h.elim) (fun q h => h.elim) (fun v9 u9 t9 H locs ht9 hvm9 hw9 hB9 hz9 hk9 hS => ?_)
    have hP := Rg.keep hP (fun q h => hk9 q h id)
    rw [hw9]
    refine lv_icmp_ge (tgt := 29) hx hb dX7_store_12 (by decide) (fun c_2 => ?_) (fun c_2 => ?_)
    · have hf := (if_pos c_2).symm.trans hf
      refine lv_null hx hb dX7_store_29 ?_
      exact W.aret (v := .null) (rt := .object "Sandglass$Store") hx hb hr (Or.inl ⟨_, rfl⟩) (Or.inl rfl) (fun t9 ht hW => ⟨⟨none, (), rfl, by rw [← Option.some.inj hf]; rfl, trivial⟩, hS.F ht⟩) hS.2.2 dX7_store_30
    · have hf := (if_neg c_2).symm.trans hf
      refine lv_aload_n hx hb dX7_store_15 rfl (lv_at hl 0 rfl) ?_
      refine r_get hx hb hts i_X7 hown hT hP inW (fs := (fsW g)) (obW g) rfl 3 (by decide) q192 (fun _ h9 => h9) rfl dX7_store_16 ?_
      refine lv_iload_n hx hb dX7_store_19 rfl (lv_at hl 1 rfl) ?_
      obtain ⟨hi_3, hf⟩ := grd_some hf
      have hj_4 : nu.toNatClampNeg < g.sz 1 := Nat.not_le.mp (fun z => hi_3 (Or.inr z))
      refine va_callq (va_runV (As := [.int nu]) (rest := []) ⟨hx, hb, hml, hown, hts⟩ (c_Jx4a65c_get_915e3 l hg μ (lsS hg (Nat.lt_of_le_of_lt (Nat.zero_le _) hj_4)) (nI_self (fun z => hi_3 (Or.inl z))) hj_4) (cwV 1 hts (gd_V q329 q330 q331 q40 q332) rfl rfl rfl hd_Jx4a65c_get_915e3 ⟨Nat.le_of_ble_eq_true rfl, Nat.le_of_ble_eq_true rfl⟩) ⟨Pz.blind, r_recv hT hP in100 (fs := fun _ => [.int (nI (g.sz 1)), .ref (g.ad 101), .int (nI (g.sz 1))]) (szS g) rfl, fun U hU hW => ⟨rfl, Tb.warm hW hT, by rw [hU]; exact hP⟩⟩ rfl rfl hl.1 rfl (lv_room (Nat.le_of_ble_eq_true rfl)) dX7_store_20 ⟨Nat.le_of_ble_eq_true rfl, Nat.le_of_ble_eq_true rfl⟩) hS (fun q _ h => h.elim) (fun q h => h.elim) (fun v9 u9 t9 H locs ht9 hvm9 hw9 hB9 hz9 hk9 hS => ?_)
      have hP := Rg.keep hP (fun q h => hk9 q h id)
      rw [hw9, fnL_in hj_4]
      refine W.eq (g2 := F0 m 23 ls (.ref (g.ad (108 + nu.toNatClampNeg)) :: [])) rfl ?_
      obtain ⟨k_5, ek_5⟩ : ∃ z, 108 + nu.toNatClampNeg = z := ⟨_, rfl⟩
      rw [ek_5]
      have hf := bnd_eq hf _ ek_5
      obtain ⟨hk_5, hf⟩ := grd_some hf
      refine r_cast hx hb hts hown hT hP (inS hk_5) (fs := fsS) (obS hk_5) rfl q410 dX7_store_23 ?_
      refine lv_goto (tgt := 30) hx hb dX7_store_26 (by decide) ?_
      exact W.aret (v := .ref (g.ad k_5)) (rt := .object "Sandglass$Store") hx hb hr (Or.inl ⟨_, rfl⟩) (Or.inr ⟨_, rfl⟩) (fun t9 ht hW => ⟨⟨(some (g.ad k_5)), (), rfl, by rw [← Option.some.inj hf]; rfl, trivial⟩, hS.F ht⟩) hS.2.2 dX7_store_30
/-- "Sandglass$World" "script" "(I)LSandglass$Script;" -/
def f_X7_script (g : Fg) (μ : Mem) (nu : Int32) : Option ((Option Nat)) := if nu < 0 then (some (none)) else (if (nI (g.sz 2)) ≤ nu then (some (none)) else (grd (¬ (nu < 0 ∨ g.sz 2 ≤ nu.toNatClampNeg)) (bnd (114 + nu.toNatClampNeg) fun k_5 => grd (114 ≤ k_5 ∧ k_5 < 114 + g.sz 2 ∧ k_5 < 122) (some (some k_5)))))
theorem hd_X7_script : yX7_script.cls = RX7 ∧ yX7_script.cls ≠ "java/lang/invoke/MethodHandle" ∧ yX7_script.cls ≠ "java/lang/invoke/VarHandle" ∧ (parseMethodDescriptor yX7_script.desc).map (fun d => d.parameters.length) = some 1 := by decide +kernel
set_option maxHeartbeats 4000000 in
set_option maxRecDepth 100000 in
theorem c_X7_script (l : Launch) {g : Geo} (hg : Good g) (μ : Mem) (nu : Int32) {r : (Option Nat)} (hf : f_X7_script g.F μ nu = some r) : Met l yX7_script (ws_ yX7_script cX7_script 2 (some (.object "Sandglass$Script"))) (rm_ 3 64 0 0) (Pz g [.ref (g.ad 0), .int nu] (Rg g μ)) (va_Qq (fun (v : Option Nat) (_ : Unit) => v = r.map g.ad) (fun _ _ => True) (fun _ => False)) 0 0 (fun _ => False) := by
  refine Met.ofW (cc := cX7_script) (maxL := 2) (ret := (some (.object "Sandglass$Script"))) (by decide) rfl ?_
  intro p e s m args below meth c s₁ B hml hv
  obtain ⟨rfl, hT, hP⟩ := hv
  have hx := B.exec
  have hb := B.bytes
  have hr := B.returns
  have hts : ∀ w ∈ lw_all, w.before _ s = true := fun w h => atoms_spec (ws := (ws_ yX7_script cX7_script 2 (some (.object "Sandglass$Script")))) B.pre w (List.mem_cons_of_mem _ h)
  have hown : s.vm.findClass RX7 = some m.cls := findClass_of_methodNamed B.named
  have hlocks := B.notSynchronized
  have hS : va_S (fun _ => False) s.heap s.heap [] := va_S.rf
  have hl := lv_entry ([.ref (g.ad 0), .int nu]) (n := 2) (Nat.le_of_ble_eq_true rfl)
  rw [lg_entry_eq]
  generalize (lg_sl ([.ref (g.ad 0), .int nu]) ++ List.replicate (2 - (lg_sl ([.ref (g.ad 0), .int nu])).length) Slot.unset).toArray = ls at hl ⊢
  have hl : lv_has ls 2 [(0, .ref (g.ad 0)), (1, .int nu)] := hl
  unfold f_X7_script at hf
  refine lv_iload_n hx hb dX7_script_0 rfl (lv_at hl 1 rfl) ?_
  refine lv_if_lt (tgt := 29) hx hb dX7_script_1 (by decide) (fun c_1 => ?_) (fun c_1 => ?_)
  · have hf := (if_pos c_1).symm.trans hf
    refine lv_null hx hb dX7_script_29 ?_
    exact W.aret (v := .null) (rt := .object "Sandglass$Script") hx hb hr (Or.inl ⟨_, rfl⟩) (Or.inl rfl) (fun t9 ht hW => ⟨⟨none, (), rfl, by rw [← Option.some.inj hf]; rfl, trivial⟩, hS.F ht⟩) hS.2.2 dX7_script_30
  · have hf := (if_neg c_1).symm.trans hf
    refine lv_iload_n hx hb dX7_script_4 rfl (lv_at hl 1 rfl) ?_
    refine lv_aload_n hx hb dX7_script_5 rfl (lv_at hl 0 rfl) ?_
    refine r_get hx hb hts i_X7 hown hT hP inW (fs := (fsW g)) (obW g) rfl 0 (by decide) q188 (fun _ h9 => h9) rfl dX7_script_6 ?_
    refine va_calli (va_runV (As := []) (rest := [.int nu]) ⟨hx, hb, hml, hown, hts⟩ (c_Jx4a65c_size_8abf5 l hg μ in112 (szC g)) (cwV 0 hts (gd_V q325 q326 q327 q40 q328) rfl rfl rfl hd_Jx4a65c_size_8abf5 ⟨Nat.le_of_ble_eq_true rfl, Nat.le_of_ble_eq_true rfl⟩) ⟨Pz.blind, r_recv hT hP in112 (fs := fun _ => [.int (nI (g.sz 2)), .ref (g.ad 113), .int (nI (g.sz 2))]) (szC g) rfl, fun U hU hW => ⟨rfl, Tb.warm hW hT, by rw [hU]; exact hP⟩⟩ rfl rfl hl.1 rfl (lv_room (Nat.le_of_ble_eq_true rfl)) dX7_script_9 ⟨Nat.le_of_ble_eq_true rfl, Nat.le_of_ble_eq_true rfl⟩) hS (fun q _ h => h.elim) (fun q h => h.elim) (fun v9 u9 t9 H locs ht9 hvm9 hw9 hB9 hz9 hk9 hS => ?_)
    have hP := Rg.keep hP (fun q h => hk9 q h id)
    rw [hw9]
    refine lv_icmp_ge (tgt := 29) hx hb dX7_script_12 (by decide) (fun c_2 => ?_) (fun c_2 => ?_)
    · have hf := (if_pos c_2).symm.trans hf
      refine lv_null hx hb dX7_script_29 ?_
      exact W.aret (v := .null) (rt := .object "Sandglass$Script") hx hb hr (Or.inl ⟨_, rfl⟩) (Or.inl rfl) (fun t9 ht hW => ⟨⟨none, (), rfl, by rw [← Option.some.inj hf]; rfl, trivial⟩, hS.F ht⟩) hS.2.2 dX7_script_30
    · have hf := (if_neg c_2).symm.trans hf
      refine lv_aload_n hx hb dX7_script_15 rfl (lv_at hl 0 rfl) ?_
      refine r_get hx hb hts i_X7 hown hT hP inW (fs := (fsW g)) (obW g) rfl 0 (by decide) q188 (fun _ h9 => h9) rfl dX7_script_16 ?_
      refine lv_iload_n hx hb dX7_script_19 rfl (lv_at hl 1 rfl) ?_
      obtain ⟨hi_3, hf⟩ := grd_some hf
      have hj_4 : nu.toNatClampNeg < g.sz 2 := Nat.not_le.mp (fun z => hi_3 (Or.inr z))
      refine va_callq (va_runV (As := [.int nu]) (rest := []) ⟨hx, hb, hml, hown, hts⟩ (c_Jx4a65c_get_915e3 l hg μ (lsC hg (Nat.lt_of_le_of_lt (Nat.zero_le _) hj_4)) (nI_self (fun z => hi_3 (Or.inl z))) hj_4) (cwV 1 hts (gd_V q329 q330 q331 q40 q332) rfl rfl rfl hd_Jx4a65c_get_915e3 ⟨Nat.le_of_ble_eq_true rfl, Nat.le_of_ble_eq_true rfl⟩) ⟨Pz.blind, r_recv hT hP in112 (fs := fun _ => [.int (nI (g.sz 2)), .ref (g.ad 113), .int (nI (g.sz 2))]) (szC g) rfl, fun U hU hW => ⟨rfl, Tb.warm hW hT, by rw [hU]; exact hP⟩⟩ rfl rfl hl.1 rfl (lv_room (Nat.le_of_ble_eq_true rfl)) dX7_script_20 ⟨Nat.le_of_ble_eq_true rfl, Nat.le_of_ble_eq_true rfl⟩) hS (fun q _ h => h.elim) (fun q h => h.elim) (fun v9 u9 t9 H locs ht9 hvm9 hw9 hB9 hz9 hk9 hS => ?_)
      have hP := Rg.keep hP (fun q h => hk9 q h id)
      rw [hw9, fnL_in hj_4]
      refine W.eq (g2 := F0 m 23 ls (.ref (g.ad (114 + nu.toNatClampNeg)) :: [])) rfl ?_
      obtain ⟨k_5, ek_5⟩ : ∃ z, 114 + nu.toNatClampNeg = z := ⟨_, rfl⟩
      rw [ek_5]
      have hf := bnd_eq hf _ ek_5
      obtain ⟨hk_5, hf⟩ := grd_some hf
      refine r_cast hx hb hts hown hT hP (inC hk_5) (fs := (fun _ => fsC g k_5 (g.sh k_5))) (obC hk_5) rfl q343 dX7_script_23 ?_
      refine lv_goto (tgt := 30) hx hb dX7_script_26 (by decide) ?_
      exact W.aret (v := .ref (g.ad k_5)) (rt := .object "Sandglass$Script") hx hb hr (Or.inl ⟨_, rfl⟩) (Or.inr ⟨_, rfl⟩) (fun t9 ht hW => ⟨⟨(some (g.ad k_5)), (), rfl, by rw [← Option.some.inj hf]; rfl, trivial⟩, hS.F ht⟩) hS.2.2 dX7_script_30
/-- "Sandglass$World" "process" "(I)LSandglass$Proc;" -/
def f_X7_process (g : Fg) (μ : Mem) (nu : Int32) : Option ((Option Nat)) := if nu < 0 then (some (none)) else (if (μ 0 5) ≤ nu then (some (none)) else (if 24 ≤ nu then (some (none)) else (grd (¬ (nu < 0 ∨ 24 ≤ nu.toNatClampNeg)) (bnd (nu.toNatClampNeg + 1) fun k_6 => some (some k_6)))))
theorem hd_X7_process : yX7_process.cls = RX7 ∧ yX7_process.cls ≠ "java/lang/invoke/MethodHandle" ∧ yX7_process.cls ≠ "java/lang/invoke/VarHandle" ∧ (parseMethodDescriptor yX7_process.desc).map (fun d => d.parameters.length) = some 1 := by decide +kernel
set_option maxHeartbeats 4000000 in
set_option maxRecDepth 100000 in
theorem c_X7_process (l : Launch) {g : Geo} (hg : Good g) (μ : Mem) (nu : Int32) {r : (Option Nat)} (hf : f_X7_process g.F μ nu = some r) : Met l yX7_process (ws_ yX7_process cX7_process 2 (some (.object "Sandglass$Proc"))) (rm_ 0 0 0 0) (Pz g [.ref (g.ad 0), .int nu] (Rg g μ)) (va_Qq (fun (v : Option Nat) (_ : Unit) => v = r.map g.ad) (fun _ _ => True) (fun _ => False)) 0 0 (fun _ => False) := by
  refine Met.ofW (cc := cX7_process) (maxL := 2) (ret := (some (.object "Sandglass$Proc"))) (by decide) rfl ?_
  intro p e s m args below meth c s₁ B hml hv
  obtain ⟨rfl, hT, hP⟩ := hv
  have hx := B.exec
  have hb := B.bytes
  have hr := B.returns
  have hts : ∀ w ∈ lw_all, w.before _ s = true := fun w h => atoms_spec (ws := (ws_ yX7_process cX7_process 2 (some (.object "Sandglass$Proc")))) B.pre w (List.mem_cons_of_mem _ h)
  have hown : s.vm.findClass RX7 = some m.cls := findClass_of_methodNamed B.named
  have hlocks := B.notSynchronized
  have hS : va_S (fun _ => False) s.heap s.heap [] := va_S.rf
  have hl := lv_entry ([.ref (g.ad 0), .int nu]) (n := 2) (Nat.le_of_ble_eq_true rfl)
  rw [lg_entry_eq]
  generalize (lg_sl ([.ref (g.ad 0), .int nu]) ++ List.replicate (2 - (lg_sl ([.ref (g.ad 0), .int nu])).length) Slot.unset).toArray = ls at hl ⊢
  have hl : lv_has ls 2 [(0, .ref (g.ad 0)), (1, .int nu)] := hl
  unfold f_X7_process at hf
  refine lv_iload_n hx hb dX7_process_0 rfl (lv_at hl 1 rfl) ?_
  refine lv_if_lt (tgt := 30) hx hb dX7_process_1 (by decide) (fun c_1 => ?_) (fun c_1 => ?_)
  · have hf := (if_pos c_1).symm.trans hf
    refine lv_null hx hb dX7_process_30 ?_
    exact W.aret (v := .null) (rt := .object "Sandglass$Proc") hx hb hr (Or.inl ⟨_, rfl⟩) (Or.inl rfl) (fun t9 ht hW => ⟨⟨none, (), rfl, by rw [← Option.some.inj hf]; rfl, trivial⟩, hS.F ht⟩) hS.2.2 dX7_process_31
  · have hf := (if_neg c_1).symm.trans hf
    refine lv_iload_n hx hb dX7_process_4 rfl (lv_at hl 1 rfl) ?_
    refine lv_aload_n hx hb dX7_process_5 rfl (lv_at hl 0 rfl) ?_
    refine r_get hx hb hts i_X7 hown hT hP inW (fs := (fsW g)) (obW g) rfl 5 (by decide) q195 (fun _ h9 => h9) rfl dX7_process_6 ?_
    refine lv_icmp_ge (tgt := 30) hx hb dX7_process_9 (by decide) (fun c_2 => ?_) (fun c_2 => ?_)
    · have hf := (if_pos c_2).symm.trans hf
      refine lv_null hx hb dX7_process_30 ?_
      exact W.aret (v := .null) (rt := .object "Sandglass$Proc") hx hb hr (Or.inl ⟨_, rfl⟩) (Or.inl rfl) (fun t9 ht hW => ⟨⟨none, (), rfl, by rw [← Option.some.inj hf]; rfl, trivial⟩, hS.F ht⟩) hS.2.2 dX7_process_31
    · have hf := (if_neg c_2).symm.trans hf
      refine lv_iload_n hx hb dX7_process_12 rfl (lv_at hl 1 rfl) ?_
      refine lv_aload_n hx hb dX7_process_13 rfl (lv_at hl 0 rfl) ?_
      refine r_get hx hb hts i_X7 hown hT hP inW (fs := (fsW g)) (obW g) rfl 4 (by decide) q194 (fun _ h9 => h9) rfl dX7_process_14 ?_
      refine r_alenP hx hb hT hP dX7_process_17 ?_
      refine lv_icmp_ge (tgt := 30) hx hb dX7_process_18 (by decide) (fun c_3 => ?_) (fun c_3 => ?_)
      · have hf := (if_pos c_3).symm.trans hf
        refine lv_null hx hb dX7_process_30 ?_
        exact W.aret (v := .null) (rt := .object "Sandglass$Proc") hx hb hr (Or.inl ⟨_, rfl⟩) (Or.inl rfl) (fun t9 ht hW => ⟨⟨none, (), rfl, by rw [← Option.some.inj hf]; rfl, trivial⟩, hS.F ht⟩) hS.2.2 dX7_process_31
      · have hf := (if_neg c_3).symm.trans hf
        refine lv_aload_n hx hb dX7_process_21 rfl (lv_at hl 0 rfl) ?_
        refine r_get hx hb hts i_X7 hown hT hP inW (fs := (fsW g)) (obW g) rfl 4 (by decide) q194 (fun _ h9 => h9) rfl dX7_process_22 ?_
        refine lv_iload_n hx hb dX7_process_25 rfl (lv_at hl 1 rfl) ?_
        obtain ⟨hi_4, hf⟩ := grd_some hf
        refine r_aaldP hx hb hT hP hi_4 dX7_process_26 (fun hp_5 => ?_)
        obtain ⟨k_6, ek_6⟩ : ∃ z, nu.toNatClampNeg + 1 = z := ⟨_, rfl⟩
        rw [ek_6] at hp_5 ⊢
        have hf := bnd_eq hf _ ek_6
        refine lv_goto (tgt := 31) hx hb dX7_process_27 (by decide) ?_
        exact W.aret (v := .ref (g.ad k_6)) (rt := .object "Sandglass$Proc") hx hb hr (Or.inl ⟨_, rfl⟩) (Or.inr ⟨_, rfl⟩) (fun t9 ht hW => ⟨⟨(some (g.ad k_6)), (), rfl, by rw [← Option.some.inj hf]; rfl, trivial⟩, hS.F ht⟩) hS.2.2 dX7_process_31
/-- "Sandglass$World" "hasStarted" "(LSandglass$Script;)Z" -/
def b_X7_hasStarted_11 (g : Fg) : Nat → Mem → Nat → Int32 → Int32 → Option (Int32)
  | 0, _, _, _, _ => none
  | n + 1, μ, x1, x3, x4 => if x3 ≤ x4 then (some 0) else (grd (¬ (x4 < 0 ∨ 24 ≤ x4.toNatClampNeg)) (bnd (x4.toNatClampNeg + 1) fun k_4 => csQ (srf (μ k_4 1)) (b_X7_hasStarted_11 g n μ x1 x3 (x4 + 1)) (fun o_5 => grd (114 ≤ o_5 ∧ o_5 < 114 + g.sz 2 ∧ o_5 < 122) (if o_5 = x1 then (some 1) else (b_X7_hasStarted_11 g n μ x1 x3 (x4 + 1))))))
def f_X7_hasStarted (g : Fg) (μ : Mem) (sc : Nat) : Option (Int32) := b_X7_hasStarted_11 g fu μ sc 24 0
theorem hd_X7_hasStarted : yX7_hasStarted.cls = RX7 ∧ yX7_hasStarted.cls ≠ "java/lang/invoke/MethodHandle" ∧ yX7_hasStarted.cls ≠ "java/lang/invoke/VarHandle" ∧ (parseMethodDescriptor yX7_hasStarted.desc).map (fun d => d.parameters.length) = some 1 := by decide +kernel
set_option maxHeartbeats 4000000 in
set_option maxRecDepth 100000 in
theorem c_X7_hasStarted (l : Launch) {g : Geo} (hg : Good g) (μ : Mem) (sc : Nat) (hsc : isC g sc) {r : Int32} (hf : f_X7_hasStarted g.F μ sc = some r) : Met l yX7_hasStarted (ws_ yX7_hasStarted cX7_hasStarted 6 (some .boolean)) (rm_ 0 0 0 0) (Pz g [.ref (g.ad 0), .ref (g.ad sc)] (Rg g μ)) (va_Qi (fun (v : Int32) (_ : Unit) => v = r) (fun _ _ => True) (fun _ => False)) 0 0 (fun _ => False) := by
  refine Met.ofW (cc := cX7_hasStarted) (maxL := 6) (ret := (some .boolean)) (by decide) rfl ?_
  intro p e s m args below meth c s₁ B hml hv
  obtain ⟨rfl, hT, hP⟩ := hv
  have hx := B.exec
  have hb := B.bytes
  have hr := B.returns
  have hts : ∀ w ∈ lw_all, w.before _ s = true := fun w h => atoms_spec (ws := (ws_ yX7_hasStarted cX7_hasStarted 6 (some .boolean))) B.pre w (List.mem_cons_of_mem _ h)
  have hown : s.vm.findClass RX7 = some m.cls := findClass_of_methodNamed B.named
  have hlocks := B.notSynchronized
  have hS : va_S (fun _ => False) s.heap s.heap [] := va_S.rf
  have L11 : ∀ (n : Nat) (μ : Mem) (x1 : Nat) (x3 : Int32) (x4 : Int32) (H : Heap) (locs : List Loc) (ls : Array Slot), Rg g μ H → va_S (fun _ => False) s.heap H locs → lv_has ls 6 [(1, .ref (g.ad x1)), (2, .ref (g.ad 97)), (3, .int x3), (4, .int x4)] → isC g x1 → b_X7_hasStarted_11 g.F n μ x1 x3 x4 = some r → W p l e (headSpec (ws_ yX7_hasStarted cX7_hasStarted 6 (some .boolean)) (rm_ 0 0 0 0)).room s m ([.ref (g.ad 0), .ref (g.ad sc)] : List Value).toArray below meth c H locs 0 0 (MQ below (va_Qi (fun (v : Int32) (_ : Unit) => v = r) (fun _ _ => True) (fun _ => False)) ([.ref (g.ad 0), .ref (g.ad sc)] : List Value).toArray s 0 0 (fun _ => False)) (F0 m 11 ls []) := by
    intro n
    induction n with
    | zero => intro μ x1 x3 x4 H locs ls hP hS hl hx1 hf; cases hf
    | succ n ih =>
      intro μ x1 x3 x4 H locs ls hP hS hl hx1 hf
      rw [b_X7_hasStarted_11] at hf
      refine lv_iload hx hb dX7_hasStarted_11 (lv_at hl 3 rfl) ?_
      refine lv_iload_n hx hb dX7_hasStarted_13 rfl (lv_at hl 2 rfl) ?_
      refine lv_icmp_ge (tgt := 40) hx hb dX7_hasStarted_14 (by decide) (fun c_1 => ?_) (fun c_1 => ?_)
      · have hf := (if_pos c_1).symm.trans hf
        refine lv_iconst (v := 0) hx hb dX7_hasStarted_40 (by decide) ?_
        exact W.zret (v := 0) (ty := .boolean) hx hb hr (by decide) (fun t9 ht hW => ⟨⟨0, (), rfl, Option.some.inj hf, trivial⟩, hS.F ht⟩) hS.2.2 dX7_hasStarted_41
      · have hf := (if_neg c_1).symm.trans hf
        refine lv_aload_n hx hb dX7_hasStarted_17 rfl (lv_at hl 1 rfl) ?_
        refine lv_iload hx hb dX7_hasStarted_18 (lv_at hl 3 rfl) ?_
        obtain ⟨hi_2, hf⟩ := grd_some hf
        refine r_aaldP hx hb hT hP hi_2 dX7_hasStarted_20 (fun hp_3 => ?_)
        obtain ⟨k_4, ek_4⟩ : ∃ z, x4.toNatClampNeg + 1 = z := ⟨_, rfl⟩
        rw [ek_4] at hp_3 ⊢
        have hf := bnd_eq hf _ ek_4
        refine lv_astore (lv' := [(5, .ref (g.ad k_4)), (1, .ref (g.ad x1)), (2, .ref (g.ad 97)), (3, .int x3), (4, .int x4)]) hx hb dX7_hasStarted_21 hl (by decide) rfl (fun ls hl => ?_)
        refine lv_aload hx hb dX7_hasStarted_23 (lv_at hl 0 rfl) ?_
        refine r_get hx hb hts i_X2 hown hT hP (inP hp_3) (fs := (fsP g k_4)) (obP hp_3) rfl 1 (by decide) q114 (fun _ h9 => h9) rfl dX7_hasStarted_25 ?_
        rw [sref_srf]
        cases ho_59 : srf (μ k_4 1) with
        | none =>
          rw [ho_59] at hf
          dsimp only [csQ] at hf
          refine W.eq (g2 := F0 m 28 ls [.null]) rfl ?_
          refine lv_aload_n hx hb dX7_hasStarted_28 rfl (lv_at hl 1 rfl) ?_
          refine r_acmp_neN (tgt := 34) hx hb dX7_hasStarted_29 (by decide) ?_
          refine lv_iinc (v := x4 + 1) (lv' := [(4, .int (x4 + 1)), (5, .ref (g.ad k_4)), (1, .ref (g.ad x1)), (2, .ref (g.ad 97)), (3, .int x3)]) hx hb dX7_hasStarted_34 hl (k := 4) rfl rfl (by decide) rfl (fun ls hl => ?_)
          refine lv_goto (tgt := 11) hx hb dX7_hasStarted_37 (by decide) ?_
          exact ih μ x1 x3 (x4 + 1) _ _ _ hP hS (lv_sub hl [2, 3, 4, 0] rfl) hx1 hf
        | some o_5 =>
          rw [ho_59] at hf
          dsimp only [csQ] at hf
          obtain ⟨ho_5, hf⟩ := grd_some hf
          refine W.eq (g2 := F0 m 28 ls [.ref (g.ad o_5)]) rfl ?_
          refine lv_aload_n hx hb dX7_hasStarted_28 rfl (lv_at hl 1 rfl) ?_
          refine r_acmp_ne (tgt := 34) hx hb hg (inC ho_5) (inC hx1) dX7_hasStarted_29 (by decide) (fun c_6 => ?_) (fun c_6 => ?_)
          · have hf := (if_neg c_6).symm.trans hf
            refine lv_iinc (v := x4 + 1) (lv' := [(4, .int (x4 + 1)), (5, .ref (g.ad k_4)), (1, .ref (g.ad x1)), (2, .ref (g.ad 97)), (3, .int x3)]) hx hb dX7_hasStarted_34 hl (k := 4) rfl rfl (by decide) rfl (fun ls hl => ?_)
            refine lv_goto (tgt := 11) hx hb dX7_hasStarted_37 (by decide) ?_
            exact ih μ x1 x3 (x4 + 1) _ _ _ hP hS (lv_sub hl [2, 3, 4, 0] rfl) hx1 hf
          · have hf := (if_pos c_6).symm.trans hf
            refine lv_iconst (v := 1) hx hb dX7_hasStarted_32 (by decide) ?_
            exact W.zret (v := 1) (ty := .boolean) hx hb hr (by decide) (fun t9 ht hW => ⟨⟨1, (), rfl, Option.some.inj hf, trivial⟩, hS.F ht⟩) hS.2.2 dX7_hasStarted_33
  have hl := lv_entry ([.ref (g.ad 0), .ref (g.ad sc)]) (n := 6) (Nat.le_of_ble_eq_true rfl)
  rw [lg_entry_eq]
  generalize (lg_sl ([.ref (g.ad 0), .ref (g.ad sc)]) ++ List.replicate (6 - (lg_sl ([.ref (g.ad 0), .ref (g.ad sc)])).length) Slot.unset).toArray = ls at hl ⊢
  have hl : lv_has ls 6 [(0, .ref (g.ad 0)), (1, .ref (g.ad sc))] := hl
  unfold f_X7_hasStarted at hf
  refine lv_aload_n hx hb dX7_hasStarted_0 rfl (lv_at hl 0 rfl) ?_
  refine r_get hx hb hts i_X7 hown hT hP inW (fs := (fsW g)) (obW g) rfl 4 (by decide) q194 (fun _ h9 => h9) rfl dX7_hasStarted_1 ?_
  refine lv_astore_n (lv' := [(2, .ref (g.ad 97)), (0, .ref (g.ad 0)), (1, .ref (g.ad sc))]) hx hb dX7_hasStarted_4 rfl hl (by decide) rfl (fun ls hl => ?_)
  refine lv_aload_n hx hb dX7_hasStarted_5 rfl (lv_at hl 0 rfl) ?_
  refine r_alenP hx hb hT hP dX7_hasStarted_6 ?_
  refine lv_istore_n (lv' := [(3, .int 24), (2, .ref (g.ad 97)), (0, .ref (g.ad 0)), (1, .ref (g.ad sc))]) hx hb dX7_hasStarted_7 rfl hl (by decide) rfl (fun ls hl => ?_)
  refine lv_iconst (v := 0) hx hb dX7_hasStarted_8 (by decide) ?_
  refine lv_istore (lv' := [(4, .int 0), (3, .int 24), (2, .ref (g.ad 97)), (0, .ref (g.ad 0)), (1, .ref (g.ad sc))]) hx hb dX7_hasStarted_9 hl (by decide) rfl (fun ls hl => ?_)
  exact L11 fu μ sc 24 0 _ _ _ hP hS (lv_sub hl [4, 2, 1, 0] rfl) hsc hf
/-- "Sandglass$World" "countEvents" "()I" -/
def b_X7_countEvents_13 (g : Fg) : Nat → Mem → Int32 → Int32 → Int32 → Option (Int32)
  | 0, _, _, _, _ => none
  | n + 1, μ, x1, x3, x4 => if x3 ≤ x4 then (some x1) else (grd (¬ (x4 < 0 ∨ 24 ≤ x4.toNatClampNeg)) (bnd (x4.toNatClampNeg + 1) fun k_4 => if (μ k_4 7) = (-1) then (b_X7_countEvents_13 g n μ x1 x3 (x4 + 1)) else (b_X7_countEvents_13 g n μ (x1 + 1) x3 (x4 + 1))))
def f_X7_countEvents (g : Fg) (μ : Mem) : Option (Int32) := b_X7_countEvents_13 g fu μ 0 24 0
theorem hd_X7_countEvents : yX7_countEvents.cls = RX7 ∧ yX7_countEvents.cls ≠ "java/lang/invoke/MethodHandle" ∧ yX7_countEvents.cls ≠ "java/lang/invoke/VarHandle" ∧ (parseMethodDescriptor yX7_countEvents.desc).map (fun d => d.parameters.length) = some 0 := by decide +kernel
set_option maxHeartbeats 4000000 in
set_option maxRecDepth 100000 in
theorem c_X7_countEvents (l : Launch) {g : Geo} (hg : Good g) (μ : Mem) {r : Int32} (hf : f_X7_countEvents g.F μ  = some r) : Met l yX7_countEvents (ws_ yX7_countEvents cX7_countEvents 6 (some .int)) (rm_ 0 0 0 0) (Pz g [.ref (g.ad 0)] (Rg g μ)) (va_Qi (fun (v : Int32) (_ : Unit) => v = r) (fun _ _ => True) (fun _ => False)) 0 0 (fun _ => False) := by
  refine Met.ofW (cc := cX7_countEvents) (maxL := 6) (ret := (some .int)) (by decide) rfl ?_
  intro p e s m args below meth c s₁ B hml hv
  obtain ⟨rfl, hT, hP⟩ := hv
  have hx := B.exec
  have hb := B.bytes
  have hr := B.returns
  have hts : ∀ w ∈ lw_all, w.before _ s = true := fun w h => atoms_spec (ws := (ws_ yX7_countEvents cX7_countEvents 6 (some .int))) B.pre w (List.mem_cons_of_mem _ h)
  have hown : s.vm.findClass RX7 = some m.cls := findClass_of_methodNamed B.named
  have hlocks := B.notSynchronized
  have hS : va_S (fun _ => False) s.heap s.heap [] := va_S.rf
  have L13 : ∀ (n : Nat) (μ : Mem) (x1 : Int32) (x3 : Int32) (x4 : Int32) (H : Heap) (locs : List Loc) (ls : Array Slot), Rg g μ H → va_S (fun _ => False) s.heap H locs → lv_has ls 6 [(1, .int x1), (2, .ref (g.ad 97)), (3, .int x3), (4, .int x4)] → b_X7_countEvents_13 g.F n μ x1 x3 x4 = some r → W p l e (headSpec (ws_ yX7_countEvents cX7_countEvents 6 (some .int)) (rm_ 0 0 0 0)).room s m ([.ref (g.ad 0)] : List Value).toArray below meth c H locs 0 0 (MQ below (va_Qi (fun (v : Int32) (_ : Unit) => v = r) (fun _ _ => True) (fun _ => False)) ([.ref (g.ad 0)] : List Value).toArray s 0 0 (fun _ => False)) (F0 m 13 ls []) := by
    intro n
    induction n with
    | zero => intro μ x1 x3 x4 H locs ls hP hS hl  hf; cases hf
    | succ n ih =>
      intro μ x1 x3 x4 H locs ls hP hS hl  hf
      rw [b_X7_countEvents_13] at hf
      refine lv_iload hx hb dX7_countEvents_13 (lv_at hl 3 rfl) ?_
      refine lv_iload_n hx hb dX7_countEvents_15 rfl (lv_at hl 2 rfl) ?_
      refine lv_icmp_ge (tgt := 43) hx hb dX7_countEvents_16 (by decide) (fun c_1 => ?_) (fun c_1 => ?_)
      · have hf := (if_pos c_1).symm.trans hf
        refine lv_iload_n hx hb dX7_countEvents_43 rfl (lv_at hl 0 rfl) ?_
        exact W.iret (v := x1) hx hb hr (fun t9 ht hW => ⟨⟨x1, (), rfl, Option.some.inj hf, trivial⟩, hS.F ht⟩) hS.2.2 dX7_countEvents_44
      · have hf := (if_neg c_1).symm.trans hf
        refine lv_aload_n hx hb dX7_countEvents_19 rfl (lv_at hl 1 rfl) ?_
        refine lv_iload hx hb dX7_countEvents_20 (lv_at hl 3 rfl) ?_
        obtain ⟨hi_2, hf⟩ := grd_some hf
        refine r_aaldP hx hb hT hP hi_2 dX7_countEvents_22 (fun hp_3 => ?_)
        obtain ⟨k_4, ek_4⟩ : ∃ z, x4.toNatClampNeg + 1 = z := ⟨_, rfl⟩
        rw [ek_4] at hp_3 ⊢
        have hf := bnd_eq hf _ ek_4
        refine lv_astore (lv' := [(5, .ref (g.ad k_4)), (1, .int x1), (2, .ref (g.ad 97)), (3, .int x3), (4, .int x4)]) hx hb dX7_countEvents_23 hl (by decide) rfl (fun ls hl => ?_)
        refine lv_aload hx hb dX7_countEvents_25 (lv_at hl 0 rfl) ?_
        refine r_get hx hb hts i_X2 hown hT hP (inP hp_3) (fs := (fsP g k_4)) (obP hp_3) rfl 7 (by decide) q131 (fun _ h9 => h9) rfl dX7_countEvents_27 ?_
        refine lv_iconst (v := (-1)) hx hb dX7_countEvents_30 (by decide) ?_
        refine lv_icmp_eq (tgt := 37) hx hb dX7_countEvents_31 (by decide) (fun c_5 => ?_) (fun c_5 => ?_)
        · have hf := (if_pos c_5).symm.trans hf
          refine lv_iinc (v := x4 + 1) (lv' := [(4, .int (x4 + 1)), (5, .ref (g.ad k_4)), (1, .int x1), (2, .ref (g.ad 97)), (3, .int x3)]) hx hb dX7_countEvents_37 hl (k := 4) rfl rfl (by decide) rfl (fun ls hl => ?_)
          refine lv_goto (tgt := 13) hx hb dX7_countEvents_40 (by decide) ?_
          exact ih μ x1 x3 (x4 + 1) _ _ _ hP hS (lv_sub hl [2, 3, 4, 0] rfl)  hf
        · have hf := (if_neg c_5).symm.trans hf
          refine lv_iinc (v := x1 + 1) (lv' := [(1, .int (x1 + 1)), (5, .ref (g.ad k_4)), (2, .ref (g.ad 97)), (3, .int x3), (4, .int x4)]) hx hb dX7_countEvents_34 hl (k := 1) rfl rfl (by decide) rfl (fun ls hl => ?_)
          refine lv_iinc (v := x4 + 1) (lv' := [(4, .int (x4 + 1)), (1, .int (x1 + 1)), (5, .ref (g.ad k_4)), (2, .ref (g.ad 97)), (3, .int x3)]) hx hb dX7_countEvents_37 hl (k := 4) rfl rfl (by decide) rfl (fun ls hl => ?_)
          refine lv_goto (tgt := 13) hx hb dX7_countEvents_40 (by decide) ?_
          exact ih μ (x1 + 1) x3 (x4 + 1) _ _ _ hP hS (lv_sub hl [1, 3, 4, 0] rfl)  hf
  have hl := lv_entry ([.ref (g.ad 0)]) (n := 6) (Nat.le_of_ble_eq_true rfl)
  rw [lg_entry_eq]
  generalize (lg_sl ([.ref (g.ad 0)]) ++ List.replicate (6 - (lg_sl ([.ref (g.ad 0)])).length) Slot.unset).toArray = ls at hl ⊢
  have hl : lv_has ls 6 [(0, .ref (g.ad 0))] := hl
  unfold f_X7_countEvents at hf
  refine lv_iconst (v := 0) hx hb dX7_countEvents_0 (by decide) ?_
  refine lv_istore_n (lv' := [(1, .int 0), (0, .ref (g.ad 0))]) hx hb dX7_countEvents_1 rfl hl (by decide) rfl (fun ls hl => ?_)
  refine lv_aload_n hx hb dX7_countEvents_2 rfl (lv_at hl 1 rfl) ?_
  refine r_get hx hb hts i_X7 hown hT hP inW (fs := (fsW g)) (obW g) rfl 4 (by decide) q194 (fun _ h9 => h9) rfl dX7_countEvents_3 ?_
  refine lv_astore_n (lv' := [(2, .ref (g.ad 97)), (1, .int 0), (0, .ref (g.ad 0))]) hx hb dX7_countEvents_6 rfl hl (by decide) rfl (fun ls hl => ?_)
  refine lv_aload_n hx hb dX7_countEvents_7 rfl (lv_at hl 0 rfl) ?_
  refine r_alenP hx hb hT hP dX7_countEvents_8 ?_
  refine lv_istore_n (lv' := [(3, .int 24), (2, .ref (g.ad 97)), (1, .int 0), (0, .ref (g.ad 0))]) hx hb dX7_countEvents_9 rfl hl (by decide) rfl (fun ls hl => ?_)
  refine lv_iconst (v := 0) hx hb dX7_countEvents_10 (by decide) ?_
  refine lv_istore (lv' := [(4, .int 0), (3, .int 24), (2, .ref (g.ad 97)), (1, .int 0), (0, .ref (g.ad 0))]) hx hb dX7_countEvents_11 hl (by decide) rfl (fun ls hl => ?_)
  exact L13 fu μ 0 24 0 _ _ _ hP hS (lv_sub hl [3, 2, 1, 0] rfl)  hf
/-- "Sandglass$World" "nextToGo" "()LSandglass$Proc;" -/
def b_X7_nextToGo_13 (g : Fg) : Nat → Mem → Option Nat → Int32 → Int32 → Option ((Option Nat))
  | 0, _, _, _, _ => none
  | n + 1, μ, x1, x3, x4 => if x3 ≤ x4 then (csQ x1 (some (none)) (fun o_2 => grd (1 ≤ o_2 ∧ o_2 < 25) (some (some o_2)))) else (grd (¬ (x4 < 0 ∨ 24 ≤ x4.toNatClampNeg)) (bnd (x4.toNatClampNeg + 1) fun k_5 => if (μ k_5 7) = (-1) then (b_X7_nextToGo_13 g n μ x1 x3 (x4 + 1)) else (csQ x1 (b_X7_nextToGo_13 g n μ (some k_5) x3 (x4 + 1)) (fun o_7 => grd (1 ≤ o_7 ∧ o_7 < 25) (bnO (f_X2_goesBefore g μ k_5 o_7) fun r_8 => if r_8 = 0 then (b_X7_nextToGo_13 g n μ (some o_7) x3 (x4 + 1)) else (b_X7_nextToGo_13 g n μ (some k_5) x3 (x4 + 1)))))))
def f_X7_nextToGo (g : Fg) (μ : Mem) : Option ((Option Nat)) := b_X7_nextToGo_13 g fu μ none 24 0
theorem hd_X7_nextToGo : yX7_nextToGo.cls = RX7 ∧ yX7_nextToGo.cls ≠ "java/lang/invoke/MethodHandle" ∧ yX7_nextToGo.cls ≠ "java/lang/invoke/VarHandle" ∧ (parseMethodDescriptor yX7_nextToGo.desc).map (fun d => d.parameters.length) = some 0 := by decide +kernel
set_option maxHeartbeats 4000000 in
set_option maxRecDepth 100000 in
theorem c_X7_nextToGo (l : Launch) {g : Geo} (hg : Good g) (μ : Mem) {r : (Option Nat)} (hf : f_X7_nextToGo g.F μ  = some r) : Met l yX7_nextToGo (ws_ yX7_nextToGo cX7_nextToGo 6 (some (.object "Sandglass$Proc"))) (rm_ 1 21 0 0) (Pz g [.ref (g.ad 0)] (Rg g μ)) (va_Qq (fun (v : Option Nat) (_ : Unit) => v = r.map g.ad) (fun _ _ => True) (fun _ => False)) 0 0 (fun _ => False) := by
  refine Met.ofW (cc := cX7_nextToGo) (maxL := 6) (ret := (some (.object "Sandglass$Proc"))) (by decide) rfl ?_
  intro p e s m args below meth c s₁ B hml hv
  obtain ⟨rfl, hT, hP⟩ := hv
  have hx := B.exec
  have hb := B.bytes
  have hr := B.returns
  have hts : ∀ w ∈ lw_all, w.before _ s = true := fun w h => atoms_spec (ws := (ws_ yX7_nextToGo cX7_nextToGo 6 (some (.object "Sandglass$Proc")))) B.pre w (List.mem_cons_of_mem _ h)
  have hown : s.vm.findClass RX7 = some m.cls := findClass_of_methodNamed B.named
  have hlocks := B.notSynchronized
  have hS : va_S (fun _ => False) s.heap s.heap [] := va_S.rf
  have L13 : ∀ (n : Nat) (μ : Mem) (x1 : Option Nat) (x3 : Int32) (x4 : Int32) (H : Heap) (locs : List Loc) (ls : Array Slot), Rg g μ H → va_S (fun _ => False) s.heap H locs → lv_has ls 6 [(1, va_rf (x1.map g.ad)), (2, .ref (g.ad 97)), (3, .int x3), (4, .int x4)] → b_X7_nextToGo_13 g.F n μ x1 x3 x4 = some r → W p l e (headSpec (ws_ yX7_nextToGo cX7_nextToGo 6 (some (.object "Sandglass$Proc"))) (rm_ 1 21 0 0)).room s m ([.ref (g.ad 0)] : List Value).toArray below meth c H locs 0 0 (MQ below (va_Qq (fun (v : Option Nat) (_ : Unit) => v = r.map g.ad) (fun _ _ => True) (fun _ => False)) ([.ref (g.ad 0)] : List Value).toArray s 0 0 (fun _ => False)) (F0 m 13 ls []) := by
    intro n
    induction n with
    | zero => intro μ x1 x3 x4 H locs ls hP hS hl  hf; cases hf
    | succ n ih =>
      intro μ x1 x3 x4 H locs ls hP hS hl  hf
      rw [b_X7_nextToGo_13] at hf
      refine lv_iload hx hb dX7_nextToGo_13 (lv_at hl 3 rfl) ?_
      refine lv_iload_n hx hb dX7_nextToGo_15 rfl (lv_at hl 2 rfl) ?_
      refine lv_icmp_ge (tgt := 56) hx hb dX7_nextToGo_16 (by decide) (fun c_1 => ?_) (fun c_1 => ?_)
      · have hf := (if_pos c_1).symm.trans hf
        cases x1 with
        | none =>
          have hl : lv_has ls 6 [(1, .null), (2, .ref (g.ad 97)), (3, .int x3), (4, .int x4)] := hl
          dsimp only [csQ] at hf
          refine lv_aload_nN hx hb dX7_nextToGo_56 rfl (lv_at hl 0 rfl) ?_
          exact W.aret (v := .null) (rt := .object "Sandglass$Proc") hx hb hr (Or.inl ⟨_, rfl⟩) (Or.inl rfl) (fun t9 ht hW => ⟨⟨none, (), rfl, by rw [← Option.some.inj hf]; rfl, trivial⟩, hS.F ht⟩) hS.2.2 dX7_nextToGo_57
        | some o_2 =>
          have hl : lv_has ls 6 [(1, .ref (g.ad o_2)), (2, .ref (g.ad 97)), (3, .int x3), (4, .int x4)] := hl
          dsimp only [csQ] at hf
          obtain ⟨ho_2, hf⟩ := grd_some hf
          refine lv_aload_n hx hb dX7_nextToGo_56 rfl (lv_at hl 0 rfl) ?_
          exact W.aret (v := .ref (g.ad o_2)) (rt := .object "Sandglass$Proc") hx hb hr (Or.inl ⟨_, rfl⟩) (Or.inr ⟨_, rfl⟩) (fun t9 ht hW => ⟨⟨(some (g.ad o_2)), (), rfl, by rw [← Option.some.inj hf]; rfl, trivial⟩, hS.F ht⟩) hS.2.2 dX7_nextToGo_57
      · have hf := (if_neg c_1).symm.trans hf
        refine lv_aload_n hx hb dX7_nextToGo_19 rfl (lv_at hl 1 rfl) ?_
        refine lv_iload hx hb dX7_nextToGo_20 (lv_at hl 3 rfl) ?_
        obtain ⟨hi_3, hf⟩ := grd_some hf
        refine r_aaldP hx hb hT hP hi_3 dX7_nextToGo_22 (fun hp_4 => ?_)
        obtain ⟨k_5, ek_5⟩ : ∃ z, x4.toNatClampNeg + 1 = z := ⟨_, rfl⟩
        rw [ek_5] at hp_4 ⊢
        have hf := bnd_eq hf _ ek_5
        refine lv_astore (lv' := [(5, .ref (g.ad k_5)), (1, va_rf (x1.map g.ad)), (2, .ref (g.ad 97)), (3, .int x3), (4, .int x4)]) hx hb dX7_nextToGo_23 hl (by decide) rfl (fun ls hl => ?_)
        refine lv_aload hx hb dX7_nextToGo_25 (lv_at hl 0 rfl) ?_
        refine r_get hx hb hts i_X2 hown hT hP (inP hp_4) (fs := (fsP g k_5)) (obP hp_4) rfl 7 (by decide) q131 (fun _ h9 => h9) rfl dX7_nextToGo_27 ?_
        refine lv_iconst (v := (-1)) hx hb dX7_nextToGo_30 (by decide) ?_
        refine lv_icmp_eq (tgt := 50) hx hb dX7_nextToGo_31 (by decide) (fun c_6 => ?_) (fun c_6 => ?_)
        · have hf := (if_pos c_6).symm.trans hf
          refine lv_iinc (v := x4 + 1) (lv' := [(4, .int (x4 + 1)), (5, .ref (g.ad k_5)), (1, va_rf (x1.map g.ad)), (2, .ref (g.ad 97)), (3, .int x3)]) hx hb dX7_nextToGo_50 hl (k := 4) rfl rfl (by decide) rfl (fun ls hl => ?_)
          refine lv_goto (tgt := 13) hx hb dX7_nextToGo_53 (by decide) ?_
          exact ih μ x1 x3 (x4 + 1) _ _ _ hP hS (lv_sub hl [2, 3, 4, 0] rfl)  hf
        · have hf := (if_neg c_6).symm.trans hf
          cases x1 with
          | none =>
            have hl : lv_has ls 6 [(5, .ref (g.ad k_5)), (1, .null), (2, .ref (g.ad 97)), (3, .int x3), (4, .int x4)] := hl
            dsimp only [csQ] at hf
            refine lv_aload_nN hx hb dX7_nextToGo_34 rfl (lv_at hl 1 rfl) ?_
            refine lv_ifnullN (tgt := 47) hx hb dX7_nextToGo_35 (by decide) ?_
            refine lv_aload hx hb dX7_nextToGo_47 (lv_at hl 0 rfl) ?_
            refine lv_astore_n (lv' := [(1, .ref (g.ad k_5)), (5, .ref (g.ad k_5)), (2, .ref (g.ad 97)), (3, .int x3), (4, .int x4)]) hx hb dX7_nextToGo_49 rfl hl (by decide) rfl (fun ls hl => ?_)
            refine lv_iinc (v := x4 + 1) (lv' := [(4, .int (x4 + 1)), (1, .ref (g.ad k_5)), (5, .ref (g.ad k_5)), (2, .ref (g.ad 97)), (3, .int x3)]) hx hb dX7_nextToGo_50 hl (k := 4) rfl rfl (by decide) rfl (fun ls hl => ?_)
            refine lv_goto (tgt := 13) hx hb dX7_nextToGo_53 (by decide) ?_
            exact ih μ (some k_5) x3 (x4 + 1) _ _ _ hP hS (lv_sub hl [1, 3, 4, 0] rfl)  hf
          | some o_7 =>
            have hl : lv_has ls 6 [(5, .ref (g.ad k_5)), (1, .ref (g.ad o_7)), (2, .ref (g.ad 97)), (3, .int x3), (4, .int x4)] := hl
            dsimp only [csQ] at hf
            obtain ⟨ho_7, hf⟩ := grd_some hf
            refine lv_aload_n hx hb dX7_nextToGo_34 rfl (lv_at hl 1 rfl) ?_
            refine lv_ifnull hx hb dX7_nextToGo_35 ?_
            refine lv_aload hx hb dX7_nextToGo_38 (lv_at hl 0 rfl) ?_
            refine lv_aload_n hx hb dX7_nextToGo_40 rfl (lv_at hl 1 rfl) ?_
            obtain ⟨r_8, hc_9, hf⟩ := bnO_some hf
            refine va_calli (va_runV (As := [.ref (g.ad o_7)]) (rest := []) ⟨hx, hb, hml, hown, hts⟩ (c_X2_goesBefore l hg μ k_5 o_7 hp_4 ho_7 hc_9) (cwV 1 hts (gd_V q397 q398 q399 q42 q400) rfl rfl rfl hd_X2_goesBefore ⟨Nat.le_of_ble_eq_true rfl, Nat.le_of_ble_eq_true rfl⟩) ⟨Pz.blind, r_recv hT hP (inP hp_4) (fs := (fsP g k_5)) (obP hp_4) rfl, fun U hU hW => ⟨rfl, Tb.warm hW hT, by rw [hU]; exact hP⟩⟩ rfl rfl hl.1 rfl (lv_room (Nat.le_of_ble_eq_true rfl)) dX7_nextToGo_41 ⟨Nat.le_of_ble_eq_true rfl, Nat.le_of_ble_eq_true rfl⟩) hS (fun q _ h => h.elim) (fun q h => h.elim) (fun v9 u9 t9 H locs ht9 hvm9 hw9 hB9 hz9 hk9 hS => ?_)
            have hP := Rg.keep hP (fun q h => hk9 q h id)
            rw [hw9]
            refine lv_if_eq (tgt := 50) hx hb dX7_nextToGo_44 (by decide) (fun c_10 => ?_) (fun c_10 => ?_)
            · have hf := (if_pos c_10).symm.trans hf
              refine lv_iinc (v := x4 + 1) (lv' := [(4, .int (x4 + 1)), (5, .ref (g.ad k_5)), (1, .ref (g.ad o_7)), (2, .ref (g.ad 97)), (3, .int x3)]) hx hb dX7_nextToGo_50 hl (k := 4) rfl rfl (by decide) rfl (fun ls hl => ?_)
              refine lv_goto (tgt := 13) hx hb dX7_nextToGo_53 (by decide) ?_
              exact ih μ (some o_7) x3 (x4 + 1) _ _ _ hP hS (lv_sub hl [2, 3, 4, 0] rfl)  hf
            · have hf := (if_neg c_10).symm.trans hf
              refine lv_aload hx hb dX7_nextToGo_47 (lv_at hl 0 rfl) ?_
              refine lv_astore_n (lv' := [(1, .ref (g.ad k_5)), (5, .ref (g.ad k_5)), (2, .ref (g.ad 97)), (3, .int x3), (4, .int x4)]) hx hb dX7_nextToGo_49 rfl hl (by decide) rfl (fun ls hl => ?_)
              refine lv_iinc (v := x4 + 1) (lv' := [(4, .int (x4 + 1)), (1, .ref (g.ad k_5)), (5, .ref (g.ad k_5)), (2, .ref (g.ad 97)), (3, .int x3)]) hx hb dX7_nextToGo_50 hl (k := 4) rfl rfl (by decide) rfl (fun ls hl => ?_)
              refine lv_goto (tgt := 13) hx hb dX7_nextToGo_53 (by decide) ?_
              exact ih μ (some k_5) x3 (x4 + 1) _ _ _ hP hS (lv_sub hl [1, 3, 4, 0] rfl)  hf
  have hl := lv_entry ([.ref (g.ad 0)]) (n := 6) (Nat.le_of_ble_eq_true rfl)
  rw [lg_entry_eq]
  generalize (lg_sl ([.ref (g.ad 0)]) ++ List.replicate (6 - (lg_sl ([.ref (g.ad 0)])).length) Slot.unset).toArray = ls at hl ⊢
  have hl : lv_has ls 6 [(0, .ref (g.ad 0))] := hl
  unfold f_X7_nextToGo at hf
  refine lv_null hx hb dX7_nextToGo_0 ?_
  refine lv_astore_nN (lv' := [(1, .null), (0, .ref (g.ad 0))]) hx hb dX7_nextToGo_1 rfl hl (by decide) rfl (fun ls hl => ?_)
  refine lv_aload_n hx hb dX7_nextToGo_2 rfl (lv_at hl 1 rfl) ?_
  refine r_get hx hb hts i_X7 hown hT hP inW (fs := (fsW g)) (obW g) rfl 4 (by decide) q194 (fun _ h9 => h9) rfl dX7_nextToGo_3 ?_
  refine lv_astore_n (lv' := [(2, .ref (g.ad 97)), (1, .null), (0, .ref (g.ad 0))]) hx hb dX7_nextToGo_6 rfl hl (by decide) rfl (fun ls hl => ?_)
  refine lv_aload_n hx hb dX7_nextToGo_7 rfl (lv_at hl 0 rfl) ?_
  refine r_alenP hx hb hT hP dX7_nextToGo_8 ?_
  refine lv_istore_n (lv' := [(3, .int 24), (2, .ref (g.ad 97)), (1, .null), (0, .ref (g.ad 0))]) hx hb dX7_nextToGo_9 rfl hl (by decide) rfl (fun ls hl => ?_)
  refine lv_iconst (v := 0) hx hb dX7_nextToGo_10 (by decide) ?_
  refine lv_istore (lv' := [(4, .int 0), (3, .int 24), (2, .ref (g.ad 97)), (1, .null), (0, .ref (g.ad 0))]) hx hb dX7_nextToGo_11 hl (by decide) rfl (fun ls hl => ?_)
  exact L13 fu μ none 24 0 _ _ _ hP hS (lv_sub hl [3, 2, 1, 0] rfl)  hf
/-- "Sandglass$World" "hasEventBy" "(I)Z" -/
def f_X7_hasEventBy (g : Fg) (μ : Mem) (en : Int32) : Option (Int32) := bnO (f_X7_nextToGo g μ ) fun r_1 => csQ r_1 (some 0) (fun o_3 => grd (1 ≤ o_3 ∧ o_3 < 25) (if en < (μ o_3 7) then (some 0) else (some 1)))
theorem hd_X7_hasEventBy : yX7_hasEventBy.cls = RX7 ∧ yX7_hasEventBy.cls ≠ "java/lang/invoke/MethodHandle" ∧ yX7_hasEventBy.cls ≠ "java/lang/invoke/VarHandle" ∧ (parseMethodDescriptor yX7_hasEventBy.desc).map (fun d => d.parameters.length) = some 1 := by decide +kernel
set_option maxHeartbeats 4000000 in
set_option maxRecDepth 100000 in
theorem c_X7_hasEventBy (l : Launch) {g : Geo} (hg : Good g) (μ : Mem) (en : Int32) {r : Int32} (hf : f_X7_hasEventBy g.F μ en = some r) : Met l yX7_hasEventBy (ws_ yX7_hasEventBy cX7_hasEventBy 3 (some .boolean)) (rm_ 2 46 0 0) (Pz g [.ref (g.ad 0), .int en] (Rg g μ)) (va_Qi (fun (v : Int32) (_ : Unit) => v = r) (fun _ _ => True) (fun _ => False)) 0 0 (fun _ => False) := by
  refine Met.ofW (cc := cX7_hasEventBy) (maxL := 3) (ret := (some .boolean)) (by decide) rfl ?_
  intro p e s m args below meth c s₁ B hml hv
  obtain ⟨rfl, hT, hP⟩ := hv
  have hx := B.exec
  have hb := B.bytes
  have hr := B.returns
  have hts : ∀ w ∈ lw_all, w.before _ s = true := fun w h => atoms_spec (ws := (ws_ yX7_hasEventBy cX7_hasEventBy 3 (some .boolean))) B.pre w (List.mem_cons_of_mem _ h)
  have hown : s.vm.findClass RX7 = some m.cls := findClass_of_methodNamed B.named
  have hlocks := B.notSynchronized
  have hS : va_S (fun _ => False) s.heap s.heap [] := va_S.rf
  have hl := lv_entry ([.ref (g.ad 0), .int en]) (n := 3) (Nat.le_of_ble_eq_true rfl)
  rw [lg_entry_eq]
  generalize (lg_sl ([.ref (g.ad 0), .int en]) ++ List.replicate (3 - (lg_sl ([.ref (g.ad 0), .int en])).length) Slot.unset).toArray = ls at hl ⊢
  have hl : lv_has ls 3 [(0, .ref (g.ad 0)), (1, .int en)] := hl
  unfold f_X7_hasEventBy at hf
  refine lv_aload_n hx hb dX7_hasEventBy_0 rfl (lv_at hl 0 rfl) ?_
  obtain ⟨r_1, hc_2, hf⟩ := bnO_some hf
  refine va_callq (va_runV (As := []) (rest := []) ⟨hx, hb, hml, hown, hts⟩ (c_X7_nextToGo l hg μ   hc_2) (cwV 0 hts (gd_V q393 q394 q395 q41 q396) rfl rfl rfl hd_X7_nextToGo ⟨Nat.le_of_ble_eq_true rfl, Nat.le_of_ble_eq_true rfl⟩) ⟨Pz.blind, r_recv hT hP inW (fs := (fsW g)) (obW g) rfl, fun U hU hW => ⟨rfl, Tb.warm hW hT, by rw [hU]; exact hP⟩⟩ rfl rfl hl.1 rfl (lv_room (Nat.le_of_ble_eq_true rfl)) dX7_hasEventBy_1 ⟨Nat.le_of_ble_eq_true rfl, Nat.le_of_ble_eq_true rfl⟩) hS (fun q _ h => h.elim) (fun q h => h.elim) (fun v9 u9 t9 H locs ht9 hvm9 hw9 hB9 hz9 hk9 hS => ?_)
  have hP := Rg.keep hP (fun q h => hk9 q h id)
  rw [hw9]
  cases r_1 with
  | none =>
    dsimp only [csQ] at hf
    refine W.eq (g2 := F0 m 4 ls [.null]) rfl ?_
    refine lv_astore_nN (lv' := [(2, .null), (0, .ref (g.ad 0)), (1, .int en)]) hx hb dX7_hasEventBy_4 rfl hl (by decide) rfl (fun ls hl => ?_)
    refine lv_aload_nN hx hb dX7_hasEventBy_5 rfl (lv_at hl 0 rfl) ?_
    refine lv_ifnullN (tgt := 21) hx hb dX7_hasEventBy_6 (by decide) ?_
    refine lv_iconst (v := 0) hx hb dX7_hasEventBy_21 (by decide) ?_
    exact W.zret (v := 0) (ty := .boolean) hx hb hr (by decide) (fun t9 ht hW => ⟨⟨0, (), rfl, Option.some.inj hf, trivial⟩, hS.F ht⟩) hS.2.2 dX7_hasEventBy_22
  | some o_3 =>
    dsimp only [csQ] at hf
    obtain ⟨ho_3, hf⟩ := grd_some hf
    refine W.eq (g2 := F0 m 4 ls [.ref (g.ad o_3)]) rfl ?_
    refine lv_astore_n (lv' := [(2, .ref (g.ad o_3)), (0, .ref (g.ad 0)), (1, .int en)]) hx hb dX7_hasEventBy_4 rfl hl (by decide) rfl (fun ls hl => ?_)
    refine lv_aload_n hx hb dX7_hasEventBy_5 rfl (lv_at hl 0 rfl) ?_
    refine lv_ifnull hx hb dX7_hasEventBy_6 ?_
    refine lv_aload_n hx hb dX7_hasEventBy_9 rfl (lv_at hl 0 rfl) ?_
    refine r_get hx hb hts i_X2 hown hT hP (inP ho_3) (fs := (fsP g o_3)) (obP ho_3) rfl 7 (by decide) q131 (fun _ h9 => h9) rfl dX7_hasEventBy_10 ?_
    refine lv_iload_n hx hb dX7_hasEventBy_13 rfl (lv_at hl 2 rfl) ?_
    refine lv_icmp_gt (tgt := 21) hx hb dX7_hasEventBy_14 (by decide) (fun c_4 => ?_) (fun c_4 => ?_)
    · have hf := (if_pos c_4).symm.trans hf
      refine lv_iconst (v := 0) hx hb dX7_hasEventBy_21 (by decide) ?_
      exact W.zret (v := 0) (ty := .boolean) hx hb hr (by decide) (fun t9 ht hW => ⟨⟨0, (), rfl, Option.some.inj hf, trivial⟩, hS.F ht⟩) hS.2.2 dX7_hasEventBy_22
    · have hf := (if_neg c_4).symm.trans hf
      refine lv_iconst (v := 1) hx hb dX7_hasEventBy_17 (by decide) ?_
      refine lv_goto (tgt := 22) hx hb dX7_hasEventBy_18 (by decide) ?_
      exact W.zret (v := 1) (ty := .boolean) hx hb hr (by decide) (fun t9 ht hW => ⟨⟨1, (), rfl, Option.some.inj hf, trivial⟩, hS.F ht⟩) hS.2.2 dX7_hasEventBy_22
/-- "Sandglass$World" "countBefore" "(LSandglass$Proc;)I" -/
def b_X7_countBefore_14 (g : Fg) : Nat → Mem → Nat → Int32 → Int32 → Int32 → Option (Int32)
  | 0, _, _, _, _, _ => none
  | n + 1, μ, x1, x2, x4, x5 => if x4 ≤ x5 then (some x2) else (grd (¬ (x5 < 0 ∨ 24 ≤ x5.toNatClampNeg)) (bnd (x5.toNatClampNeg + 1) fun k_4 => if (μ k_4 9) = (μ x1 9) then (bnO (f_X2_standsBefore g μ k_4 x1) fun r_6 => if r_6 = 0 then (b_X7_countBefore_14 g n μ x1 x2 x4 (x5 + 1)) else (b_X7_countBefore_14 g n μ x1 (x2 + 1) x4 (x5 + 1))) else (b_X7_countBefore_14 g n μ x1 x2 x4 (x5 + 1))))
def f_X7_countBefore (g : Fg) (μ : Mem) (q : Nat) : Option (Int32) := b_X7_countBefore_14 g fu μ q 0 24 0
theorem hd_X7_countBefore : yX7_countBefore.cls = RX7 ∧ yX7_countBefore.cls ≠ "java/lang/invoke/MethodHandle" ∧ yX7_countBefore.cls ≠ "java/lang/invoke/VarHandle" ∧ (parseMethodDescriptor yX7_countBefore.desc).map (fun d => d.parameters.length) = some 1 := by decide +kernel
set_option maxHeartbeats 4000000 in
set_option maxRecDepth 100000 in
theorem c_X7_countBefore (l : Launch) {g : Geo} (hg : Good g) (μ : Mem) (q : Nat) (hq : isP q) {r : Int32} (hf : f_X7_countBefore g.F μ q = some r) : Met l yX7_countBefore (ws_ yX7_countBefore cX7_countBefore 7 (some .int)) (rm_ 1 21 0 0) (Pz g [.ref (g.ad 0), .ref (g.ad q)] (Rg g μ)) (va_Qi (fun (v : Int32) (_ : Unit) => v = r) (fun _ _ => True) (fun _ => False)) 0 0 (fun _ => False) := by
  refine Met.ofW (cc := cX7_countBefore) (maxL := 7) (ret := (some .int)) (by decide) rfl ?_
  intro p e s m args below meth c s₁ B hml hv
  obtain ⟨rfl, hT, hP⟩ := hv
  have hx := B.exec
  have hb := B.bytes
  have hr := B.returns
  have hts : ∀ w ∈ lw_all, w.before _ s = true := fun w h => atoms_spec (ws := (ws_ yX7_countBefore cX7_countBefore 7 (some .int))) B.pre w (List.mem_cons_of_mem _ h)
  have hown : s.vm.findClass RX7 = some m.cls := findClass_of_methodNamed B.named
  have hlocks := B.notSynchronized
  have hS : va_S (fun _ => False) s.heap s.heap [] := va_S.rf
  have L14 : ∀ (n : Nat) (μ : Mem) (x1 : Nat) (x2 : Int32) (x4 : Int32) (x5 : Int32) (H : Heap) (locs : List Loc) (ls : Array Slot), Rg g μ H → va_S (fun _ => False) s.heap H locs → lv_has ls 7 [(1, .ref (g.ad x1)), (2, .int x2), (3, .ref (g.ad 97)), (4, .int x4), (5, .int x5)] → isP x1 → b_X7_countBefore_14 g.F n μ x1 x2 x4 x5 = some r → W p l e (headSpec (ws_ yX7_countBefore cX7_countBefore 7 (some .int)) (rm_ 1 21 0 0)).room s m ([.ref (g.ad 0), .ref (g.ad q)] : List Value).toArray below meth c H locs 0 0 (MQ below (va_Qi (fun (v : Int32) (_ : Unit) => v = r) (fun _ _ => True) (fun _ => False)) ([.ref (g.ad 0), .ref (g.ad q)] : List Value).toArray s 0 0 (fun _ => False)) (F0 m 14 ls []) := by
    intro n
    induction n with
    | zero => intro μ x1 x2 x4 x5 H locs ls hP hS hl hx1 hf; cases hf
    | succ n ih =>
      intro μ x1 x2 x4 x5 H locs ls hP hS hl hx1 hf
      rw [b_X7_countBefore_14] at hf
      refine lv_iload hx hb dX7_countBefore_14 (lv_at hl 4 rfl) ?_
      refine lv_iload hx hb dX7_countBefore_16 (lv_at hl 3 rfl) ?_
      refine lv_icmp_ge (tgt := 57) hx hb dX7_countBefore_18 (by decide) (fun c_1 => ?_) (fun c_1 => ?_)
      · have hf := (if_pos c_1).symm.trans hf
        refine lv_iload_n hx hb dX7_countBefore_57 rfl (lv_at hl 1 rfl) ?_
        exact W.iret (v := x2) hx hb hr (fun t9 ht hW => ⟨⟨x2, (), rfl, Option.some.inj hf, trivial⟩, hS.F ht⟩) hS.2.2 dX7_countBefore_58
      · have hf := (if_neg c_1).symm.trans hf
        refine lv_aload_n hx hb dX7_countBefore_21 rfl (lv_at hl 2 rfl) ?_
        refine lv_iload hx hb dX7_countBefore_22 (lv_at hl 4 rfl) ?_
        obtain ⟨hi_2, hf⟩ := grd_some hf
        refine r_aaldP hx hb hT hP hi_2 dX7_countBefore_24 (fun hp_3 => ?_)
        obtain ⟨k_4, ek_4⟩ : ∃ z, x5.toNatClampNeg + 1 = z := ⟨_, rfl⟩
        rw [ek_4] at hp_3 ⊢
        have hf := bnd_eq hf _ ek_4
        refine lv_astore (lv' := [(6, .ref (g.ad k_4)), (1, .ref (g.ad x1)), (2, .int x2), (3, .ref (g.ad 97)), (4, .int x4), (5, .int x5)]) hx hb dX7_countBefore_25 hl (by decide) rfl (fun ls hl => ?_)
        refine lv_aload hx hb dX7_countBefore_27 (lv_at hl 0 rfl) ?_
        refine r_get hx hb hts i_X2 hown hT hP (inP hp_3) (fs := (fsP g k_4)) (obP hp_3) rfl 9 (by decide) q136 (fun _ h9 => h9) rfl dX7_countBefore_29 ?_
        refine lv_aload_n hx hb dX7_countBefore_32 rfl (lv_at hl 1 rfl) ?_
        refine r_get hx hb hts i_X2 hown hT hP (inP hx1) (fs := (fsP g x1)) (obP hx1) rfl 9 (by decide) q136 (fun _ h9 => h9) rfl dX7_countBefore_33 ?_
        refine lv_icmp_ne (tgt := 51) hx hb dX7_countBefore_36 (by decide) (fun c_5 => ?_) (fun c_5 => ?_)
        · have hf := (if_neg c_5).symm.trans hf
          refine lv_iinc (v := x5 + 1) (lv' := [(5, .int (x5 + 1)), (6, .ref (g.ad k_4)), (1, .ref (g.ad x1)), (2, .int x2), (3, .ref (g.ad 97)), (4, .int x4)]) hx hb dX7_countBefore_51 hl (k := 5) rfl rfl (by decide) rfl (fun ls hl => ?_)
          refine lv_goto (tgt := 14) hx hb dX7_countBefore_54 (by decide) ?_
          exact ih μ x1 x2 x4 (x5 + 1) _ _ _ hP hS (lv_sub hl [2, 3, 4, 5, 0] rfl) hx1 hf
        · have hf := (if_pos c_5).symm.trans hf
          refine lv_aload hx hb dX7_countBefore_39 (lv_at hl 0 rfl) ?_
          refine lv_aload_n hx hb dX7_countBefore_41 rfl (lv_at hl 1 rfl) ?_
          obtain ⟨r_6, hc_7, hf⟩ := bnO_some hf
          refine va_calli (va_runV (As := [.ref (g.ad x1)]) (rest := []) ⟨hx, hb, hml, hown, hts⟩ (c_X2_standsBefore l hg μ k_4 x1 hp_3 hx1 hc_7) (cwV 1 hts (gd_V q450 q451 q452 q42 q453) rfl rfl rfl hd_X2_standsBefore ⟨Nat.le_of_ble_eq_true rfl, Nat.le_of_ble_eq_true rfl⟩) ⟨Pz.blind, r_recv hT hP (inP hp_3) (fs := (fsP g k_4)) (obP hp_3) rfl, fun U hU hW => ⟨rfl, Tb.warm hW hT, by rw [hU]; exact hP⟩⟩ rfl rfl hl.1 rfl (lv_room (Nat.le_of_ble_eq_true rfl)) dX7_countBefore_42 ⟨Nat.le_of_ble_eq_true rfl, Nat.le_of_ble_eq_true rfl⟩) hS (fun q _ h => h.elim) (fun q h => h.elim) (fun v9 u9 t9 H locs ht9 hvm9 hw9 hB9 hz9 hk9 hS => ?_)
          have hP := Rg.keep hP (fun q h => hk9 q h id)
          rw [hw9]
          refine lv_if_eq (tgt := 51) hx hb dX7_countBefore_45 (by decide) (fun c_8 => ?_) (fun c_8 => ?_)
          · have hf := (if_pos c_8).symm.trans hf
            refine lv_iinc (v := x5 + 1) (lv' := [(5, .int (x5 + 1)), (6, .ref (g.ad k_4)), (1, .ref (g.ad x1)), (2, .int x2), (3, .ref (g.ad 97)), (4, .int x4)]) hx hb dX7_countBefore_51 hl (k := 5) rfl rfl (by decide) rfl (fun ls hl => ?_)
            refine lv_goto (tgt := 14) hx hb dX7_countBefore_54 (by decide) ?_
            exact ih μ x1 x2 x4 (x5 + 1) _ _ _ hP hS (lv_sub hl [2, 3, 4, 5, 0] rfl) hx1 hf
          · have hf := (if_neg c_8).symm.trans hf
            refine lv_iinc (v := x2 + 1) (lv' := [(2, .int (x2 + 1)), (6, .ref (g.ad k_4)), (1, .ref (g.ad x1)), (3, .ref (g.ad 97)), (4, .int x4), (5, .int x5)]) hx hb dX7_countBefore_48 hl (k := 2) rfl rfl (by decide) rfl (fun ls hl => ?_)
            refine lv_iinc (v := x5 + 1) (lv' := [(5, .int (x5 + 1)), (2, .int (x2 + 1)), (6, .ref (g.ad k_4)), (1, .ref (g.ad x1)), (3, .ref (g.ad 97)), (4, .int x4)]) hx hb dX7_countBefore_51 hl (k := 5) rfl rfl (by decide) rfl (fun ls hl => ?_)
            refine lv_goto (tgt := 14) hx hb dX7_countBefore_54 (by decide) ?_
            exact ih μ x1 (x2 + 1) x4 (x5 + 1) _ _ _ hP hS (lv_sub hl [3, 1, 4, 5, 0] rfl) hx1 hf
  have hl := lv_entry ([.ref (g.ad 0), .ref (g.ad q)]) (n := 7) (Nat.le_of_ble_eq_true rfl)
  rw [lg_entry_eq]
  generalize (lg_sl ([.ref (g.ad 0), .ref (g.ad q)]) ++ List.replicate (7 - (lg_sl ([.ref (g.ad 0), .ref (g.ad q)])).length) Slot.unset).toArray = ls at hl ⊢
  have hl : lv_has ls 7 [(0, .ref (g.ad 0)), (1, .ref (g.ad q))] := hl
  unfold f_X7_countBefore at hf
  refine lv_iconst (v := 0) hx hb dX7_countBefore_0 (by decide) ?_
  refine lv_istore_n (lv' := [(2, .int 0), (0, .ref (g.ad 0)), (1, .ref (g.ad q))]) hx hb dX7_countBefore_1 rfl hl (by decide) rfl (fun ls hl => ?_)
  refine lv_aload_n hx hb dX7_countBefore_2 rfl (lv_at hl 1 rfl) ?_
  refine r_get hx hb hts i_X7 hown hT hP inW (fs := (fsW g)) (obW g) rfl 4 (by decide) q194 (fun _ h9 => h9) rfl dX7_countBefore_3 ?_
  refine lv_astore_n (lv' := [(3, .ref (g.ad 97)), (2, .int 0), (0, .ref (g.ad 0)), (1, .ref (g.ad q))]) hx hb dX7_countBefore_6 rfl hl (by decide) rfl (fun ls hl => ?_)
  refine lv_aload_n hx hb dX7_countBefore_7 rfl (lv_at hl 0 rfl) ?_
  refine r_alenP hx hb hT hP dX7_countBefore_8 ?_
  refine lv_istore (lv' := [(4, .int 24), (3, .ref (g.ad 97)), (2, .int 0), (0, .ref (g.ad 0)), (1, .ref (g.ad q))]) hx hb dX7_countBefore_9 hl (by decide) rfl (fun ls hl => ?_)
  refine lv_iconst (v := 0) hx hb dX7_countBefore_11 (by decide) ?_
  refine lv_istore (lv' := [(5, .int 0), (4, .int 24), (3, .ref (g.ad 97)), (2, .int 0), (0, .ref (g.ad 0)), (1, .ref (g.ad q))]) hx hb dX7_countBefore_12 hl (by decide) rfl (fun ls hl => ?_)
  exact L14 fu μ q 0 24 0 _ _ _ hP hS (lv_sub hl [5, 3, 2, 1, 0] rfl) hq hf
/-- "Sandglass$World" "inRowAt" "(II)LSandglass$Proc;" -/
def b_X7_inRowAt_12 (g : Fg) : Nat → Mem → Int32 → Int32 → Int32 → Int32 → Option ((Option Nat))
  | 0, _, _, _, _, _ => none
  | n + 1, μ, x1, x2, x4, x5 => if x4 ≤ x5 then (some (none)) else (grd (¬ (x5 < 0 ∨ 24 ≤ x5.toNatClampNeg)) (bnd (x5.toNatClampNeg + 1) fun k_4 => if (μ k_4 9) = x1 then (bnO (f_X7_countBefore g μ k_4) fun r_6 => if r_6 = x2 then (some (some k_4)) else (b_X7_inRowAt_12 g n μ x1 x2 x4 (x5 + 1))) else (b_X7_inRowAt_12 g n μ x1 x2 x4 (x5 + 1))))
def f_X7_inRowAt (g : Fg) (μ : Mem) (row : Int32) (pl : Int32) : Option ((Option Nat)) := b_X7_inRowAt_12 g fu μ row pl 24 0
theorem hd_X7_inRowAt : yX7_inRowAt.cls = RX7 ∧ yX7_inRowAt.cls ≠ "java/lang/invoke/MethodHandle" ∧ yX7_inRowAt.cls ≠ "java/lang/invoke/VarHandle" ∧ (parseMethodDescriptor yX7_inRowAt.desc).map (fun d => d.parameters.length) = some 2 := by decide +kernel
set_option maxHeartbeats 4000000 in
set_option maxRecDepth 100000 in
theorem c_X7_inRowAt (l : Launch) {g : Geo} (hg : Good g) (μ : Mem) (row : Int32) (pl : Int32) {r : (Option Nat)} (hf : f_X7_inRowAt g.F μ row pl = some r) : Met l yX7_inRowAt (ws_ yX7_inRowAt cX7_inRowAt 7 (some (.object "Sandglass$Proc"))) (rm_ 2 47 0 0) (Pz g [.ref (g.ad 0), .int row, .int pl] (Rg g μ)) (va_Qq (fun (v : Option Nat) (_ : Unit) => v = r.map g.ad) (fun _ _ => True) (fun _ => False)) 0 0 (fun _ => False) := by
  refine Met.ofW (cc := cX7_inRowAt) (maxL := 7) (ret := (some (.object "Sandglass$Proc"))) (by decide) rfl ?_
  intro p e s m args below meth c s₁ B hml hv
  obtain ⟨rfl, hT, hP⟩ := hv
  have hx := B.exec
  have hb := B.bytes
  have hr := B.returns
  have hts : ∀ w ∈ lw_all, w.before _ s = true := fun w h => atoms_spec (ws := (ws_ yX7_inRowAt cX7_inRowAt 7 (some (.object "Sandglass$Proc")))) B.pre w (List.mem_cons_of_mem _ h)
  have hown : s.vm.findClass RX7 = some m.cls := findClass_of_methodNamed B.named
  have hlocks := B.notSynchronized
  have hS : va_S (fun _ => False) s.heap s.heap [] := va_S.rf
  have L12 : ∀ (n : Nat) (μ : Mem) (x1 : Int32) (x2 : Int32) (x4 : Int32) (x5 : Int32) (H : Heap) (locs : List Loc) (ls : Array Slot), Rg g μ H → va_S (fun _ => False) s.heap H locs → lv_has ls 7 [(0, .ref (g.ad 0)), (1, .int x1), (2, .int x2), (3, .ref (g.ad 97)), (4, .int x4), (5, .int x5)] → b_X7_inRowAt_12 g.F n μ x1 x2 x4 x5 = some r → W p l e (headSpec (ws_ yX7_inRowAt cX7_inRowAt 7 (some (.object "Sandglass$Proc"))) (rm_ 2 47 0 0)).room s m ([.ref (g.ad 0), .int row, .int pl] : List Value).toArray below meth c H locs 0 0 (MQ below (va_Qq (fun (v : Option Nat) (_ : Unit) => v = r.map g.ad) (fun _ _ => True) (fun _ => False)) ([.ref (g.ad 0), .int row, .int pl] : List Value).toArray s 0 0 (fun _ => False)) (F0 m 12 ls []) := by
    intro n
    induction n with
    | zero => intro μ x1 x2 x4 x5 H locs ls hP hS hl  hf; cases hf
    | succ n ih =>
      intro μ x1 x2 x4 x5 H locs ls hP hS hl  hf
      rw [b_X7_inRowAt_12] at hf
      refine lv_iload hx hb dX7_inRowAt_12 (lv_at hl 5 rfl) ?_
      refine lv_iload hx hb dX7_inRowAt_14 (lv_at hl 4 rfl) ?_
      refine lv_icmp_ge (tgt := 53) hx hb dX7_inRowAt_16 (by decide) (fun c_1 => ?_) (fun c_1 => ?_)
      · have hf := (if_pos c_1).symm.trans hf
        refine lv_null hx hb dX7_inRowAt_53 ?_
        exact W.aret (v := .null) (rt := .object "Sandglass$Proc") hx hb hr (Or.inl ⟨_, rfl⟩) (Or.inl rfl) (fun t9 ht hW => ⟨⟨none, (), rfl, by rw [← Option.some.inj hf]; rfl, trivial⟩, hS.F ht⟩) hS.2.2 dX7_inRowAt_54
      · have hf := (if_neg c_1).symm.trans hf
        refine lv_aload_n hx hb dX7_inRowAt_19 rfl (lv_at hl 3 rfl) ?_
        refine lv_iload hx hb dX7_inRowAt_20 (lv_at hl 5 rfl) ?_
        obtain ⟨hi_2, hf⟩ := grd_some hf
        refine r_aaldP hx hb hT hP hi_2 dX7_inRowAt_22 (fun hp_3 => ?_)
        obtain ⟨k_4, ek_4⟩ : ∃ z, x5.toNatClampNeg + 1 = z := ⟨_, rfl⟩
        rw [ek_4] at hp_3 ⊢
        have hf := bnd_eq hf _ ek_4
        refine lv_astore (lv' := [(6, .ref (g.ad k_4)), (0, .ref (g.ad 0)), (1, .int x1), (2, .int x2), (3, .ref (g.ad 97)), (4, .int x4), (5, .int x5)]) hx hb dX7_inRowAt_23 hl (by decide) rfl (fun ls hl => ?_)
        refine lv_aload hx hb dX7_inRowAt_25 (lv_at hl 0 rfl) ?_
        refine r_get hx hb hts i_X2 hown hT hP (inP hp_3) (fs := (fsP g k_4)) (obP hp_3) rfl 9 (by decide) q136 (fun _ h9 => h9) rfl dX7_inRowAt_27 ?_
        refine lv_iload_n hx hb dX7_inRowAt_30 rfl (lv_at hl 2 rfl) ?_
        refine lv_icmp_ne (tgt := 47) hx hb dX7_inRowAt_31 (by decide) (fun c_5 => ?_) (fun c_5 => ?_)
        · have hf := (if_neg c_5).symm.trans hf
          refine lv_iinc (v := x5 + 1) (lv' := [(5, .int (x5 + 1)), (6, .ref (g.ad k_4)), (0, .ref (g.ad 0)), (1, .int x1), (2, .int x2), (3, .ref (g.ad 97)), (4, .int x4)]) hx hb dX7_inRowAt_47 hl (k := 6) rfl rfl (by decide) rfl (fun ls hl => ?_)
          refine lv_goto (tgt := 12) hx hb dX7_inRowAt_50 (by decide) ?_
          exact ih μ x1 x2 x4 (x5 + 1) _ _ _ hP hS (lv_sub hl [2, 3, 4, 5, 6, 0] rfl)  hf
        · have hf := (if_pos c_5).symm.trans hf
          refine lv_aload_n hx hb dX7_inRowAt_34 rfl (lv_at hl 1 rfl) ?_
          refine lv_aload hx hb dX7_inRowAt_35 (lv_at hl 0 rfl) ?_
          obtain ⟨r_6, hc_7, hf⟩ := bnO_some hf
          refine va_calli (va_runV (As := [.ref (g.ad k_4)]) (rest := []) ⟨hx, hb, hml, hown, hts⟩ (c_X7_countBefore l hg μ k_4 hp_3 hc_7) (cwV 1 hts (gd_V q866 q868 q31 q41 q869) rfl rfl rfl hd_X7_countBefore ⟨Nat.le_of_ble_eq_true rfl, Nat.le_of_ble_eq_true rfl⟩) ⟨Pz.blind, r_recv hT hP inW (fs := (fsW g)) (obW g) rfl, fun U hU hW => ⟨rfl, Tb.warm hW hT, by rw [hU]; exact hP⟩⟩ rfl rfl hl.1 rfl (lv_room (Nat.le_of_ble_eq_true rfl)) dX7_inRowAt_37 ⟨Nat.le_of_ble_eq_true rfl, Nat.le_of_ble_eq_true rfl⟩) hS (fun q _ h => h.elim) (fun q h => h.elim) (fun v9 u9 t9 H locs ht9 hvm9 hw9 hB9 hz9 hk9 hS => ?_)
          have hP := Rg.keep hP (fun q h => hk9 q h id)
          rw [hw9]
          refine lv_iload_n hx hb dX7_inRowAt_40 rfl (lv_at hl 3 rfl) ?_
          refine lv_icmp_ne (tgt := 47) hx hb dX7_inRowAt_41 (by decide) (fun c_8 => ?_) (fun c_8 => ?_)
          · have hf := (if_neg c_8).symm.trans hf
            refine lv_iinc (v := x5 + 1) (lv' := [(5, .int (x5 + 1)), (6, .ref (g.ad k_4)), (0, .ref (g.ad 0)), (1, .int x1), (2, .int x2), (3, .ref (g.ad 97)), (4, .int x4)]) hx hb dX7_inRowAt_47 hl (k := 6) rfl rfl (by decide) rfl (fun ls hl => ?_)
            refine lv_goto (tgt := 12) hx hb dX7_inRowAt_50 (by decide) ?_
            exact ih μ x1 x2 x4 (x5 + 1) _ _ _ hP hS (lv_sub hl [2, 3, 4, 5, 6, 0] rfl)  hf
          · have hf := (if_pos c_8).symm.trans hf
            refine lv_aload hx hb dX7_inRowAt_44 (lv_at hl 0 rfl) ?_
            exact W.aret (v := .ref (g.ad k_4)) (rt := .object "Sandglass$Proc") hx hb hr (Or.inl ⟨_, rfl⟩) (Or.inr ⟨_, rfl⟩) (fun t9 ht hW => ⟨⟨(some (g.ad k_4)), (), rfl, by rw [← Option.some.inj hf]; rfl, trivial⟩, hS.F ht⟩) hS.2.2 dX7_inRowAt_46
  have hl := lv_entry ([.ref (g.ad 0), .int row, .int pl]) (n := 7) (Nat.le_of_ble_eq_true rfl)
  rw [lg_entry_eq]
  generalize (lg_sl ([.ref (g.ad 0), .int row, .int pl]) ++ List.replicate (7 - (lg_sl ([.ref (g.ad 0), .int row, .int pl])).length) Slot.unset).toArray = ls at hl ⊢
  have hl : lv_has ls 7 [(0, .ref (g.ad 0)), (1, .int row), (2, .int pl)] := hl
  unfold f_X7_inRowAt at hf
  refine lv_aload_n hx hb dX7_inRowAt_0 rfl (lv_at hl 0 rfl) ?_
  refine r_get hx hb hts i_X7 hown hT hP inW (fs := (fsW g)) (obW g) rfl 4 (by decide) q194 (fun _ h9 => h9) rfl dX7_inRowAt_1 ?_
  refine lv_astore_n (lv' := [(3, .ref (g.ad 97)), (0, .ref (g.ad 0)), (1, .int row), (2, .int pl)]) hx hb dX7_inRowAt_4 rfl hl (by decide) rfl (fun ls hl => ?_)
  refine lv_aload_n hx hb dX7_inRowAt_5 rfl (lv_at hl 0 rfl) ?_
  refine r_alenP hx hb hT hP dX7_inRowAt_6 ?_
  refine lv_istore (lv' := [(4, .int 24), (3, .ref (g.ad 97)), (0, .ref (g.ad 0)), (1, .int row), (2, .int pl)]) hx hb dX7_inRowAt_7 hl (by decide) rfl (fun ls hl => ?_)
  refine lv_iconst (v := 0) hx hb dX7_inRowAt_9 (by decide) ?_
  refine lv_istore (lv' := [(5, .int 0), (4, .int 24), (3, .ref (g.ad 97)), (0, .ref (g.ad 0)), (1, .int row), (2, .int pl)]) hx hb dX7_inRowAt_10 hl (by decide) rfl (fun ls hl => ?_)
  exact L12 fu μ row pl 24 0 _ _ _ hP hS (lv_sub hl [3, 4, 5, 2, 1, 0] rfl)  hf
/-- "Sandglass$World" "drawBelow" "(I)I" -/
def f_X7_drawBelow (g : Fg) (μ : Mem) (bo : Int32) : Option (Mem × Int32) := bnd (put μ 0 7 ((((μ 0 7) * 4621) + 2777) - (((μ 0 7) * 4621) + 2777) / 10000 * 10000)) fun μ_1 => if bo ≤ 0 then (some (μ_1, 0)) else (grd (¬ bo = 0) (some (μ_1, (μ_1 0 7) - (μ_1 0 7) / bo * bo)))
theorem hd_X7_drawBelow : yX7_drawBelow.cls = RX7 ∧ yX7_drawBelow.cls ≠ "java/lang/invoke/MethodHandle" ∧ yX7_drawBelow.cls ≠ "java/lang/invoke/VarHandle" ∧ (parseMethodDescriptor yX7_drawBelow.desc).map (fun d => d.parameters.length) = some 1 := by decide +kernel
set_option maxHeartbeats 4000000 in
set_option maxRecDepth 100000 in
theorem c_X7_drawBelow (l : Launch) {g : Geo} (hg : Good g) (μ : Mem) (sz : Nat) (bo : Int32) {r : Mem × Int32} (hf : f_X7_drawBelow g.F μ bo = some r) : Met l yX7_drawBelow (ws_ yX7_drawBelow cX7_drawBelow 2 (some .int)) (rm_ 0 0 0 0) (Pz g [.ref (g.ad 0), .int bo] (fun H9 => H9.size = sz ∧ Rg g μ H9)) (va_Qi (fun (v : Int32) (_ : Unit) => v = r.2) (fun _ t => Rg g r.1 t.heap) (Ag g sz)) 0 0 (Ag g sz) := by
  refine Met.ofW (cc := cX7_drawBelow) (maxL := 2) (ret := (some .int)) (by decide) rfl ?_
  intro p e s m args below meth c s₁ B hml hv
  obtain ⟨rfl, hT, hsz, hP⟩ := hv
  have hx := B.exec
  have hb := B.bytes
  have hr := B.returns
  have hts : ∀ w ∈ lw_all, w.before _ s = true := fun w h => atoms_spec (ws := (ws_ yX7_drawBelow cX7_drawBelow 2 (some .int))) B.pre w (List.mem_cons_of_mem _ h)
  have hown : s.vm.findClass RX7 = some m.cls := findClass_of_methodNamed B.named
  have hlocks := B.notSynchronized
  subst hsz
  have hD := fun ν => Ag.apart hg s.heap.size ν
  have hC := hP.sh
  have hN := Ag.shr hg hP
  have hS : va_S (Ag g s.heap.size) s.heap s.heap [] := va_S.rf
  have hl := lv_entry ([.ref (g.ad 0), .int bo]) (n := 2) (Nat.le_of_ble_eq_true rfl)
  rw [lg_entry_eq]
  generalize (lg_sl ([.ref (g.ad 0), .int bo]) ++ List.replicate (2 - (lg_sl ([.ref (g.ad 0), .int bo])).length) Slot.unset).toArray = ls at hl ⊢
  have hl : lv_has ls 2 [(0, .ref (g.ad 0)), (1, .int bo)] := hl
  unfold f_X7_drawBelow at hf
  refine lv_aload_n hx hb dX7_drawBelow_0 rfl (lv_at hl 0 rfl) ?_
  refine lv_aload_n hx hb dX7_drawBelow_1 rfl (lv_at hl 0 rfl) ?_
  refine r_get hx hb hts i_X7 hown hT hP inW (fs := (fsW g)) (obW g) rfl 7 (by decide) q199 (fun _ h9 => h9) rfl dX7_drawBelow_2 ?_
  refine lv_sipush (v := 4621) hx hb dX7_drawBelow_5 (by decide) ?_
  refine lv_imul hx hb dX7_drawBelow_8 ?_
  refine lv_sipush (v := 2777) hx hb dX7_drawBelow_9 (by decide) ?_
  refine lv_iadd hx hb dX7_drawBelow_12 ?_
  refine lv_sipush (v := 10000) hx hb dX7_drawBelow_13 (by decide) ?_
  refine lv_irem hx hb dX7_drawBelow_16 (by decide) ?_
  refine r_put hx hb hts i_X7 tyX7 tyX7_ok nmX7 hown hT hP hD hC hN hS mtW (fs := (fsW g)) (obW g) rfl 7 (by decide) q199 (fun _ h9 => h9) rfl (ty := .int) (x := (((μ 0 7) * 4621) + 2777) - (((μ 0 7) * 4621) + 2777) / 10000 * 10000) rfl rfl rfl (fun _ => rfl) (Nat.le_of_ble_eq_true rfl) dX7_drawBelow_17 (fun H locs hP hS => ?_)
  obtain ⟨μ_1, eμ_1⟩ : ∃ z, put μ 0 7 ((((μ 0 7) * 4621) + 2777) - (((μ 0 7) * 4621) + 2777) / 10000 * 10000) = z := ⟨_, rfl⟩
  rw [eμ_1] at hP
  have hf := bnd_eq hf _ eμ_1
  refine lv_iload_n hx hb dX7_drawBelow_20 rfl (lv_at hl 1 rfl) ?_
  refine lv_if_le (tgt := 33) hx hb dX7_drawBelow_21 (by decide) (fun c_2 => ?_) (fun c_2 => ?_)
  · have hf := (if_pos c_2).symm.trans hf
    refine lv_iconst (v := 0) hx hb dX7_drawBelow_33 (by decide) ?_
    exact W.iret (v := 0) hx hb hr (fun t9 ht hW => ⟨⟨0, (), rfl, by show 0 = r.2; rw [← Option.some.inj hf], by show Rg g r.1 t9.heap; rw [ht, ← Option.some.inj hf]; exact hP⟩, hS.F ht⟩) hS.2.2 dX7_drawBelow_34
  · have hf := (if_neg c_2).symm.trans hf
    refine lv_aload_n hx hb dX7_drawBelow_24 rfl (lv_at hl 0 rfl) ?_
    refine r_get hx hb hts i_X7 hown hT hP inW (fs := (fsW g)) (obW g) rfl 7 (by decide) q199 (fun _ h9 => h9) rfl dX7_drawBelow_25 ?_
    refine lv_iload_n hx hb dX7_drawBelow_28 rfl (lv_at hl 1 rfl) ?_
    obtain ⟨hz_3, hf⟩ := grd_some hf
    refine lv_irem hx hb dX7_drawBelow_29 hz_3 ?_
    refine lv_goto (tgt := 34) hx hb dX7_drawBelow_30 (by decide) ?_
    exact W.iret (v := (μ_1 0 7) - (μ_1 0 7) / bo * bo) hx hb hr (fun t9 ht hW => ⟨⟨(μ_1 0 7) - (μ_1 0 7) / bo * bo, (), rfl, by show (μ_1 0 7) - (μ_1 0 7) / bo * bo = r.2; rw [← Option.some.inj hf], by show Rg g r.1 t9.heap; rw [ht, ← Option.some.inj hf]; exact hP⟩, hS.F ht⟩) hS.2.2 dX7_drawBelow_34
