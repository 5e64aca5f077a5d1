/-- "Sandglass$World" "queueUp" "(LSandglass$Proc;LSandglass$Resource;IZ)V" -/
def f_X7_queueUp (g : Fg) (μ : Mem) (q : Nat) (rs : Nat) (un : Int32) (io : Int32) : Option (Mem) := bnO (f_X7_enter g μ q (μ rs 0) 2) fun μ_3 => if (μ_3 rs 1) = 0 then (bnd (put μ_3 q 10 0) fun μ_9 => bnd (put μ_9 q 12 un) fun μ_10 => grd (io = 0 ∨ io = 1) (bnd (put μ_10 q 13 io) fun μ_11 => some μ_11)) else (bnd (put μ_3 q 10 (μ_3 q 2)) fun μ_5 => bnd (put μ_5 q 12 un) fun μ_6 => grd (io = 0 ∨ io = 1) (bnd (put μ_6 q 13 io) fun μ_7 => some μ_7))
theorem hd_X7_queueUp : yX7_queueUp.cls = RX7 ∧ yX7_queueUp.cls ≠ "java/lang/invoke/MethodHandle" ∧ yX7_queueUp.cls ≠ "java/lang/invoke/VarHandle" ∧ (parseMethodDescriptor yX7_queueUp.desc).map (fun d => d.parameters.length) = some 4 := by decide +kernel
set_option maxHeartbeats 4000000 in
set_option maxRecDepth 100000 in
theorem c_X7_queueUp (l : Launch) {g : Geo} (hg : Good g) (μ : Mem) (sz : Nat) (q : Nat) (rs : Nat) (un : Int32) (io : Int32) (hq : isP q) (hrs : isR g rs) {r : Mem} (hf : f_X7_queueUp g.F μ q rs un io = some r) : Met l yX7_queueUp (ws_ yX7_queueUp cX7_queueUp 5 (Option.none : Option Jvm.ClassFile.FieldType)) (rm_ 1 23 0 0) (Pz g [.ref (g.ad 0), .ref (g.ad q), .ref (g.ad rs), .int un, .int io] (fun H9 => H9.size = sz ∧ Rg g μ H9)) (va_Qv (fun _ : Unit => True) (fun _ t => Rg g r t.heap) (Ag g sz)) 0 0 (Ag g sz) := by
  refine Met.ofW (cc := cX7_queueUp) (maxL := 5) (ret := (Option.none : Option Jvm.ClassFile.FieldType)) (by decide) rfl ?_
  intro p e s m args below meth c s₁ B hml hv
  obtain ⟨rfl, hT, hsz, hP⟩ := hv
  have hx := B.exec
  have hb := B.bytes
  have hr := B.returns
  have hts : ∀ w ∈ lw_all, w.before _ s = true := fun w h => atoms_spec (ws := (ws_ yX7_queueUp cX7_queueUp 5 (Option.none : Option Jvm.ClassFile.FieldType))) B.pre w (List.mem_cons_of_mem _ h)
  have hown : s.vm.findClass RX7 = some m.cls := findClass_of_methodNamed B.named
  have hlocks := B.notSynchronized
  subst hsz
  have hD := fun ν => Ag.apart hg s.heap.size ν
  have hC := hP.sh
  have hN := Ag.shr hg hP
  have hS : va_S (Ag g s.heap.size) s.heap s.heap [] := va_S.rf
  have hl := lv_entry ([.ref (g.ad 0), .ref (g.ad q), .ref (g.ad rs), .int un, .int io]) (n := 5) (Nat.le_of_ble_eq_true rfl)
  rw [lg_entry_eq]
  generalize (lg_sl ([.ref (g.ad 0), .ref (g.ad q), .ref (g.ad rs), .int un, .int io]) ++ List.replicate (5 - (lg_sl ([.ref (g.ad 0), .ref (g.ad q), .ref (g.ad rs), .int un, .int io])).length) Slot.unset).toArray = ls at hl ⊢
  have hl : lv_has ls 5 [(0, .ref (g.ad 0)), (1, .ref (g.ad q)), (2, .ref (g.ad rs)), (3, .int un), (4, .int io)] := hl
  unfold f_X7_queueUp at hf
  refine lv_aload_n hx hb dX7_queueUp_0 rfl (lv_at hl 0 rfl) ?_
  refine lv_aload_n hx hb dX7_queueUp_1 rfl (lv_at hl 1 rfl) ?_
  refine lv_aload_n hx hb dX7_queueUp_2 rfl (lv_at hl 2 rfl) ?_
  refine r_get hx hb hts i_X3 hown hT hP (inR hrs) (fs := fsR) (obR hrs) rfl 0 (by decide) q948 (fun _ h9 => h9) rfl dX7_queueUp_3 ?_
  refine lv_iconst (v := 2) hx hb dX7_queueUp_6 (by decide) ?_
  obtain ⟨μ_3, hc_2, hf⟩ := bnO_some hf
  refine va_callv (va_runV (As := [.ref (g.ad q), .int (μ rs 0), .int 2]) (rest := []) ⟨hx, hb, hml, hown, hts⟩ (c_X7_enter l hg μ s.heap.size q (μ rs 0) 2 hq hc_2) (cwV 3 hts (gd_V q442 q444 q6 q41 q445) rfl rfl rfl hd_X7_enter ⟨Nat.le_of_ble_eq_true rfl, Nat.le_of_ble_eq_true rfl⟩) ⟨Pz.blind, r_recv hT hP inW (fs := (fsW g)) (obW g) rfl, fun U hU hW => ⟨rfl, Tb.warm hW hT, by rw [hU], by rw [hU]; exact hP⟩⟩ rfl rfl hl.1 rfl (lv_room (Nat.le_of_ble_eq_true rfl)) dX7_queueUp_7 ⟨Nat.le_of_ble_eq_true rfl, Nat.le_of_ble_eq_true rfl⟩) hS (fun q _ h => Ag.sub rfl hS q h) (fun q h => Ag.sub rfl hS q h) (fun u9 t9 H locs ht9 hvm9 hw9 hB9 hz9 hk9 hS => ?_)
  have hP : Rg g μ_3 H := by rw [← ht9]; exact hB9
  refine lv_aload_n hx hb dX7_queueUp_10 rfl (lv_at hl 1 rfl) ?_
  refine lv_aload_n hx hb dX7_queueUp_11 rfl (lv_at hl 2 rfl) ?_
  refine r_get hx hb hts i_X3 hown hT hP (inR hrs) (fs := fsR) (obR hrs) rfl 1 (by decide) q951 (fun _ h9 => h9) rfl dX7_queueUp_12 ?_
  refine lv_if_ne (tgt := 22) hx hb dX7_queueUp_15 (by decide) (fun c_4 => ?_) (fun c_4 => ?_)
  · have hf := (if_neg c_4).symm.trans hf
    refine lv_aload_n hx hb dX7_queueUp_22 rfl (lv_at hl 1 rfl) ?_
    refine r_get hx hb hts i_X2 hown hT hP (inP hq) (fs := (fsP g q)) (obP hq) rfl 2 (by decide) q116 (fun _ h9 => h9) rfl dX7_queueUp_23 ?_
    refine r_put hx hb hts i_X2 tyX2 tyX2_ok nmX2 hown hT hP hD hC hN hS (mtP hq) (fs := (fsP g q)) (obP hq) rfl 10 (by decide) q138 (fun _ h9 => h9) rfl (ty := .int) (x := μ_3 q 2) rfl rfl rfl (fun _ => rfl) (Nat.le_of_ble_eq_true rfl) dX7_queueUp_26 (fun H locs hP hS => ?_)
    obtain ⟨μ_5, eμ_5⟩ : ∃ z, put μ_3 q 10 (μ_3 q 2) = z := ⟨_, rfl⟩
    rw [eμ_5] at hP
    have hf := bnd_eq hf _ eμ_5
    refine lv_aload_n hx hb dX7_queueUp_29 rfl (lv_at hl 1 rfl) ?_
    refine lv_iload_n hx hb dX7_queueUp_30 rfl (lv_at hl 3 rfl) ?_
    refine r_put hx hb hts i_X2 tyX2 tyX2_ok nmX2 hown hT hP hD hC hN hS (mtP hq) (fs := (fsP g q)) (obP hq) rfl 12 (by decide) q142 (fun _ h9 => h9) rfl (ty := .int) (x := un) rfl rfl rfl (fun _ => rfl) (Nat.le_of_ble_eq_true rfl) dX7_queueUp_31 (fun H locs hP hS => ?_)
    obtain ⟨μ_6, eμ_6⟩ : ∃ z, put μ_5 q 12 un = z := ⟨_, rfl⟩
    rw [eμ_6] at hP
    have hf := bnd_eq hf _ eμ_6
    refine lv_aload_n hx hb dX7_queueUp_34 rfl (lv_at hl 1 rfl) ?_
    refine lv_iload hx hb dX7_queueUp_35 (lv_at hl 4 rfl) ?_
    obtain ⟨hb_8, hf⟩ := grd_some hf
    refine r_put hx hb hts i_X2 tyX2 tyX2_ok nmX2 hown hT hP hD hC hN hS (mtP hq) (fs := (fsP g q)) (obP hq) rfl 13 (by decide) q144 (fun _ h9 => h9) rfl (ty := .boolean) (x := io) rfl (nar01 hb_8) (fit01 hb_8) (fun _ => rfl) (Nat.le_of_ble_eq_true rfl) dX7_queueUp_37 (fun H locs hP hS => ?_)
    obtain ⟨μ_7, eμ_7⟩ : ∃ z, put μ_6 q 13 io = z := ⟨_, rfl⟩
    rw [eμ_7] at hP
    have hf := bnd_eq hf _ eμ_7
    exact W.vret hx hb hr (fun t9 ht hW => ⟨⟨(), rfl, trivial, by show Rg g r t9.heap; rw [ht, ← Option.some.inj hf]; exact hP⟩, hS.F ht⟩) hS.2.2 dX7_queueUp_40
  · have hf := (if_pos c_4).symm.trans hf
    refine lv_iconst (v := 0) hx hb dX7_queueUp_18 (by decide) ?_
    refine lv_goto (tgt := 26) hx hb dX7_queueUp_19 (by decide) ?_
    refine r_put hx hb hts i_X2 tyX2 tyX2_ok nmX2 hown hT hP hD hC hN hS (mtP hq) (fs := (fsP g q)) (obP hq) rfl 10 (by decide) q138 (fun _ h9 => h9) rfl (ty := .int) (x := 0) rfl rfl rfl (fun _ => rfl) (Nat.le_of_ble_eq_true rfl) dX7_queueUp_26 (fun H locs hP hS => ?_)
    obtain ⟨μ_9, eμ_9⟩ : ∃ z, put μ_3 q 10 0 = z := ⟨_, rfl⟩
    rw [eμ_9] at hP
    have hf := bnd_eq hf _ eμ_9
    refine lv_aload_n hx hb dX7_queueUp_29 rfl (lv_at hl 1 rfl) ?_
    refine lv_iload_n hx hb dX7_queueUp_30 rfl (lv_at hl 3 rfl) ?_
    refine r_put hx hb hts i_X2 tyX2 tyX2_ok nmX2 hown hT hP hD hC hN hS (mtP hq) (fs := (fsP g q)) (obP hq) rfl 12 (by decide) q142 (fun _ h9 => h9) rfl (ty := .int) (x := un) rfl rfl rfl (fun _ => rfl) (Nat.le_of_ble_eq_true rfl) dX7_queueUp_31 (fun H locs hP hS => ?_)
    obtain ⟨μ_10, eμ_10⟩ : ∃ z, put μ_9 q 12 un = z := ⟨_, rfl⟩
    rw [eμ_10] at hP
    have hf := bnd_eq hf _ eμ_10
    refine lv_aload_n hx hb dX7_queueUp_34 rfl (lv_at hl 1 rfl) ?_
    refine lv_iload hx hb dX7_queueUp_35 (lv_at hl 4 rfl) ?_
    obtain ⟨hb_12, hf⟩ := grd_some hf
    refine r_put hx hb hts i_X2 tyX2 tyX2_ok nmX2 hown hT hP hD hC hN hS (mtP hq) (fs := (fsP g q)) (obP hq) rfl 13 (by decide) q144 (fun _ h9 => h9) rfl (ty := .boolean) (x := io) rfl (nar01 hb_12) (fit01 hb_12) (fun _ => rfl) (Nat.le_of_ble_eq_true rfl) dX7_queueUp_37 (fun H locs hP hS => ?_)
    obtain ⟨μ_11, eμ_11⟩ : ∃ z, put μ_10 q 13 io = z := ⟨_, rfl⟩
    rw [eμ_11] at hP
    have hf := bnd_eq hf _ eμ_11
    exact W.vret hx hb hr (fun t9 ht hW => ⟨⟨(), rfl, trivial, by show Rg g r t9.heap; rw [ht, ← Option.some.inj hf]; exact hP⟩, hS.F ht⟩) hS.2.2 dX7_queueUp_40
/-- "Sandglass$World" "throwOut" "(LSandglass$Proc;LSandglass$Resource;)V" -/
def f_X7_throwOutP (g : Fg) (μ : Mem) (vi : Nat) (rs : Nat) : Option (Mem) := bnO (f_X8_at g μ (vi + 48) (μ rs 0)) fun r_1 => bnO (f_X8_set g μ (vi + 48) (μ rs 0) 0) fun μ_5 => bnd (put μ_5 rs 3 ((μ_5 rs 3) + r_1)) fun μ_6 => bnd (put μ_6 vi 5 ((μ_6 vi 7) - (μ_6 0 6))) fun μ_7 => bnd (put μ_7 vi 7 (-1)) fun μ_8 => bnO (f_X7_queueUp g μ_8 vi rs r_1 1) fun μ_11 => some μ_11
theorem hd_X7_throwOutP : yX7_throwOut.cls = RX7 ∧ yX7_throwOut.cls ≠ "java/lang/invoke/MethodHandle" ∧ yX7_throwOut.cls ≠ "java/lang/invoke/VarHandle" ∧ (parseMethodDescriptor yX7_throwOut.desc).map (fun d => d.parameters.length) = some 2 := by decide +kernel
set_option maxHeartbeats 4000000 in
set_option maxRecDepth 100000 in
theorem c_X7_throwOutP (l : Launch) {g : Geo} (hg : Good g) (μ : Mem) (sz : Nat) (vi : Nat) (rs : Nat) (hvi : isP vi) (hrs : isR g rs) {r : Mem} (hf : f_X7_throwOutP g.F μ vi rs = some r) : Met l yX7_throwOut (ws_ yX7_throwOut cX7_throwOut 4 (Option.none : Option Jvm.ClassFile.FieldType)) (rm_ 2 47 0 0) (Pz g [.ref (g.ad 0), .ref (g.ad vi), .ref (g.ad rs)] (fun H9 => H9.size = sz ∧ Rg g μ H9)) (va_Qv (fun _ : Unit => True) (fun _ t => Rg g r t.heap) (Ag g sz)) 0 0 (Ag g sz) := by
  refine Met.ofW (cc := cX7_throwOut) (maxL := 4) (ret := (Option.none : Option Jvm.ClassFile.FieldType)) (by decide) rfl ?_
  intro p e s m args below meth c s₁ B hml hv
  obtain ⟨rfl, hT, hsz, hP⟩ := hv
  have hx := B.exec
  have hb := B.bytes
  have hr := B.returns
  have hts : ∀ w ∈ lw_all, w.before _ s = true := fun w h => atoms_spec (ws := (ws_ yX7_throwOut cX7_throwOut 4 (Option.none : Option Jvm.ClassFile.FieldType))) B.pre w (List.mem_cons_of_mem _ h)
  have hown : s.vm.findClass RX7 = some m.cls := findClass_of_methodNamed B.named
  have hlocks := B.notSynchronized
  subst hsz
  have hD := fun ν => Ag.apart hg s.heap.size ν
  have hC := hP.sh
  have hN := Ag.shr hg hP
  have hS : va_S (Ag g s.heap.size) s.heap s.heap [] := va_S.rf
  have hl := lv_entry ([.ref (g.ad 0), .ref (g.ad vi), .ref (g.ad rs)]) (n := 4) (Nat.le_of_ble_eq_true rfl)
  rw [lg_entry_eq]
  generalize (lg_sl ([.ref (g.ad 0), .ref (g.ad vi), .ref (g.ad rs)]) ++ List.replicate (4 - (lg_sl ([.ref (g.ad 0), .ref (g.ad vi), .ref (g.ad rs)])).length) Slot.unset).toArray = ls at hl ⊢
  have hl : lv_has ls 4 [(0, .ref (g.ad 0)), (1, .ref (g.ad vi)), (2, .ref (g.ad rs))] := hl
  unfold f_X7_throwOutP at hf
  refine lv_aload_n hx hb dX7_throwOut_0 rfl (lv_at hl 1 rfl) ?_
  refine lv_ifnonnull (tgt := 5) hx hb dX7_throwOut_1 (by decide) ?_
  refine lv_aload_n hx hb dX7_throwOut_5 rfl (lv_at hl 1 rfl) ?_
  refine r_get hx hb hts i_X2 hown hT hP (inP hvi) (fs := (fsP g vi)) (obP hvi) rfl 15 (by decide) q149 (fun _ h9 => h9) rfl dX7_throwOut_6 ?_
  refine lv_aload_n hx hb dX7_throwOut_9 rfl (lv_at hl 2 rfl) ?_
  refine r_get hx hb hts i_X3 hown hT hP (inR hrs) (fs := fsR) (obR hrs) rfl 0 (by decide) q948 (fun _ h9 => h9) rfl dX7_throwOut_10 ?_
  obtain ⟨r_1, hc_2, hf⟩ := bnO_some hf
  refine va_calli (va_runSN (As := [.ref (g.ad (vi + 48)), .int (μ rs 0)]) (rest := []) ⟨hx, hb, hml, hown, hts⟩ (c_X8_at l hg μ (vi + 48) (μ rs 0) (show isP _ from hvi).hld hc_2) ⟨va_cnB 2 hts (gd_code q464) rfl rfl rfl (hT.2.1 _ nst_3) (hts _ q37) hd_X8_at.2 ⟨Nat.le_of_ble_eq_true rfl, Nat.le_of_ble_eq_true rfl⟩, hts _ q463, trivial⟩ ⟨Pz.blind, fun U hU hW => ⟨rfl, Tb.warm hW hT, by rw [hU]; exact hP⟩⟩ rfl rfl hl.1 rfl (lv_room (Nat.le_of_ble_eq_true rfl)) dX7_throwOut_13 ⟨Nat.le_of_ble_eq_true rfl, Nat.le_of_ble_eq_true rfl⟩) hS (fun q _ h => h.elim) (fun q h => h.elim) (fun v9 u9 t9 H locs ht9 hvm9 hw9 hB9 hz9 hk9 hS => ?_)
  have hP := Rg.keep hP (fun q h => hk9 q h id)
  rw [hw9]
  refine lv_istore_n (lv' := [(3, .int r_1), (0, .ref (g.ad 0)), (1, .ref (g.ad vi)), (2, .ref (g.ad rs))]) hx hb dX7_throwOut_16 rfl hl (by decide) rfl (fun ls hl => ?_)
  refine lv_aload_n hx hb dX7_throwOut_17 rfl (lv_at hl 2 rfl) ?_
  refine r_get hx hb hts i_X2 hown hT hP (inP hvi) (fs := (fsP g vi)) (obP hvi) rfl 15 (by decide) q149 (fun _ h9 => h9) rfl dX7_throwOut_18 ?_
  refine lv_aload_n hx hb dX7_throwOut_21 rfl (lv_at hl 3 rfl) ?_
  refine r_get hx hb hts i_X3 hown hT hP (inR hrs) (fs := fsR) (obR hrs) rfl 0 (by decide) q948 (fun _ h9 => h9) rfl dX7_throwOut_22 ?_
  refine lv_iconst (v := 0) hx hb dX7_throwOut_25 (by decide) ?_
  obtain ⟨μ_5, hc_4, hf⟩ := bnO_some hf
  refine va_callv (va_runSN (As := [.ref (g.ad (vi + 48)), .int (μ rs 0), .int 0]) (rest := []) ⟨hx, hb, hml, hown, hts⟩ (c_X8_set l hg μ H.size (vi + 48) (μ rs 0) 0 (show isP _ from hvi).hld hc_4) ⟨va_cnB 3 hts (gd_code q480) rfl rfl rfl (hT.2.1 _ nst_4) (hts _ q37) hd_X8_set.2 ⟨Nat.le_of_ble_eq_true rfl, Nat.le_of_ble_eq_true rfl⟩, hts _ q479, trivial⟩ ⟨Pz.blind, fun U hU hW => ⟨rfl, Tb.warm hW hT, by rw [hU], by rw [hU]; exact hP⟩⟩ rfl rfl hl.1 rfl (lv_room (Nat.le_of_ble_eq_true rfl)) dX7_throwOut_26 ⟨Nat.le_of_ble_eq_true rfl, Nat.le_of_ble_eq_true rfl⟩) hS (fun q _ h => Ag.sub rfl hS q h) (fun q h => Ag.sub rfl hS q h) (fun u9 t9 H locs ht9 hvm9 hw9 hB9 hz9 hk9 hS => ?_)
  have hP : Rg g μ_5 H := by rw [← ht9]; exact hB9
  refine lv_aload_n hx hb dX7_throwOut_29 rfl (lv_at hl 3 rfl) ?_
  refine lv_dup hx hb dX7_throwOut_30 rfl ?_
  refine r_get hx hb hts i_X3 hown hT hP (inR hrs) (fs := fsR) (obR hrs) rfl 3 (by decide) q955 (fun _ h9 => h9) rfl dX7_throwOut_31 ?_
  refine lv_iload_n hx hb dX7_throwOut_34 rfl (lv_at hl 0 rfl) ?_
  refine lv_iadd hx hb dX7_throwOut_35 ?_
  refine r_put hx hb hts i_X3 tyX3 tyX3_ok nmX3 hown hT hP hD hC hN hS (mtR hrs) (fs := fsR) (obR hrs) rfl 3 (by decide) q955 (fun _ h9 => h9) rfl (ty := .int) (x := (μ_5 rs 3) + r_1) rfl rfl rfl (fun _ => rfl) (Nat.le_of_ble_eq_true rfl) dX7_throwOut_36 (fun H locs hP hS => ?_)
  obtain ⟨μ_6, eμ_6⟩ : ∃ z, put μ_5 rs 3 ((μ_5 rs 3) + r_1) = z := ⟨_, rfl⟩
  rw [eμ_6] at hP
  have hf := bnd_eq hf _ eμ_6
  refine lv_aload_n hx hb dX7_throwOut_39 rfl (lv_at hl 2 rfl) ?_
  refine lv_aload_n hx hb dX7_throwOut_40 rfl (lv_at hl 2 rfl) ?_
  refine r_get hx hb hts i_X2 hown hT hP (inP hvi) (fs := (fsP g vi)) (obP hvi) rfl 7 (by decide) q131 (fun _ h9 => h9) rfl dX7_throwOut_41 ?_
  refine lv_aload_n hx hb dX7_throwOut_44 rfl (lv_at hl 1 rfl) ?_
  refine r_get hx hb hts i_X7 hown hT hP inW (fs := (fsW g)) (obW g) rfl 6 (by decide) q197 (fun _ h9 => h9) rfl dX7_throwOut_45 ?_
  refine lv_isub hx hb dX7_throwOut_48 ?_
  refine r_put hx hb hts i_X2 tyX2 tyX2_ok nmX2 hown hT hP hD hC hN hS (mtP hvi) (fs := (fsP g vi)) (obP hvi) rfl 5 (by decide) q125 (fun _ h9 => h9) rfl (ty := .int) (x := (μ_6 vi 7) - (μ_6 0 6)) rfl rfl rfl (fun _ => rfl) (Nat.le_of_ble_eq_true rfl) dX7_throwOut_49 (fun H locs hP hS => ?_)
  obtain ⟨μ_7, eμ_7⟩ : ∃ z, put μ_6 vi 5 ((μ_6 vi 7) - (μ_6 0 6)) = z := ⟨_, rfl⟩
  rw [eμ_7] at hP
  have hf := bnd_eq hf _ eμ_7
  refine lv_aload_n hx hb dX7_throwOut_52 rfl (lv_at hl 2 rfl) ?_
  refine lv_iconst (v := (-1)) hx hb dX7_throwOut_53 (by decide) ?_
  refine r_put hx hb hts i_X2 tyX2 tyX2_ok nmX2 hown hT hP hD hC hN hS (mtP hvi) (fs := (fsP g vi)) (obP hvi) rfl 7 (by decide) q131 (fun _ h9 => h9) rfl (ty := .int) (x := (-1)) rfl rfl rfl (fun _ => rfl) (Nat.le_of_ble_eq_true rfl) dX7_throwOut_54 (fun H locs hP hS => ?_)
  obtain ⟨μ_8, eμ_8⟩ : ∃ z, put μ_7 vi 7 (-1) = z := ⟨_, rfl⟩
  rw [eμ_8] at hP
  have hf := bnd_eq hf _ eμ_8
  refine lv_aload_n hx hb dX7_throwOut_57 rfl (lv_at hl 1 rfl) ?_
  refine lv_aload_n hx hb dX7_throwOut_58 rfl (lv_at hl 2 rfl) ?_
  refine lv_aload_n hx hb dX7_throwOut_59 rfl (lv_at hl 3 rfl) ?_
  refine lv_iload_n hx hb dX7_throwOut_60 rfl (lv_at hl 0 rfl) ?_
  refine lv_iconst (v := 1) hx hb dX7_throwOut_61 (by decide) ?_
  obtain ⟨μ_11, hc_10, hf⟩ := bnO_some hf
  refine va_callv (va_runV (As := [.ref (g.ad vi), .ref (g.ad rs), .int r_1, .int 1]) (rest := []) ⟨hx, hb, hml, hown, hts⟩ (c_X7_queueUp l hg μ_8 H.size vi rs r_1 1 hvi hrs hc_10) (cwV 4 hts (gd_V q438 q440 q5 q41 q441) rfl rfl rfl hd_X7_queueUp ⟨Nat.le_of_ble_eq_true rfl, Nat.le_of_ble_eq_true rfl⟩) ⟨Pz.blind, r_recv hT hP inW (fs := (fsW g)) (obW g) rfl, fun U hU hW => ⟨rfl, Tb.warm hW hT, by rw [hU], by rw [hU]; exact hP⟩⟩ rfl rfl hl.1 rfl (lv_room (Nat.le_of_ble_eq_true rfl)) dX7_throwOut_62 ⟨Nat.le_of_ble_eq_true rfl, Nat.le_of_ble_eq_true rfl⟩) hS (fun q _ h => Ag.sub rfl hS q h) (fun q h => Ag.sub rfl hS q h) (fun u9 t9 H locs ht9 hvm9 hw9 hB9 hz9 hk9 hS => ?_)
  have hP : Rg g μ_11 H := by rw [← ht9]; exact hB9
  exact W.vret hx hb hr (fun t9 ht hW => ⟨⟨(), rfl, trivial, by show Rg g r t9.heap; rw [ht, ← Option.some.inj hf]; exact hP⟩, hS.F ht⟩) hS.2.2 dX7_throwOut_65
/-- "Sandglass$World" "throwOut" "(LSandglass$Proc;LSandglass$Resource;)V" -/
def f_X7_throwOutN (g : Fg) (μ : Mem) (rs : Nat) : Option (Mem) := some μ
theorem hd_X7_throwOutN : yX7_throwOut.cls = RX7 ∧ yX7_throwOut.cls ≠ "java/lang/invoke/MethodHandle" ∧ yX7_throwOut.cls ≠ "java/lang/invoke/VarHandle" ∧ (parseMethodDescriptor yX7_throwOut.desc).map (fun d => d.parameters.length) = some 2 := by decide +kernel
set_option maxHeartbeats 4000000 in
set_option maxRecDepth 100000 in
theorem c_X7_throwOutN (l : Launch) {g : Geo} (hg : Good g) (μ : Mem) (sz : Nat) (rs : Nat) (hrs : isR g rs) {r : Mem} (hf : f_X7_throwOutN g.F μ rs = some r) : Met l yX7_throwOut (ws_ yX7_throwOut cX7_throwOut 4 (Option.none : Option Jvm.ClassFile.FieldType)) (rm_ 0 0 0 0) (Pz g [.ref (g.ad 0), .null, .ref (g.ad rs)] (fun H9 => H9.size = sz ∧ Rg g μ H9)) (va_Qv (fun _ : Unit => True) (fun _ t => Rg g r t.heap) (Ag g sz)) 0 0 (Ag g sz) := by
  refine Met.ofW (cc := cX7_throwOut) (maxL := 4) (ret := (Option.none : Option Jvm.ClassFile.FieldType)) (by decide) rfl ?_
  intro p e s m args below meth c s₁ B hml hv
  obtain ⟨rfl, hT, hsz, hP⟩ := hv
  have hx := B.exec
  have hb := B.bytes
  have hr := B.returns
  have hts : ∀ w ∈ lw_all, w.before _ s = true := fun w h => atoms_spec (ws := (ws_ yX7_throwOut cX7_throwOut 4 (Option.none : Option Jvm.ClassFile.FieldType))) B.pre w (List.mem_cons_of_mem _ h)
  have hown : s.vm.findClass RX7 = some m.cls := findClass_of_methodNamed B.named
  have hlocks := B.notSynchronized
  subst hsz
  have hD := fun ν => Ag.apart hg s.heap.size ν
  have hC := hP.sh
  have hN := Ag.shr hg hP
  have hS : va_S (Ag g s.heap.size) s.heap s.heap [] := va_S.rf
  have hl := lv_entry ([.ref (g.ad 0), .null, .ref (g.ad rs)]) (n := 4) (Nat.le_of_ble_eq_true rfl)
  rw [lg_entry_eq]
  generalize (lg_sl ([.ref (g.ad 0), .null, .ref (g.ad rs)]) ++ List.replicate (4 - (lg_sl ([.ref (g.ad 0), .null, .ref (g.ad rs)])).length) Slot.unset).toArray = ls at hl ⊢
  have hl : lv_has ls 4 [(0, .ref (g.ad 0)), (1, .null), (2, .ref (g.ad rs))] := hl
  unfold f_X7_throwOutN at hf
  refine lv_aload_nN hx hb dX7_throwOut_0 rfl (lv_at hl 1 rfl) ?_
  refine lv_ifnonnullN hx hb dX7_throwOut_1 ?_
  exact W.vret hx hb hr (fun t9 ht hW => ⟨⟨(), rfl, trivial, by show Rg g r t9.heap; rw [ht, ← Option.some.inj hf]; exact hP⟩, hS.F ht⟩) hS.2.2 dX7_throwOut_4
/-- "Sandglass$World" "serve" "(LSandglass$Resource;)V" -/
def b_X7_serveR_2 (g : Fg) : Nat → Mem → Nat → Int32 → Option (Mem)
  | 0, _, _, _ => none
  | n + 1, μ, x1, x2 => if 24 ≤ x2 then (some μ) else (bnO (f_X7_firstIn g μ (μ x1 0)) fun r_2 => csQ r_2 (some μ) (fun o_4 => grd (1 ≤ o_4 ∧ o_4 < 25) (if (μ o_4 12) ≤ (μ x1 3) then (bnO (f_X7_giveUnits g μ o_4 x1) fun μ_8 => if (μ_8 o_4 13) = 0 then (bnO (f_X7_schedule g μ_8 o_4 0 0) fun μ_12 => b_X7_serveR_2 g n μ_12 x1 (x2 + 1)) else (bnO (f_X7_schedule g μ_8 o_4 1 (μ_8 o_4 5)) fun μ_15 => bnd (put μ_15 o_4 5 0) fun μ_16 => b_X7_serveR_2 g n μ_16 x1 (x2 + 1))) else (some μ))))
def f_X7_serveR (g : Fg) (μ : Mem) (rs : Nat) : Option (Mem) := b_X7_serveR_2 g fu μ rs 0
theorem hd_X7_serveR : yX7_serve.cls = RX7 ∧ yX7_serve.cls ≠ "java/lang/invoke/MethodHandle" ∧ yX7_serve.cls ≠ "java/lang/invoke/VarHandle" ∧ (parseMethodDescriptor yX7_serve.desc).map (fun d => d.parameters.length) = some 1 := by decide +kernel
set_option maxHeartbeats 4000000 in
set_option maxRecDepth 100000 in
theorem c_X7_serveR (l : Launch) {g : Geo} (hg : Good g) (μ : Mem) (sz : Nat) (rs : Nat) (hrs : isR g rs) {r : Mem} (hf : f_X7_serveR g.F μ rs = some r) : Met l yX7_serve (ws_ yX7_serve cX7_serve 4 (Option.none : Option Jvm.ClassFile.FieldType)) (rm_ 2 47 0 0) (Pz g [.ref (g.ad 0), .ref (g.ad rs)] (fun H9 => H9.size = sz ∧ Rg g μ H9)) (va_Qv (fun _ : Unit => True) (fun _ t => Rg g r t.heap) (Ag g sz)) 0 0 (Ag g sz) := by
  refine Met.ofW (cc := cX7_serve) (maxL := 4) (ret := (Option.none : Option Jvm.ClassFile.FieldType)) (by decide) rfl ?_
  intro p e s m args below meth c s₁ B hml hv
  obtain ⟨rfl, hT, hsz, hP⟩ := hv
  have hx := B.exec
  have hb := B.bytes
  have hr := B.returns
  have hts : ∀ w ∈ lw_all, w.before _ s = true := fun w h => atoms_spec (ws := (ws_ yX7_serve cX7_serve 4 (Option.none : Option Jvm.ClassFile.FieldType))) B.pre w (List.mem_cons_of_mem _ h)
  have hown : s.vm.findClass RX7 = some m.cls := findClass_of_methodNamed B.named
  have hlocks := B.notSynchronized
  subst hsz
  have hD := fun ν => Ag.apart hg s.heap.size ν
  have hC := hP.sh
  have hN := Ag.shr hg hP
  have hS : va_S (Ag g s.heap.size) s.heap s.heap [] := va_S.rf
  have L2 : ∀ (n : Nat) (μ : Mem) (x1 : Nat) (x2 : Int32) (H : Heap) (locs : List Loc) (ls : Array Slot), Rg g μ H → va_S (Ag g s.heap.size) s.heap H locs → lv_has ls 4 [(0, .ref (g.ad 0)), (1, .ref (g.ad x1)), (2, .int x2)] → isR g x1 → b_X7_serveR_2 g.F n μ x1 x2 = some r → W p l e (headSpec (ws_ yX7_serve cX7_serve 4 (Option.none : Option Jvm.ClassFile.FieldType)) (rm_ 2 47 0 0)).room s m ([.ref (g.ad 0), .ref (g.ad rs)] : List Value).toArray below meth c H locs 0 0 (MQ below (va_Qv (fun _ : Unit => True) (fun _ t => Rg g r t.heap) (Ag g s.heap.size)) ([.ref (g.ad 0), .ref (g.ad rs)] : List Value).toArray s 0 0 (Ag g s.heap.size)) (F0 m 2 ls []) := by
    intro n
    induction n with
    | zero => intro μ x1 x2 H locs ls hP hS hl hx1 hf; cases hf
    | succ n ih =>
      intro μ x1 x2 H locs ls hP hS hl hx1 hf
      rw [b_X7_serveR_2] at hf
      refine lv_aload_n hx hb dX7_serve_2 rfl (lv_at hl 1 rfl) ?_
      refine lv_ifnull hx hb dX7_serve_3 ?_
      refine lv_iload_n hx hb dX7_serve_6 rfl (lv_at hl 2 rfl) ?_
      refine lv_bipush (v := 24) hx hb dX7_serve_7 (by decide) ?_
      refine lv_icmp_ge (tgt := 81) hx hb dX7_serve_9 (by decide) (fun c_1 => ?_) (fun c_1 => ?_)
      · have hf := (if_pos c_1).symm.trans hf
        exact W.vret hx hb hr (fun t9 ht hW => ⟨⟨(), rfl, trivial, by show Rg g r t9.heap; rw [ht, ← Option.some.inj hf]; exact hP⟩, hS.F ht⟩) hS.2.2 dX7_serve_81
      · have hf := (if_neg c_1).symm.trans hf
        refine lv_aload_n hx hb dX7_serve_12 rfl (lv_at hl 0 rfl) ?_
        refine lv_aload_n hx hb dX7_serve_13 rfl (lv_at hl 1 rfl) ?_
        refine r_get hx hb hts i_X3 hown hT hP (inR hx1) (fs := fsR) (obR hx1) rfl 0 (by decide) q948 (fun _ h9 => h9) rfl dX7_serve_14 ?_
        obtain ⟨r_2, hc_3, hf⟩ := bnO_some hf
        refine va_callq (va_runV (As := [.int (μ x1 0)]) (rest := []) ⟨hx, hb, hml, hown, hts⟩ (c_X7_firstIn l hg μ (μ x1 0)  hc_3) (cwV 1 hts (gd_V q446 q448 q7 q41 q449) rfl rfl rfl hd_X7_firstIn ⟨Nat.le_of_ble_eq_true rfl, Nat.le_of_ble_eq_true rfl⟩) ⟨Pz.blind, r_recv hT hP inW (fs := (fsW g)) (obW g) rfl, fun U hU hW => ⟨rfl, Tb.warm hW hT, by rw [hU]; exact hP⟩⟩ rfl rfl hl.1 rfl (lv_room (Nat.le_of_ble_eq_true rfl)) dX7_serve_17 ⟨Nat.le_of_ble_eq_true rfl, Nat.le_of_ble_eq_true rfl⟩) hS (fun q _ h => h.elim) (fun q h => h.elim) (fun v9 u9 t9 H locs ht9 hvm9 hw9 hB9 hz9 hk9 hS => ?_)
        have hP := Rg.keep hP (fun q h => hk9 q h id)
        rw [hw9]
        cases r_2 with
        | none =>
          dsimp only [csQ] at hf
          refine W.eq (g2 := F0 m 20 ls [.null]) rfl ?_
          refine lv_astore_nN (lv' := [(3, .null), (0, .ref (g.ad 0)), (1, .ref (g.ad x1)), (2, .int x2)]) hx hb dX7_serve_20 rfl hl (by decide) rfl (fun ls hl => ?_)
          refine lv_aload_nN hx hb dX7_serve_21 rfl (lv_at hl 0 rfl) ?_
          refine lv_ifnullN (tgt := 36) hx hb dX7_serve_22 (by decide) ?_
          exact W.vret hx hb hr (fun t9 ht hW => ⟨⟨(), rfl, trivial, by show Rg g r t9.heap; rw [ht, ← Option.some.inj hf]; exact hP⟩, hS.F ht⟩) hS.2.2 dX7_serve_36
        | some o_4 =>
          dsimp only [csQ] at hf
          obtain ⟨ho_4, hf⟩ := grd_some hf
          refine W.eq (g2 := F0 m 20 ls [.ref (g.ad o_4)]) rfl ?_
          refine lv_astore_n (lv' := [(3, .ref (g.ad o_4)), (0, .ref (g.ad 0)), (1, .ref (g.ad x1)), (2, .int x2)]) hx hb dX7_serve_20 rfl hl (by decide) rfl (fun ls hl => ?_)
          refine lv_aload_n hx hb dX7_serve_21 rfl (lv_at hl 0 rfl) ?_
          refine lv_ifnull hx hb dX7_serve_22 ?_
          refine lv_aload_n hx hb dX7_serve_25 rfl (lv_at hl 0 rfl) ?_
          refine r_get hx hb hts i_X2 hown hT hP (inP ho_4) (fs := (fsP g o_4)) (obP ho_4) rfl 12 (by decide) q142 (fun _ h9 => h9) rfl dX7_serve_26 ?_
          refine lv_aload_n hx hb dX7_serve_29 rfl (lv_at hl 2 rfl) ?_
          refine r_get hx hb hts i_X3 hown hT hP (inR hx1) (fs := fsR) (obR hx1) rfl 3 (by decide) q955 (fun _ h9 => h9) rfl dX7_serve_30 ?_
          refine lv_icmp_le (tgt := 37) hx hb dX7_serve_33 (by decide) (fun c_5 => ?_) (fun c_5 => ?_)
          · have hf := (if_pos c_5).symm.trans hf
            refine lv_aload_n hx hb dX7_serve_37 rfl (lv_at hl 1 rfl) ?_
            refine lv_aload_n hx hb dX7_serve_38 rfl (lv_at hl 0 rfl) ?_
            refine lv_aload_n hx hb dX7_serve_39 rfl (lv_at hl 2 rfl) ?_
            obtain ⟨μ_8, hc_7, hf⟩ := bnO_some hf
            refine va_callv (va_runV (As := [.ref (g.ad o_4), .ref (g.ad x1)]) (rest := []) ⟨hx, hb, hml, hown, hts⟩ (c_X7_giveUnits l hg μ H.size o_4 x1 ho_4 hx1 hc_7) (cwV 2 hts (gd_V q484 q486 q12 q41 q487) rfl rfl rfl hd_X7_giveUnits ⟨Nat.le_of_ble_eq_true rfl, Nat.le_of_ble_eq_true rfl⟩) ⟨Pz.blind, r_recv hT hP inW (fs := (fsW g)) (obW g) rfl, fun U hU hW => ⟨rfl, Tb.warm hW hT, by rw [hU], by rw [hU]; exact hP⟩⟩ rfl rfl hl.1 rfl (lv_room (Nat.le_of_ble_eq_true rfl)) dX7_serve_40 ⟨Nat.le_of_ble_eq_true rfl, Nat.le_of_ble_eq_true rfl⟩) hS (fun q _ h => Ag.sub rfl hS q h) (fun q h => Ag.sub rfl hS q h) (fun u9 t9 H locs ht9 hvm9 hw9 hB9 hz9 hk9 hS => ?_)
            have hP : Rg g μ_8 H := by rw [← ht9]; exact hB9
            refine lv_aload_n hx hb dX7_serve_43 rfl (lv_at hl 0 rfl) ?_
            refine r_get hx hb hts i_X2 hown hT hP (inP ho_4) (fs := (fsP g o_4)) (obP ho_4) rfl 13 (by decide) q144 (fun _ h9 => h9) rfl dX7_serve_44 ?_
            refine lv_if_eq (tgt := 68) hx hb dX7_serve_47 (by decide) (fun c_9 => ?_) (fun c_9 => ?_)
            · have hf := (if_pos c_9).symm.trans hf
              refine lv_aload_n hx hb dX7_serve_68 rfl (lv_at hl 1 rfl) ?_
              refine lv_aload_n hx hb dX7_serve_69 rfl (lv_at hl 0 rfl) ?_
              refine lv_iconst (v := 0) hx hb dX7_serve_70 (by decide) ?_
              refine lv_iconst (v := 0) hx hb dX7_serve_71 (by decide) ?_
              obtain ⟨μ_12, hc_11, hf⟩ := bnO_some hf
              refine va_callv (va_runV (As := [.ref (g.ad o_4), .int 0, .int 0]) (rest := []) ⟨hx, hb, hml, hown, hts⟩ (c_X7_schedule l hg μ_8 H.size o_4 0 0 ho_4 hc_11) (cwV 3 hts (gd_V q381 q382 q383 q41 q384) rfl rfl rfl hd_X7_schedule ⟨Nat.le_of_ble_eq_true rfl, Nat.le_of_ble_eq_true rfl⟩) ⟨Pz.blind, r_recv hT hP inW (fs := (fsW g)) (obW g) rfl, fun U hU hW => ⟨rfl, Tb.warm hW hT, by rw [hU], by rw [hU]; exact hP⟩⟩ rfl rfl hl.1 rfl (lv_room (Nat.le_of_ble_eq_true rfl)) dX7_serve_72 ⟨Nat.le_of_ble_eq_true rfl, Nat.le_of_ble_eq_true rfl⟩) hS (fun q _ h => Ag.sub rfl hS q h) (fun q h => Ag.sub rfl hS q h) (fun u9 t9 H locs ht9 hvm9 hw9 hB9 hz9 hk9 hS => ?_)
              have hP : Rg g μ_12 H := by rw [← ht9]; exact hB9
              refine lv_iinc (v := x2 + 1) (lv' := [(2, .int (x2 + 1)), (3, .ref (g.ad o_4)), (0, .ref (g.ad 0)), (1, .ref (g.ad x1))]) hx hb dX7_serve_75 hl (k := 3) rfl rfl (by decide) rfl (fun ls hl => ?_)
              refine lv_goto (tgt := 2) hx hb dX7_serve_78 (by decide) ?_
              exact ih μ_12 x1 (x2 + 1) _ _ _ hP hS (lv_sub hl [2, 3, 0] rfl) hx1 hf
            · have hf := (if_neg c_9).symm.trans hf
              refine lv_aload_n hx hb dX7_serve_50 rfl (lv_at hl 1 rfl) ?_
              refine lv_aload_n hx hb dX7_serve_51 rfl (lv_at hl 0 rfl) ?_
              refine lv_iconst (v := 1) hx hb dX7_serve_52 (by decide) ?_
              refine lv_aload_n hx hb dX7_serve_53 rfl (lv_at hl 0 rfl) ?_
              refine r_get hx hb hts i_X2 hown hT hP (inP ho_4) (fs := (fsP g o_4)) (obP ho_4) rfl 5 (by decide) q125 (fun _ h9 => h9) rfl dX7_serve_54 ?_
              obtain ⟨μ_15, hc_14, hf⟩ := bnO_some hf
              refine va_callv (va_runV (As := [.ref (g.ad o_4), .int 1, .int (μ_8 o_4 5)]) (rest := []) ⟨hx, hb, hml, hown, hts⟩ (c_X7_schedule l hg μ_8 H.size o_4 1 (μ_8 o_4 5) ho_4 hc_14) (cwV 3 hts (gd_V q381 q382 q383 q41 q384) rfl rfl rfl hd_X7_schedule ⟨Nat.le_of_ble_eq_true rfl, Nat.le_of_ble_eq_true rfl⟩) ⟨Pz.blind, r_recv hT hP inW (fs := (fsW g)) (obW g) rfl, fun U hU hW => ⟨rfl, Tb.warm hW hT, by rw [hU], by rw [hU]; exact hP⟩⟩ rfl rfl hl.1 rfl (lv_room (Nat.le_of_ble_eq_true rfl)) dX7_serve_57 ⟨Nat.le_of_ble_eq_true rfl, Nat.le_of_ble_eq_true rfl⟩) hS (fun q _ h => Ag.sub rfl hS q h) (fun q h => Ag.sub rfl hS q h) (fun u9 t9 H locs ht9 hvm9 hw9 hB9 hz9 hk9 hS => ?_)
              have hP : Rg g μ_15 H := by rw [← ht9]; exact hB9
              refine lv_aload_n hx hb dX7_serve_60 rfl (lv_at hl 0 rfl) ?_
              refine lv_iconst (v := 0) hx hb dX7_serve_61 (by decide) ?_
              refine r_put hx hb hts i_X2 tyX2 tyX2_ok nmX2 hown hT hP hD hC hN hS (mtP ho_4) (fs := (fsP g o_4)) (obP ho_4) rfl 5 (by decide) q125 (fun _ h9 => h9) rfl (ty := .int) (x := 0) rfl rfl rfl (fun _ => rfl) (Nat.le_of_ble_eq_true rfl) dX7_serve_62 (fun H locs hP hS => ?_)
              obtain ⟨μ_16, eμ_16⟩ : ∃ z, put μ_15 o_4 5 0 = z := ⟨_, rfl⟩
              rw [eμ_16] at hP
              have hf := bnd_eq hf _ eμ_16
              refine lv_goto (tgt := 75) hx hb dX7_serve_65 (by decide) ?_
              refine lv_iinc (v := x2 + 1) (lv' := [(2, .int (x2 + 1)), (3, .ref (g.ad o_4)), (0, .ref (g.ad 0)), (1, .ref (g.ad x1))]) hx hb dX7_serve_75 hl (k := 3) rfl rfl (by decide) rfl (fun ls hl => ?_)
              refine lv_goto (tgt := 2) hx hb dX7_serve_78 (by decide) ?_
              exact ih μ_16 x1 (x2 + 1) _ _ _ hP hS (lv_sub hl [2, 3, 0] rfl) hx1 hf
          · have hf := (if_neg c_5).symm.trans hf
            exact W.vret hx hb hr (fun t9 ht hW => ⟨⟨(), rfl, trivial, by show Rg g r t9.heap; rw [ht, ← Option.some.inj hf]; exact hP⟩, hS.F ht⟩) hS.2.2 dX7_serve_36
  have hl := lv_entry ([.ref (g.ad 0), .ref (g.ad rs)]) (n := 4) (Nat.le_of_ble_eq_true rfl)
  rw [lg_entry_eq]
  generalize (lg_sl ([.ref (g.ad 0), .ref (g.ad rs)]) ++ List.replicate (4 - (lg_sl ([.ref (g.ad 0), .ref (g.ad rs)])).length) Slot.unset).toArray = ls at hl ⊢
  have hl : lv_has ls 4 [(0, .ref (g.ad 0)), (1, .ref (g.ad rs))] := hl
  unfold f_X7_serveR at hf
  refine lv_iconst (v := 0) hx hb dX7_serve_0 (by decide) ?_
  refine lv_istore_n (lv' := [(2, .int 0), (0, .ref (g.ad 0)), (1, .ref (g.ad rs))]) hx hb dX7_serve_1 rfl hl (by decide) rfl (fun ls hl => ?_)
  exact L2 fu μ rs 0 _ _ _ hP hS (lv_sub hl [1, 2, 0] rfl) hrs hf
/-- "Sandglass$World" "serve" "(LSandglass$Resource;)V" -/
def b_X7_serveN_2 (g : Fg) : Nat → Mem → Int32 → Option (Mem)
  | 0, _, _ => none
  | n + 1, μ, x2 => some μ
def f_X7_serveN (g : Fg) (μ : Mem) : Option (Mem) := b_X7_serveN_2 g fu μ 0
theorem hd_X7_serveN : yX7_serve.cls = RX7 ∧ yX7_serve.cls ≠ "java/lang/invoke/MethodHandle" ∧ yX7_serve.cls ≠ "java/lang/invoke/VarHandle" ∧ (parseMethodDescriptor yX7_serve.desc).map (fun d => d.parameters.length) = some 1 := by decide +kernel
set_option maxHeartbeats 4000000 in
set_option maxRecDepth 100000 in
theorem c_X7_serveN (l : Launch) {g : Geo} (hg : Good g) (μ : Mem) (sz : Nat) {r : Mem} (hf : f_X7_serveN g.F μ  = some r) : Met l yX7_serve (ws_ yX7_serve cX7_serve 4 (Option.none : Option Jvm.ClassFile.FieldType)) (rm_ 0 0 0 0) (Pz g [.ref (g.ad 0), .null] (fun H9 => H9.size = sz ∧ Rg g μ H9)) (va_Qv (fun _ : Unit => True) (fun _ t => Rg g r t.heap) (Ag g sz)) 0 0 (Ag g sz) := by
  refine Met.ofW (cc := cX7_serve) (maxL := 4) (ret := (Option.none : Option Jvm.ClassFile.FieldType)) (by decide) rfl ?_
  intro p e s m args below meth c s₁ B hml hv
  obtain ⟨rfl, hT, hsz, hP⟩ := hv
  have hx := B.exec
  have hb := B.bytes
  have hr := B.returns
  have hts : ∀ w ∈ lw_all, w.before _ s = true := fun w h => atoms_spec (ws := (ws_ yX7_serve cX7_serve 4 (Option.none : Option Jvm.ClassFile.FieldType))) B.pre w (List.mem_cons_of_mem _ h)
  have hown : s.vm.findClass RX7 = some m.cls := findClass_of_methodNamed B.named
  have hlocks := B.notSynchronized
  subst hsz
  have hD := fun ν => Ag.apart hg s.heap.size ν
  have hC := hP.sh
  have hN := Ag.shr hg hP
  have hS : va_S (Ag g s.heap.size) s.heap s.heap [] := va_S.rf
  have L2 : ∀ (n : Nat) (μ : Mem) (x2 : Int32) (H : Heap) (locs : List Loc) (ls : Array Slot), Rg g μ H → va_S (Ag g s.heap.size) s.heap H locs → lv_has ls 4 [(0, .ref (g.ad 0)), (1, .null), (2, .int x2)] → b_X7_serveN_2 g.F n μ x2 = some r → W p l e (headSpec (ws_ yX7_serve cX7_serve 4 (Option.none : Option Jvm.ClassFile.FieldType)) (rm_ 0 0 0 0)).room s m ([.ref (g.ad 0), .null] : List Value).toArray below meth c H locs 0 0 (MQ below (va_Qv (fun _ : Unit => True) (fun _ t => Rg g r t.heap) (Ag g s.heap.size)) ([.ref (g.ad 0), .null] : List Value).toArray s 0 0 (Ag g s.heap.size)) (F0 m 2 ls []) := by
    intro n
    induction n with
    | zero => intro μ x2 H locs ls hP hS hl  hf; cases hf
    | succ n ih =>
      intro μ x2 H locs ls hP hS hl  hf
      rw [b_X7_serveN_2] at hf
      refine lv_aload_nN hx hb dX7_serve_2 rfl (lv_at hl 1 rfl) ?_
      refine lv_ifnullN (tgt := 81) hx hb dX7_serve_3 (by decide) ?_
      exact W.vret hx hb hr (fun t9 ht hW => ⟨⟨(), rfl, trivial, by show Rg g r t9.heap; rw [ht, ← Option.some.inj hf]; exact hP⟩, hS.F ht⟩) hS.2.2 dX7_serve_81
  have hl := lv_entry ([.ref (g.ad 0), .null]) (n := 4) (Nat.le_of_ble_eq_true rfl)
  rw [lg_entry_eq]
  generalize (lg_sl ([.ref (g.ad 0), .null]) ++ List.replicate (4 - (lg_sl ([.ref (g.ad 0), .null])).length) Slot.unset).toArray = ls at hl ⊢
  have hl : lv_has ls 4 [(0, .ref (g.ad 0)), (1, .null)] := hl
  unfold f_X7_serveN at hf
  refine lv_iconst (v := 0) hx hb dX7_serve_0 (by decide) ?_
  refine lv_istore_n (lv' := [(2, .int 0), (0, .ref (g.ad 0)), (1, .null)]) hx hb dX7_serve_1 rfl hl (by decide) rfl (fun ls hl => ?_)
  exact L2 fu μ 0 _ _ _ hP hS (lv_sub hl [1, 2, 0] rfl)  hf
