/-- "Sandglass$World" "release" "(LSandglass$Proc;LSandglass$Resource;I)V" -/
def f_X7_releaseR (g : Fg) (μ : Mem) (q : Nat) (rs : Nat) (un : Int32) : Option (Mem) := bnO (f_X8_at g μ (q + 48) (μ rs 0)) fun r_1 => bnd (if r_1 < un then r_1 else un) fun x_3 => bnO (f_X8_set g μ (q + 48) (μ rs 0) (r_1 - x_3)) fun μ_6 => bnd (put μ_6 rs 3 ((μ_6 rs 3) + x_3)) fun μ_7 => bnO (f_X7_serveR g μ_7 rs) fun μ_10 => some μ_10
theorem hd_X7_releaseR : yX7_release.cls = RX7 ∧ yX7_release.cls ≠ "java/lang/invoke/MethodHandle" ∧ yX7_release.cls ≠ "java/lang/invoke/VarHandle" ∧ (parseMethodDescriptor yX7_release.desc).map (fun d => d.parameters.length) = some 3 := by decide +kernel
set_option maxHeartbeats 4000000 in
set_option maxRecDepth 100000 in
theorem c_X7_releaseR (l : Launch) {g : Geo} (hg : Good g) (μ : Mem) (sz : Nat) (q : Nat) (rs : Nat) (un : Int32) (hq : isP q) (hrs : isR g rs) {r : Mem} (hf : f_X7_releaseR g.F μ q rs un = some r) : Met l yX7_release (ws_ yX7_release cX7_release 6 (Option.none : Option Jvm.ClassFile.FieldType)) (rm_ 3 70 0 0) (Pz g [.ref (g.ad 0), .ref (g.ad q), .ref (g.ad rs), .int un] (fun H9 => H9.size = sz ∧ Rg g μ H9)) (va_Qv (fun _ : Unit => True) (fun _ t => Rg g r t.heap) (Ag g sz)) 0 0 (Ag g sz) := by
  refine Met.ofW (cc := cX7_release) (maxL := 6) (ret := (Option.none : Option Jvm.ClassFile.FieldType)) (by decide) rfl ?_
  intro p e s m args below meth c s₁ B hml hv
  obtain ⟨rfl, hT, hsz, hP⟩ := hv
  have hx := B.exec
  have hb := B.bytes
  have hr := B.returns
  have hts : ∀ w ∈ lw_all, w.before _ s = true := fun w h => atoms_spec (ws := (ws_ yX7_release cX7_release 6 (Option.none : Option Jvm.ClassFile.FieldType))) B.pre w (List.mem_cons_of_mem _ h)
  have hown : s.vm.findClass RX7 = some m.cls := findClass_of_methodNamed B.named
  have hlocks := B.notSynchronized
  subst hsz
  have hD := fun ν => Ag.apart hg s.heap.size ν
  have hC := hP.sh
  have hN := Ag.shr hg hP
  have hS : va_S (Ag g s.heap.size) s.heap s.heap [] := va_S.rf
  have hl := lv_entry ([.ref (g.ad 0), .ref (g.ad q), .ref (g.ad rs), .int un]) (n := 6) (Nat.le_of_ble_eq_true rfl)
  rw [lg_entry_eq]
  generalize (lg_sl ([.ref (g.ad 0), .ref (g.ad q), .ref (g.ad rs), .int un]) ++ List.replicate (6 - (lg_sl ([.ref (g.ad 0), .ref (g.ad q), .ref (g.ad rs), .int un])).length) Slot.unset).toArray = ls at hl ⊢
  have hl : lv_has ls 6 [(0, .ref (g.ad 0)), (1, .ref (g.ad q)), (2, .ref (g.ad rs)), (3, .int un)] := hl
  unfold f_X7_releaseR at hf
  refine lv_aload_n hx hb dX7_release_0 rfl (lv_at hl 2 rfl) ?_
  refine lv_ifnonnull (tgt := 5) hx hb dX7_release_1 (by decide) ?_
  refine lv_aload_n hx hb dX7_release_5 rfl (lv_at hl 1 rfl) ?_
  refine r_get hx hb hts i_X2 hown hT hP (inP hq) (fs := (fsP g q)) (obP hq) rfl 15 (by decide) q149 (fun _ h9 => h9) rfl dX7_release_6 ?_
  refine lv_aload_n hx hb dX7_release_9 rfl (lv_at hl 2 rfl) ?_
  refine r_get hx hb hts i_X3 hown hT hP (inR hrs) (fs := fsR) (obR hrs) rfl 0 (by decide) q948 (fun _ h9 => h9) rfl dX7_release_10 ?_
  obtain ⟨r_1, hc_2, hf⟩ := bnO_some hf
  refine va_calli (va_runSN (As := [.ref (g.ad (q + 48)), .int (μ rs 0)]) (rest := []) ⟨hx, hb, hml, hown, hts⟩ (c_X8_at l hg μ (q + 48) (μ rs 0) (show isP _ from hq).hld hc_2) ⟨va_cnB 2 hts (gd_code q464) rfl rfl rfl (hT.2.1 _ nst_3) (hts _ q37) hd_X8_at.2 ⟨Nat.le_of_ble_eq_true rfl, Nat.le_of_ble_eq_true rfl⟩, hts _ q463, trivial⟩ ⟨Pz.blind, fun U hU hW => ⟨rfl, Tb.warm hW hT, by rw [hU]; exact hP⟩⟩ rfl rfl hl.1 rfl (lv_room (Nat.le_of_ble_eq_true rfl)) dX7_release_13 ⟨Nat.le_of_ble_eq_true rfl, Nat.le_of_ble_eq_true rfl⟩) hS (fun q _ h => h.elim) (fun q h => h.elim) (fun v9 u9 t9 H locs ht9 hvm9 hw9 hB9 hz9 hk9 hS => ?_)
  have hP := Rg.keep hP (fun q h => hk9 q h id)
  rw [hw9]
  refine lv_istore (lv' := [(4, .int r_1), (0, .ref (g.ad 0)), (1, .ref (g.ad q)), (2, .ref (g.ad rs)), (3, .int un)]) hx hb dX7_release_16 hl (by decide) rfl (fun ls hl => ?_)
  refine lv_iload_n hx hb dX7_release_18 rfl (lv_at hl 4 rfl) ?_
  refine lv_iload hx hb dX7_release_19 (lv_at hl 0 rfl) ?_
  refine va_mmin hx hb (by rw [hml]; exact hl.1.symm) hown (hts _ q496) (hts _ q497) (hts _ q50) (hts _ q498) (Nat.le_of_ble_eq_true rfl) (Nat.le_of_ble_eq_true rfl) (Nat.le_of_ble_eq_true rfl) (Nat.le_of_ble_eq_true rfl) dX7_release_21 ?_
  obtain ⟨x_3, ex_3⟩ : ∃ z, (if r_1 < un then r_1 else un) = z := ⟨_, rfl⟩
  rw [ex_3]
  have hf := bnd_eq hf _ ex_3
  refine lv_istore (lv' := [(5, .int x_3), (4, .int r_1), (0, .ref (g.ad 0)), (1, .ref (g.ad q)), (2, .ref (g.ad rs)), (3, .int un)]) hx hb dX7_release_24 hl (by decide) rfl (fun ls hl => ?_)
  refine lv_aload_n hx hb dX7_release_26 rfl (lv_at hl 3 rfl) ?_
  refine r_get hx hb hts i_X2 hown hT hP (inP hq) (fs := (fsP g q)) (obP hq) rfl 15 (by decide) q149 (fun _ h9 => h9) rfl dX7_release_27 ?_
  refine lv_aload_n hx hb dX7_release_30 rfl (lv_at hl 4 rfl) ?_
  refine r_get hx hb hts i_X3 hown hT hP (inR hrs) (fs := fsR) (obR hrs) rfl 0 (by decide) q948 (fun _ h9 => h9) rfl dX7_release_31 ?_
  refine lv_iload hx hb dX7_release_34 (lv_at hl 1 rfl) ?_
  refine lv_iload hx hb dX7_release_36 (lv_at hl 0 rfl) ?_
  refine lv_isub hx hb dX7_release_38 ?_
  obtain ⟨μ_6, hc_5, hf⟩ := bnO_some hf
  refine va_callv (va_runSN (As := [.ref (g.ad (q + 48)), .int (μ rs 0), .int (r_1 - x_3)]) (rest := []) ⟨hx, hb, hml, hown, hts⟩ (c_X8_set l hg μ H.size (q + 48) (μ rs 0) (r_1 - x_3) (show isP _ from hq).hld hc_5) ⟨va_cnB 3 hts (gd_code q480) rfl rfl rfl (hT.2.1 _ nst_4) (hts _ q37) hd_X8_set.2 ⟨Nat.le_of_ble_eq_true rfl, Nat.le_of_ble_eq_true rfl⟩, hts _ q479, trivial⟩ ⟨Pz.blind, fun U hU hW => ⟨rfl, Tb.warm hW hT, by rw [hU], by rw [hU]; exact hP⟩⟩ rfl rfl hl.1 rfl (lv_room (Nat.le_of_ble_eq_true rfl)) dX7_release_39 ⟨Nat.le_of_ble_eq_true rfl, Nat.le_of_ble_eq_true rfl⟩) hS (fun q _ h => Ag.sub rfl hS q h) (fun q h => Ag.sub rfl hS q h) (fun u9 t9 H locs ht9 hvm9 hw9 hB9 hz9 hk9 hS => ?_)
  have hP : Rg g μ_6 H := by rw [← ht9]; exact hB9
  refine lv_aload_n hx hb dX7_release_42 rfl (lv_at hl 4 rfl) ?_
  refine lv_dup hx hb dX7_release_43 rfl ?_
  refine r_get hx hb hts i_X3 hown hT hP (inR hrs) (fs := fsR) (obR hrs) rfl 3 (by decide) q955 (fun _ h9 => h9) rfl dX7_release_44 ?_
  refine lv_iload hx hb dX7_release_47 (lv_at hl 0 rfl) ?_
  refine lv_iadd hx hb dX7_release_49 ?_
  refine r_put hx hb hts i_X3 tyX3 tyX3_ok nmX3 hown hT hP hD hC hN hS (mtR hrs) (fs := fsR) (obR hrs) rfl 3 (by decide) q955 (fun _ h9 => h9) rfl (ty := .int) (x := (μ_6 rs 3) + x_3) rfl rfl rfl (fun _ => rfl) (Nat.le_of_ble_eq_true rfl) dX7_release_50 (fun H locs hP hS => ?_)
  obtain ⟨μ_7, eμ_7⟩ : ∃ z, put μ_6 rs 3 ((μ_6 rs 3) + x_3) = z := ⟨_, rfl⟩
  rw [eμ_7] at hP
  have hf := bnd_eq hf _ eμ_7
  refine lv_aload_n hx hb dX7_release_53 rfl (lv_at hl 2 rfl) ?_
  refine lv_aload_n hx hb dX7_release_54 rfl (lv_at hl 4 rfl) ?_
  obtain ⟨μ_10, hc_9, hf⟩ := bnO_some hf
  refine va_callv (va_runV (As := [.ref (g.ad rs)]) (rest := []) ⟨hx, hb, hml, hown, hts⟩ (c_X7_serveR l hg μ_7 H.size rs hrs hc_9) (cwV 1 hts (gd_V q488 q490 q13 q41 q491) rfl rfl rfl hd_X7_serveR ⟨Nat.le_of_ble_eq_true rfl, Nat.le_of_ble_eq_true rfl⟩) ⟨Pz.blind, r_recv hT hP inW (fs := (fsW g)) (obW g) rfl, fun U hU hW => ⟨rfl, Tb.warm hW hT, by rw [hU], by rw [hU]; exact hP⟩⟩ rfl rfl hl.1 rfl (lv_room (Nat.le_of_ble_eq_true rfl)) dX7_release_55 ⟨Nat.le_of_ble_eq_true rfl, Nat.le_of_ble_eq_true rfl⟩) hS (fun q _ h => Ag.sub rfl hS q h) (fun q h => Ag.sub rfl hS q h) (fun u9 t9 H locs ht9 hvm9 hw9 hB9 hz9 hk9 hS => ?_)
  have hP : Rg g μ_10 H := by rw [← ht9]; exact hB9
  exact W.vret hx hb hr (fun t9 ht hW => ⟨⟨(), rfl, trivial, by show Rg g r t9.heap; rw [ht, ← Option.some.inj hf]; exact hP⟩, hS.F ht⟩) hS.2.2 dX7_release_58
/-- "Sandglass$World" "release" "(LSandglass$Proc;LSandglass$Resource;I)V" -/
def f_X7_releaseN (g : Fg) (μ : Mem) (q : Nat) (un : Int32) : Option (Mem) := some μ
theorem hd_X7_releaseN : yX7_release.cls = RX7 ∧ yX7_release.cls ≠ "java/lang/invoke/MethodHandle" ∧ yX7_release.cls ≠ "java/lang/invoke/VarHandle" ∧ (parseMethodDescriptor yX7_release.desc).map (fun d => d.parameters.length) = some 3 := by decide +kernel
set_option maxHeartbeats 4000000 in
set_option maxRecDepth 100000 in
theorem c_X7_releaseN (l : Launch) {g : Geo} (hg : Good g) (μ : Mem) (sz : Nat) (q : Nat) (un : Int32) (hq : isP q) {r : Mem} (hf : f_X7_releaseN g.F μ q un = some r) : Met l yX7_release (ws_ yX7_release cX7_release 6 (Option.none : Option Jvm.ClassFile.FieldType)) (rm_ 0 0 0 0) (Pz g [.ref (g.ad 0), .ref (g.ad q), .null, .int un] (fun H9 => H9.size = sz ∧ Rg g μ H9)) (va_Qv (fun _ : Unit => True) (fun _ t => Rg g r t.heap) (Ag g sz)) 0 0 (Ag g sz) := by
  refine Met.ofW (cc := cX7_release) (maxL := 6) (ret := (Option.none : Option Jvm.ClassFile.FieldType)) (by decide) rfl ?_
  intro p e s m args below meth c s₁ B hml hv
  obtain ⟨rfl, hT, hsz, hP⟩ := hv
  have hx := B.exec
  have hb := B.bytes
  have hr := B.returns
  have hts : ∀ w ∈ lw_all, w.before _ s = true := fun w h => atoms_spec (ws := (ws_ yX7_release cX7_release 6 (Option.none : Option Jvm.ClassFile.FieldType))) B.pre w (List.mem_cons_of_mem _ h)
  have hown : s.vm.findClass RX7 = some m.cls := findClass_of_methodNamed B.named
  have hlocks := B.notSynchronized
  subst hsz
  have hD := fun ν => Ag.apart hg s.heap.size ν
  have hC := hP.sh
  have hN := Ag.shr hg hP
  have hS : va_S (Ag g s.heap.size) s.heap s.heap [] := va_S.rf
  have hl := lv_entry ([.ref (g.ad 0), .ref (g.ad q), .null, .int un]) (n := 6) (Nat.le_of_ble_eq_true rfl)
  rw [lg_entry_eq]
  generalize (lg_sl ([.ref (g.ad 0), .ref (g.ad q), .null, .int un]) ++ List.replicate (6 - (lg_sl ([.ref (g.ad 0), .ref (g.ad q), .null, .int un])).length) Slot.unset).toArray = ls at hl ⊢
  have hl : lv_has ls 6 [(0, .ref (g.ad 0)), (1, .ref (g.ad q)), (2, .null), (3, .int un)] := hl
  unfold f_X7_releaseN at hf
  refine lv_aload_nN hx hb dX7_release_0 rfl (lv_at hl 2 rfl) ?_
  refine lv_ifnonnullN hx hb dX7_release_1 ?_
  exact W.vret hx hb hr (fun t9 ht hW => ⟨⟨(), rfl, trivial, by show Rg g r t9.heap; rw [ht, ← Option.some.inj hf]; exact hP⟩, hS.F ht⟩) hS.2.2 dX7_release_4
/-- "Sandglass$World" "seize" "(LSandglass$Proc;LSandglass$Resource;I)V" -/
def b_X7_seizeR_130 (g : Fg) (μ : Mem) (x1 : Nat) (x2 : Nat) (x3 : Int32) (x4 : Int32) (x5 : Int32) : Option (Mem) := bnO (f_X7_countIn g μ (μ x2 0)) fun r_30 => bnd (if (μ x2 6) < r_30 then r_30 else (μ x2 6)) fun x_32 => bnd (put μ x2 6 x_32) fun μ_33 => if x4 = 0 then (some μ_33) else (if x3 ≤ (μ_33 x2 3) then (bnO (f_X7_giveUnits g μ_33 x1 x2) fun μ_38 => bnd (put μ_38 x1 6 8) fun μ_39 => if x5 = 0 then (some μ_39) else (bnO (f_X7_serveR g μ_39 x2) fun μ_43 => some μ_43)) else (some μ_33))
def b_X7_seizeR_93 (g : Fg) : Nat → Mem → Nat → Nat → Int32 → Int32 → Int32 → Int32 → Option (Mem)
  | 0, _, _, _, _, _, _, _ => none
  | n + 1, μ, x1, x2, x3, x4, x5, x6 => if x5 = 0 then (b_X7_seizeR_130 g μ x1 x2 x3 x4 x5) else (if x3 ≤ (μ x2 3) then (b_X7_seizeR_130 g μ x1 x2 x3 x4 x5) else (if 24 ≤ x6 then (b_X7_seizeR_130 g μ x1 x2 x3 x4 x5) else (bnO (f_X7_nextVictim g μ x1 x2) fun r_21 => csQ r_21 (bnO (f_X7_throwOutN g μ x2) fun μ_26 => b_X7_seizeR_93 g n μ_26 x1 x2 x3 x4 x5 (x6 + 1)) (fun o_23 => grd (1 ≤ o_23 ∧ o_23 < 25) (bnO (f_X7_throwOutP g μ o_23 x2) fun μ_29 => b_X7_seizeR_93 g n μ_29 x1 x2 x3 x4 x5 (x6 + 1))))))
def f_X7_seizeR (g : Fg) (μ : Mem) (q : Nat) (rs : Nat) (un : Int32) : Option (Mem) := if un ≤ (μ rs 2) then (bnO (f_X7_queueUp g μ q rs un 0) fun μ_4 => bnO (f_X7_firstIn g μ_4 (μ_4 rs 0)) fun r_5 => csQ r_5 (b_X7_seizeR_93 g fu μ_4 q rs un 0 0 0) (fun o_7 => grd (1 ≤ o_7 ∧ o_7 < 25) (if o_7 = q then (if (μ_4 rs 1) = 2 then (if un ≤ (μ_4 rs 3) then (b_X7_seizeR_93 g fu μ_4 q rs un 1 0 0) else (bnO (f_X7_unitsOfVictims g μ_4 q rs) fun r_14 => if ((μ_4 rs 3) + r_14) < un then (b_X7_seizeR_93 g fu μ_4 q rs un 1 0 0) else (b_X7_seizeR_93 g fu μ_4 q rs un 1 1 0))) else (b_X7_seizeR_93 g fu μ_4 q rs un 1 0 0)) else (b_X7_seizeR_93 g fu μ_4 q rs un 0 0 0)))) else (bnd (put μ q 6 6) fun μ_17 => some μ_17)
theorem hd_X7_seizeR : yX7_seize.cls = RX7 ∧ yX7_seize.cls ≠ "java/lang/invoke/MethodHandle" ∧ yX7_seize.cls ≠ "java/lang/invoke/VarHandle" ∧ (parseMethodDescriptor yX7_seize.desc).map (fun d => d.parameters.length) = some 3 := by decide +kernel
set_option maxHeartbeats 4000000 in
set_option maxRecDepth 100000 in
theorem c_X7_seizeR (l : Launch) {g : Geo} (hg : Good g) (μ : Mem) (sz : Nat) (q : Nat) (rs : Nat) (un : Int32) (hq : isP q) (hrs : isR g rs) {r : Mem} (hf : f_X7_seizeR g.F μ q rs un = some r) : Met l yX7_seize (ws_ yX7_seize cX7_seize 7 (Option.none : Option Jvm.ClassFile.FieldType)) (rm_ 3 72 0 0) (Pz g [.ref (g.ad 0), .ref (g.ad q), .ref (g.ad rs), .int un] (fun H9 => H9.size = sz ∧ Rg g μ H9)) (va_Qv (fun _ : Unit => True) (fun _ t => Rg g r t.heap) (Ag g sz)) 0 0 (Ag g sz) := by
  refine Met.ofW (cc := cX7_seize) (maxL := 7) (ret := (Option.none : Option Jvm.ClassFile.FieldType)) (by decide) rfl ?_
  intro p e s m args below meth c s₁ B hml hv
  obtain ⟨rfl, hT, hsz, hP⟩ := hv
  have hx := B.exec
  have hb := B.bytes
  have hr := B.returns
  have hts : ∀ w ∈ lw_all, w.before _ s = true := fun w h => atoms_spec (ws := (ws_ yX7_seize cX7_seize 7 (Option.none : Option Jvm.ClassFile.FieldType))) B.pre w (List.mem_cons_of_mem _ h)
  have hown : s.vm.findClass RX7 = some m.cls := findClass_of_methodNamed B.named
  have hlocks := B.notSynchronized
  subst hsz
  have hD := fun ν => Ag.apart hg s.heap.size ν
  have hC := hP.sh
  have hN := Ag.shr hg hP
  have hS : va_S (Ag g s.heap.size) s.heap s.heap [] := va_S.rf
  have L130 : ∀ (μ : Mem) (x1 : Nat) (x2 : Nat) (x3 : Int32) (x4 : Int32) (x5 : Int32) (H : Heap) (locs : List Loc) (ls : Array Slot), Rg g μ H → va_S (Ag g s.heap.size) s.heap H locs → lv_has ls 7 [(0, .ref (g.ad 0)), (1, .ref (g.ad x1)), (2, .ref (g.ad x2)), (3, .int x3), (4, .int x4), (5, .int x5)] → isP x1 → isR g x2 → b_X7_seizeR_130 g.F μ x1 x2 x3 x4 x5 = some r → W p l e (headSpec (ws_ yX7_seize cX7_seize 7 (Option.none : Option Jvm.ClassFile.FieldType)) (rm_ 3 72 0 0)).room s m ([.ref (g.ad 0), .ref (g.ad q), .ref (g.ad rs), .int un] : List Value).toArray below meth c H locs 0 0 (MQ below (va_Qv (fun _ : Unit => True) (fun _ t => Rg g r t.heap) (Ag g s.heap.size)) ([.ref (g.ad 0), .ref (g.ad q), .ref (g.ad rs), .int un] : List Value).toArray s 0 0 (Ag g s.heap.size)) (F0 m 130 ls []) := by
    intro μ x1 x2 x3 x4 x5 H locs ls hP hS hl hx1 hx2 hf
    unfold b_X7_seizeR_130 at hf
    refine lv_aload_n hx hb dX7_seize_130 rfl (lv_at hl 2 rfl) ?_
    refine lv_aload_n hx hb dX7_seize_131 rfl (lv_at hl 2 rfl) ?_
    refine r_get hx hb hts i_X3 hown hT hP (inR hx2) (fs := fsR) (obR hx2) rfl 6 (by decide) q965 (fun _ h9 => h9) rfl dX7_seize_132 ?_
    refine lv_aload_n hx hb dX7_seize_135 rfl (lv_at hl 0 rfl) ?_
    refine lv_aload_n hx hb dX7_seize_136 rfl (lv_at hl 2 rfl) ?_
    refine r_get hx hb hts i_X3 hown hT hP (inR hx2) (fs := fsR) (obR hx2) rfl 0 (by decide) q948 (fun _ h9 => h9) rfl dX7_seize_137 ?_
    obtain ⟨r_30, hc_31, hf⟩ := bnO_some hf
    refine va_calli (va_runV (As := [.int (μ x2 0)]) (rest := [.int (μ x2 6), .ref (g.ad x2)]) ⟨hx, hb, hml, hown, hts⟩ (c_X7_countIn l hg μ (μ x2 0)  hc_31) (cwV 1 hts (gd_V q406 q407 q408 q41 q409) rfl rfl rfl hd_X7_countIn ⟨Nat.le_of_ble_eq_true rfl, Nat.le_of_ble_eq_true rfl⟩) ⟨Pz.blind, r_recv hT hP inW (fs := (fsW g)) (obW g) rfl, fun U hU hW => ⟨rfl, Tb.warm hW hT, by rw [hU]; exact hP⟩⟩ rfl rfl hl.1 rfl (lv_room (Nat.le_of_ble_eq_true rfl)) dX7_seize_140 ⟨Nat.le_of_ble_eq_true rfl, Nat.le_of_ble_eq_true rfl⟩) hS (fun q _ h => h.elim) (fun q h => h.elim) (fun v9 u9 t9 H locs ht9 hvm9 hw9 hB9 hz9 hk9 hS => ?_)
    have hP := Rg.keep hP (fun q h => hk9 q h id)
    rw [hw9]
    refine va_mmax hx hb (by rw [hml]; exact hl.1.symm) hown (hts _ q481) (hts _ q482) (hts _ q50) (hts _ q483) (Nat.le_of_ble_eq_true rfl) (Nat.le_of_ble_eq_true rfl) (Nat.le_of_ble_eq_true rfl) (Nat.le_of_ble_eq_true rfl) dX7_seize_143 ?_
    obtain ⟨x_32, ex_32⟩ : ∃ z, (if (μ x2 6) < r_30 then r_30 else (μ x2 6)) = z := ⟨_, rfl⟩
    rw [ex_32]
    have hf := bnd_eq hf _ ex_32
    refine r_put hx hb hts i_X3 tyX3 tyX3_ok nmX3 hown hT hP hD hC hN hS (mtR hx2) (fs := fsR) (obR hx2) rfl 6 (by decide) q965 (fun _ h9 => h9) rfl (ty := .int) (x := x_32) rfl rfl rfl (fun _ => rfl) (Nat.le_of_ble_eq_true rfl) dX7_seize_146 (fun H locs hP hS => ?_)
    obtain ⟨μ_33, eμ_33⟩ : ∃ z, put μ x2 6 x_32 = z := ⟨_, rfl⟩
    rw [eμ_33] at hP
    have hf := bnd_eq hf _ eμ_33
    refine lv_iload hx hb dX7_seize_149 (lv_at hl 4 rfl) ?_
    refine lv_if_eq (tgt := 162) hx hb dX7_seize_151 (by decide) (fun c_34 => ?_) (fun c_34 => ?_)
    · have hf := (if_pos c_34).symm.trans hf
      exact W.vret hx hb hr (fun t9 ht hW => ⟨⟨(), rfl, trivial, by show Rg g r t9.heap; rw [ht, ← Option.some.inj hf]; exact hP⟩, hS.F ht⟩) hS.2.2 dX7_seize_162
    · have hf := (if_neg c_34).symm.trans hf
      refine lv_aload_n hx hb dX7_seize_154 rfl (lv_at hl 2 rfl) ?_
      refine r_get hx hb hts i_X3 hown hT hP (inR hx2) (fs := fsR) (obR hx2) rfl 3 (by decide) q955 (fun _ h9 => h9) rfl dX7_seize_155 ?_
      refine lv_iload_n hx hb dX7_seize_158 rfl (lv_at hl 3 rfl) ?_
      refine lv_icmp_ge (tgt := 163) hx hb dX7_seize_159 (by decide) (fun c_35 => ?_) (fun c_35 => ?_)
      · have hf := (if_pos c_35).symm.trans hf
        refine lv_aload_n hx hb dX7_seize_163 rfl (lv_at hl 0 rfl) ?_
        refine lv_aload_n hx hb dX7_seize_164 rfl (lv_at hl 1 rfl) ?_
        refine lv_aload_n hx hb dX7_seize_165 rfl (lv_at hl 2 rfl) ?_
        obtain ⟨μ_38, hc_37, hf⟩ := bnO_some hf
        refine va_callv (va_runV (As := [.ref (g.ad x1), .ref (g.ad x2)]) (rest := []) ⟨hx, hb, hml, hown, hts⟩ (c_X7_giveUnits l hg μ_33 H.size x1 x2 hx1 hx2 hc_37) (cwV 2 hts (gd_V q484 q486 q12 q41 q487) rfl rfl rfl hd_X7_giveUnits ⟨Nat.le_of_ble_eq_true rfl, Nat.le_of_ble_eq_true rfl⟩) ⟨Pz.blind, r_recv hT hP inW (fs := (fsW g)) (obW g) rfl, fun U hU hW => ⟨rfl, Tb.warm hW hT, by rw [hU], by rw [hU]; exact hP⟩⟩ rfl rfl hl.1 rfl (lv_room (Nat.le_of_ble_eq_true rfl)) dX7_seize_166 ⟨Nat.le_of_ble_eq_true rfl, Nat.le_of_ble_eq_true rfl⟩) hS (fun q _ h => Ag.sub rfl hS q h) (fun q h => Ag.sub rfl hS q h) (fun u9 t9 H locs ht9 hvm9 hw9 hB9 hz9 hk9 hS => ?_)
        have hP : Rg g μ_38 H := by rw [← ht9]; exact hB9
        refine lv_aload_n hx hb dX7_seize_169 rfl (lv_at hl 1 rfl) ?_
        refine lv_bipush (v := 8) hx hb dX7_seize_170 (by decide) ?_
        refine r_put hx hb hts i_X2 tyX2 tyX2_ok nmX2 hown hT hP hD hC hN hS (mtP hx1) (fs := (fsP g x1)) (obP hx1) rfl 6 (by decide) q128 (fun _ h9 => h9) rfl (ty := .int) (x := 8) rfl rfl rfl (fun _ => rfl) (Nat.le_of_ble_eq_true rfl) dX7_seize_172 (fun H locs hP hS => ?_)
        obtain ⟨μ_39, eμ_39⟩ : ∃ z, put μ_38 x1 6 8 = z := ⟨_, rfl⟩
        rw [eμ_39] at hP
        have hf := bnd_eq hf _ eμ_39
        refine lv_iload hx hb dX7_seize_175 (lv_at hl 5 rfl) ?_
        refine lv_if_eq (tgt := 185) hx hb dX7_seize_177 (by decide) (fun c_40 => ?_) (fun c_40 => ?_)
        · have hf := (if_pos c_40).symm.trans hf
          exact W.vret hx hb hr (fun t9 ht hW => ⟨⟨(), rfl, trivial, by show Rg g r t9.heap; rw [ht, ← Option.some.inj hf]; exact hP⟩, hS.F ht⟩) hS.2.2 dX7_seize_185
        · have hf := (if_neg c_40).symm.trans hf
          refine lv_aload_n hx hb dX7_seize_180 rfl (lv_at hl 0 rfl) ?_
          refine lv_aload_n hx hb dX7_seize_181 rfl (lv_at hl 2 rfl) ?_
          obtain ⟨μ_43, hc_42, hf⟩ := bnO_some hf
          refine va_callv (va_runV (As := [.ref (g.ad x2)]) (rest := []) ⟨hx, hb, hml, hown, hts⟩ (c_X7_serveR l hg μ_39 H.size x2 hx2 hc_42) (cwV 1 hts (gd_V q488 q490 q13 q41 q491) rfl rfl rfl hd_X7_serveR ⟨Nat.le_of_ble_eq_true rfl, Nat.le_of_ble_eq_true rfl⟩) ⟨Pz.blind, r_recv hT hP inW (fs := (fsW g)) (obW g) rfl, fun U hU hW => ⟨rfl, Tb.warm hW hT, by rw [hU], by rw [hU]; exact hP⟩⟩ rfl rfl hl.1 rfl (lv_room (Nat.le_of_ble_eq_true rfl)) dX7_seize_182 ⟨Nat.le_of_ble_eq_true rfl, Nat.le_of_ble_eq_true rfl⟩) hS (fun q _ h => Ag.sub rfl hS q h) (fun q h => Ag.sub rfl hS q h) (fun u9 t9 H locs ht9 hvm9 hw9 hB9 hz9 hk9 hS => ?_)
          have hP : Rg g μ_43 H := by rw [← ht9]; exact hB9
          exact W.vret hx hb hr (fun t9 ht hW => ⟨⟨(), rfl, trivial, by show Rg g r t9.heap; rw [ht, ← Option.some.inj hf]; exact hP⟩, hS.F ht⟩) hS.2.2 dX7_seize_185
      · have hf := (if_neg c_35).symm.trans hf
        exact W.vret hx hb hr (fun t9 ht hW => ⟨⟨(), rfl, trivial, by show Rg g r t9.heap; rw [ht, ← Option.some.inj hf]; exact hP⟩, hS.F ht⟩) hS.2.2 dX7_seize_162
  have L93 : ∀ (n : Nat) (μ : Mem) (x1 : Nat) (x2 : Nat) (x3 : Int32) (x4 : Int32) (x5 : Int32) (x6 : Int32) (H : Heap) (locs : List Loc) (ls : Array Slot), Rg g μ H → va_S (Ag g s.heap.size) s.heap H locs → lv_has ls 7 [(0, .ref (g.ad 0)), (1, .ref (g.ad x1)), (2, .ref (g.ad x2)), (3, .int x3), (4, .int x4), (5, .int x5), (6, .int x6)] → isP x1 → isR g x2 → b_X7_seizeR_93 g.F n μ x1 x2 x3 x4 x5 x6 = some r → W p l e (headSpec (ws_ yX7_seize cX7_seize 7 (Option.none : Option Jvm.ClassFile.FieldType)) (rm_ 3 72 0 0)).room s m ([.ref (g.ad 0), .ref (g.ad q), .ref (g.ad rs), .int un] : List Value).toArray below meth c H locs 0 0 (MQ below (va_Qv (fun _ : Unit => True) (fun _ t => Rg g r t.heap) (Ag g s.heap.size)) ([.ref (g.ad 0), .ref (g.ad q), .ref (g.ad rs), .int un] : List Value).toArray s 0 0 (Ag g s.heap.size)) (F0 m 93 ls []) := by
    intro n
    induction n with
    | zero => intro μ x1 x2 x3 x4 x5 x6 H locs ls hP hS hl hx1 hx2 hf; cases hf
    | succ n ih =>
      intro μ x1 x2 x3 x4 x5 x6 H locs ls hP hS hl hx1 hx2 hf
      rw [b_X7_seizeR_93] at hf
      refine lv_iload hx hb dX7_seize_93 (lv_at hl 5 rfl) ?_
      refine lv_if_eq (tgt := 130) hx hb dX7_seize_95 (by decide) (fun c_18 => ?_) (fun c_18 => ?_)
      · have hf := (if_pos c_18).symm.trans hf
        exact L130 μ x1 x2 x3 x4 x5 _ _ _ hP hS (lv_sub hl [0, 1, 2, 3, 4, 5] rfl) hx1 hx2 hf
      · have hf := (if_neg c_18).symm.trans hf
        refine lv_aload_n hx hb dX7_seize_98 rfl (lv_at hl 2 rfl) ?_
        refine r_get hx hb hts i_X3 hown hT hP (inR hx2) (fs := fsR) (obR hx2) rfl 3 (by decide) q955 (fun _ h9 => h9) rfl dX7_seize_99 ?_
        refine lv_iload_n hx hb dX7_seize_102 rfl (lv_at hl 3 rfl) ?_
        refine lv_icmp_ge (tgt := 130) hx hb dX7_seize_103 (by decide) (fun c_19 => ?_) (fun c_19 => ?_)
        · have hf := (if_pos c_19).symm.trans hf
          exact L130 μ x1 x2 x3 x4 x5 _ _ _ hP hS (lv_sub hl [0, 1, 2, 3, 4, 5] rfl) hx1 hx2 hf
        · have hf := (if_neg c_19).symm.trans hf
          refine lv_iload hx hb dX7_seize_106 (lv_at hl 6 rfl) ?_
          refine lv_bipush (v := 24) hx hb dX7_seize_108 (by decide) ?_
          refine lv_icmp_ge (tgt := 130) hx hb dX7_seize_110 (by decide) (fun c_20 => ?_) (fun c_20 => ?_)
          · have hf := (if_pos c_20).symm.trans hf
            exact L130 μ x1 x2 x3 x4 x5 _ _ _ hP hS (lv_sub hl [0, 1, 2, 3, 4, 5] rfl) hx1 hx2 hf
          · have hf := (if_neg c_20).symm.trans hf
            refine lv_aload_n hx hb dX7_seize_113 rfl (lv_at hl 0 rfl) ?_
            refine lv_aload_n hx hb dX7_seize_114 rfl (lv_at hl 0 rfl) ?_
            refine lv_aload_n hx hb dX7_seize_115 rfl (lv_at hl 1 rfl) ?_
            refine lv_aload_n hx hb dX7_seize_116 rfl (lv_at hl 2 rfl) ?_
            obtain ⟨r_21, hc_22, hf⟩ := bnO_some hf
            refine va_callq (va_runV (As := [.ref (g.ad x1), .ref (g.ad x2)]) (rest := [.ref (g.ad 0)]) ⟨hx, hb, hml, hown, hts⟩ (c_X7_nextVictim l hg μ x1 x2 hx1 hx2 hc_22) (cwV 2 hts (gd_V q465 q467 q10 q41 q468) rfl rfl rfl hd_X7_nextVictim ⟨Nat.le_of_ble_eq_true rfl, Nat.le_of_ble_eq_true rfl⟩) ⟨Pz.blind, r_recv hT hP inW (fs := (fsW g)) (obW g) rfl, fun U hU hW => ⟨rfl, Tb.warm hW hT, by rw [hU]; exact hP⟩⟩ rfl rfl hl.1 rfl (lv_room (Nat.le_of_ble_eq_true rfl)) dX7_seize_117 ⟨Nat.le_of_ble_eq_true rfl, Nat.le_of_ble_eq_true rfl⟩) hS (fun q _ h => h.elim) (fun q h => h.elim) (fun v9 u9 t9 H locs ht9 hvm9 hw9 hB9 hz9 hk9 hS => ?_)
            have hP := Rg.keep hP (fun q h => hk9 q h id)
            rw [hw9]
            cases r_21 with
            | none =>
              dsimp only [csQ] at hf
              refine W.eq (g2 := F0 m 120 ls [.null, .ref (g.ad 0)]) rfl ?_
              refine lv_aload_n hx hb dX7_seize_120 rfl (lv_at hl 2 rfl) ?_
              obtain ⟨μ_26, hc_25, hf⟩ := bnO_some hf
              refine va_callv (va_runV (As := [.null, .ref (g.ad x2)]) (rest := []) ⟨hx, hb, hml, hown, hts⟩ (c_X7_throwOutN l hg μ H.size x2 hx2 hc_25) (cwV 2 hts (gd_V q474 q476 q11 q41 q477) rfl rfl rfl hd_X7_throwOutN ⟨Nat.le_of_ble_eq_true rfl, Nat.le_of_ble_eq_true rfl⟩) ⟨Pz.blind, r_recv hT hP inW (fs := (fsW g)) (obW g) rfl, fun U hU hW => ⟨rfl, Tb.warm hW hT, by rw [hU], by rw [hU]; exact hP⟩⟩ rfl rfl hl.1 rfl (lv_room (Nat.le_of_ble_eq_true rfl)) dX7_seize_121 ⟨Nat.le_of_ble_eq_true rfl, Nat.le_of_ble_eq_true rfl⟩) hS (fun q _ h => Ag.sub rfl hS q h) (fun q h => Ag.sub rfl hS q h) (fun u9 t9 H locs ht9 hvm9 hw9 hB9 hz9 hk9 hS => ?_)
              have hP : Rg g μ_26 H := by rw [← ht9]; exact hB9
              refine lv_iinc (v := x6 + 1) (lv' := [(6, .int (x6 + 1)), (0, .ref (g.ad 0)), (1, .ref (g.ad x1)), (2, .ref (g.ad x2)), (3, .int x3), (4, .int x4), (5, .int x5)]) hx hb dX7_seize_124 hl (k := 6) rfl rfl (by decide) rfl (fun ls hl => ?_)
              refine lv_goto (tgt := 93) hx hb dX7_seize_127 (by decide) ?_
              exact ih μ_26 x1 x2 x3 x4 x5 (x6 + 1) _ _ _ hP hS (lv_sub hl [1, 2, 3, 4, 5, 6, 0] rfl) hx1 hx2 hf
            | some o_23 =>
              dsimp only [csQ] at hf
              obtain ⟨ho_23, hf⟩ := grd_some hf
              refine W.eq (g2 := F0 m 120 ls [.ref (g.ad o_23), .ref (g.ad 0)]) rfl ?_
              refine lv_aload_n hx hb dX7_seize_120 rfl (lv_at hl 2 rfl) ?_
              obtain ⟨μ_29, hc_28, hf⟩ := bnO_some hf
              refine va_callv (va_runV (As := [.ref (g.ad o_23), .ref (g.ad x2)]) (rest := []) ⟨hx, hb, hml, hown, hts⟩ (c_X7_throwOutP l hg μ H.size o_23 x2 ho_23 hx2 hc_28) (cwV 2 hts (gd_V q474 q476 q11 q41 q477) rfl rfl rfl hd_X7_throwOutP ⟨Nat.le_of_ble_eq_true rfl, Nat.le_of_ble_eq_true rfl⟩) ⟨Pz.blind, r_recv hT hP inW (fs := (fsW g)) (obW g) rfl, fun U hU hW => ⟨rfl, Tb.warm hW hT, by rw [hU], by rw [hU]; exact hP⟩⟩ rfl rfl hl.1 rfl (lv_room (Nat.le_of_ble_eq_true rfl)) dX7_seize_121 ⟨Nat.le_of_ble_eq_true rfl, Nat.le_of_ble_eq_true rfl⟩) hS (fun q _ h => Ag.sub rfl hS q h) (fun q h => Ag.sub rfl hS q h) (fun u9 t9 H locs ht9 hvm9 hw9 hB9 hz9 hk9 hS => ?_)
              have hP : Rg g μ_29 H := by rw [← ht9]; exact hB9
              refine lv_iinc (v := x6 + 1) (lv' := [(6, .int (x6 + 1)), (0, .ref (g.ad 0)), (1, .ref (g.ad x1)), (2, .ref (g.ad x2)), (3, .int x3), (4, .int x4), (5, .int x5)]) hx hb dX7_seize_124 hl (k := 6) rfl rfl (by decide) rfl (fun ls hl => ?_)
              refine lv_goto (tgt := 93) hx hb dX7_seize_127 (by decide) ?_
              exact ih μ_29 x1 x2 x3 x4 x5 (x6 + 1) _ _ _ hP hS (lv_sub hl [1, 2, 3, 4, 5, 6, 0] rfl) hx1 hx2 hf
  have hl := lv_entry ([.ref (g.ad 0), .ref (g.ad q), .ref (g.ad rs), .int un]) (n := 7) (Nat.le_of_ble_eq_true rfl)
  rw [lg_entry_eq]
  generalize (lg_sl ([.ref (g.ad 0), .ref (g.ad q), .ref (g.ad rs), .int un]) ++ List.replicate (7 - (lg_sl ([.ref (g.ad 0), .ref (g.ad q), .ref (g.ad rs), .int un])).length) Slot.unset).toArray = ls at hl ⊢
  have hl : lv_has ls 7 [(0, .ref (g.ad 0)), (1, .ref (g.ad q)), (2, .ref (g.ad rs)), (3, .int un)] := hl
  unfold f_X7_seizeR at hf
  refine lv_aload_n hx hb dX7_seize_0 rfl (lv_at hl 2 rfl) ?_
  refine lv_ifnonnull (tgt := 5) hx hb dX7_seize_1 (by decide) ?_
  refine lv_iload_n hx hb dX7_seize_5 rfl (lv_at hl 3 rfl) ?_
  refine lv_aload_n hx hb dX7_seize_6 rfl (lv_at hl 2 rfl) ?_
  refine r_get hx hb hts i_X3 hown hT hP (inR hrs) (fs := fsR) (obR hrs) rfl 2 (by decide) q953 (fun _ h9 => h9) rfl dX7_seize_7 ?_
  refine lv_icmp_le (tgt := 20) hx hb dX7_seize_10 (by decide) (fun c_1 => ?_) (fun c_1 => ?_)
  · have hf := (if_pos c_1).symm.trans hf
    refine lv_aload_n hx hb dX7_seize_20 rfl (lv_at hl 0 rfl) ?_
    refine lv_aload_n hx hb dX7_seize_21 rfl (lv_at hl 1 rfl) ?_
    refine lv_aload_n hx hb dX7_seize_22 rfl (lv_at hl 2 rfl) ?_
    refine lv_iload_n hx hb dX7_seize_23 rfl (lv_at hl 3 rfl) ?_
    refine lv_iconst (v := 0) hx hb dX7_seize_24 (by decide) ?_
    obtain ⟨μ_4, hc_3, hf⟩ := bnO_some hf
    refine va_callv (va_runV (As := [.ref (g.ad q), .ref (g.ad rs), .int un, .int 0]) (rest := []) ⟨hx, hb, hml, hown, hts⟩ (c_X7_queueUp l hg μ s.heap.size q rs un 0 hq hrs hc_3) (cwV 4 hts (gd_V q438 q440 q5 q41 q441) rfl rfl rfl hd_X7_queueUp ⟨Nat.le_of_ble_eq_true rfl, Nat.le_of_ble_eq_true rfl⟩) ⟨Pz.blind, r_recv hT hP inW (fs := (fsW g)) (obW g) rfl, fun U hU hW => ⟨rfl, Tb.warm hW hT, by rw [hU], by rw [hU]; exact hP⟩⟩ rfl rfl hl.1 rfl (lv_room (Nat.le_of_ble_eq_true rfl)) dX7_seize_25 ⟨Nat.le_of_ble_eq_true rfl, Nat.le_of_ble_eq_true rfl⟩) hS (fun q _ h => Ag.sub rfl hS q h) (fun q h => Ag.sub rfl hS q h) (fun u9 t9 H locs ht9 hvm9 hw9 hB9 hz9 hk9 hS => ?_)
    have hP : Rg g μ_4 H := by rw [← ht9]; exact hB9
    refine lv_aload_n hx hb dX7_seize_28 rfl (lv_at hl 0 rfl) ?_
    refine lv_aload_n hx hb dX7_seize_29 rfl (lv_at hl 2 rfl) ?_
    refine r_get hx hb hts i_X3 hown hT hP (inR hrs) (fs := fsR) (obR hrs) rfl 0 (by decide) q948 (fun _ h9 => h9) rfl dX7_seize_30 ?_
    obtain ⟨r_5, hc_6, hf⟩ := bnO_some hf
    refine va_callq (va_runV (As := [.int (μ_4 rs 0)]) (rest := []) ⟨hx, hb, hml, hown, hts⟩ (c_X7_firstIn l hg μ_4 (μ_4 rs 0)  hc_6) (cwV 1 hts (gd_V q446 q448 q7 q41 q449) rfl rfl rfl hd_X7_firstIn ⟨Nat.le_of_ble_eq_true rfl, Nat.le_of_ble_eq_true rfl⟩) ⟨Pz.blind, r_recv hT hP inW (fs := (fsW g)) (obW g) rfl, fun U hU hW => ⟨rfl, Tb.warm hW hT, by rw [hU]; exact hP⟩⟩ rfl rfl hl.1 rfl (lv_room (Nat.le_of_ble_eq_true rfl)) dX7_seize_33 ⟨Nat.le_of_ble_eq_true rfl, Nat.le_of_ble_eq_true rfl⟩) hS (fun q _ h => h.elim) (fun q h => h.elim) (fun v9 u9 t9 H locs ht9 hvm9 hw9 hB9 hz9 hk9 hS => ?_)
    have hP := Rg.keep hP (fun q h => hk9 q h id)
    rw [hw9]
    cases r_5 with
    | none =>
      dsimp only [csQ] at hf
      refine W.eq (g2 := F0 m 36 ls [.null]) rfl ?_
      refine lv_aload_n hx hb dX7_seize_36 rfl (lv_at hl 1 rfl) ?_
      refine r_acmp_neN (tgt := 44) hx hb dX7_seize_37 (by decide) ?_
      refine lv_iconst (v := 0) hx hb dX7_seize_44 (by decide) ?_
      refine lv_istore (lv' := [(4, .int 0), (0, .ref (g.ad 0)), (1, .ref (g.ad q)), (2, .ref (g.ad rs)), (3, .int un)]) hx hb dX7_seize_45 hl (by decide) rfl (fun ls hl => ?_)
      refine lv_iload hx hb dX7_seize_47 (lv_at hl 0 rfl) ?_
      refine lv_if_eq (tgt := 87) hx hb dX7_seize_49 (by decide) (fun c_8 => ?_) (fun c_8 => absurd (by decide) c_8)
      refine lv_iconst (v := 0) hx hb dX7_seize_87 (by decide) ?_
      refine lv_istore (lv' := [(5, .int 0), (4, .int 0), (0, .ref (g.ad 0)), (1, .ref (g.ad q)), (2, .ref (g.ad rs)), (3, .int un)]) hx hb dX7_seize_88 hl (by decide) rfl (fun ls hl => ?_)
      refine lv_iconst (v := 0) hx hb dX7_seize_90 (by decide) ?_
      refine lv_istore (lv' := [(6, .int 0), (5, .int 0), (4, .int 0), (0, .ref (g.ad 0)), (1, .ref (g.ad q)), (2, .ref (g.ad rs)), (3, .int un)]) hx hb dX7_seize_91 hl (by decide) rfl (fun ls hl => ?_)
      exact L93 fu μ_4 q rs un 0 0 0 _ _ _ hP hS (lv_sub hl [3, 4, 5, 6, 2, 1, 0] rfl) hq hrs hf
    | some o_7 =>
      dsimp only [csQ] at hf
      obtain ⟨ho_7, hf⟩ := grd_some hf
      refine W.eq (g2 := F0 m 36 ls [.ref (g.ad o_7)]) rfl ?_
      refine lv_aload_n hx hb dX7_seize_36 rfl (lv_at hl 1 rfl) ?_
      refine r_acmp_ne (tgt := 44) hx hb hg (inP ho_7) (inP hq) dX7_seize_37 (by decide) (fun c_9 => ?_) (fun c_9 => ?_)
      · have hf := (if_neg c_9).symm.trans hf
        refine lv_iconst (v := 0) hx hb dX7_seize_44 (by decide) ?_
        refine lv_istore (lv' := [(4, .int 0), (0, .ref (g.ad 0)), (1, .ref (g.ad q)), (2, .ref (g.ad rs)), (3, .int un)]) hx hb dX7_seize_45 hl (by decide) rfl (fun ls hl => ?_)
        refine lv_iload hx hb dX7_seize_47 (lv_at hl 0 rfl) ?_
        refine lv_if_eq (tgt := 87) hx hb dX7_seize_49 (by decide) (fun c_10 => ?_) (fun c_10 => absurd (by decide) c_10)
        refine lv_iconst (v := 0) hx hb dX7_seize_87 (by decide) ?_
        refine lv_istore (lv' := [(5, .int 0), (4, .int 0), (0, .ref (g.ad 0)), (1, .ref (g.ad q)), (2, .ref (g.ad rs)), (3, .int un)]) hx hb dX7_seize_88 hl (by decide) rfl (fun ls hl => ?_)
        refine lv_iconst (v := 0) hx hb dX7_seize_90 (by decide) ?_
        refine lv_istore (lv' := [(6, .int 0), (5, .int 0), (4, .int 0), (0, .ref (g.ad 0)), (1, .ref (g.ad q)), (2, .ref (g.ad rs)), (3, .int un)]) hx hb dX7_seize_91 hl (by decide) rfl (fun ls hl => ?_)
        exact L93 fu μ_4 q rs un 0 0 0 _ _ _ hP hS (lv_sub hl [3, 4, 5, 6, 2, 1, 0] rfl) hq hrs hf
      · have hf := (if_pos c_9).symm.trans hf
        refine lv_iconst (v := 1) hx hb dX7_seize_40 (by decide) ?_
        refine lv_goto (tgt := 45) hx hb dX7_seize_41 (by decide) ?_
        refine lv_istore (lv' := [(4, .int 1), (0, .ref (g.ad 0)), (1, .ref (g.ad q)), (2, .ref (g.ad rs)), (3, .int un)]) hx hb dX7_seize_45 hl (by decide) rfl (fun ls hl => ?_)
        refine lv_iload hx hb dX7_seize_47 (lv_at hl 0 rfl) ?_
        refine lv_if_eq (tgt := 87) hx hb dX7_seize_49 (by decide) (fun c_11 => absurd c_11 (by decide)) (fun c_11 => ?_)
        refine lv_aload_n hx hb dX7_seize_52 rfl (lv_at hl 3 rfl) ?_
        refine r_get hx hb hts i_X3 hown hT hP (inR hrs) (fs := fsR) (obR hrs) rfl 1 (by decide) q951 (fun _ h9 => h9) rfl dX7_seize_53 ?_
        refine lv_iconst (v := 2) hx hb dX7_seize_56 (by decide) ?_
        refine lv_icmp_ne (tgt := 87) hx hb dX7_seize_57 (by decide) (fun c_12 => ?_) (fun c_12 => ?_)
        · have hf := (if_neg c_12).symm.trans hf
          refine lv_iconst (v := 0) hx hb dX7_seize_87 (by decide) ?_
          refine lv_istore (lv' := [(5, .int 0), (4, .int 1), (0, .ref (g.ad 0)), (1, .ref (g.ad q)), (2, .ref (g.ad rs)), (3, .int un)]) hx hb dX7_seize_88 hl (by decide) rfl (fun ls hl => ?_)
          refine lv_iconst (v := 0) hx hb dX7_seize_90 (by decide) ?_
          refine lv_istore (lv' := [(6, .int 0), (5, .int 0), (4, .int 1), (0, .ref (g.ad 0)), (1, .ref (g.ad q)), (2, .ref (g.ad rs)), (3, .int un)]) hx hb dX7_seize_91 hl (by decide) rfl (fun ls hl => ?_)
          exact L93 fu μ_4 q rs un 1 0 0 _ _ _ hP hS (lv_sub hl [3, 4, 5, 6, 2, 1, 0] rfl) hq hrs hf
        · have hf := (if_pos c_12).symm.trans hf
          refine lv_aload_n hx hb dX7_seize_60 rfl (lv_at hl 3 rfl) ?_
          refine r_get hx hb hts i_X3 hown hT hP (inR hrs) (fs := fsR) (obR hrs) rfl 3 (by decide) q955 (fun _ h9 => h9) rfl dX7_seize_61 ?_
          refine lv_iload_n hx hb dX7_seize_64 rfl (lv_at hl 4 rfl) ?_
          refine lv_icmp_ge (tgt := 87) hx hb dX7_seize_65 (by decide) (fun c_13 => ?_) (fun c_13 => ?_)
          · have hf := (if_pos c_13).symm.trans hf
            refine lv_iconst (v := 0) hx hb dX7_seize_87 (by decide) ?_
            refine lv_istore (lv' := [(5, .int 0), (4, .int 1), (0, .ref (g.ad 0)), (1, .ref (g.ad q)), (2, .ref (g.ad rs)), (3, .int un)]) hx hb dX7_seize_88 hl (by decide) rfl (fun ls hl => ?_)
            refine lv_iconst (v := 0) hx hb dX7_seize_90 (by decide) ?_
            refine lv_istore (lv' := [(6, .int 0), (5, .int 0), (4, .int 1), (0, .ref (g.ad 0)), (1, .ref (g.ad q)), (2, .ref (g.ad rs)), (3, .int un)]) hx hb dX7_seize_91 hl (by decide) rfl (fun ls hl => ?_)
            exact L93 fu μ_4 q rs un 1 0 0 _ _ _ hP hS (lv_sub hl [3, 4, 5, 6, 2, 1, 0] rfl) hq hrs hf
          · have hf := (if_neg c_13).symm.trans hf
            refine lv_aload_n hx hb dX7_seize_68 rfl (lv_at hl 3 rfl) ?_
            refine r_get hx hb hts i_X3 hown hT hP (inR hrs) (fs := fsR) (obR hrs) rfl 3 (by decide) q955 (fun _ h9 => h9) rfl dX7_seize_69 ?_
            refine lv_aload_n hx hb dX7_seize_72 rfl (lv_at hl 1 rfl) ?_
            refine lv_aload_n hx hb dX7_seize_73 rfl (lv_at hl 2 rfl) ?_
            refine lv_aload_n hx hb dX7_seize_74 rfl (lv_at hl 3 rfl) ?_
            obtain ⟨r_14, hc_15, hf⟩ := bnO_some hf
            refine va_calli (va_runV (As := [.ref (g.ad q), .ref (g.ad rs)]) (rest := [.int (μ_4 rs 3)]) ⟨hx, hb, hml, hown, hts⟩ (c_X7_unitsOfVictims l hg μ_4 q rs hq hrs hc_15) (cwV 2 hts (gd_V q454 q456 q8 q41 q457) rfl rfl rfl hd_X7_unitsOfVictims ⟨Nat.le_of_ble_eq_true rfl, Nat.le_of_ble_eq_true rfl⟩) ⟨Pz.blind, r_recv hT hP inW (fs := (fsW g)) (obW g) rfl, fun U hU hW => ⟨rfl, Tb.warm hW hT, by rw [hU]; exact hP⟩⟩ rfl rfl hl.1 rfl (lv_room (Nat.le_of_ble_eq_true rfl)) dX7_seize_75 ⟨Nat.le_of_ble_eq_true rfl, Nat.le_of_ble_eq_true rfl⟩) hS (fun q _ h => h.elim) (fun q h => h.elim) (fun v9 u9 t9 H locs ht9 hvm9 hw9 hB9 hz9 hk9 hS => ?_)
            have hP := Rg.keep hP (fun q h => hk9 q h id)
            rw [hw9]
            refine lv_iadd hx hb dX7_seize_78 ?_
            refine lv_iload_n hx hb dX7_seize_79 rfl (lv_at hl 4 rfl) ?_
            refine lv_icmp_lt (tgt := 87) hx hb dX7_seize_80 (by decide) (fun c_16 => ?_) (fun c_16 => ?_)
            · have hf := (if_pos c_16).symm.trans hf
              refine lv_iconst (v := 0) hx hb dX7_seize_87 (by decide) ?_
              refine lv_istore (lv' := [(5, .int 0), (4, .int 1), (0, .ref (g.ad 0)), (1, .ref (g.ad q)), (2, .ref (g.ad rs)), (3, .int un)]) hx hb dX7_seize_88 hl (by decide) rfl (fun ls hl => ?_)
              refine lv_iconst (v := 0) hx hb dX7_seize_90 (by decide) ?_
              refine lv_istore (lv' := [(6, .int 0), (5, .int 0), (4, .int 1), (0, .ref (g.ad 0)), (1, .ref (g.ad q)), (2, .ref (g.ad rs)), (3, .int un)]) hx hb dX7_seize_91 hl (by decide) rfl (fun ls hl => ?_)
              exact L93 fu μ_4 q rs un 1 0 0 _ _ _ hP hS (lv_sub hl [3, 4, 5, 6, 2, 1, 0] rfl) hq hrs hf
            · have hf := (if_neg c_16).symm.trans hf
              refine lv_iconst (v := 1) hx hb dX7_seize_83 (by decide) ?_
              refine lv_goto (tgt := 88) hx hb dX7_seize_84 (by decide) ?_
              refine lv_istore (lv' := [(5, .int 1), (4, .int 1), (0, .ref (g.ad 0)), (1, .ref (g.ad q)), (2, .ref (g.ad rs)), (3, .int un)]) hx hb dX7_seize_88 hl (by decide) rfl (fun ls hl => ?_)
              refine lv_iconst (v := 0) hx hb dX7_seize_90 (by decide) ?_
              refine lv_istore (lv' := [(6, .int 0), (5, .int 1), (4, .int 1), (0, .ref (g.ad 0)), (1, .ref (g.ad q)), (2, .ref (g.ad rs)), (3, .int un)]) hx hb dX7_seize_91 hl (by decide) rfl (fun ls hl => ?_)
              exact L93 fu μ_4 q rs un 1 1 0 _ _ _ hP hS (lv_sub hl [3, 4, 5, 6, 2, 1, 0] rfl) hq hrs hf
  · have hf := (if_neg c_1).symm.trans hf
    refine lv_aload_n hx hb dX7_seize_13 rfl (lv_at hl 1 rfl) ?_
    refine lv_bipush (v := 6) hx hb dX7_seize_14 (by decide) ?_
    refine r_put hx hb hts i_X2 tyX2 tyX2_ok nmX2 hown hT hP hD hC hN hS (mtP hq) (fs := (fsP g q)) (obP hq) rfl 6 (by decide) q128 (fun _ h9 => h9) rfl (ty := .int) (x := 6) rfl rfl rfl (fun _ => rfl) (Nat.le_of_ble_eq_true rfl) dX7_seize_16 (fun H locs hP hS => ?_)
    obtain ⟨μ_17, eμ_17⟩ : ∃ z, put μ q 6 6 = z := ⟨_, rfl⟩
    rw [eμ_17] at hP
    have hf := bnd_eq hf _ eμ_17
    exact W.vret hx hb hr (fun t9 ht hW => ⟨⟨(), rfl, trivial, by show Rg g r t9.heap; rw [ht, ← Option.some.inj hf]; exact hP⟩, hS.F ht⟩) hS.2.2 dX7_seize_19
/-- "Sandglass$World" "seize" "(LSandglass$Proc;LSandglass$Resource;I)V" -/
def f_X7_seizeN (g : Fg) (μ : Mem) (q : Nat) (un : Int32) : Option (Mem) := some μ
theorem hd_X7_seizeN : yX7_seize.cls = RX7 ∧ yX7_seize.cls ≠ "java/lang/invoke/MethodHandle" ∧ yX7_seize.cls ≠ "java/lang/invoke/VarHandle" ∧ (parseMethodDescriptor yX7_seize.desc).map (fun d => d.parameters.length) = some 3 := by decide +kernel
set_option maxHeartbeats 4000000 in
set_option maxRecDepth 100000 in
theorem c_X7_seizeN (l : Launch) {g : Geo} (hg : Good g) (μ : Mem) (sz : Nat) (q : Nat) (un : Int32) (hq : isP q) {r : Mem} (hf : f_X7_seizeN g.F μ q un = some r) : Met l yX7_seize (ws_ yX7_seize cX7_seize 7 (Option.none : Option Jvm.ClassFile.FieldType)) (rm_ 0 0 0 0) (Pz g [.ref (g.ad 0), .ref (g.ad q), .null, .int un] (fun H9 => H9.size = sz ∧ Rg g μ H9)) (va_Qv (fun _ : Unit => True) (fun _ t => Rg g r t.heap) (Ag g sz)) 0 0 (Ag g sz) := by
  refine Met.ofW (cc := cX7_seize) (maxL := 7) (ret := (Option.none : Option Jvm.ClassFile.FieldType)) (by decide) rfl ?_
  intro p e s m args below meth c s₁ B hml hv
  obtain ⟨rfl, hT, hsz, hP⟩ := hv
  have hx := B.exec
  have hb := B.bytes
  have hr := B.returns
  have hts : ∀ w ∈ lw_all, w.before _ s = true := fun w h => atoms_spec (ws := (ws_ yX7_seize cX7_seize 7 (Option.none : Option Jvm.ClassFile.FieldType))) B.pre w (List.mem_cons_of_mem _ h)
  have hown : s.vm.findClass RX7 = some m.cls := findClass_of_methodNamed B.named
  have hlocks := B.notSynchronized
  subst hsz
  have hD := fun ν => Ag.apart hg s.heap.size ν
  have hC := hP.sh
  have hN := Ag.shr hg hP
  have hS : va_S (Ag g s.heap.size) s.heap s.heap [] := va_S.rf
  have hl := lv_entry ([.ref (g.ad 0), .ref (g.ad q), .null, .int un]) (n := 7) (Nat.le_of_ble_eq_true rfl)
  rw [lg_entry_eq]
  generalize (lg_sl ([.ref (g.ad 0), .ref (g.ad q), .null, .int un]) ++ List.replicate (7 - (lg_sl ([.ref (g.ad 0), .ref (g.ad q), .null, .int un])).length) Slot.unset).toArray = ls at hl ⊢
  have hl : lv_has ls 7 [(0, .ref (g.ad 0)), (1, .ref (g.ad q)), (2, .null), (3, .int un)] := hl
  unfold f_X7_seizeN at hf
  refine lv_aload_nN hx hb dX7_seize_0 rfl (lv_at hl 2 rfl) ?_
  refine lv_ifnonnullN hx hb dX7_seize_1 ?_
  exact W.vret hx hb hr (fun t9 ht hW => ⟨⟨(), rfl, trivial, by show Rg g r t9.heap; rw [ht, ← Option.some.inj hf]; exact hP⟩, hS.F ht⟩) hS.2.2 dX7_seize_4
