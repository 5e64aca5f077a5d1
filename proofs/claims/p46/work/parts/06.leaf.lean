/-- "Sandglass" "isIn" "(III)Z" -/
def f_X8_isIn (g : Fg) (μ : Mem) (x : Int32) (lo : Int32) (hi : Int32) : Option (Int32) := if x < lo then (some 0) else (if hi < x then (some 0) else (some 1))
theorem hd_X8_isIn : yX8_isIn.cls = RX8 ∧ yX8_isIn.cls ≠ "java/lang/invoke/MethodHandle" ∧ yX8_isIn.cls ≠ "java/lang/invoke/VarHandle" ∧ (parseMethodDescriptor yX8_isIn.desc).map (fun d => d.parameters.length) = some 3 := by decide +kernel
set_option maxHeartbeats 4000000 in
set_option maxRecDepth 100000 in
theorem c_X8_isIn (l : Launch) {g : Geo} (hg : Good g) (μ : Mem) (x : Int32) (lo : Int32) (hi : Int32) {r : Int32} (hf : f_X8_isIn g.F μ x lo hi = some r) : Met l yX8_isIn (ws_ yX8_isIn cX8_isIn 3 (some .boolean)) (rm_ 0 0 0 0) (Pz g [.int x, .int lo, .int hi] (Rg g μ)) (va_Qi (fun (v : Int32) (_ : Unit) => v = r) (fun _ _ => True) (fun _ => False)) 0 0 (fun _ => False) := by
  refine Met.ofW (cc := cX8_isIn) (maxL := 3) (ret := (some .boolean)) (by decide) rfl ?_
  intro p e s m args below meth c s₁ B hml hv
  obtain ⟨rfl, hT, hP⟩ := hv
  have hx := B.exec
  have hb := B.bytes
  have hr := B.returns
  have hts : ∀ w ∈ lw_all, w.before _ s = true := fun w h => atoms_spec (ws := (ws_ yX8_isIn cX8_isIn 3 (some .boolean))) B.pre w (List.mem_cons_of_mem _ h)
  have hown : s.vm.findClass RX8 = some m.cls := findClass_of_methodNamed B.named
  have hlocks := B.notSynchronized
  have hS : va_S (fun _ => False) s.heap s.heap [] := va_S.rf
  have hl := lv_entry ([.int x, .int lo, .int hi]) (n := 3) (Nat.le_of_ble_eq_true rfl)
  rw [lg_entry_eq]
  generalize (lg_sl ([.int x, .int lo, .int hi]) ++ List.replicate (3 - (lg_sl ([.int x, .int lo, .int hi])).length) Slot.unset).toArray = ls at hl ⊢
  have hl : lv_has ls 3 [(0, .int x), (1, .int lo), (2, .int hi)] := hl
  unfold f_X8_isIn at hf
  refine lv_iload_n hx hb dX8_isIn_0 rfl (lv_at hl 0 rfl) ?_
  refine lv_iload_n hx hb dX8_isIn_1 rfl (lv_at hl 1 rfl) ?_
  refine lv_icmp_lt (tgt := 14) hx hb dX8_isIn_2 (by decide) (fun c_1 => ?_) (fun c_1 => ?_)
  · have hf := (if_pos c_1).symm.trans hf
    refine lv_iconst (v := 0) hx hb dX8_isIn_14 (by decide) ?_
    exact W.zret (v := 0) (ty := .boolean) hx hb hr (by decide) (fun t9 ht hW => ⟨⟨0, (), rfl, Option.some.inj hf, trivial⟩, hS.F ht⟩) hS.2.2 dX8_isIn_15
  · have hf := (if_neg c_1).symm.trans hf
    refine lv_iload_n hx hb dX8_isIn_5 rfl (lv_at hl 0 rfl) ?_
    refine lv_iload_n hx hb dX8_isIn_6 rfl (lv_at hl 2 rfl) ?_
    refine lv_icmp_gt (tgt := 14) hx hb dX8_isIn_7 (by decide) (fun c_2 => ?_) (fun c_2 => ?_)
    · have hf := (if_pos c_2).symm.trans hf
      refine lv_iconst (v := 0) hx hb dX8_isIn_14 (by decide) ?_
      exact W.zret (v := 0) (ty := .boolean) hx hb hr (by decide) (fun t9 ht hW => ⟨⟨0, (), rfl, Option.some.inj hf, trivial⟩, hS.F ht⟩) hS.2.2 dX8_isIn_15
    · have hf := (if_neg c_2).symm.trans hf
      refine lv_iconst (v := 1) hx hb dX8_isIn_10 (by decide) ?_
      refine lv_goto (tgt := 15) hx hb dX8_isIn_11 (by decide) ?_
      exact W.zret (v := 1) (ty := .boolean) hx hb hr (by decide) (fun t9 ht hW => ⟨⟨1, (), rfl, Option.some.inj hf, trivial⟩, hS.F ht⟩) hS.2.2 dX8_isIn_15
/-- "Sandglass" "at" "([II)I" -/
def f_X8_at (g : Fg) (μ : Mem) (row : Nat) (i : Int32) : Option (Int32) := if i < 0 then (some 0) else (if (nI (alen row)) ≤ i then (some 0) else (grd (¬ (i < 0 ∨ alen row ≤ i.toNatClampNeg)) (some (μ row i.toNatClampNeg))))
theorem hd_X8_at : yX8_at.cls = RX8 ∧ yX8_at.cls ≠ "java/lang/invoke/MethodHandle" ∧ yX8_at.cls ≠ "java/lang/invoke/VarHandle" ∧ (parseMethodDescriptor yX8_at.desc).map (fun d => d.parameters.length) = some 2 := by decide +kernel
set_option maxHeartbeats 4000000 in
set_option maxRecDepth 100000 in
theorem c_X8_at (l : Launch) {g : Geo} (hg : Good g) (μ : Mem) (row : Nat) (i : Int32) (hrow : isA row) {r : Int32} (hf : f_X8_at g.F μ row i = some r) : Met l yX8_at (ws_ yX8_at cX8_at 2 (some .int)) (rm_ 0 0 0 0) (Pz g [.ref (g.ad row), .int i] (Rg g μ)) (va_Qi (fun (v : Int32) (_ : Unit) => v = r) (fun _ _ => True) (fun _ => False)) 0 0 (fun _ => False) := by
  refine Met.ofW (cc := cX8_at) (maxL := 2) (ret := (some .int)) (by decide) rfl ?_
  intro p e s m args below meth c s₁ B hml hv
  obtain ⟨rfl, hT, hP⟩ := hv
  have hx := B.exec
  have hb := B.bytes
  have hr := B.returns
  have hts : ∀ w ∈ lw_all, w.before _ s = true := fun w h => atoms_spec (ws := (ws_ yX8_at cX8_at 2 (some .int))) B.pre w (List.mem_cons_of_mem _ h)
  have hown : s.vm.findClass RX8 = some m.cls := findClass_of_methodNamed B.named
  have hlocks := B.notSynchronized
  have hS : va_S (fun _ => False) s.heap s.heap [] := va_S.rf
  have hl := lv_entry ([.ref (g.ad row), .int i]) (n := 2) (Nat.le_of_ble_eq_true rfl)
  rw [lg_entry_eq]
  generalize (lg_sl ([.ref (g.ad row), .int i]) ++ List.replicate (2 - (lg_sl ([.ref (g.ad row), .int i])).length) Slot.unset).toArray = ls at hl ⊢
  have hl : lv_has ls 2 [(0, .ref (g.ad row)), (1, .int i)] := hl
  unfold f_X8_at at hf
  refine lv_iload_n hx hb dX8_at_0 rfl (lv_at hl 1 rfl) ?_
  refine lv_if_lt (tgt := 16) hx hb dX8_at_1 (by decide) (fun c_1 => ?_) (fun c_1 => ?_)
  · have hf := (if_pos c_1).symm.trans hf
    refine lv_iconst (v := 0) hx hb dX8_at_16 (by decide) ?_
    exact W.iret (v := 0) hx hb hr (fun t9 ht hW => ⟨⟨0, (), rfl, Option.some.inj hf, trivial⟩, hS.F ht⟩) hS.2.2 dX8_at_17
  · have hf := (if_neg c_1).symm.trans hf
    refine lv_iload_n hx hb dX8_at_4 rfl (lv_at hl 1 rfl) ?_
    refine lv_aload_n hx hb dX8_at_5 rfl (lv_at hl 0 rfl) ?_
    refine r_alenA hx hb hT hP hrow dX8_at_6 ?_
    refine lv_icmp_ge (tgt := 16) hx hb dX8_at_7 (by decide) (fun c_2 => ?_) (fun c_2 => ?_)
    · have hf := (if_pos c_2).symm.trans hf
      refine lv_iconst (v := 0) hx hb dX8_at_16 (by decide) ?_
      exact W.iret (v := 0) hx hb hr (fun t9 ht hW => ⟨⟨0, (), rfl, Option.some.inj hf, trivial⟩, hS.F ht⟩) hS.2.2 dX8_at_17
    · have hf := (if_neg c_2).symm.trans hf
      refine lv_aload_n hx hb dX8_at_10 rfl (lv_at hl 0 rfl) ?_
      refine lv_iload_n hx hb dX8_at_11 rfl (lv_at hl 1 rfl) ?_
      obtain ⟨hi_3, hf⟩ := grd_some hf
      refine r_iald hx hb hT hP hrow hi_3 dX8_at_12 ?_
      refine lv_goto (tgt := 17) hx hb dX8_at_13 (by decide) ?_
      exact W.iret (v := μ row i.toNatClampNeg) hx hb hr (fun t9 ht hW => ⟨⟨μ row i.toNatClampNeg, (), rfl, Option.some.inj hf, trivial⟩, hS.F ht⟩) hS.2.2 dX8_at_17
/-- "Sandglass" "set" "([III)V" -/
def f_X8_set (g : Fg) (μ : Mem) (row : Nat) (i : Int32) (x : Int32) : Option (Mem) := if i < 0 then (some μ) else (if (nI (alen row)) ≤ i then (some μ) else (grd (¬ (i < 0 ∨ alen row ≤ i.toNatClampNeg)) (bnd (put μ row i.toNatClampNeg x) fun μ_4 => some μ_4)))
theorem hd_X8_set : yX8_set.cls = RX8 ∧ yX8_set.cls ≠ "java/lang/invoke/MethodHandle" ∧ yX8_set.cls ≠ "java/lang/invoke/VarHandle" ∧ (parseMethodDescriptor yX8_set.desc).map (fun d => d.parameters.length) = some 3 := by decide +kernel
set_option maxHeartbeats 4000000 in
set_option maxRecDepth 100000 in
theorem c_X8_set (l : Launch) {g : Geo} (hg : Good g) (μ : Mem) (sz : Nat) (row : Nat) (i : Int32) (x : Int32) (hrow : isA row) {r : Mem} (hf : f_X8_set g.F μ row i x = some r) : Met l yX8_set (ws_ yX8_set cX8_set 3 (Option.none : Option Jvm.ClassFile.FieldType)) (rm_ 0 0 0 0) (Pz g [.ref (g.ad row), .int i, .int x] (fun H9 => H9.size = sz ∧ Rg g μ H9)) (va_Qv (fun _ : Unit => True) (fun _ t => Rg g r t.heap) (Ag g sz)) 0 0 (Ag g sz) := by
  refine Met.ofW (cc := cX8_set) (maxL := 3) (ret := (Option.none : Option Jvm.ClassFile.FieldType)) (by decide) rfl ?_
  intro p e s m args below meth c s₁ B hml hv
  obtain ⟨rfl, hT, hsz, hP⟩ := hv
  have hx := B.exec
  have hb := B.bytes
  have hr := B.returns
  have hts : ∀ w ∈ lw_all, w.before _ s = true := fun w h => atoms_spec (ws := (ws_ yX8_set cX8_set 3 (Option.none : Option Jvm.ClassFile.FieldType))) B.pre w (List.mem_cons_of_mem _ h)
  have hown : s.vm.findClass RX8 = some m.cls := findClass_of_methodNamed B.named
  have hlocks := B.notSynchronized
  subst hsz
  have hD := fun ν => Ag.apart hg s.heap.size ν
  have hC := hP.sh
  have hN := Ag.shr hg hP
  have hS : va_S (Ag g s.heap.size) s.heap s.heap [] := va_S.rf
  have hl := lv_entry ([.ref (g.ad row), .int i, .int x]) (n := 3) (Nat.le_of_ble_eq_true rfl)
  rw [lg_entry_eq]
  generalize (lg_sl ([.ref (g.ad row), .int i, .int x]) ++ List.replicate (3 - (lg_sl ([.ref (g.ad row), .int i, .int x])).length) Slot.unset).toArray = ls at hl ⊢
  have hl : lv_has ls 3 [(0, .ref (g.ad row)), (1, .int i), (2, .int x)] := hl
  unfold f_X8_set at hf
  refine lv_iload_n hx hb dX8_set_0 rfl (lv_at hl 1 rfl) ?_
  refine lv_if_lt (tgt := 14) hx hb dX8_set_1 (by decide) (fun c_1 => ?_) (fun c_1 => ?_)
  · have hf := (if_pos c_1).symm.trans hf
    exact W.vret hx hb hr (fun t9 ht hW => ⟨⟨(), rfl, trivial, by show Rg g r t9.heap; rw [ht, ← Option.some.inj hf]; exact hP⟩, hS.F ht⟩) hS.2.2 dX8_set_14
  · have hf := (if_neg c_1).symm.trans hf
    refine lv_iload_n hx hb dX8_set_4 rfl (lv_at hl 1 rfl) ?_
    refine lv_aload_n hx hb dX8_set_5 rfl (lv_at hl 0 rfl) ?_
    refine r_alenA hx hb hT hP hrow dX8_set_6 ?_
    refine lv_icmp_ge (tgt := 14) hx hb dX8_set_7 (by decide) (fun c_2 => ?_) (fun c_2 => ?_)
    · have hf := (if_pos c_2).symm.trans hf
      exact W.vret hx hb hr (fun t9 ht hW => ⟨⟨(), rfl, trivial, by show Rg g r t9.heap; rw [ht, ← Option.some.inj hf]; exact hP⟩, hS.F ht⟩) hS.2.2 dX8_set_14
    · have hf := (if_neg c_2).symm.trans hf
      refine lv_aload_n hx hb dX8_set_10 rfl (lv_at hl 0 rfl) ?_
      refine lv_iload_n hx hb dX8_set_11 rfl (lv_at hl 1 rfl) ?_
      refine lv_iload_n hx hb dX8_set_12 rfl (lv_at hl 2 rfl) ?_
      obtain ⟨hi_3, hf⟩ := grd_some hf
      refine r_iast hx hb hT hP hD hC hN hS hrow hi_3 dX8_set_13 (fun H locs hP hS => ?_)
      obtain ⟨μ_4, eμ_4⟩ : ∃ z, put μ row i.toNatClampNeg x = z := ⟨_, rfl⟩
      rw [eμ_4] at hP
      have hf := bnd_eq hf _ eμ_4
      exact W.vret hx hb hr (fun t9 ht hW => ⟨⟨(), rfl, trivial, by show Rg g r t9.heap; rw [ht, ← Option.some.inj hf]; exact hP⟩, hS.F ht⟩) hS.2.2 dX8_set_14
/-- "Sandglass$Proc" "isOver" "()Z" -/
def f_X2_isOver (g : Fg) (μ : Mem) (t : Nat) : Option (Int32) := if (μ t 6) = 5 then (some 1) else (if (μ t 6) = 6 then (some 1) else (if (μ t 6) = 7 then (some 1) else (some 0)))
theorem hd_X2_isOver : yX2_isOver.cls = RX2 ∧ yX2_isOver.cls ≠ "java/lang/invoke/MethodHandle" ∧ yX2_isOver.cls ≠ "java/lang/invoke/VarHandle" ∧ (parseMethodDescriptor yX2_isOver.desc).map (fun d => d.parameters.length) = some 0 := by decide +kernel
set_option maxHeartbeats 4000000 in
set_option maxRecDepth 100000 in
theorem c_X2_isOver (l : Launch) {g : Geo} (hg : Good g) (μ : Mem) (t : Nat) (ht : isP t) {r : Int32} (hf : f_X2_isOver g.F μ t = some r) : Met l yX2_isOver (ws_ yX2_isOver cX2_isOver 1 (some .boolean)) (rm_ 0 0 0 0) (Pz g [.ref (g.ad t)] (Rg g μ)) (va_Qi (fun (v : Int32) (_ : Unit) => v = r) (fun _ _ => True) (fun _ => False)) 0 0 (fun _ => False) := by
  refine Met.ofW (cc := cX2_isOver) (maxL := 1) (ret := (some .boolean)) (by decide) rfl ?_
  intro p e s m args below meth c s₁ B hml hv
  obtain ⟨rfl, hT, hP⟩ := hv
  have hx := B.exec
  have hb := B.bytes
  have hr := B.returns
  have hts : ∀ w ∈ lw_all, w.before _ s = true := fun w h => atoms_spec (ws := (ws_ yX2_isOver cX2_isOver 1 (some .boolean))) B.pre w (List.mem_cons_of_mem _ h)
  have hown : s.vm.findClass RX2 = some m.cls := findClass_of_methodNamed B.named
  have hlocks := B.notSynchronized
  have hS : va_S (fun _ => False) s.heap s.heap [] := va_S.rf
  have hl := lv_entry ([.ref (g.ad t)]) (n := 1) (Nat.le_of_ble_eq_true rfl)
  rw [lg_entry_eq]
  generalize (lg_sl ([.ref (g.ad t)]) ++ List.replicate (1 - (lg_sl ([.ref (g.ad t)])).length) Slot.unset).toArray = ls at hl ⊢
  have hl : lv_has ls 1 [(0, .ref (g.ad t))] := hl
  unfold f_X2_isOver at hf
  refine lv_aload_n hx hb dX2_isOver_0 rfl (lv_at hl 0 rfl) ?_
  refine r_get hx hb hts i_X2 hown hT hP (inP ht) (fs := (fsP g t)) (obP ht) rfl 6 (by decide) q127 (fun _ h9 => h9) rfl dX2_isOver_1 ?_
  refine lv_iconst (v := 5) hx hb dX2_isOver_4 (by decide) ?_
  refine lv_icmp_eq (tgt := 26) hx hb dX2_isOver_5 (by decide) (fun c_1 => ?_) (fun c_1 => ?_)
  · have hf := (if_pos c_1).symm.trans hf
    refine lv_iconst (v := 1) hx hb dX2_isOver_26 (by decide) ?_
    refine lv_goto (tgt := 31) hx hb dX2_isOver_27 (by decide) ?_
    exact W.zret (v := 1) (ty := .boolean) hx hb hr (by decide) (fun t9 ht hW => ⟨⟨1, (), rfl, Option.some.inj hf, trivial⟩, hS.F ht⟩) hS.2.2 dX2_isOver_31
  · have hf := (if_neg c_1).symm.trans hf
    refine lv_aload_n hx hb dX2_isOver_8 rfl (lv_at hl 0 rfl) ?_
    refine r_get hx hb hts i_X2 hown hT hP (inP ht) (fs := (fsP g t)) (obP ht) rfl 6 (by decide) q127 (fun _ h9 => h9) rfl dX2_isOver_9 ?_
    refine lv_bipush (v := 6) hx hb dX2_isOver_12 (by decide) ?_
    refine lv_icmp_eq (tgt := 26) hx hb dX2_isOver_14 (by decide) (fun c_2 => ?_) (fun c_2 => ?_)
    · have hf := (if_pos c_2).symm.trans hf
      refine lv_iconst (v := 1) hx hb dX2_isOver_26 (by decide) ?_
      refine lv_goto (tgt := 31) hx hb dX2_isOver_27 (by decide) ?_
      exact W.zret (v := 1) (ty := .boolean) hx hb hr (by decide) (fun t9 ht hW => ⟨⟨1, (), rfl, Option.some.inj hf, trivial⟩, hS.F ht⟩) hS.2.2 dX2_isOver_31
    · have hf := (if_neg c_2).symm.trans hf
      refine lv_aload_n hx hb dX2_isOver_17 rfl (lv_at hl 0 rfl) ?_
      refine r_get hx hb hts i_X2 hown hT hP (inP ht) (fs := (fsP g t)) (obP ht) rfl 6 (by decide) q127 (fun _ h9 => h9) rfl dX2_isOver_18 ?_
      refine lv_bipush (v := 7) hx hb dX2_isOver_21 (by decide) ?_
      refine lv_icmp_ne (tgt := 30) hx hb dX2_isOver_23 (by decide) (fun c_3 => ?_) (fun c_3 => ?_)
      · have hf := (if_neg c_3).symm.trans hf
        refine lv_iconst (v := 0) hx hb dX2_isOver_30 (by decide) ?_
        exact W.zret (v := 0) (ty := .boolean) hx hb hr (by decide) (fun t9 ht hW => ⟨⟨0, (), rfl, Option.some.inj hf, trivial⟩, hS.F ht⟩) hS.2.2 dX2_isOver_31
      · have hf := (if_pos c_3).symm.trans hf
        refine lv_iconst (v := 1) hx hb dX2_isOver_26 (by decide) ?_
        refine lv_goto (tgt := 31) hx hb dX2_isOver_27 (by decide) ?_
        exact W.zret (v := 1) (ty := .boolean) hx hb hr (by decide) (fun t9 ht hW => ⟨⟨1, (), rfl, Option.some.inj hf, trivial⟩, hS.F ht⟩) hS.2.2 dX2_isOver_31
/-- "Sandglass$Proc" "goesBefore" "(LSandglass$Proc;)Z" -/
def f_X2_goesBefore (g : Fg) (μ : Mem) (t : Nat) (o : Nat) : Option (Int32) := if (μ t 7) < (μ o 7) then (some 1) else (if (μ t 7) = (μ o 7) then (if (μ o 8) ≤ (μ t 8) then (some 0) else (some 1)) else (some 0))
theorem hd_X2_goesBefore : yX2_goesBefore.cls = RX2 ∧ yX2_goesBefore.cls ≠ "java/lang/invoke/MethodHandle" ∧ yX2_goesBefore.cls ≠ "java/lang/invoke/VarHandle" ∧ (parseMethodDescriptor yX2_goesBefore.desc).map (fun d => d.parameters.length) = some 1 := by decide +kernel
set_option maxHeartbeats 4000000 in
set_option maxRecDepth 100000 in
theorem c_X2_goesBefore (l : Launch) {g : Geo} (hg : Good g) (μ : Mem) (t : Nat) (o : Nat) (ht : isP t) (ho : isP o) {r : Int32} (hf : f_X2_goesBefore g.F μ t o = some r) : Met l yX2_goesBefore (ws_ yX2_goesBefore cX2_goesBefore 2 (some .boolean)) (rm_ 0 0 0 0) (Pz g [.ref (g.ad t), .ref (g.ad o)] (Rg g μ)) (va_Qi (fun (v : Int32) (_ : Unit) => v = r) (fun _ _ => True) (fun _ => False)) 0 0 (fun _ => False) := by
  refine Met.ofW (cc := cX2_goesBefore) (maxL := 2) (ret := (some .boolean)) (by decide) rfl ?_
  intro p e s m args below meth c s₁ B hml hv
  obtain ⟨rfl, hT, hP⟩ := hv
  have hx := B.exec
  have hb := B.bytes
  have hr := B.returns
  have hts : ∀ w ∈ lw_all, w.before _ s = true := fun w h => atoms_spec (ws := (ws_ yX2_goesBefore cX2_goesBefore 2 (some .boolean))) B.pre w (List.mem_cons_of_mem _ h)
  have hown : s.vm.findClass RX2 = some m.cls := findClass_of_methodNamed B.named
  have hlocks := B.notSynchronized
  have hS : va_S (fun _ => False) s.heap s.heap [] := va_S.rf
  have hl := lv_entry ([.ref (g.ad t), .ref (g.ad o)]) (n := 2) (Nat.le_of_ble_eq_true rfl)
  rw [lg_entry_eq]
  generalize (lg_sl ([.ref (g.ad t), .ref (g.ad o)]) ++ List.replicate (2 - (lg_sl ([.ref (g.ad t), .ref (g.ad o)])).length) Slot.unset).toArray = ls at hl ⊢
  have hl : lv_has ls 2 [(0, .ref (g.ad t)), (1, .ref (g.ad o))] := hl
  unfold f_X2_goesBefore at hf
  refine lv_aload_n hx hb dX2_goesBefore_0 rfl (lv_at hl 0 rfl) ?_
  refine r_get hx hb hts i_X2 hown hT hP (inP ht) (fs := (fsP g t)) (obP ht) rfl 7 (by decide) q130 (fun _ h9 => h9) rfl dX2_goesBefore_1 ?_
  refine lv_aload_n hx hb dX2_goesBefore_4 rfl (lv_at hl 1 rfl) ?_
  refine r_get hx hb hts i_X2 hown hT hP (inP ho) (fs := (fsP g o)) (obP ho) rfl 7 (by decide) q130 (fun _ h9 => h9) rfl dX2_goesBefore_5 ?_
  refine lv_icmp_lt (tgt := 33) hx hb dX2_goesBefore_8 (by decide) (fun c_1 => ?_) (fun c_1 => ?_)
  · have hf := (if_pos c_1).symm.trans hf
    refine lv_iconst (v := 1) hx hb dX2_goesBefore_33 (by decide) ?_
    refine lv_goto (tgt := 38) hx hb dX2_goesBefore_34 (by decide) ?_
    exact W.zret (v := 1) (ty := .boolean) hx hb hr (by decide) (fun t9 ht hW => ⟨⟨1, (), rfl, Option.some.inj hf, trivial⟩, hS.F ht⟩) hS.2.2 dX2_goesBefore_38
  · have hf := (if_neg c_1).symm.trans hf
    refine lv_aload_n hx hb dX2_goesBefore_11 rfl (lv_at hl 0 rfl) ?_
    refine r_get hx hb hts i_X2 hown hT hP (inP ht) (fs := (fsP g t)) (obP ht) rfl 7 (by decide) q130 (fun _ h9 => h9) rfl dX2_goesBefore_12 ?_
    refine lv_aload_n hx hb dX2_goesBefore_15 rfl (lv_at hl 1 rfl) ?_
    refine r_get hx hb hts i_X2 hown hT hP (inP ho) (fs := (fsP g o)) (obP ho) rfl 7 (by decide) q130 (fun _ h9 => h9) rfl dX2_goesBefore_16 ?_
    refine lv_icmp_ne (tgt := 37) hx hb dX2_goesBefore_19 (by decide) (fun c_2 => ?_) (fun c_2 => ?_)
    · have hf := (if_neg c_2).symm.trans hf
      refine lv_iconst (v := 0) hx hb dX2_goesBefore_37 (by decide) ?_
      exact W.zret (v := 0) (ty := .boolean) hx hb hr (by decide) (fun t9 ht hW => ⟨⟨0, (), rfl, Option.some.inj hf, trivial⟩, hS.F ht⟩) hS.2.2 dX2_goesBefore_38
    · have hf := (if_pos c_2).symm.trans hf
      refine lv_aload_n hx hb dX2_goesBefore_22 rfl (lv_at hl 0 rfl) ?_
      refine r_get hx hb hts i_X2 hown hT hP (inP ht) (fs := (fsP g t)) (obP ht) rfl 8 (by decide) q133 (fun _ h9 => h9) rfl dX2_goesBefore_23 ?_
      refine lv_aload_n hx hb dX2_goesBefore_26 rfl (lv_at hl 1 rfl) ?_
      refine r_get hx hb hts i_X2 hown hT hP (inP ho) (fs := (fsP g o)) (obP ho) rfl 8 (by decide) q133 (fun _ h9 => h9) rfl dX2_goesBefore_27 ?_
      refine lv_icmp_ge (tgt := 37) hx hb dX2_goesBefore_30 (by decide) (fun c_3 => ?_) (fun c_3 => ?_)
      · have hf := (if_pos c_3).symm.trans hf
        refine lv_iconst (v := 0) hx hb dX2_goesBefore_37 (by decide) ?_
        exact W.zret (v := 0) (ty := .boolean) hx hb hr (by decide) (fun t9 ht hW => ⟨⟨0, (), rfl, Option.some.inj hf, trivial⟩, hS.F ht⟩) hS.2.2 dX2_goesBefore_38
      · have hf := (if_neg c_3).symm.trans hf
        refine lv_iconst (v := 1) hx hb dX2_goesBefore_33 (by decide) ?_
        refine lv_goto (tgt := 38) hx hb dX2_goesBefore_34 (by decide) ?_
        exact W.zret (v := 1) (ty := .boolean) hx hb hr (by decide) (fun t9 ht hW => ⟨⟨1, (), rfl, Option.some.inj hf, trivial⟩, hS.F ht⟩) hS.2.2 dX2_goesBefore_38
/-- "Sandglass$Proc" "standsBefore" "(LSandglass$Proc;)Z" -/
def f_X2_standsBefore (g : Fg) (μ : Mem) (t : Nat) (o : Nat) : Option (Int32) := if (μ t 10) < (μ o 10) then (some 1) else (if (μ t 10) = (μ o 10) then (if (μ o 11) ≤ (μ t 11) then (some 0) else (some 1)) else (some 0))
theorem hd_X2_standsBefore : yX2_standsBefore.cls = RX2 ∧ yX2_standsBefore.cls ≠ "java/lang/invoke/MethodHandle" ∧ yX2_standsBefore.cls ≠ "java/lang/invoke/VarHandle" ∧ (parseMethodDescriptor yX2_standsBefore.desc).map (fun d => d.parameters.length) = some 1 := by decide +kernel
set_option maxHeartbeats 4000000 in
set_option maxRecDepth 100000 in
theorem c_X2_standsBefore (l : Launch) {g : Geo} (hg : Good g) (μ : Mem) (t : Nat) (o : Nat) (ht : isP t) (ho : isP o) {r : Int32} (hf : f_X2_standsBefore g.F μ t o = some r) : Met l yX2_standsBefore (ws_ yX2_standsBefore cX2_standsBefore 2 (some .boolean)) (rm_ 0 0 0 0) (Pz g [.ref (g.ad t), .ref (g.ad o)] (Rg g μ)) (va_Qi (fun (v : Int32) (_ : Unit) => v = r) (fun _ _ => True) (fun _ => False)) 0 0 (fun _ => False) := by
  refine Met.ofW (cc := cX2_standsBefore) (maxL := 2) (ret := (some .boolean)) (by decide) rfl ?_
  intro p e s m args below meth c s₁ B hml hv
  obtain ⟨rfl, hT, hP⟩ := hv
  have hx := B.exec
  have hb := B.bytes
  have hr := B.returns
  have hts : ∀ w ∈ lw_all, w.before _ s = true := fun w h => atoms_spec (ws := (ws_ yX2_standsBefore cX2_standsBefore 2 (some .boolean))) B.pre w (List.mem_cons_of_mem _ h)
  have hown : s.vm.findClass RX2 = some m.cls := findClass_of_methodNamed B.named
  have hlocks := B.notSynchronized
  have hS : va_S (fun _ => False) s.heap s.heap [] := va_S.rf
  have hl := lv_entry ([.ref (g.ad t), .ref (g.ad o)]) (n := 2) (Nat.le_of_ble_eq_true rfl)
  rw [lg_entry_eq]
  generalize (lg_sl ([.ref (g.ad t), .ref (g.ad o)]) ++ List.replicate (2 - (lg_sl ([.ref (g.ad t), .ref (g.ad o)])).length) Slot.unset).toArray = ls at hl ⊢
  have hl : lv_has ls 2 [(0, .ref (g.ad t)), (1, .ref (g.ad o))] := hl
  unfold f_X2_standsBefore at hf
  refine lv_aload_n hx hb dX2_standsBefore_0 rfl (lv_at hl 0 rfl) ?_
  refine r_get hx hb hts i_X2 hown hT hP (inP ht) (fs := (fsP g t)) (obP ht) rfl 10 (by decide) q137 (fun _ h9 => h9) rfl dX2_standsBefore_1 ?_
  refine lv_aload_n hx hb dX2_standsBefore_4 rfl (lv_at hl 1 rfl) ?_
  refine r_get hx hb hts i_X2 hown hT hP (inP ho) (fs := (fsP g o)) (obP ho) rfl 10 (by decide) q137 (fun _ h9 => h9) rfl dX2_standsBefore_5 ?_
  refine lv_icmp_lt (tgt := 33) hx hb dX2_standsBefore_8 (by decide) (fun c_1 => ?_) (fun c_1 => ?_)
  · have hf := (if_pos c_1).symm.trans hf
    refine lv_iconst (v := 1) hx hb dX2_standsBefore_33 (by decide) ?_
    refine lv_goto (tgt := 38) hx hb dX2_standsBefore_34 (by decide) ?_
    exact W.zret (v := 1) (ty := .boolean) hx hb hr (by decide) (fun t9 ht hW => ⟨⟨1, (), rfl, Option.some.inj hf, trivial⟩, hS.F ht⟩) hS.2.2 dX2_standsBefore_38
  · have hf := (if_neg c_1).symm.trans hf
    refine lv_aload_n hx hb dX2_standsBefore_11 rfl (lv_at hl 0 rfl) ?_
    refine r_get hx hb hts i_X2 hown hT hP (inP ht) (fs := (fsP g t)) (obP ht) rfl 10 (by decide) q137 (fun _ h9 => h9) rfl dX2_standsBefore_12 ?_
    refine lv_aload_n hx hb dX2_standsBefore_15 rfl (lv_at hl 1 rfl) ?_
    refine r_get hx hb hts i_X2 hown hT hP (inP ho) (fs := (fsP g o)) (obP ho) rfl 10 (by decide) q137 (fun _ h9 => h9) rfl dX2_standsBefore_16 ?_
    refine lv_icmp_ne (tgt := 37) hx hb dX2_standsBefore_19 (by decide) (fun c_2 => ?_) (fun c_2 => ?_)
    · have hf := (if_neg c_2).symm.trans hf
      refine lv_iconst (v := 0) hx hb dX2_standsBefore_37 (by decide) ?_
      exact W.zret (v := 0) (ty := .boolean) hx hb hr (by decide) (fun t9 ht hW => ⟨⟨0, (), rfl, Option.some.inj hf, trivial⟩, hS.F ht⟩) hS.2.2 dX2_standsBefore_38
    · have hf := (if_pos c_2).symm.trans hf
      refine lv_aload_n hx hb dX2_standsBefore_22 rfl (lv_at hl 0 rfl) ?_
      refine r_get hx hb hts i_X2 hown hT hP (inP ht) (fs := (fsP g t)) (obP ht) rfl 11 (by decide) q139 (fun _ h9 => h9) rfl dX2_standsBefore_23 ?_
      refine lv_aload_n hx hb dX2_standsBefore_26 rfl (lv_at hl 1 rfl) ?_
      refine r_get hx hb hts i_X2 hown hT hP (inP ho) (fs := (fsP g o)) (obP ho) rfl 11 (by decide) q139 (fun _ h9 => h9) rfl dX2_standsBefore_27 ?_
      refine lv_icmp_ge (tgt := 37) hx hb dX2_standsBefore_30 (by decide) (fun c_3 => ?_) (fun c_3 => ?_)
      · have hf := (if_pos c_3).symm.trans hf
        refine lv_iconst (v := 0) hx hb dX2_standsBefore_37 (by decide) ?_
        exact W.zret (v := 0) (ty := .boolean) hx hb hr (by decide) (fun t9 ht hW => ⟨⟨0, (), rfl, Option.some.inj hf, trivial⟩, hS.F ht⟩) hS.2.2 dX2_standsBefore_38
      · have hf := (if_neg c_3).symm.trans hf
        refine lv_iconst (v := 1) hx hb dX2_standsBefore_33 (by decide) ?_
        refine lv_goto (tgt := 38) hx hb dX2_standsBefore_34 (by decide) ?_
        exact W.zret (v := 1) (ty := .boolean) hx hb hr (by decide) (fun t9 ht hW => ⟨⟨1, (), rfl, Option.some.inj hf, trivial⟩, hS.F ht⟩) hS.2.2 dX2_standsBefore_38
/-- "Sandglass$World" "schedule" "(LSandglass$Proc;II)V" -/
def f_X7_schedule (g : Fg) (μ : Mem) (q : Nat) (st : Int32) (ti : Int32) : Option (Mem) := bnd (put μ 0 9 ((μ 0 9) + 1)) fun μ_1 => bnd (put μ_1 q 6 st) fun μ_2 => bnd (put μ_2 q 7 ((μ_2 0 6) + ti)) fun μ_3 => bnd (put μ_3 q 8 (μ_3 0 9)) fun μ_4 => some μ_4
theorem hd_X7_schedule : yX7_schedule.cls = RX7 ∧ yX7_schedule.cls ≠ "java/lang/invoke/MethodHandle" ∧ yX7_schedule.cls ≠ "java/lang/invoke/VarHandle" ∧ (parseMethodDescriptor yX7_schedule.desc).map (fun d => d.parameters.length) = some 3 := by decide +kernel
set_option maxHeartbeats 4000000 in
set_option maxRecDepth 100000 in
theorem c_X7_schedule (l : Launch) {g : Geo} (hg : Good g) (μ : Mem) (sz : Nat) (q : Nat) (st : Int32) (ti : Int32) (hq : isP q) {r : Mem} (hf : f_X7_schedule g.F μ q st ti = some r) : Met l yX7_schedule (ws_ yX7_schedule cX7_schedule 4 (Option.none : Option Jvm.ClassFile.FieldType)) (rm_ 0 0 0 0) (Pz g [.ref (g.ad 0), .ref (g.ad q), .int st, .int ti] (fun H9 => H9.size = sz ∧ Rg g μ H9)) (va_Qv (fun _ : Unit => True) (fun _ t => Rg g r t.heap) (Ag g sz)) 0 0 (Ag g sz) := by
  refine Met.ofW (cc := cX7_schedule) (maxL := 4) (ret := (Option.none : Option Jvm.ClassFile.FieldType)) (by decide) rfl ?_
  intro p e s m args below meth c s₁ B hml hv
  obtain ⟨rfl, hT, hsz, hP⟩ := hv
  have hx := B.exec
  have hb := B.bytes
  have hr := B.returns
  have hts : ∀ w ∈ lw_all, w.before _ s = true := fun w h => atoms_spec (ws := (ws_ yX7_schedule cX7_schedule 4 (Option.none : Option Jvm.ClassFile.FieldType))) B.pre w (List.mem_cons_of_mem _ h)
  have hown : s.vm.findClass RX7 = some m.cls := findClass_of_methodNamed B.named
  have hlocks := B.notSynchronized
  subst hsz
  have hD := fun ν => Ag.apart hg s.heap.size ν
  have hC := hP.sh
  have hN := Ag.shr hg hP
  have hS : va_S (Ag g s.heap.size) s.heap s.heap [] := va_S.rf
  have hl := lv_entry ([.ref (g.ad 0), .ref (g.ad q), .int st, .int ti]) (n := 4) (Nat.le_of_ble_eq_true rfl)
  rw [lg_entry_eq]
  generalize (lg_sl ([.ref (g.ad 0), .ref (g.ad q), .int st, .int ti]) ++ List.replicate (4 - (lg_sl ([.ref (g.ad 0), .ref (g.ad q), .int st, .int ti])).length) Slot.unset).toArray = ls at hl ⊢
  have hl : lv_has ls 4 [(0, .ref (g.ad 0)), (1, .ref (g.ad q)), (2, .int st), (3, .int ti)] := hl
  unfold f_X7_schedule at hf
  refine lv_aload_n hx hb dX7_schedule_0 rfl (lv_at hl 0 rfl) ?_
  refine lv_dup hx hb dX7_schedule_1 rfl ?_
  refine r_get hx hb hts i_X7 hown hT hP inW (fs := (fsW g)) (obW g) rfl 9 (by decide) q203 (fun _ h9 => h9) rfl dX7_schedule_2 ?_
  refine lv_iconst (v := 1) hx hb dX7_schedule_5 (by decide) ?_
  refine lv_iadd hx hb dX7_schedule_6 ?_
  refine r_put hx hb hts i_X7 tyX7 tyX7_ok nmX7 hown hT hP hD hC hN hS mtW (fs := (fsW g)) (obW g) rfl 9 (by decide) q203 (fun _ h9 => h9) rfl (ty := .int) (x := (μ 0 9) + 1) rfl rfl rfl (fun _ => rfl) (Nat.le_of_ble_eq_true rfl) dX7_schedule_7 (fun H locs hP hS => ?_)
  obtain ⟨μ_1, eμ_1⟩ : ∃ z, put μ 0 9 ((μ 0 9) + 1) = z := ⟨_, rfl⟩
  rw [eμ_1] at hP
  have hf := bnd_eq hf _ eμ_1
  refine lv_aload_n hx hb dX7_schedule_10 rfl (lv_at hl 1 rfl) ?_
  refine lv_iload_n hx hb dX7_schedule_11 rfl (lv_at hl 2 rfl) ?_
  refine r_put hx hb hts i_X2 tyX2 tyX2_ok nmX2 hown hT hP hD hC hN hS (mtP hq) (fs := (fsP g q)) (obP hq) rfl 6 (by decide) q128 (fun _ h9 => h9) rfl (ty := .int) (x := st) rfl rfl rfl (fun _ => rfl) (Nat.le_of_ble_eq_true rfl) dX7_schedule_12 (fun H locs hP hS => ?_)
  obtain ⟨μ_2, eμ_2⟩ : ∃ z, put μ_1 q 6 st = z := ⟨_, rfl⟩
  rw [eμ_2] at hP
  have hf := bnd_eq hf _ eμ_2
  refine lv_aload_n hx hb dX7_schedule_15 rfl (lv_at hl 1 rfl) ?_
  refine lv_aload_n hx hb dX7_schedule_16 rfl (lv_at hl 0 rfl) ?_
  refine r_get hx hb hts i_X7 hown hT hP inW (fs := (fsW g)) (obW g) rfl 6 (by decide) q197 (fun _ h9 => h9) rfl dX7_schedule_17 ?_
  refine lv_iload_n hx hb dX7_schedule_20 rfl (lv_at hl 3 rfl) ?_
  refine lv_iadd hx hb dX7_schedule_21 ?_
  refine r_put hx hb hts i_X2 tyX2 tyX2_ok nmX2 hown hT hP hD hC hN hS (mtP hq) (fs := (fsP g q)) (obP hq) rfl 7 (by decide) q131 (fun _ h9 => h9) rfl (ty := .int) (x := (μ_2 0 6) + ti) rfl rfl rfl (fun _ => rfl) (Nat.le_of_ble_eq_true rfl) dX7_schedule_22 (fun H locs hP hS => ?_)
  obtain ⟨μ_3, eμ_3⟩ : ∃ z, put μ_2 q 7 ((μ_2 0 6) + ti) = z := ⟨_, rfl⟩
  rw [eμ_3] at hP
  have hf := bnd_eq hf _ eμ_3
  refine lv_aload_n hx hb dX7_schedule_25 rfl (lv_at hl 1 rfl) ?_
  refine lv_aload_n hx hb dX7_schedule_26 rfl (lv_at hl 0 rfl) ?_
  refine r_get hx hb hts i_X7 hown hT hP inW (fs := (fsW g)) (obW g) rfl 9 (by decide) q203 (fun _ h9 => h9) rfl dX7_schedule_27 ?_
  refine r_put hx hb hts i_X2 tyX2 tyX2_ok nmX2 hown hT hP hD hC hN hS (mtP hq) (fs := (fsP g q)) (obP hq) rfl 8 (by decide) q134 (fun _ h9 => h9) rfl (ty := .int) (x := μ_3 0 9) rfl rfl rfl (fun _ => rfl) (Nat.le_of_ble_eq_true rfl) dX7_schedule_30 (fun H locs hP hS => ?_)
  obtain ⟨μ_4, eμ_4⟩ : ∃ z, put μ_3 q 8 (μ_3 0 9) = z := ⟨_, rfl⟩
  rw [eμ_4] at hP
  have hf := bnd_eq hf _ eμ_4
  exact W.vret hx hb hr (fun t9 ht hW => ⟨⟨(), rfl, trivial, by show Rg g r t9.heap; rw [ht, ← Option.some.inj hf]; exact hP⟩, hS.F ht⟩) hS.2.2 dX7_schedule_33
/-- "Sandglass$World" "enter" "(LSandglass$Proc;II)V" -/
def f_X7_enter (g : Fg) (μ : Mem) (q : Nat) (row : Int32) (st : Int32) : Option (Mem) := bnd (put μ 0 9 ((μ 0 9) + 1)) fun μ_1 => bnd (put μ_1 q 9 row) fun μ_2 => bnd (put μ_2 q 10 0) fun μ_3 => bnd (put μ_3 q 11 (μ_3 0 9)) fun μ_4 => bnd (put μ_4 q 6 st) fun μ_5 => some μ_5
theorem hd_X7_enter : yX7_enter.cls = RX7 ∧ yX7_enter.cls ≠ "java/lang/invoke/MethodHandle" ∧ yX7_enter.cls ≠ "java/lang/invoke/VarHandle" ∧ (parseMethodDescriptor yX7_enter.desc).map (fun d => d.parameters.length) = some 3 := by decide +kernel
set_option maxHeartbeats 4000000 in
set_option maxRecDepth 100000 in
theorem c_X7_enter (l : Launch) {g : Geo} (hg : Good g) (μ : Mem) (sz : Nat) (q : Nat) (row : Int32) (st : Int32) (hq : isP q) {r : Mem} (hf : f_X7_enter g.F μ q row st = some r) : Met l yX7_enter (ws_ yX7_enter cX7_enter 4 (Option.none : Option Jvm.ClassFile.FieldType)) (rm_ 0 0 0 0) (Pz g [.ref (g.ad 0), .ref (g.ad q), .int row, .int st] (fun H9 => H9.size = sz ∧ Rg g μ H9)) (va_Qv (fun _ : Unit => True) (fun _ t => Rg g r t.heap) (Ag g sz)) 0 0 (Ag g sz) := by
  refine Met.ofW (cc := cX7_enter) (maxL := 4) (ret := (Option.none : Option Jvm.ClassFile.FieldType)) (by decide) rfl ?_
  intro p e s m args below meth c s₁ B hml hv
  obtain ⟨rfl, hT, hsz, hP⟩ := hv
  have hx := B.exec
  have hb := B.bytes
  have hr := B.returns
  have hts : ∀ w ∈ lw_all, w.before _ s = true := fun w h => atoms_spec (ws := (ws_ yX7_enter cX7_enter 4 (Option.none : Option Jvm.ClassFile.FieldType))) B.pre w (List.mem_cons_of_mem _ h)
  have hown : s.vm.findClass RX7 = some m.cls := findClass_of_methodNamed B.named
  have hlocks := B.notSynchronized
  subst hsz
  have hD := fun ν => Ag.apart hg s.heap.size ν
  have hC := hP.sh
  have hN := Ag.shr hg hP
  have hS : va_S (Ag g s.heap.size) s.heap s.heap [] := va_S.rf
  have hl := lv_entry ([.ref (g.ad 0), .ref (g.ad q), .int row, .int st]) (n := 4) (Nat.le_of_ble_eq_true rfl)
  rw [lg_entry_eq]
  generalize (lg_sl ([.ref (g.ad 0), .ref (g.ad q), .int row, .int st]) ++ List.replicate (4 - (lg_sl ([.ref (g.ad 0), .ref (g.ad q), .int row, .int st])).length) Slot.unset).toArray = ls at hl ⊢
  have hl : lv_has ls 4 [(0, .ref (g.ad 0)), (1, .ref (g.ad q)), (2, .int row), (3, .int st)] := hl
  unfold f_X7_enter at hf
  refine lv_aload_n hx hb dX7_enter_0 rfl (lv_at hl 0 rfl) ?_
  refine lv_dup hx hb dX7_enter_1 rfl ?_
  refine r_get hx hb hts i_X7 hown hT hP inW (fs := (fsW g)) (obW g) rfl 9 (by decide) q203 (fun _ h9 => h9) rfl dX7_enter_2 ?_
  refine lv_iconst (v := 1) hx hb dX7_enter_5 (by decide) ?_
  refine lv_iadd hx hb dX7_enter_6 ?_
  refine r_put hx hb hts i_X7 tyX7 tyX7_ok nmX7 hown hT hP hD hC hN hS mtW (fs := (fsW g)) (obW g) rfl 9 (by decide) q203 (fun _ h9 => h9) rfl (ty := .int) (x := (μ 0 9) + 1) rfl rfl rfl (fun _ => rfl) (Nat.le_of_ble_eq_true rfl) dX7_enter_7 (fun H locs hP hS => ?_)
  obtain ⟨μ_1, eμ_1⟩ : ∃ z, put μ 0 9 ((μ 0 9) + 1) = z := ⟨_, rfl⟩
  rw [eμ_1] at hP
  have hf := bnd_eq hf _ eμ_1
  refine lv_aload_n hx hb dX7_enter_10 rfl (lv_at hl 1 rfl) ?_
  refine lv_iload_n hx hb dX7_enter_11 rfl (lv_at hl 2 rfl) ?_
  refine r_put hx hb hts i_X2 tyX2 tyX2_ok nmX2 hown hT hP hD hC hN hS (mtP hq) (fs := (fsP g q)) (obP hq) rfl 9 (by decide) q136 (fun _ h9 => h9) rfl (ty := .int) (x := row) rfl rfl rfl (fun _ => rfl) (Nat.le_of_ble_eq_true rfl) dX7_enter_12 (fun H locs hP hS => ?_)
  obtain ⟨μ_2, eμ_2⟩ : ∃ z, put μ_1 q 9 row = z := ⟨_, rfl⟩
  rw [eμ_2] at hP
  have hf := bnd_eq hf _ eμ_2
  refine lv_aload_n hx hb dX7_enter_15 rfl (lv_at hl 1 rfl) ?_
  refine lv_iconst (v := 0) hx hb dX7_enter_16 (by decide) ?_
  refine r_put hx hb hts i_X2 tyX2 tyX2_ok nmX2 hown hT hP hD hC hN hS (mtP hq) (fs := (fsP g q)) (obP hq) rfl 10 (by decide) q138 (fun _ h9 => h9) rfl (ty := .int) (x := 0) rfl rfl rfl (fun _ => rfl) (Nat.le_of_ble_eq_true rfl) dX7_enter_17 (fun H locs hP hS => ?_)
  obtain ⟨μ_3, eμ_3⟩ : ∃ z, put μ_2 q 10 0 = z := ⟨_, rfl⟩
  rw [eμ_3] at hP
  have hf := bnd_eq hf _ eμ_3
  refine lv_aload_n hx hb dX7_enter_20 rfl (lv_at hl 1 rfl) ?_
  refine lv_aload_n hx hb dX7_enter_21 rfl (lv_at hl 0 rfl) ?_
  refine r_get hx hb hts i_X7 hown hT hP inW (fs := (fsW g)) (obW g) rfl 9 (by decide) q203 (fun _ h9 => h9) rfl dX7_enter_22 ?_
  refine r_put hx hb hts i_X2 tyX2 tyX2_ok nmX2 hown hT hP hD hC hN hS (mtP hq) (fs := (fsP g q)) (obP hq) rfl 11 (by decide) q140 (fun _ h9 => h9) rfl (ty := .int) (x := μ_3 0 9) rfl rfl rfl (fun _ => rfl) (Nat.le_of_ble_eq_true rfl) dX7_enter_25 (fun H locs hP hS => ?_)
  obtain ⟨μ_4, eμ_4⟩ : ∃ z, put μ_3 q 11 (μ_3 0 9) = z := ⟨_, rfl⟩
  rw [eμ_4] at hP
  have hf := bnd_eq hf _ eμ_4
  refine lv_aload_n hx hb dX7_enter_28 rfl (lv_at hl 1 rfl) ?_
  refine lv_iload_n hx hb dX7_enter_29 rfl (lv_at hl 3 rfl) ?_
  refine r_put hx hb hts i_X2 tyX2 tyX2_ok nmX2 hown hT hP hD hC hN hS (mtP hq) (fs := (fsP g q)) (obP hq) rfl 6 (by decide) q128 (fun _ h9 => h9) rfl (ty := .int) (x := st) rfl rfl rfl (fun _ => rfl) (Nat.le_of_ble_eq_true rfl) dX7_enter_30 (fun H locs hP hS => ?_)
  obtain ⟨μ_5, eμ_5⟩ : ∃ z, put μ_4 q 6 st = z := ⟨_, rfl⟩
  rw [eμ_5] at hP
  have hf := bnd_eq hf _ eμ_5
  exact W.vret hx hb hr (fun t9 ht hW => ⟨⟨(), rfl, trivial, by show Rg g r t9.heap; rw [ht, ← Option.some.inj hf]; exact hP⟩, hS.F ht⟩) hS.2.2 dX7_enter_33
/-- "Sandglass$World" "countIn" "(I)I" -/
def b_X7_countIn_14 (g : Fg) : Nat → Mem → Int32 → Int32 → Int32 → Int32 → Option (Int32)
  | 0, _, _, _, _, _ => none
  | n + 1, μ, x1, x2, x4, x5 => if x4 ≤ x5 then (some x2) else (grd (¬ (x5 < 0 ∨ 24 ≤ x5.toNatClampNeg)) (bnd (x5.toNatClampNeg + 1) fun k_4 => if (μ k_4 9) = x1 then (b_X7_countIn_14 g n μ x1 (x2 + 1) x4 (x5 + 1)) else (b_X7_countIn_14 g n μ x1 x2 x4 (x5 + 1))))
def f_X7_countIn (g : Fg) (μ : Mem) (row : Int32) : Option (Int32) := b_X7_countIn_14 g fu μ row 0 24 0
theorem hd_X7_countIn : yX7_countIn.cls = RX7 ∧ yX7_countIn.cls ≠ "java/lang/invoke/MethodHandle" ∧ yX7_countIn.cls ≠ "java/lang/invoke/VarHandle" ∧ (parseMethodDescriptor yX7_countIn.desc).map (fun d => d.parameters.length) = some 1 := by decide +kernel
set_option maxHeartbeats 4000000 in
set_option maxRecDepth 100000 in
theorem c_X7_countIn (l : Launch) {g : Geo} (hg : Good g) (μ : Mem) (row : Int32) {r : Int32} (hf : f_X7_countIn g.F μ row = some r) : Met l yX7_countIn (ws_ yX7_countIn cX7_countIn 7 (some .int)) (rm_ 0 0 0 0) (Pz g [.ref (g.ad 0), .int row] (Rg g μ)) (va_Qi (fun (v : Int32) (_ : Unit) => v = r) (fun _ _ => True) (fun _ => False)) 0 0 (fun _ => False) := by
  refine Met.ofW (cc := cX7_countIn) (maxL := 7) (ret := (some .int)) (by decide) rfl ?_
  intro p e s m args below meth c s₁ B hml hv
  obtain ⟨rfl, hT, hP⟩ := hv
  have hx := B.exec
  have hb := B.bytes
  have hr := B.returns
  have hts : ∀ w ∈ lw_all, w.before _ s = true := fun w h => atoms_spec (ws := (ws_ yX7_countIn cX7_countIn 7 (some .int))) B.pre w (List.mem_cons_of_mem _ h)
  have hown : s.vm.findClass RX7 = some m.cls := findClass_of_methodNamed B.named
  have hlocks := B.notSynchronized
  have hS : va_S (fun _ => False) s.heap s.heap [] := va_S.rf
  have L14 : ∀ (n : Nat) (μ : Mem) (x1 : Int32) (x2 : Int32) (x4 : Int32) (x5 : Int32) (H : Heap) (locs : List Loc) (ls : Array Slot), Rg g μ H → va_S (fun _ => False) s.heap H locs → lv_has ls 7 [(1, .int x1), (2, .int x2), (3, .ref (g.ad 97)), (4, .int x4), (5, .int x5)] → b_X7_countIn_14 g.F n μ x1 x2 x4 x5 = some r → W p l e (headSpec (ws_ yX7_countIn cX7_countIn 7 (some .int)) (rm_ 0 0 0 0)).room s m ([.ref (g.ad 0), .int row] : List Value).toArray below meth c H locs 0 0 (MQ below (va_Qi (fun (v : Int32) (_ : Unit) => v = r) (fun _ _ => True) (fun _ => False)) ([.ref (g.ad 0), .int row] : List Value).toArray s 0 0 (fun _ => False)) (F0 m 14 ls []) := by
    intro n
    induction n with
    | zero => intro μ x1 x2 x4 x5 H locs ls hP hS hl  hf; cases hf
    | succ n ih =>
      intro μ x1 x2 x4 x5 H locs ls hP hS hl  hf
      rw [b_X7_countIn_14] at hf
      refine lv_iload hx hb dX7_countIn_14 (lv_at hl 4 rfl) ?_
      refine lv_iload hx hb dX7_countIn_16 (lv_at hl 3 rfl) ?_
      refine lv_icmp_ge (tgt := 45) hx hb dX7_countIn_18 (by decide) (fun c_1 => ?_) (fun c_1 => ?_)
      · have hf := (if_pos c_1).symm.trans hf
        refine lv_iload_n hx hb dX7_countIn_45 rfl (lv_at hl 1 rfl) ?_
        exact W.iret (v := x2) hx hb hr (fun t9 ht hW => ⟨⟨x2, (), rfl, Option.some.inj hf, trivial⟩, hS.F ht⟩) hS.2.2 dX7_countIn_46
      · have hf := (if_neg c_1).symm.trans hf
        refine lv_aload_n hx hb dX7_countIn_21 rfl (lv_at hl 2 rfl) ?_
        refine lv_iload hx hb dX7_countIn_22 (lv_at hl 4 rfl) ?_
        obtain ⟨hi_2, hf⟩ := grd_some hf
        refine r_aaldP hx hb hT hP hi_2 dX7_countIn_24 (fun hp_3 => ?_)
        obtain ⟨k_4, ek_4⟩ : ∃ z, x5.toNatClampNeg + 1 = z := ⟨_, rfl⟩
        rw [ek_4] at hp_3 ⊢
        have hf := bnd_eq hf _ ek_4
        refine lv_astore (lv' := [(6, .ref (g.ad k_4)), (1, .int x1), (2, .int x2), (3, .ref (g.ad 97)), (4, .int x4), (5, .int x5)]) hx hb dX7_countIn_25 hl (by decide) rfl (fun ls hl => ?_)
        refine lv_aload hx hb dX7_countIn_27 (lv_at hl 0 rfl) ?_
        refine r_get hx hb hts i_X2 hown hT hP (inP hp_3) (fs := (fsP g k_4)) (obP hp_3) rfl 9 (by decide) q136 (fun _ h9 => h9) rfl dX7_countIn_29 ?_
        refine lv_iload_n hx hb dX7_countIn_32 rfl (lv_at hl 1 rfl) ?_
        refine lv_icmp_ne (tgt := 39) hx hb dX7_countIn_33 (by decide) (fun c_5 => ?_) (fun c_5 => ?_)
        · have hf := (if_neg c_5).symm.trans hf
          refine lv_iinc (v := x5 + 1) (lv' := [(5, .int (x5 + 1)), (6, .ref (g.ad k_4)), (1, .int x1), (2, .int x2), (3, .ref (g.ad 97)), (4, .int x4)]) hx hb dX7_countIn_39 hl (k := 5) rfl rfl (by decide) rfl (fun ls hl => ?_)
          refine lv_goto (tgt := 14) hx hb dX7_countIn_42 (by decide) ?_
          exact ih μ x1 x2 x4 (x5 + 1) _ _ _ hP hS (lv_sub hl [2, 3, 4, 5, 0] rfl)  hf
        · have hf := (if_pos c_5).symm.trans hf
          refine lv_iinc (v := x2 + 1) (lv' := [(2, .int (x2 + 1)), (6, .ref (g.ad k_4)), (1, .int x1), (3, .ref (g.ad 97)), (4, .int x4), (5, .int x5)]) hx hb dX7_countIn_36 hl (k := 2) rfl rfl (by decide) rfl (fun ls hl => ?_)
          refine lv_iinc (v := x5 + 1) (lv' := [(5, .int (x5 + 1)), (2, .int (x2 + 1)), (6, .ref (g.ad k_4)), (1, .int x1), (3, .ref (g.ad 97)), (4, .int x4)]) hx hb dX7_countIn_39 hl (k := 5) rfl rfl (by decide) rfl (fun ls hl => ?_)
          refine lv_goto (tgt := 14) hx hb dX7_countIn_42 (by decide) ?_
          exact ih μ x1 (x2 + 1) x4 (x5 + 1) _ _ _ hP hS (lv_sub hl [3, 1, 4, 5, 0] rfl)  hf
  have hl := lv_entry ([.ref (g.ad 0), .int row]) (n := 7) (Nat.le_of_ble_eq_true rfl)
  rw [lg_entry_eq]
  generalize (lg_sl ([.ref (g.ad 0), .int row]) ++ List.replicate (7 - (lg_sl ([.ref (g.ad 0), .int row])).length) Slot.unset).toArray = ls at hl ⊢
  have hl : lv_has ls 7 [(0, .ref (g.ad 0)), (1, .int row)] := hl
  unfold f_X7_countIn at hf
  refine lv_iconst (v := 0) hx hb dX7_countIn_0 (by decide) ?_
  refine lv_istore_n (lv' := [(2, .int 0), (0, .ref (g.ad 0)), (1, .int row)]) hx hb dX7_countIn_1 rfl hl (by decide) rfl (fun ls hl => ?_)
  refine lv_aload_n hx hb dX7_countIn_2 rfl (lv_at hl 1 rfl) ?_
  refine r_get hx hb hts i_X7 hown hT hP inW (fs := (fsW g)) (obW g) rfl 4 (by decide) q194 (fun _ h9 => h9) rfl dX7_countIn_3 ?_
  refine lv_astore_n (lv' := [(3, .ref (g.ad 97)), (2, .int 0), (0, .ref (g.ad 0)), (1, .int row)]) hx hb dX7_countIn_6 rfl hl (by decide) rfl (fun ls hl => ?_)
  refine lv_aload_n hx hb dX7_countIn_7 rfl (lv_at hl 0 rfl) ?_
  refine r_alenP hx hb hT hP dX7_countIn_8 ?_
  refine lv_istore (lv' := [(4, .int 24), (3, .ref (g.ad 97)), (2, .int 0), (0, .ref (g.ad 0)), (1, .int row)]) hx hb dX7_countIn_9 hl (by decide) rfl (fun ls hl => ?_)
  refine lv_iconst (v := 0) hx hb dX7_countIn_11 (by decide) ?_
  refine lv_istore (lv' := [(5, .int 0), (4, .int 24), (3, .ref (g.ad 97)), (2, .int 0), (0, .ref (g.ad 0)), (1, .int row)]) hx hb dX7_countIn_12 hl (by decide) rfl (fun ls hl => ?_)
  exact L14 fu μ row 0 24 0 _ _ _ hP hS (lv_sub hl [5, 3, 2, 1, 0] rfl)  hf
/-- "Sandglass$World" "firstIn" "(I)LSandglass$Proc;" -/
def b_X7_firstIn_14 (g : Fg) : Nat → Mem → Int32 → Option Nat → Int32 → Int32 → Option ((Option Nat))
  | 0, _, _, _, _, _ => none
  | n + 1, μ, x1, x2, x4, x5 => if x4 ≤ x5 then (csQ x2 (some (none)) (fun o_2 => grd (1 ≤ o_2 ∧ o_2 < 25) (some (some o_2)))) else (grd (¬ (x5 < 0 ∨ 24 ≤ x5.toNatClampNeg)) (bnd (x5.toNatClampNeg + 1) fun k_5 => if (μ k_5 9) = x1 then (csQ x2 (b_X7_firstIn_14 g n μ x1 (some k_5) x4 (x5 + 1)) (fun o_7 => grd (1 ≤ o_7 ∧ o_7 < 25) (bnO (f_X2_standsBefore g μ k_5 o_7) fun r_8 => if r_8 = 0 then (b_X7_firstIn_14 g n μ x1 (some o_7) x4 (x5 + 1)) else (b_X7_firstIn_14 g n μ x1 (some k_5) x4 (x5 + 1))))) else (b_X7_firstIn_14 g n μ x1 x2 x4 (x5 + 1))))
def f_X7_firstIn (g : Fg) (μ : Mem) (row : Int32) : Option ((Option Nat)) := b_X7_firstIn_14 g fu μ row none 24 0
theorem hd_X7_firstIn : yX7_firstIn.cls = RX7 ∧ yX7_firstIn.cls ≠ "java/lang/invoke/MethodHandle" ∧ yX7_firstIn.cls ≠ "java/lang/invoke/VarHandle" ∧ (parseMethodDescriptor yX7_firstIn.desc).map (fun d => d.parameters.length) = some 1 := by decide +kernel
set_option maxHeartbeats 4000000 in
set_option maxRecDepth 100000 in
theorem c_X7_firstIn (l : Launch) {g : Geo} (hg : Good g) (μ : Mem) (row : Int32) {r : (Option Nat)} (hf : f_X7_firstIn g.F μ row = some r) : Met l yX7_firstIn (ws_ yX7_firstIn cX7_firstIn 7 (some (.object "Sandglass$Proc"))) (rm_ 1 21 0 0) (Pz g [.ref (g.ad 0), .int row] (Rg g μ)) (va_Qq (fun (v : Option Nat) (_ : Unit) => v = r.map g.ad) (fun _ _ => True) (fun _ => False)) 0 0 (fun _ => False) := by
  refine Met.ofW (cc := cX7_firstIn) (maxL := 7) (ret := (some (.object "Sandglass$Proc"))) (by decide) rfl ?_
  intro p e s m args below meth c s₁ B hml hv
  obtain ⟨rfl, hT, hP⟩ := hv
  have hx := B.exec
  have hb := B.bytes
  have hr := B.returns
  have hts : ∀ w ∈ lw_all, w.before _ s = true := fun w h => atoms_spec (ws := (ws_ yX7_firstIn cX7_firstIn 7 (some (.object "Sandglass$Proc")))) B.pre w (List.mem_cons_of_mem _ h)
  have hown : s.vm.findClass RX7 = some m.cls := findClass_of_methodNamed B.named
  have hlocks := B.notSynchronized
  have hS : va_S (fun _ => False) s.heap s.heap [] := va_S.rf
  have L14 : ∀ (n : Nat) (μ : Mem) (x1 : Int32) (x2 : Option Nat) (x4 : Int32) (x5 : Int32) (H : Heap) (locs : List Loc) (ls : Array Slot), Rg g μ H → va_S (fun _ => False) s.heap H locs → lv_has ls 7 [(1, .int x1), (2, va_rf (x2.map g.ad)), (3, .ref (g.ad 97)), (4, .int x4), (5, .int x5)] → b_X7_firstIn_14 g.F n μ x1 x2 x4 x5 = some r → W p l e (headSpec (ws_ yX7_firstIn cX7_firstIn 7 (some (.object "Sandglass$Proc"))) (rm_ 1 21 0 0)).room s m ([.ref (g.ad 0), .int row] : List Value).toArray below meth c H locs 0 0 (MQ below (va_Qq (fun (v : Option Nat) (_ : Unit) => v = r.map g.ad) (fun _ _ => True) (fun _ => False)) ([.ref (g.ad 0), .int row] : List Value).toArray s 0 0 (fun _ => False)) (F0 m 14 ls []) := by
    intro n
    induction n with
    | zero => intro μ x1 x2 x4 x5 H locs ls hP hS hl  hf; cases hf
    | succ n ih =>
      intro μ x1 x2 x4 x5 H locs ls hP hS hl  hf
      rw [b_X7_firstIn_14] at hf
      refine lv_iload hx hb dX7_firstIn_14 (lv_at hl 4 rfl) ?_
      refine lv_iload hx hb dX7_firstIn_16 (lv_at hl 3 rfl) ?_
      refine lv_icmp_ge (tgt := 58) hx hb dX7_firstIn_18 (by decide) (fun c_1 => ?_) (fun c_1 => ?_)
      · have hf := (if_pos c_1).symm.trans hf
        cases x2 with
        | none =>
          have hl : lv_has ls 7 [(1, .int x1), (2, .null), (3, .ref (g.ad 97)), (4, .int x4), (5, .int x5)] := hl
          dsimp only [csQ] at hf
          refine lv_aload_nN hx hb dX7_firstIn_58 rfl (lv_at hl 1 rfl) ?_
          exact W.aret (v := .null) (rt := .object "Sandglass$Proc") hx hb hr (Or.inl ⟨_, rfl⟩) (Or.inl rfl) (fun t9 ht hW => ⟨⟨none, (), rfl, by rw [← Option.some.inj hf]; rfl, trivial⟩, hS.F ht⟩) hS.2.2 dX7_firstIn_59
        | some o_2 =>
          have hl : lv_has ls 7 [(1, .int x1), (2, .ref (g.ad o_2)), (3, .ref (g.ad 97)), (4, .int x4), (5, .int x5)] := hl
          dsimp only [csQ] at hf
          obtain ⟨ho_2, hf⟩ := grd_some hf
          refine lv_aload_n hx hb dX7_firstIn_58 rfl (lv_at hl 1 rfl) ?_
          exact W.aret (v := .ref (g.ad o_2)) (rt := .object "Sandglass$Proc") hx hb hr (Or.inl ⟨_, rfl⟩) (Or.inr ⟨_, rfl⟩) (fun t9 ht hW => ⟨⟨(some (g.ad o_2)), (), rfl, by rw [← Option.some.inj hf]; rfl, trivial⟩, hS.F ht⟩) hS.2.2 dX7_firstIn_59
      · have hf := (if_neg c_1).symm.trans hf
        refine lv_aload_n hx hb dX7_firstIn_21 rfl (lv_at hl 2 rfl) ?_
        refine lv_iload hx hb dX7_firstIn_22 (lv_at hl 4 rfl) ?_
        obtain ⟨hi_3, hf⟩ := grd_some hf
        refine r_aaldP hx hb hT hP hi_3 dX7_firstIn_24 (fun hp_4 => ?_)
        obtain ⟨k_5, ek_5⟩ : ∃ z, x5.toNatClampNeg + 1 = z := ⟨_, rfl⟩
        rw [ek_5] at hp_4 ⊢
        have hf := bnd_eq hf _ ek_5
        refine lv_astore (lv' := [(6, .ref (g.ad k_5)), (1, .int x1), (2, va_rf (x2.map g.ad)), (3, .ref (g.ad 97)), (4, .int x4), (5, .int x5)]) hx hb dX7_firstIn_25 hl (by decide) rfl (fun ls hl => ?_)
        refine lv_aload hx hb dX7_firstIn_27 (lv_at hl 0 rfl) ?_
        refine r_get hx hb hts i_X2 hown hT hP (inP hp_4) (fs := (fsP g k_5)) (obP hp_4) rfl 9 (by decide) q136 (fun _ h9 => h9) rfl dX7_firstIn_29 ?_
        refine lv_iload_n hx hb dX7_firstIn_32 rfl (lv_at hl 1 rfl) ?_
        refine lv_icmp_ne (tgt := 52) hx hb dX7_firstIn_33 (by decide) (fun c_6 => ?_) (fun c_6 => ?_)
        · have hf := (if_neg c_6).symm.trans hf
          refine lv_iinc (v := x5 + 1) (lv' := [(5, .int (x5 + 1)), (6, .ref (g.ad k_5)), (1, .int x1), (2, va_rf (x2.map g.ad)), (3, .ref (g.ad 97)), (4, .int x4)]) hx hb dX7_firstIn_52 hl (k := 5) rfl rfl (by decide) rfl (fun ls hl => ?_)
          refine lv_goto (tgt := 14) hx hb dX7_firstIn_55 (by decide) ?_
          exact ih μ x1 x2 x4 (x5 + 1) _ _ _ hP hS (lv_sub hl [2, 3, 4, 5, 0] rfl)  hf
        · have hf := (if_pos c_6).symm.trans hf
          cases x2 with
          | none =>
            have hl : lv_has ls 7 [(6, .ref (g.ad k_5)), (1, .int x1), (2, .null), (3, .ref (g.ad 97)), (4, .int x4), (5, .int x5)] := hl
            dsimp only [csQ] at hf
            refine lv_aload_nN hx hb dX7_firstIn_36 rfl (lv_at hl 2 rfl) ?_
            refine lv_ifnullN (tgt := 49) hx hb dX7_firstIn_37 (by decide) ?_
            refine lv_aload hx hb dX7_firstIn_49 (lv_at hl 0 rfl) ?_
            refine lv_astore_n (lv' := [(2, .ref (g.ad k_5)), (6, .ref (g.ad k_5)), (1, .int x1), (3, .ref (g.ad 97)), (4, .int x4), (5, .int x5)]) hx hb dX7_firstIn_51 rfl hl (by decide) rfl (fun ls hl => ?_)
            refine lv_iinc (v := x5 + 1) (lv' := [(5, .int (x5 + 1)), (2, .ref (g.ad k_5)), (6, .ref (g.ad k_5)), (1, .int x1), (3, .ref (g.ad 97)), (4, .int x4)]) hx hb dX7_firstIn_52 hl (k := 5) rfl rfl (by decide) rfl (fun ls hl => ?_)
            refine lv_goto (tgt := 14) hx hb dX7_firstIn_55 (by decide) ?_
            exact ih μ x1 (some k_5) x4 (x5 + 1) _ _ _ hP hS (lv_sub hl [3, 1, 4, 5, 0] rfl)  hf
          | some o_7 =>
            have hl : lv_has ls 7 [(6, .ref (g.ad k_5)), (1, .int x1), (2, .ref (g.ad o_7)), (3, .ref (g.ad 97)), (4, .int x4), (5, .int x5)] := hl
            dsimp only [csQ] at hf
            obtain ⟨ho_7, hf⟩ := grd_some hf
            refine lv_aload_n hx hb dX7_firstIn_36 rfl (lv_at hl 2 rfl) ?_
            refine lv_ifnull hx hb dX7_firstIn_37 ?_
            refine lv_aload hx hb dX7_firstIn_40 (lv_at hl 0 rfl) ?_
            refine lv_aload_n hx hb dX7_firstIn_42 rfl (lv_at hl 2 rfl) ?_
            obtain ⟨r_8, hc_9, hf⟩ := bnO_some hf
            refine va_calli (va_runV (As := [.ref (g.ad o_7)]) (rest := []) ⟨hx, hb, hml, hown, hts⟩ (c_X2_standsBefore l hg μ k_5 o_7 hp_4 ho_7 hc_9) (cwV 1 hts (gd_V q450 q451 q452 q42 q453) rfl rfl rfl hd_X2_standsBefore ⟨Nat.le_of_ble_eq_true rfl, Nat.le_of_ble_eq_true rfl⟩) ⟨Pz.blind, r_recv hT hP (inP hp_4) (fs := (fsP g k_5)) (obP hp_4) rfl, fun U hU hW => ⟨rfl, Tb.warm hW hT, by rw [hU]; exact hP⟩⟩ rfl rfl hl.1 rfl (lv_room (Nat.le_of_ble_eq_true rfl)) dX7_firstIn_43 ⟨Nat.le_of_ble_eq_true rfl, Nat.le_of_ble_eq_true rfl⟩) hS (fun q _ h => h.elim) (fun q h => h.elim) (fun v9 u9 t9 H locs ht9 hvm9 hw9 hB9 hz9 hk9 hS => ?_)
            have hP := Rg.keep hP (fun q h => hk9 q h id)
            rw [hw9]
            refine lv_if_eq (tgt := 52) hx hb dX7_firstIn_46 (by decide) (fun c_10 => ?_) (fun c_10 => ?_)
            · have hf := (if_pos c_10).symm.trans hf
              refine lv_iinc (v := x5 + 1) (lv' := [(5, .int (x5 + 1)), (6, .ref (g.ad k_5)), (1, .int x1), (2, .ref (g.ad o_7)), (3, .ref (g.ad 97)), (4, .int x4)]) hx hb dX7_firstIn_52 hl (k := 5) rfl rfl (by decide) rfl (fun ls hl => ?_)
              refine lv_goto (tgt := 14) hx hb dX7_firstIn_55 (by decide) ?_
              exact ih μ x1 (some o_7) x4 (x5 + 1) _ _ _ hP hS (lv_sub hl [2, 3, 4, 5, 0] rfl)  hf
            · have hf := (if_neg c_10).symm.trans hf
              refine lv_aload hx hb dX7_firstIn_49 (lv_at hl 0 rfl) ?_
              refine lv_astore_n (lv' := [(2, .ref (g.ad k_5)), (6, .ref (g.ad k_5)), (1, .int x1), (3, .ref (g.ad 97)), (4, .int x4), (5, .int x5)]) hx hb dX7_firstIn_51 rfl hl (by decide) rfl (fun ls hl => ?_)
              refine lv_iinc (v := x5 + 1) (lv' := [(5, .int (x5 + 1)), (2, .ref (g.ad k_5)), (6, .ref (g.ad k_5)), (1, .int x1), (3, .ref (g.ad 97)), (4, .int x4)]) hx hb dX7_firstIn_52 hl (k := 5) rfl rfl (by decide) rfl (fun ls hl => ?_)
              refine lv_goto (tgt := 14) hx hb dX7_firstIn_55 (by decide) ?_
              exact ih μ x1 (some k_5) x4 (x5 + 1) _ _ _ hP hS (lv_sub hl [3, 1, 4, 5, 0] rfl)  hf
  have hl := lv_entry ([.ref (g.ad 0), .int row]) (n := 7) (Nat.le_of_ble_eq_true rfl)
  rw [lg_entry_eq]
  generalize (lg_sl ([.ref (g.ad 0), .int row]) ++ List.replicate (7 - (lg_sl ([.ref (g.ad 0), .int row])).length) Slot.unset).toArray = ls at hl ⊢
  have hl : lv_has ls 7 [(0, .ref (g.ad 0)), (1, .int row)] := hl
  unfold f_X7_firstIn at hf
  refine lv_null hx hb dX7_firstIn_0 ?_
  refine lv_astore_nN (lv' := [(2, .null), (0, .ref (g.ad 0)), (1, .int row)]) hx hb dX7_firstIn_1 rfl hl (by decide) rfl (fun ls hl => ?_)
  refine lv_aload_n hx hb dX7_firstIn_2 rfl (lv_at hl 1 rfl) ?_
  refine r_get hx hb hts i_X7 hown hT hP inW (fs := (fsW g)) (obW g) rfl 4 (by decide) q194 (fun _ h9 => h9) rfl dX7_firstIn_3 ?_
  refine lv_astore_n (lv' := [(3, .ref (g.ad 97)), (2, .null), (0, .ref (g.ad 0)), (1, .int row)]) hx hb dX7_firstIn_6 rfl hl (by decide) rfl (fun ls hl => ?_)
  refine lv_aload_n hx hb dX7_firstIn_7 rfl (lv_at hl 0 rfl) ?_
  refine r_alenP hx hb hT hP dX7_firstIn_8 ?_
  refine lv_istore (lv' := [(4, .int 24), (3, .ref (g.ad 97)), (2, .null), (0, .ref (g.ad 0)), (1, .int row)]) hx hb dX7_firstIn_9 hl (by decide) rfl (fun ls hl => ?_)
  refine lv_iconst (v := 0) hx hb dX7_firstIn_11 (by decide) ?_
  refine lv_istore (lv' := [(5, .int 0), (4, .int 24), (3, .ref (g.ad 97)), (2, .null), (0, .ref (g.ad 0)), (1, .int row)]) hx hb dX7_firstIn_12 hl (by decide) rfl (fun ls hl => ?_)
  exact L14 fu μ row none 24 0 _ _ _ hP hS (lv_sub hl [5, 3, 2, 1, 0] rfl)  hf
