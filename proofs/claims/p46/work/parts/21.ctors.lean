/-! constructors -/
/-- "Sandglass$Resource" "<init>" "(III)V" -/
theorem hd_X3_init : yX3_init.cls = RX3 ∧ yX3_init.cls ≠ "java/lang/invoke/MethodHandle" ∧ yX3_init.cls ≠ "java/lang/invoke/VarHandle" ∧ (parseMethodDescriptor yX3_init.desc).map (fun d => d.parameters.length) = some 3 := by decide +kernel
set_option maxHeartbeats 4000000 in
set_option maxRecDepth 100000 in
theorem x_X3_init (l : Launch) {D : va_G} {tys : List (ClassId × FieldType)} {z b : Nat} {k0 k2 : Nat} {c0 c2 : ClassId} (h0 : tys[k0]? = some (c0, .int)) (h2 : tys[k2]? = some (c2, .object "java/lang/Object")) (a : Nat) (x0 x1 x2 : Int32) (sz : Nat) : Met l yX3_init (ws_ yX3_init cX3_init 4 none) (rm_ 1 12 0 0) (Xe D tys z b c2 [.ref a, .int x0, .int x1, .int x2] (fun H9 => H9.size = sz) [(a, .inr (4, [.int 0, .int 0, .int 0, .int 0, .int 0, .int 0, .int 0]))]) (va_Qv (fun _ : Unit => True) (fun _ t => va_P D vwCl [(a, .inr (4, [.int x0, .int x1, .int x2, .int x2, .int 0, .int 0, .int 0]))] t.heap ∧ va_D (va_A [(a, .inr (4, [.int 0, .int 0, .int 0, .int 0, .int 0, .int 0, .int 0]))] sz) [(a, .inr (4, [.int x0, .int x1, .int x2, .int x2, .int 0, .int 0, .int 0]))]) (va_A [(a, .inr (4, [.int 0, .int 0, .int 0, .int 0, .int 0, .int 0, .int 0]))] sz)) 0 0 (va_A [(a, .inr (4, [.int 0, .int 0, .int 0, .int 0, .int 0, .int 0, .int 0]))] sz) := by
  refine Met.ofW (cc := cX3_init) (maxL := 4) (ret := none) (by decide) rfl ?_
  intro p e9 s m args below meth c s₁ B hml hv
  obtain ⟨rfl, ⟨hT, hE⟩, hsz, hP, hD0⟩ := hv
  have hx := B.exec
  have hb := B.bytes
  have hr := B.returns
  have hts : ∀ w ∈ lw_all, w.before _ s = true := fun w h => atoms_spec (ws := (ws_ yX3_init cX3_init 4 none)) B.pre w (List.mem_cons_of_mem _ h)
  have hown : s.vm.findClass RX3 = some m.cls := findClass_of_methodNamed B.named
  have hlocks := B.notSynchronized
  have hin9 : meth.name = "<init>" := (name_of_methodNamed B.named B.method).1
  subst hsz
  have hD := hD0.self (sz := s.heap.size)
  have hAb : ∀ q, va_A [(a, .inr (4, [.int 0, .int 0, .int 0, .int 0, .int 0, .int 0, .int 0]))] s.heap.size q → b ≤ q := fun q h => h.elim (fun ⟨k, e, h⟩ => hD0.2 k _ h) (fun h => Nat.le_trans hE.2.2.1 h)
  generalize hAe : va_A [(a, .inr (4, [.int 0, .int 0, .int 0, .int 0, .int 0, .int 0, .int 0]))] s.heap.size = A at hD hAb ⊢
  have hA : ∀ q : Nat, s.heap.size ≤ q → A q := fun q h => by rw [← hAe]; exact Or.inr h
  have hS : va_S A s.heap s.heap [] := va_S.rf
  have hZ := hE.1.narrow hAb
  have hE0 := fun (H9 : Heap) (l9 : List Loc) (h9 : va_S A s.heap H9 l9) => Em.row hE h9 hAb
  obtain ⟨H, hHe⟩ : ∃ H : Heap, H = s.heap := ⟨_, rfl⟩
  have hP : va_P D vwCl [(a, .inr (4, [.int 0, .int 0, .int 0, .int 0, .int 0, .int 0, .int 0]))] s.heap := hP
  have hl := lv_entry ([.ref a, .int x0, .int x1, .int x2]) (n := 4) (Nat.le_of_ble_eq_true rfl)
  rw [lg_entry_eq]
  generalize (lg_sl ([.ref a, .int x0, .int x1, .int x2]) ++ List.replicate (4 - (lg_sl ([.ref a, .int x0, .int x1, .int x2])).length) Slot.unset).toArray = ls at hl ⊢
  have hl : lv_has ls 4 [(0, .ref a), (1, .int x0), (2, .int x1), (3, .int x2)] := hl
  clear hHe H
  refine lv_aload_n hx hb dX3_init_0 rfl (lv_at hl 0 rfl) ?_
  refine W.objInit hx hb hown (hts _ q946) (hts _ q68) (hts _ q69) rfl (by rw [hml]; exact hl.1) rfl dX3_init_1 (Nat.le_of_ble_eq_true rfl) (Nat.le_of_ble_eq_true rfl) ?_
  refine W.eq (g2 := F0 m 4 ls []) rfl ?_
  refine lv_aload_n hx hb dX3_init_4 rfl (lv_at hl 0 rfl) ?_
  refine lv_iload_n hx hb dX3_init_5 rfl (lv_at hl 1 rfl) ?_
  refine va_putF (D := D) (ci := 4) (v := .int x0) (ty := .int) hx hb hts i_X3 tyX3 tyX3_ok nmX3 hown hT.1 hP hD hS 0 rfl rfl 0 (by decide) (hts _ q947) (fun _ h9 => h9) rfl hin9 rfl (by decide +kernel) rfl rfl (Nat.le_of_ble_eq_true rfl) dX3_init_6 (fun H locs hP hD hS => ?_)
  have hP : va_P D vwCl [(a, .inr (4, [.int x0, .int 0, .int 0, .int 0, .int 0, .int 0, .int 0]))] H := hP
  have hD : va_D A [(a, .inr (4, [.int x0, .int 0, .int 0, .int 0, .int 0, .int 0, .int 0]))] := hD
  refine lv_aload_n hx hb dX3_init_9 rfl (lv_at hl 0 rfl) ?_
  refine lv_iload_n hx hb dX3_init_10 rfl (lv_at hl 2 rfl) ?_
  refine va_putF (D := D) (ci := 4) (v := .int x1) (ty := .int) hx hb hts i_X3 tyX3 tyX3_ok nmX3 hown hT.1 hP hD hS 0 rfl rfl 1 (by decide) (hts _ q950) (fun _ h9 => h9) rfl hin9 rfl (by decide +kernel) rfl rfl (Nat.le_of_ble_eq_true rfl) dX3_init_11 (fun H locs hP hD hS => ?_)
  have hP : va_P D vwCl [(a, .inr (4, [.int x0, .int x1, .int 0, .int 0, .int 0, .int 0, .int 0]))] H := hP
  have hD : va_D A [(a, .inr (4, [.int x0, .int x1, .int 0, .int 0, .int 0, .int 0, .int 0]))] := hD
  refine lv_aload_n hx hb dX3_init_14 rfl (lv_at hl 0 rfl) ?_
  refine lv_iload_n hx hb dX3_init_15 rfl (lv_at hl 3 rfl) ?_
  refine va_putF (D := D) (ci := 4) (v := .int x2) (ty := .int) hx hb hts i_X3 tyX3 tyX3_ok nmX3 hown hT.1 hP hD hS 0 rfl rfl 2 (by decide) (hts _ q952) (fun _ h9 => h9) rfl hin9 rfl (by decide +kernel) rfl rfl (Nat.le_of_ble_eq_true rfl) dX3_init_16 (fun H locs hP hD hS => ?_)
  have hP : va_P D vwCl [(a, .inr (4, [.int x0, .int x1, .int x2, .int 0, .int 0, .int 0, .int 0]))] H := hP
  have hD : va_D A [(a, .inr (4, [.int x0, .int x1, .int x2, .int 0, .int 0, .int 0, .int 0]))] := hD
  refine lv_aload_n hx hb dX3_init_19 rfl (lv_at hl 0 rfl) ?_
  refine lv_iload_n hx hb dX3_init_20 rfl (lv_at hl 3 rfl) ?_
  refine va_put (D := D) (ci := 4) (v := .int x2) (ty := .int) hx hb hts i_X3 tyX3 tyX3_ok nmX3 hown hT.1 hP hD hS 0 rfl rfl 3 (by decide) (hts _ q954) (fun _ h9 => h9) rfl (by decide +kernel) rfl rfl (Nat.le_of_ble_eq_true rfl) dX3_init_21 (fun H locs hP hD hS => ?_)
  have hP : va_P D vwCl [(a, .inr (4, [.int x0, .int x1, .int x2, .int x2, .int 0, .int 0, .int 0]))] H := hP
  have hD : va_D A [(a, .inr (4, [.int x0, .int x1, .int x2, .int x2, .int 0, .int 0, .int 0]))] := hD
  have hP9 := hP.sub (ws' := [(a, .inr (4, [.int x0, .int x1, .int x2, .int x2, .int 0, .int 0, .int 0]))]) [0] rfl
  have hD9 := hD.sub (ws' := [(a, .inr (4, [.int x0, .int x1, .int x2, .int x2, .int 0, .int 0, .int 0]))]) [0] (by decide) rfl
  exact W.vret hx hb hr (fun t9 ht hW => ⟨⟨(), rfl, trivial, by rw [ht]; exact hP9, hD9⟩, hS.F ht⟩) hS.2.2 dX3_init_24
/-- "Sandglass$Store" "<init>" "(III)V" -/
theorem hd_X5_init : yX5_init.cls = RX5 ∧ yX5_init.cls ≠ "java/lang/invoke/MethodHandle" ∧ yX5_init.cls ≠ "java/lang/invoke/VarHandle" ∧ (parseMethodDescriptor yX5_init.desc).map (fun d => d.parameters.length) = some 3 := by decide +kernel
set_option maxHeartbeats 4000000 in
set_option maxRecDepth 100000 in
theorem x_X5_init (l : Launch) {D : va_G} {tys : List (ClassId × FieldType)} {z b : Nat} {k0 k2 : Nat} {c0 c2 : ClassId} (h0 : tys[k0]? = some (c0, .int)) (h2 : tys[k2]? = some (c2, .object "java/lang/Object")) (a : Nat) (x0 x1 x2 : Int32) (sz : Nat) : Met l yX5_init (ws_ yX5_init cX5_init 4 none) (rm_ 1 12 0 0) (Xe D tys z b c2 [.ref a, .int x0, .int x1, .int x2] (fun H9 => H9.size = sz) [(a, .inr (6, [.int 0, .int 0, .int 0, .int 0]))]) (va_Qv (fun _ : Unit => True) (fun _ t => va_P D vwCl [(a, .inr (6, [.int x0, .int x1, .int x2, .int 0]))] t.heap ∧ va_D (va_A [(a, .inr (6, [.int 0, .int 0, .int 0, .int 0]))] sz) [(a, .inr (6, [.int x0, .int x1, .int x2, .int 0]))]) (va_A [(a, .inr (6, [.int 0, .int 0, .int 0, .int 0]))] sz)) 0 0 (va_A [(a, .inr (6, [.int 0, .int 0, .int 0, .int 0]))] sz) := by
  refine Met.ofW (cc := cX5_init) (maxL := 4) (ret := none) (by decide) rfl ?_
  intro p e9 s m args below meth c s₁ B hml hv
  obtain ⟨rfl, ⟨hT, hE⟩, hsz, hP, hD0⟩ := hv
  have hx := B.exec
  have hb := B.bytes
  have hr := B.returns
  have hts : ∀ w ∈ lw_all, w.before _ s = true := fun w h => atoms_spec (ws := (ws_ yX5_init cX5_init 4 none)) B.pre w (List.mem_cons_of_mem _ h)
  have hown : s.vm.findClass RX5 = some m.cls := findClass_of_methodNamed B.named
  have hlocks := B.notSynchronized
  have hin9 : meth.name = "<init>" := (name_of_methodNamed B.named B.method).1
  subst hsz
  have hD := hD0.self (sz := s.heap.size)
  have hAb : ∀ q, va_A [(a, .inr (6, [.int 0, .int 0, .int 0, .int 0]))] s.heap.size q → b ≤ q := fun q h => h.elim (fun ⟨k, e, h⟩ => hD0.2 k _ h) (fun h => Nat.le_trans hE.2.2.1 h)
  generalize hAe : va_A [(a, .inr (6, [.int 0, .int 0, .int 0, .int 0]))] s.heap.size = A at hD hAb ⊢
  have hA : ∀ q : Nat, s.heap.size ≤ q → A q := fun q h => by rw [← hAe]; exact Or.inr h
  have hS : va_S A s.heap s.heap [] := va_S.rf
  have hZ := hE.1.narrow hAb
  have hE0 := fun (H9 : Heap) (l9 : List Loc) (h9 : va_S A s.heap H9 l9) => Em.row hE h9 hAb
  obtain ⟨H, hHe⟩ : ∃ H : Heap, H = s.heap := ⟨_, rfl⟩
  have hP : va_P D vwCl [(a, .inr (6, [.int 0, .int 0, .int 0, .int 0]))] s.heap := hP
  have hl := lv_entry ([.ref a, .int x0, .int x1, .int x2]) (n := 4) (Nat.le_of_ble_eq_true rfl)
  rw [lg_entry_eq]
  generalize (lg_sl ([.ref a, .int x0, .int x1, .int x2]) ++ List.replicate (4 - (lg_sl ([.ref a, .int x0, .int x1, .int x2])).length) Slot.unset).toArray = ls at hl ⊢
  have hl : lv_has ls 4 [(0, .ref a), (1, .int x0), (2, .int x1), (3, .int x2)] := hl
  clear hHe H
  refine lv_aload_n hx hb dX5_init_0 rfl (lv_at hl 0 rfl) ?_
  refine W.objInit hx hb hown (hts _ q993) (hts _ q68) (hts _ q69) rfl (by rw [hml]; exact hl.1) rfl dX5_init_1 (Nat.le_of_ble_eq_true rfl) (Nat.le_of_ble_eq_true rfl) ?_
  refine W.eq (g2 := F0 m 4 ls []) rfl ?_
  refine lv_aload_n hx hb dX5_init_4 rfl (lv_at hl 0 rfl) ?_
  refine lv_iload_n hx hb dX5_init_5 rfl (lv_at hl 1 rfl) ?_
  refine va_putF (D := D) (ci := 6) (v := .int x0) (ty := .int) hx hb hts i_X5 tyX5 tyX5_ok nmX5 hown hT.1 hP hD hS 0 rfl rfl 0 (by decide) (hts _ q994) (fun _ h9 => h9) rfl hin9 rfl (by decide +kernel) rfl rfl (Nat.le_of_ble_eq_true rfl) dX5_init_6 (fun H locs hP hD hS => ?_)
  have hP : va_P D vwCl [(a, .inr (6, [.int x0, .int 0, .int 0, .int 0]))] H := hP
  have hD : va_D A [(a, .inr (6, [.int x0, .int 0, .int 0, .int 0]))] := hD
  refine lv_aload_n hx hb dX5_init_9 rfl (lv_at hl 0 rfl) ?_
  refine lv_iload_n hx hb dX5_init_10 rfl (lv_at hl 2 rfl) ?_
  refine va_putF (D := D) (ci := 6) (v := .int x1) (ty := .int) hx hb hts i_X5 tyX5 tyX5_ok nmX5 hown hT.1 hP hD hS 0 rfl rfl 1 (by decide) (hts _ q995) (fun _ h9 => h9) rfl hin9 rfl (by decide +kernel) rfl rfl (Nat.le_of_ble_eq_true rfl) dX5_init_11 (fun H locs hP hD hS => ?_)
  have hP : va_P D vwCl [(a, .inr (6, [.int x0, .int x1, .int 0, .int 0]))] H := hP
  have hD : va_D A [(a, .inr (6, [.int x0, .int x1, .int 0, .int 0]))] := hD
  refine lv_aload_n hx hb dX5_init_14 rfl (lv_at hl 0 rfl) ?_
  refine lv_iload_n hx hb dX5_init_15 rfl (lv_at hl 3 rfl) ?_
  refine va_put (D := D) (ci := 6) (v := .int x2) (ty := .int) hx hb hts i_X5 tyX5 tyX5_ok nmX5 hown hT.1 hP hD hS 0 rfl rfl 2 (by decide) (hts _ q997) (fun _ h9 => h9) rfl (by decide +kernel) rfl rfl (Nat.le_of_ble_eq_true rfl) dX5_init_16 (fun H locs hP hD hS => ?_)
  have hP : va_P D vwCl [(a, .inr (6, [.int x0, .int x1, .int x2, .int 0]))] H := hP
  have hD : va_D A [(a, .inr (6, [.int x0, .int x1, .int x2, .int 0]))] := hD
  have hP9 := hP.sub (ws' := [(a, .inr (6, [.int x0, .int x1, .int x2, .int 0]))]) [0] rfl
  have hD9 := hD.sub (ws' := [(a, .inr (6, [.int x0, .int x1, .int x2, .int 0]))]) [0] (by decide) rfl
  exact W.vret hx hb hr (fun t9 ht hW => ⟨⟨(), rfl, trivial, by rw [ht]; exact hP9, hD9⟩, hS.F ht⟩) hS.2.2 dX5_init_19
/-- "Sandglass$Instruction" "<init>" "(IIII)V" -/
theorem hd_X1_init : yX1_init.cls = RX1 ∧ yX1_init.cls ≠ "java/lang/invoke/MethodHandle" ∧ yX1_init.cls ≠ "java/lang/invoke/VarHandle" ∧ (parseMethodDescriptor yX1_init.desc).map (fun d => d.parameters.length) = some 4 := by decide +kernel
set_option maxHeartbeats 4000000 in
set_option maxRecDepth 100000 in
theorem x_X1_init (l : Launch) {D : va_G} {tys : List (ClassId × FieldType)} {z b : Nat} {k0 k2 : Nat} {c0 c2 : ClassId} (h0 : tys[k0]? = some (c0, .int)) (h2 : tys[k2]? = some (c2, .object "java/lang/Object")) (a : Nat) (x0 x1 x2 x3 : Int32) (sz : Nat) : Met l yX1_init (ws_ yX1_init cX1_init 5 none) (rm_ 1 12 0 0) (Xe D tys z b c2 [.ref a, .int x0, .int x1, .int x2, .int x3] (fun H9 => H9.size = sz) [(a, .inr (2, [.int 0, .int 0, .int 0, .int 0]))]) (va_Qv (fun _ : Unit => True) (fun _ t => va_P D vwCl [(a, .inr (2, [.int x0, .int x1, .int x2, .int x3]))] t.heap ∧ va_D (va_A [(a, .inr (2, [.int 0, .int 0, .int 0, .int 0]))] sz) [(a, .inr (2, [.int x0, .int x1, .int x2, .int x3]))]) (va_A [(a, .inr (2, [.int 0, .int 0, .int 0, .int 0]))] sz)) 0 0 (va_A [(a, .inr (2, [.int 0, .int 0, .int 0, .int 0]))] sz) := by
  refine Met.ofW (cc := cX1_init) (maxL := 5) (ret := none) (by decide) rfl ?_
  intro p e9 s m args below meth c s₁ B hml hv
  obtain ⟨rfl, ⟨hT, hE⟩, hsz, hP, hD0⟩ := hv
  have hx := B.exec
  have hb := B.bytes
  have hr := B.returns
  have hts : ∀ w ∈ lw_all, w.before _ s = true := fun w h => atoms_spec (ws := (ws_ yX1_init cX1_init 5 none)) B.pre w (List.mem_cons_of_mem _ h)
  have hown : s.vm.findClass RX1 = some m.cls := findClass_of_methodNamed B.named
  have hlocks := B.notSynchronized
  have hin9 : meth.name = "<init>" := (name_of_methodNamed B.named B.method).1
  subst hsz
  have hD := hD0.self (sz := s.heap.size)
  have hAb : ∀ q, va_A [(a, .inr (2, [.int 0, .int 0, .int 0, .int 0]))] s.heap.size q → b ≤ q := fun q h => h.elim (fun ⟨k, e, h⟩ => hD0.2 k _ h) (fun h => Nat.le_trans hE.2.2.1 h)
  generalize hAe : va_A [(a, .inr (2, [.int 0, .int 0, .int 0, .int 0]))] s.heap.size = A at hD hAb ⊢
  have hA : ∀ q : Nat, s.heap.size ≤ q → A q := fun q h => by rw [← hAe]; exact Or.inr h
  have hS : va_S A s.heap s.heap [] := va_S.rf
  have hZ := hE.1.narrow hAb
  have hE0 := fun (H9 : Heap) (l9 : List Loc) (h9 : va_S A s.heap H9 l9) => Em.row hE h9 hAb
  obtain ⟨H, hHe⟩ : ∃ H : Heap, H = s.heap := ⟨_, rfl⟩
  have hP : va_P D vwCl [(a, .inr (2, [.int 0, .int 0, .int 0, .int 0]))] s.heap := hP
  have hl := lv_entry ([.ref a, .int x0, .int x1, .int x2, .int x3]) (n := 5) (Nat.le_of_ble_eq_true rfl)
  rw [lg_entry_eq]
  generalize (lg_sl ([.ref a, .int x0, .int x1, .int x2, .int x3]) ++ List.replicate (5 - (lg_sl ([.ref a, .int x0, .int x1, .int x2, .int x3])).length) Slot.unset).toArray = ls at hl ⊢
  have hl : lv_has ls 5 [(0, .ref a), (1, .int x0), (2, .int x1), (3, .int x2), (4, .int x3)] := hl
  clear hHe H
  refine lv_aload_n hx hb dX1_init_0 rfl (lv_at hl 0 rfl) ?_
  refine W.objInit hx hb hown (hts _ q1114) (hts _ q68) (hts _ q69) rfl (by rw [hml]; exact hl.1) rfl dX1_init_1 (Nat.le_of_ble_eq_true rfl) (Nat.le_of_ble_eq_true rfl) ?_
  refine W.eq (g2 := F0 m 4 ls []) rfl ?_
  refine lv_aload_n hx hb dX1_init_4 rfl (lv_at hl 0 rfl) ?_
  refine lv_iload_n hx hb dX1_init_5 rfl (lv_at hl 1 rfl) ?_
  refine va_putF (D := D) (ci := 2) (v := .int x0) (ty := .int) hx hb hts i_X1 tyX1 tyX1_ok nmX1 hown hT.1 hP hD hS 0 rfl rfl 0 (by decide) (hts _ q1115) (fun _ h9 => h9) rfl hin9 rfl (by decide +kernel) rfl rfl (Nat.le_of_ble_eq_true rfl) dX1_init_6 (fun H locs hP hD hS => ?_)
  have hP : va_P D vwCl [(a, .inr (2, [.int x0, .int 0, .int 0, .int 0]))] H := hP
  have hD : va_D A [(a, .inr (2, [.int x0, .int 0, .int 0, .int 0]))] := hD
  refine lv_aload_n hx hb dX1_init_9 rfl (lv_at hl 0 rfl) ?_
  refine lv_iload_n hx hb dX1_init_10 rfl (lv_at hl 2 rfl) ?_
  refine va_putF (D := D) (ci := 2) (v := .int x1) (ty := .int) hx hb hts i_X1 tyX1 tyX1_ok nmX1 hown hT.1 hP hD hS 0 rfl rfl 1 (by decide) (hts _ q1117) (fun _ h9 => h9) rfl hin9 rfl (by decide +kernel) rfl rfl (Nat.le_of_ble_eq_true rfl) dX1_init_11 (fun H locs hP hD hS => ?_)
  have hP : va_P D vwCl [(a, .inr (2, [.int x0, .int x1, .int 0, .int 0]))] H := hP
  have hD : va_D A [(a, .inr (2, [.int x0, .int x1, .int 0, .int 0]))] := hD
  refine lv_aload_n hx hb dX1_init_14 rfl (lv_at hl 0 rfl) ?_
  refine lv_iload_n hx hb dX1_init_15 rfl (lv_at hl 3 rfl) ?_
  refine va_putF (D := D) (ci := 2) (v := .int x2) (ty := .int) hx hb hts i_X1 tyX1 tyX1_ok nmX1 hown hT.1 hP hD hS 0 rfl rfl 2 (by decide) (hts _ q1119) (fun _ h9 => h9) rfl hin9 rfl (by decide +kernel) rfl rfl (Nat.le_of_ble_eq_true rfl) dX1_init_16 (fun H locs hP hD hS => ?_)
  have hP : va_P D vwCl [(a, .inr (2, [.int x0, .int x1, .int x2, .int 0]))] H := hP
  have hD : va_D A [(a, .inr (2, [.int x0, .int x1, .int x2, .int 0]))] := hD
  refine lv_aload_n hx hb dX1_init_19 rfl (lv_at hl 0 rfl) ?_
  refine lv_iload hx hb dX1_init_20 (lv_at hl 4 rfl) ?_
  refine va_putF (D := D) (ci := 2) (v := .int x3) (ty := .int) hx hb hts i_X1 tyX1 tyX1_ok nmX1 hown hT.1 hP hD hS 0 rfl rfl 3 (by decide) (hts _ q1121) (fun _ h9 => h9) rfl hin9 rfl (by decide +kernel) rfl rfl (Nat.le_of_ble_eq_true rfl) dX1_init_22 (fun H locs hP hD hS => ?_)
  have hP : va_P D vwCl [(a, .inr (2, [.int x0, .int x1, .int x2, .int x3]))] H := hP
  have hD : va_D A [(a, .inr (2, [.int x0, .int x1, .int x2, .int x3]))] := hD
  have hP9 := hP.sub (ws' := [(a, .inr (2, [.int x0, .int x1, .int x2, .int x3]))]) [0] rfl
  have hD9 := hD.sub (ws' := [(a, .inr (2, [.int x0, .int x1, .int x2, .int x3]))]) [0] (by decide) rfl
  exact W.vret hx hb hr (fun t9 ht hW => ⟨⟨(), rfl, trivial, by rw [ht]; exact hP9, hD9⟩, hS.F ht⟩) hS.2.2 dX1_init_25
/-- "Sandglass$Script" "<init>" "()V" -/
theorem hd_X4_init : yX4_init.cls = RX4 ∧ yX4_init.cls ≠ "java/lang/invoke/MethodHandle" ∧ yX4_init.cls ≠ "java/lang/invoke/VarHandle" ∧ (parseMethodDescriptor yX4_init.desc).map (fun d => d.parameters.length) = some 0 := by decide +kernel
set_option maxHeartbeats 4000000 in
set_option maxRecDepth 100000 in
theorem x_X4_init (l : Launch) {D : va_G} {tys : List (ClassId × FieldType)} {z b : Nat} {k0 k2 : Nat} {c0 c2 : ClassId} (h0 : tys[k0]? = some (c0, .int)) (h2 : tys[k2]? = some (c2, .object "java/lang/Object")) (a : Nat)  (sz : Nat) : Met l yX4_init (ws_ yX4_init cX4_init 1 none) (rm_ 4 72 1 3) (Xe D tys z b c2 [.ref a] (fun H9 => H9.size = sz) [(a, .inr (5, [.null, .int 0]))]) (va_Qv (fun _ : Unit => True) (fun _ t => ∃ (q1 : Nat), va_P D vwCl [(a, .inr (5, [.ref q1, .int (-1)])), (q1, .inr (0, [.int 0, .ref z, .int 0]))] t.heap ∧ va_D (va_A [(a, .inr (5, [.null, .int 0]))] sz) [(a, .inr (5, [.ref q1, .int (-1)])), (q1, .inr (0, [.int 0, .ref z, .int 0]))]) (va_A [(a, .inr (5, [.null, .int 0]))] sz)) 1 3 (va_A [(a, .inr (5, [.null, .int 0]))] sz) := by
  refine Met.ofW (cc := cX4_init) (maxL := 1) (ret := none) (by decide) rfl ?_
  intro p e9 s m args below meth c s₁ B hml hv
  obtain ⟨rfl, ⟨hT, hE⟩, hsz, hP, hD0⟩ := hv
  have hx := B.exec
  have hb := B.bytes
  have hr := B.returns
  have hts : ∀ w ∈ lw_all, w.before _ s = true := fun w h => atoms_spec (ws := (ws_ yX4_init cX4_init 1 none)) B.pre w (List.mem_cons_of_mem _ h)
  have hown : s.vm.findClass RX4 = some m.cls := findClass_of_methodNamed B.named
  have hlocks := B.notSynchronized
  have hin9 : meth.name = "<init>" := (name_of_methodNamed B.named B.method).1
  subst hsz
  have hD := hD0.self (sz := s.heap.size)
  have hAb : ∀ q, va_A [(a, .inr (5, [.null, .int 0]))] s.heap.size q → b ≤ q := fun q h => h.elim (fun ⟨k, e, h⟩ => hD0.2 k _ h) (fun h => Nat.le_trans hE.2.2.1 h)
  generalize hAe : va_A [(a, .inr (5, [.null, .int 0]))] s.heap.size = A at hD hAb ⊢
  have hA : ∀ q : Nat, s.heap.size ≤ q → A q := fun q h => by rw [← hAe]; exact Or.inr h
  have hS : va_S A s.heap s.heap [] := va_S.rf
  have hZ := hE.1.narrow hAb
  have hE0 := fun (H9 : Heap) (l9 : List Loc) (h9 : va_S A s.heap H9 l9) => Em.row hE h9 hAb
  obtain ⟨H, hHe⟩ : ∃ H : Heap, H = s.heap := ⟨_, rfl⟩
  have hP : va_P D vwCl [(a, .inr (5, [.null, .int 0]))] s.heap := hP
  have hl := lv_entry ([.ref a]) (n := 1) (Nat.le_of_ble_eq_true rfl)
  rw [lg_entry_eq]
  generalize (lg_sl ([.ref a]) ++ List.replicate (1 - (lg_sl ([.ref a])).length) Slot.unset).toArray = ls at hl ⊢
  have hl : lv_has ls 1 [(0, .ref a)] := hl
  clear hHe H
  refine lv_aload_n hx hb dX4_init_0 rfl (lv_at hl 0 rfl) ?_
  refine W.objInit hx hb hown (hts _ q1074) (hts _ q68) (hts _ q69) rfl (by rw [hml]; exact hl.1) rfl dX4_init_1 (Nat.le_of_ble_eq_true rfl) (Nat.le_of_ble_eq_true rfl) ?_
  refine W.eq (g2 := F0 m 4 ls []) rfl ?_
  refine lv_aload_n hx hb dX4_init_4 rfl (lv_at hl 0 rfl) ?_
  refine va_new (ci := 0) (fs := [.int 0, .null, .int 0]) (C := RJx4a65c) (T := TJx4a65c) (N := 3) hx hb hts i_Jx4a65c tyJx4a65c tyJx4a65c_ok hown (hts _ q1075) (hts _ q71) (hts _ q40) hT.1 hP hD hS hA rfl (fun j hj => by rcases (show j = 0 ∨ j = 1 ∨ j = 2 by omega) with rfl | rfl | rfl <;> rfl) (Nat.le_of_ble_eq_true rfl) (Nat.le_of_ble_eq_true rfl) dX4_init_5 (fun q1 H hP hD hS => ?_)
  have hP : va_P D vwCl [(a, .inr (5, [.null, .int 0])), (q1, .inr (0, [.int 0, .null, .int 0]))] H := hP
  have hD : va_D A [(a, .inr (5, [.null, .int 0])), (q1, .inr (0, [.int 0, .null, .int 0]))] := hD
  refine lv_dup hx hb dX4_init_8 rfl ?_
  have hPc := hP.sub (ws' := [(q1, .inr (0, [.int 0, .null, .int 0]))]) [1] rfl
  have hDc := hD.sub (ws' := [(q1, .inr (0, [.int 0, .null, .int 0]))]) [1] (by decide) rfl
  have hFc := va_free (wc := [(q1, .inr (0, [.int 0, .null, .int 0]))]) hD hS hA [1] rfl
  refine va_callv (va_runI (As := []) (rest := [.ref q1, .ref a]) ⟨hx, hb, hml, hown, hts⟩ (x_Jx4a65c_init_da8c8 l h0 h2 q1 H.size) (cwI 0 hts (gd_code q74) rfl rfl rfl (hts _ q40) (hts _ q1076) (hts _ q73) rfl hd_Jx4a65c_init_da8c8.2 ⟨Nat.le_of_ble_eq_true rfl, Nat.le_of_ble_eq_true rfl⟩) ⟨Xe.blind, fun U hU hW => ⟨rfl, Xe.warm hW hT hE hS hAb hU, by show U.heap.size = _; rw [hU], by rw [hU]; exact hPc, hDc.weaken (fun k q _ h => hAb _ h)⟩⟩ rfl rfl hl.1 rfl (lv_room (Nat.le_of_ble_eq_true rfl)) dX4_init_9 ⟨Nat.le_of_ble_eq_true rfl, Nat.le_of_ble_eq_true rfl⟩) hS (fun q _ h => hFc q h) hFc (fun u9 t9 H1 locs ht9 hvm9 hw9 hB9 hz9 hk9 hS => ?_)
  obtain ⟨hP1, hD1⟩ := hB9
  rw [ht9] at hP1
  obtain ⟨hP, hD⟩ := va_join (wr := [(a, .inr (5, [.null, .int 0]))]) (w1 := [(q1, .inr (0, [.int 0, .ref z, .int 0]))]) hP hD [1] [0] rfl rfl (by decide) (by decide) hk9 hFc hP1 hD1
  generalize H1 = H at hP hS ⊢
  have hP : va_P D vwCl [(a, .inr (5, [.null, .int 0])), (q1, .inr (0, [.int 0, .ref z, .int 0]))] H := hP
  have hD : va_D A [(a, .inr (5, [.null, .int 0])), (q1, .inr (0, [.int 0, .ref z, .int 0]))] := hD
  refine va_putF (D := D) (ci := 5) (v := .ref q1) (ty := (.object "java/util/ArrayList")) hx hb hts i_X4 tyX4 tyX4_ok nmX4 hown hT.1 hP hD hS 0 rfl rfl 0 (by decide) (hts _ q1077) (fun _ h9 => h9) rfl hin9 rfl (by decide +kernel) rfl rfl (Nat.le_of_ble_eq_true rfl) dX4_init_12 (fun H locs hP hD hS => ?_)
  have hP : va_P D vwCl [(a, .inr (5, [.ref q1, .int 0])), (q1, .inr (0, [.int 0, .ref z, .int 0]))] H := hP
  have hD : va_D A [(a, .inr (5, [.ref q1, .int 0])), (q1, .inr (0, [.int 0, .ref z, .int 0]))] := hD
  refine lv_aload_n hx hb dX4_init_15 rfl (lv_at hl 0 rfl) ?_
  refine lv_iconst (v := (-1)) hx hb dX4_init_16 (by decide) ?_
  refine va_put (D := D) (ci := 5) (v := .int (-1)) (ty := .int) hx hb hts i_X4 tyX4 tyX4_ok nmX4 hown hT.1 hP hD hS 0 rfl rfl 1 (by decide) (hts _ q1079) (fun _ h9 => h9) rfl (by decide +kernel) rfl rfl (Nat.le_of_ble_eq_true rfl) dX4_init_17 (fun H locs hP hD hS => ?_)
  have hP : va_P D vwCl [(a, .inr (5, [.ref q1, .int (-1)])), (q1, .inr (0, [.int 0, .ref z, .int 0]))] H := hP
  have hD : va_D A [(a, .inr (5, [.ref q1, .int (-1)])), (q1, .inr (0, [.int 0, .ref z, .int 0]))] := hD
  have hP9 := hP.sub (ws' := [(a, .inr (5, [.ref q1, .int (-1)])), (q1, .inr (0, [.int 0, .ref z, .int 0]))]) [0, 1] rfl
  have hD9 := hD.sub (ws' := [(a, .inr (5, [.ref q1, .int (-1)])), (q1, .inr (0, [.int 0, .ref z, .int 0]))]) [0, 1] (by decide) rfl
  exact W.vret hx hb hr (fun t9 ht hW => ⟨⟨(), rfl, trivial, q1, by rw [ht]; exact hP9, hD9⟩, hS.F ht⟩) hS.2.2 dX4_init_20
/-- "Sandglass$Tally" "<init>" "(I)V" -/
theorem hd_X6_init : yX6_init.cls = RX6 ∧ yX6_init.cls ≠ "java/lang/invoke/MethodHandle" ∧ yX6_init.cls ≠ "java/lang/invoke/VarHandle" ∧ (parseMethodDescriptor yX6_init.desc).map (fun d => d.parameters.length) = some 1 := by decide +kernel
set_option maxHeartbeats 4000000 in
set_option maxRecDepth 100000 in
theorem x_X6_init (l : Launch) {D : va_G} {tys : List (ClassId × FieldType)} {z b : Nat} {k0 k2 : Nat} {c0 c2 : ClassId} (h0 : tys[k0]? = some (c0, .int)) (h2 : tys[k2]? = some (c2, .object "java/lang/Object")) (a : Nat) (x0 : Int32) (sz : Nat) : Met l yX6_init (ws_ yX6_init cX6_init 2 none) (rm_ 4 72 1 3) (Xe D tys z b c2 [.ref a, .int x0] (fun H9 => H9.size = sz) [(a, .inr (7, [.int 0, .int 0, .int 0, .int 0, .int 0, .int 0, .int 0, .int 0, .int 0, .null]))]) (va_Qv (fun _ : Unit => True) (fun _ t => ∃ (q1 : Nat), va_P D vwCl [(a, .inr (7, [.int x0, .int 0, .int 0, .int 0, .int 0, .int 0, .int 0, .int 0, .int 0, .ref q1])), (q1, .inr (0, [.int 0, .ref z, .int 0]))] t.heap ∧ va_D (va_A [(a, .inr (7, [.int 0, .int 0, .int 0, .int 0, .int 0, .int 0, .int 0, .int 0, .int 0, .null]))] sz) [(a, .inr (7, [.int x0, .int 0, .int 0, .int 0, .int 0, .int 0, .int 0, .int 0, .int 0, .ref q1])), (q1, .inr (0, [.int 0, .ref z, .int 0]))]) (va_A [(a, .inr (7, [.int 0, .int 0, .int 0, .int 0, .int 0, .int 0, .int 0, .int 0, .int 0, .null]))] sz)) 1 3 (va_A [(a, .inr (7, [.int 0, .int 0, .int 0, .int 0, .int 0, .int 0, .int 0, .int 0, .int 0, .null]))] sz) := by
  refine Met.ofW (cc := cX6_init) (maxL := 2) (ret := none) (by decide) rfl ?_
  intro p e9 s m args below meth c s₁ B hml hv
  obtain ⟨rfl, ⟨hT, hE⟩, hsz, hP, hD0⟩ := hv
  have hx := B.exec
  have hb := B.bytes
  have hr := B.returns
  have hts : ∀ w ∈ lw_all, w.before _ s = true := fun w h => atoms_spec (ws := (ws_ yX6_init cX6_init 2 none)) B.pre w (List.mem_cons_of_mem _ h)
  have hown : s.vm.findClass RX6 = some m.cls := findClass_of_methodNamed B.named
  have hlocks := B.notSynchronized
  have hin9 : meth.name = "<init>" := (name_of_methodNamed B.named B.method).1
  subst hsz
  have hD := hD0.self (sz := s.heap.size)
  have hAb : ∀ q, va_A [(a, .inr (7, [.int 0, .int 0, .int 0, .int 0, .int 0, .int 0, .int 0, .int 0, .int 0, .null]))] s.heap.size q → b ≤ q := fun q h => h.elim (fun ⟨k, e, h⟩ => hD0.2 k _ h) (fun h => Nat.le_trans hE.2.2.1 h)
  generalize hAe : va_A [(a, .inr (7, [.int 0, .int 0, .int 0, .int 0, .int 0, .int 0, .int 0, .int 0, .int 0, .null]))] s.heap.size = A at hD hAb ⊢
  have hA : ∀ q : Nat, s.heap.size ≤ q → A q := fun q h => by rw [← hAe]; exact Or.inr h
  have hS : va_S A s.heap s.heap [] := va_S.rf
  have hZ := hE.1.narrow hAb
  have hE0 := fun (H9 : Heap) (l9 : List Loc) (h9 : va_S A s.heap H9 l9) => Em.row hE h9 hAb
  obtain ⟨H, hHe⟩ : ∃ H : Heap, H = s.heap := ⟨_, rfl⟩
  have hP : va_P D vwCl [(a, .inr (7, [.int 0, .int 0, .int 0, .int 0, .int 0, .int 0, .int 0, .int 0, .int 0, .null]))] s.heap := hP
  have hl := lv_entry ([.ref a, .int x0]) (n := 2) (Nat.le_of_ble_eq_true rfl)
  rw [lg_entry_eq]
  generalize (lg_sl ([.ref a, .int x0]) ++ List.replicate (2 - (lg_sl ([.ref a, .int x0])).length) Slot.unset).toArray = ls at hl ⊢
  have hl : lv_has ls 2 [(0, .ref a), (1, .int x0)] := hl
  clear hHe H
  refine lv_aload_n hx hb dX6_init_0 rfl (lv_at hl 0 rfl) ?_
  refine W.objInit hx hb hown (hts _ q1022) (hts _ q68) (hts _ q69) rfl (by rw [hml]; exact hl.1) rfl dX6_init_1 (Nat.le_of_ble_eq_true rfl) (Nat.le_of_ble_eq_true rfl) ?_
  refine W.eq (g2 := F0 m 4 ls []) rfl ?_
  refine lv_aload_n hx hb dX6_init_4 rfl (lv_at hl 0 rfl) ?_
  refine va_new (ci := 0) (fs := [.int 0, .null, .int 0]) (C := RJx4a65c) (T := TJx4a65c) (N := 3) hx hb hts i_Jx4a65c tyJx4a65c tyJx4a65c_ok hown (hts _ q1023) (hts _ q71) (hts _ q40) hT.1 hP hD hS hA rfl (fun j hj => by rcases (show j = 0 ∨ j = 1 ∨ j = 2 by omega) with rfl | rfl | rfl <;> rfl) (Nat.le_of_ble_eq_true rfl) (Nat.le_of_ble_eq_true rfl) dX6_init_5 (fun q1 H hP hD hS => ?_)
  have hP : va_P D vwCl [(a, .inr (7, [.int 0, .int 0, .int 0, .int 0, .int 0, .int 0, .int 0, .int 0, .int 0, .null])), (q1, .inr (0, [.int 0, .null, .int 0]))] H := hP
  have hD : va_D A [(a, .inr (7, [.int 0, .int 0, .int 0, .int 0, .int 0, .int 0, .int 0, .int 0, .int 0, .null])), (q1, .inr (0, [.int 0, .null, .int 0]))] := hD
  refine lv_dup hx hb dX6_init_8 rfl ?_
  have hPc := hP.sub (ws' := [(q1, .inr (0, [.int 0, .null, .int 0]))]) [1] rfl
  have hDc := hD.sub (ws' := [(q1, .inr (0, [.int 0, .null, .int 0]))]) [1] (by decide) rfl
  have hFc := va_free (wc := [(q1, .inr (0, [.int 0, .null, .int 0]))]) hD hS hA [1] rfl
  refine va_callv (va_runI (As := []) (rest := [.ref q1, .ref a]) ⟨hx, hb, hml, hown, hts⟩ (x_Jx4a65c_init_da8c8 l h0 h2 q1 H.size) (cwI 0 hts (gd_code q74) rfl rfl rfl (hts _ q40) (hts _ q1024) (hts _ q73) rfl hd_Jx4a65c_init_da8c8.2 ⟨Nat.le_of_ble_eq_true rfl, Nat.le_of_ble_eq_true rfl⟩) ⟨Xe.blind, fun U hU hW => ⟨rfl, Xe.warm hW hT hE hS hAb hU, by show U.heap.size = _; rw [hU], by rw [hU]; exact hPc, hDc.weaken (fun k q _ h => hAb _ h)⟩⟩ rfl rfl hl.1 rfl (lv_room (Nat.le_of_ble_eq_true rfl)) dX6_init_9 ⟨Nat.le_of_ble_eq_true rfl, Nat.le_of_ble_eq_true rfl⟩) hS (fun q _ h => hFc q h) hFc (fun u9 t9 H1 locs ht9 hvm9 hw9 hB9 hz9 hk9 hS => ?_)
  obtain ⟨hP1, hD1⟩ := hB9
  rw [ht9] at hP1
  obtain ⟨hP, hD⟩ := va_join (wr := [(a, .inr (7, [.int 0, .int 0, .int 0, .int 0, .int 0, .int 0, .int 0, .int 0, .int 0, .null]))]) (w1 := [(q1, .inr (0, [.int 0, .ref z, .int 0]))]) hP hD [1] [0] rfl rfl (by decide) (by decide) hk9 hFc hP1 hD1
  generalize H1 = H at hP hS ⊢
  have hP : va_P D vwCl [(a, .inr (7, [.int 0, .int 0, .int 0, .int 0, .int 0, .int 0, .int 0, .int 0, .int 0, .null])), (q1, .inr (0, [.int 0, .ref z, .int 0]))] H := hP
  have hD : va_D A [(a, .inr (7, [.int 0, .int 0, .int 0, .int 0, .int 0, .int 0, .int 0, .int 0, .int 0, .null])), (q1, .inr (0, [.int 0, .ref z, .int 0]))] := hD
  refine va_putF (D := D) (ci := 7) (v := .ref q1) (ty := (.object "java/util/ArrayList")) hx hb hts i_X6 tyX6 tyX6_ok nmX6 hown hT.1 hP hD hS 0 rfl rfl 9 (by decide) (hts _ q1040) (fun _ h9 => h9) rfl hin9 rfl (by decide +kernel) rfl rfl (Nat.le_of_ble_eq_true rfl) dX6_init_12 (fun H locs hP hD hS => ?_)
  have hP : va_P D vwCl [(a, .inr (7, [.int 0, .int 0, .int 0, .int 0, .int 0, .int 0, .int 0, .int 0, .int 0, .ref q1])), (q1, .inr (0, [.int 0, .ref z, .int 0]))] H := hP
  have hD : va_D A [(a, .inr (7, [.int 0, .int 0, .int 0, .int 0, .int 0, .int 0, .int 0, .int 0, .int 0, .ref q1])), (q1, .inr (0, [.int 0, .ref z, .int 0]))] := hD
  refine lv_aload_n hx hb dX6_init_15 rfl (lv_at hl 0 rfl) ?_
  refine lv_iload_n hx hb dX6_init_16 rfl (lv_at hl 1 rfl) ?_
  refine va_putF (D := D) (ci := 7) (v := .int x0) (ty := .int) hx hb hts i_X6 tyX6 tyX6_ok nmX6 hown hT.1 hP hD hS 0 rfl rfl 0 (by decide) (hts _ q1025) (fun _ h9 => h9) rfl hin9 rfl (by decide +kernel) rfl rfl (Nat.le_of_ble_eq_true rfl) dX6_init_17 (fun H locs hP hD hS => ?_)
  have hP : va_P D vwCl [(a, .inr (7, [.int x0, .int 0, .int 0, .int 0, .int 0, .int 0, .int 0, .int 0, .int 0, .ref q1])), (q1, .inr (0, [.int 0, .ref z, .int 0]))] H := hP
  have hD : va_D A [(a, .inr (7, [.int x0, .int 0, .int 0, .int 0, .int 0, .int 0, .int 0, .int 0, .int 0, .ref q1])), (q1, .inr (0, [.int 0, .ref z, .int 0]))] := hD
  have hP9 := hP.sub (ws' := [(a, .inr (7, [.int x0, .int 0, .int 0, .int 0, .int 0, .int 0, .int 0, .int 0, .int 0, .ref q1])), (q1, .inr (0, [.int 0, .ref z, .int 0]))]) [0, 1] rfl
  have hD9 := hD.sub (ws' := [(a, .inr (7, [.int x0, .int 0, .int 0, .int 0, .int 0, .int 0, .int 0, .int 0, .int 0, .ref q1])), (q1, .inr (0, [.int 0, .ref z, .int 0]))]) [0, 1] (by decide) rfl
  exact W.vret hx hb hr (fun t9 ht hW => ⟨⟨(), rfl, trivial, q1, by rw [ht]; exact hP9, hD9⟩, hS.F ht⟩) hS.2.2 dX6_init_20
/-- "Sandglass$Proc" "<init>" "(I)V" -/
theorem hd_X2_init : yX2_init.cls = RX2 ∧ yX2_init.cls ≠ "java/lang/invoke/MethodHandle" ∧ yX2_init.cls ≠ "java/lang/invoke/VarHandle" ∧ (parseMethodDescriptor yX2_init.desc).map (fun d => d.parameters.length) = some 1 := by decide +kernel
set_option maxHeartbeats 4000000 in
set_option maxRecDepth 100000 in
theorem x_X2_init (l : Launch) {D : va_G} {tys : List (ClassId × FieldType)} {z b : Nat} {k0 k2 : Nat} {c0 c2 : ClassId} (h0 : tys[k0]? = some (c0, .int)) (h2 : tys[k2]? = some (c2, .object "java/lang/Object")) (a : Nat) (x0 : Int32) (sz : Nat) : Met l yX2_init (ws_ yX2_init cX2_init 2 none) (rm_ 1 12 3 28) (Xe D tys z b c2 [.ref a, .int x0] (fun H9 => H9.size = sz) [(a, .inr (3, [.int 0, .null, .int 0, .int 0, .int 0, .int 0, .int 0, .int 0, .int 0, .int 0, .int 0, .int 0, .int 0, .int 0, .null, .null, .null]))]) (va_Qv (fun _ : Unit => True) (fun _ t => ∃ (q1 q2 q3 : Nat), va_P D vwCl [(a, .inr (3, [.int x0, .null, .int 0, .int 0, .int 0, .int 0, .int 0, .int (-1), .int 0, .int (-1), .int 0, .int 0, .int 0, .int 0, .ref q1, .ref q2, .ref q3])), (q1, .inl (c0, 16, .inl (fun _ => 0))), (q2, .inl (c0, 6, .inl (fun _ => 0))), (q3, .inl (c0, 6, .inl (fun _ => 0)))] t.heap ∧ va_D (va_A [(a, .inr (3, [.int 0, .null, .int 0, .int 0, .int 0, .int 0, .int 0, .int 0, .int 0, .int 0, .int 0, .int 0, .int 0, .int 0, .null, .null, .null]))] sz) [(a, .inr (3, [.int x0, .null, .int 0, .int 0, .int 0, .int 0, .int 0, .int (-1), .int 0, .int (-1), .int 0, .int 0, .int 0, .int 0, .ref q1, .ref q2, .ref q3])), (q1, .inl (c0, 16, .inl (fun _ => 0))), (q2, .inl (c0, 6, .inl (fun _ => 0))), (q3, .inl (c0, 6, .inl (fun _ => 0)))]) (va_A [(a, .inr (3, [.int 0, .null, .int 0, .int 0, .int 0, .int 0, .int 0, .int 0, .int 0, .int 0, .int 0, .int 0, .int 0, .int 0, .null, .null, .null]))] sz)) 3 28 (va_A [(a, .inr (3, [.int 0, .null, .int 0, .int 0, .int 0, .int 0, .int 0, .int 0, .int 0, .int 0, .int 0, .int 0, .int 0, .int 0, .null, .null, .null]))] sz) := by
  refine Met.ofW (cc := cX2_init) (maxL := 2) (ret := none) (by decide) rfl ?_
  intro p e9 s m args below meth c s₁ B hml hv
  obtain ⟨rfl, ⟨hT, hE⟩, hsz, hP, hD0⟩ := hv
  have hx := B.exec
  have hb := B.bytes
  have hr := B.returns
  have hts : ∀ w ∈ lw_all, w.before _ s = true := fun w h => atoms_spec (ws := (ws_ yX2_init cX2_init 2 none)) B.pre w (List.mem_cons_of_mem _ h)
  have hown : s.vm.findClass RX2 = some m.cls := findClass_of_methodNamed B.named
  have hlocks := B.notSynchronized
  have hin9 : meth.name = "<init>" := (name_of_methodNamed B.named B.method).1
  subst hsz
  have hD := hD0.self (sz := s.heap.size)
  have hAb : ∀ q, va_A [(a, .inr (3, [.int 0, .null, .int 0, .int 0, .int 0, .int 0, .int 0, .int 0, .int 0, .int 0, .int 0, .int 0, .int 0, .int 0, .null, .null, .null]))] s.heap.size q → b ≤ q := fun q h => h.elim (fun ⟨k, e, h⟩ => hD0.2 k _ h) (fun h => Nat.le_trans hE.2.2.1 h)
  generalize hAe : va_A [(a, .inr (3, [.int 0, .null, .int 0, .int 0, .int 0, .int 0, .int 0, .int 0, .int 0, .int 0, .int 0, .int 0, .int 0, .int 0, .null, .null, .null]))] s.heap.size = A at hD hAb ⊢
  have hA : ∀ q : Nat, s.heap.size ≤ q → A q := fun q h => by rw [← hAe]; exact Or.inr h
  have hS : va_S A s.heap s.heap [] := va_S.rf
  have hZ := hE.1.narrow hAb
  have hE0 := fun (H9 : Heap) (l9 : List Loc) (h9 : va_S A s.heap H9 l9) => Em.row hE h9 hAb
  obtain ⟨H, hHe⟩ : ∃ H : Heap, H = s.heap := ⟨_, rfl⟩
  have hP : va_P D vwCl [(a, .inr (3, [.int 0, .null, .int 0, .int 0, .int 0, .int 0, .int 0, .int 0, .int 0, .int 0, .int 0, .int 0, .int 0, .int 0, .null, .null, .null]))] s.heap := hP
  have hl := lv_entry ([.ref a, .int x0]) (n := 2) (Nat.le_of_ble_eq_true rfl)
  rw [lg_entry_eq]
  generalize (lg_sl ([.ref a, .int x0]) ++ List.replicate (2 - (lg_sl ([.ref a, .int x0])).length) Slot.unset).toArray = ls at hl ⊢
  have hl : lv_has ls 2 [(0, .ref a), (1, .int x0)] := hl
  clear hHe H
  refine lv_aload_n hx hb dX2_init_0 rfl (lv_at hl 0 rfl) ?_
  refine W.objInit hx hb hown (hts _ q110) (hts _ q68) (hts _ q69) rfl (by rw [hml]; exact hl.1) rfl dX2_init_1 (Nat.le_of_ble_eq_true rfl) (Nat.le_of_ble_eq_true rfl) ?_
  refine W.eq (g2 := F0 m 4 ls []) rfl ?_
  refine lv_aload_n hx hb dX2_init_4 rfl (lv_at hl 0 rfl) ?_
  refine lv_iconst (v := (-1)) hx hb dX2_init_5 (by decide) ?_
  refine va_put (D := D) (ci := 3) (v := .int (-1)) (ty := .int) hx hb hts i_X2 tyX2 tyX2_ok nmX2 hown hT.1 hP hD hS 0 rfl rfl 7 (by decide) (hts _ q130) (fun _ h9 => h9) rfl (by decide +kernel) rfl rfl (Nat.le_of_ble_eq_true rfl) dX2_init_6 (fun H locs hP hD hS => ?_)
  have hP : va_P D vwCl [(a, .inr (3, [.int 0, .null, .int 0, .int 0, .int 0, .int 0, .int 0, .int (-1), .int 0, .int 0, .int 0, .int 0, .int 0, .int 0, .null, .null, .null]))] H := hP
  have hD : va_D A [(a, .inr (3, [.int 0, .null, .int 0, .int 0, .int 0, .int 0, .int 0, .int (-1), .int 0, .int 0, .int 0, .int 0, .int 0, .int 0, .null, .null, .null]))] := hD
  refine lv_aload_n hx hb dX2_init_9 rfl (lv_at hl 0 rfl) ?_
  refine lv_iconst (v := (-1)) hx hb dX2_init_10 (by decide) ?_
  refine va_put (D := D) (ci := 3) (v := .int (-1)) (ty := .int) hx hb hts i_X2 tyX2 tyX2_ok nmX2 hown hT.1 hP hD hS 0 rfl rfl 9 (by decide) (hts _ q135) (fun _ h9 => h9) rfl (by decide +kernel) rfl rfl (Nat.le_of_ble_eq_true rfl) dX2_init_11 (fun H locs hP hD hS => ?_)
  have hP : va_P D vwCl [(a, .inr (3, [.int 0, .null, .int 0, .int 0, .int 0, .int 0, .int 0, .int (-1), .int 0, .int (-1), .int 0, .int 0, .int 0, .int 0, .null, .null, .null]))] H := hP
  have hD : va_D A [(a, .inr (3, [.int 0, .null, .int 0, .int 0, .int 0, .int 0, .int 0, .int (-1), .int 0, .int (-1), .int 0, .int 0, .int 0, .int 0, .null, .null, .null]))] := hD
  refine lv_aload_n hx hb dX2_init_14 rfl (lv_at hl 0 rfl) ?_
  refine lv_bipush (v := 16) hx hb dX2_init_15 (by decide) ?_
  refine va_newa (atype := .int) (ty := .int) (N' := 16) (a0 := (16, .inl (fun _ => 0))) hx hb (hts _ q187) rfl hT.1 hP hD hS hA (fun _ => rfl) (by decide) rfl (Nat.le_of_ble_eq_true rfl) (Nat.le_of_ble_eq_true rfl) (Nat.le_of_ble_eq_true rfl) dX2_init_17 (fun q1 cA H hK9 hP hD hS => ?_)
  have e9 : cA = c0 := RAi hK9 h0
  rw [e9] at hP hD
  have hP : va_P D vwCl [(a, .inr (3, [.int 0, .null, .int 0, .int 0, .int 0, .int 0, .int 0, .int (-1), .int 0, .int (-1), .int 0, .int 0, .int 0, .int 0, .null, .null, .null])), (q1, .inl (c0, 16, .inl (fun _ => 0)))] H := hP
  have hD : va_D A [(a, .inr (3, [.int 0, .null, .int 0, .int 0, .int 0, .int 0, .int 0, .int (-1), .int 0, .int (-1), .int 0, .int 0, .int 0, .int 0, .null, .null, .null])), (q1, .inl (c0, 16, .inl (fun _ => 0)))] := hD
  refine va_putF (D := D) (ci := 3) (v := .ref q1) (ty := (.array .int)) hx hb hts i_X2 tyX2 tyX2_ok nmX2 hown hT.1 hP hD hS 0 rfl rfl 14 (by decide) (hts _ q145) (fun _ h9 => h9) rfl hin9 rfl (by decide +kernel) rfl rfl (Nat.le_of_ble_eq_true rfl) dX2_init_19 (fun H locs hP hD hS => ?_)
  have hP : va_P D vwCl [(a, .inr (3, [.int 0, .null, .int 0, .int 0, .int 0, .int 0, .int 0, .int (-1), .int 0, .int (-1), .int 0, .int 0, .int 0, .int 0, .ref q1, .null, .null])), (q1, .inl (c0, 16, .inl (fun _ => 0)))] H := hP
  have hD : va_D A [(a, .inr (3, [.int 0, .null, .int 0, .int 0, .int 0, .int 0, .int 0, .int (-1), .int 0, .int (-1), .int 0, .int 0, .int 0, .int 0, .ref q1, .null, .null])), (q1, .inl (c0, 16, .inl (fun _ => 0)))] := hD
  refine lv_aload_n hx hb dX2_init_22 rfl (lv_at hl 0 rfl) ?_
  refine lv_bipush (v := 6) hx hb dX2_init_23 (by decide) ?_
  refine va_newa (atype := .int) (ty := .int) (N' := 6) (a0 := (6, .inl (fun _ => 0))) hx hb (hts _ q187) rfl hT.1 hP hD hS hA (fun _ => rfl) (by decide) rfl (Nat.le_of_ble_eq_true rfl) (Nat.le_of_ble_eq_true rfl) (Nat.le_of_ble_eq_true rfl) dX2_init_25 (fun q2 cA H hK9 hP hD hS => ?_)
  have e9 : cA = c0 := RAi hK9 h0
  rw [e9] at hP hD
  have hP : va_P D vwCl [(a, .inr (3, [.int 0, .null, .int 0, .int 0, .int 0, .int 0, .int 0, .int (-1), .int 0, .int (-1), .int 0, .int 0, .int 0, .int 0, .ref q1, .null, .null])), (q1, .inl (c0, 16, .inl (fun _ => 0))), (q2, .inl (c0, 6, .inl (fun _ => 0)))] H := hP
  have hD : va_D A [(a, .inr (3, [.int 0, .null, .int 0, .int 0, .int 0, .int 0, .int 0, .int (-1), .int 0, .int (-1), .int 0, .int 0, .int 0, .int 0, .ref q1, .null, .null])), (q1, .inl (c0, 16, .inl (fun _ => 0))), (q2, .inl (c0, 6, .inl (fun _ => 0)))] := hD
  refine va_putF (D := D) (ci := 3) (v := .ref q2) (ty := (.array .int)) hx hb hts i_X2 tyX2 tyX2_ok nmX2 hown hT.1 hP hD hS 0 rfl rfl 15 (by decide) (hts _ q147) (fun _ h9 => h9) rfl hin9 rfl (by decide +kernel) rfl rfl (Nat.le_of_ble_eq_true rfl) dX2_init_27 (fun H locs hP hD hS => ?_)
  have hP : va_P D vwCl [(a, .inr (3, [.int 0, .null, .int 0, .int 0, .int 0, .int 0, .int 0, .int (-1), .int 0, .int (-1), .int 0, .int 0, .int 0, .int 0, .ref q1, .ref q2, .null])), (q1, .inl (c0, 16, .inl (fun _ => 0))), (q2, .inl (c0, 6, .inl (fun _ => 0)))] H := hP
  have hD : va_D A [(a, .inr (3, [.int 0, .null, .int 0, .int 0, .int 0, .int 0, .int 0, .int (-1), .int 0, .int (-1), .int 0, .int 0, .int 0, .int 0, .ref q1, .ref q2, .null])), (q1, .inl (c0, 16, .inl (fun _ => 0))), (q2, .inl (c0, 6, .inl (fun _ => 0)))] := hD
  refine lv_aload_n hx hb dX2_init_30 rfl (lv_at hl 0 rfl) ?_
  refine lv_bipush (v := 6) hx hb dX2_init_31 (by decide) ?_
  refine va_newa (atype := .int) (ty := .int) (N' := 6) (a0 := (6, .inl (fun _ => 0))) hx hb (hts _ q187) rfl hT.1 hP hD hS hA (fun _ => rfl) (by decide) rfl (Nat.le_of_ble_eq_true rfl) (Nat.le_of_ble_eq_true rfl) (Nat.le_of_ble_eq_true rfl) dX2_init_33 (fun q3 cA H hK9 hP hD hS => ?_)
  have e9 : cA = c0 := RAi hK9 h0
  rw [e9] at hP hD
  have hP : va_P D vwCl [(a, .inr (3, [.int 0, .null, .int 0, .int 0, .int 0, .int 0, .int 0, .int (-1), .int 0, .int (-1), .int 0, .int 0, .int 0, .int 0, .ref q1, .ref q2, .null])), (q1, .inl (c0, 16, .inl (fun _ => 0))), (q2, .inl (c0, 6, .inl (fun _ => 0))), (q3, .inl (c0, 6, .inl (fun _ => 0)))] H := hP
  have hD : va_D A [(a, .inr (3, [.int 0, .null, .int 0, .int 0, .int 0, .int 0, .int 0, .int (-1), .int 0, .int (-1), .int 0, .int 0, .int 0, .int 0, .ref q1, .ref q2, .null])), (q1, .inl (c0, 16, .inl (fun _ => 0))), (q2, .inl (c0, 6, .inl (fun _ => 0))), (q3, .inl (c0, 6, .inl (fun _ => 0)))] := hD
  refine va_putF (D := D) (ci := 3) (v := .ref q3) (ty := (.array .int)) hx hb hts i_X2 tyX2 tyX2_ok nmX2 hown hT.1 hP hD hS 0 rfl rfl 16 (by decide) (hts _ q150) (fun _ h9 => h9) rfl hin9 rfl (by decide +kernel) rfl rfl (Nat.le_of_ble_eq_true rfl) dX2_init_35 (fun H locs hP hD hS => ?_)
  have hP : va_P D vwCl [(a, .inr (3, [.int 0, .null, .int 0, .int 0, .int 0, .int 0, .int 0, .int (-1), .int 0, .int (-1), .int 0, .int 0, .int 0, .int 0, .ref q1, .ref q2, .ref q3])), (q1, .inl (c0, 16, .inl (fun _ => 0))), (q2, .inl (c0, 6, .inl (fun _ => 0))), (q3, .inl (c0, 6, .inl (fun _ => 0)))] H := hP
  have hD : va_D A [(a, .inr (3, [.int 0, .null, .int 0, .int 0, .int 0, .int 0, .int 0, .int (-1), .int 0, .int (-1), .int 0, .int 0, .int 0, .int 0, .ref q1, .ref q2, .ref q3])), (q1, .inl (c0, 16, .inl (fun _ => 0))), (q2, .inl (c0, 6, .inl (fun _ => 0))), (q3, .inl (c0, 6, .inl (fun _ => 0)))] := hD
  refine lv_aload_n hx hb dX2_init_38 rfl (lv_at hl 0 rfl) ?_
  refine lv_iload_n hx hb dX2_init_39 rfl (lv_at hl 1 rfl) ?_
  refine va_putF (D := D) (ci := 3) (v := .int x0) (ty := .int) hx hb hts i_X2 tyX2 tyX2_ok nmX2 hown hT.1 hP hD hS 0 rfl rfl 0 (by decide) (hts _ q111) (fun _ h9 => h9) rfl hin9 rfl (by decide +kernel) rfl rfl (Nat.le_of_ble_eq_true rfl) dX2_init_40 (fun H locs hP hD hS => ?_)
  have hP : va_P D vwCl [(a, .inr (3, [.int x0, .null, .int 0, .int 0, .int 0, .int 0, .int 0, .int (-1), .int 0, .int (-1), .int 0, .int 0, .int 0, .int 0, .ref q1, .ref q2, .ref q3])), (q1, .inl (c0, 16, .inl (fun _ => 0))), (q2, .inl (c0, 6, .inl (fun _ => 0))), (q3, .inl (c0, 6, .inl (fun _ => 0)))] H := hP
  have hD : va_D A [(a, .inr (3, [.int x0, .null, .int 0, .int 0, .int 0, .int 0, .int 0, .int (-1), .int 0, .int (-1), .int 0, .int 0, .int 0, .int 0, .ref q1, .ref q2, .ref q3])), (q1, .inl (c0, 16, .inl (fun _ => 0))), (q2, .inl (c0, 6, .inl (fun _ => 0))), (q3, .inl (c0, 6, .inl (fun _ => 0)))] := hD
  have hP9 := hP.sub (ws' := [(a, .inr (3, [.int x0, .null, .int 0, .int 0, .int 0, .int 0, .int 0, .int (-1), .int 0, .int (-1), .int 0, .int 0, .int 0, .int 0, .ref q1, .ref q2, .ref q3])), (q1, .inl (c0, 16, .inl (fun _ => 0))), (q2, .inl (c0, 6, .inl (fun _ => 0))), (q3, .inl (c0, 6, .inl (fun _ => 0)))]) [0, 1, 2, 3] rfl
  have hD9 := hD.sub (ws' := [(a, .inr (3, [.int x0, .null, .int 0, .int 0, .int 0, .int 0, .int 0, .int (-1), .int 0, .int (-1), .int 0, .int 0, .int 0, .int 0, .ref q1, .ref q2, .ref q3])), (q1, .inl (c0, 16, .inl (fun _ => 0))), (q2, .inl (c0, 6, .inl (fun _ => 0))), (q3, .inl (c0, 6, .inl (fun _ => 0)))]) [0, 1, 2, 3] (by decide) rfl
  exact W.vret hx hb hr (fun t9 ht hW => ⟨⟨(), rfl, trivial, q1, q2, q3, by rw [ht]; exact hP9, hD9⟩, hS.F ht⟩) hS.2.2 dX2_init_43
