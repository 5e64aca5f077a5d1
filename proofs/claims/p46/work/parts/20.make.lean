/-! making objects: over cells told one by one -/
/-- the tables, for any list of array classes -/
def T3 (D : va_G) (tys : List (ClassId × FieldType)) (U : State) : Prop := va_K D vwCl tys U ∧ (∀ q ∈ xnest, va_Nw (.methodLinkNest q.1 q.2.1 q.2.2 "Sandglass") U) ∧ (∀ C ∈ xcast, va_Nw (.castable C "java/lang/Object") U) ∧ va_AO "Sandglass$Proc" U ∧ va_AO "java/lang/Object" U
theorem T3.warm {D : va_G} {tys : List (ClassId × FieldType)} {s U : State} (hW : s.WarmedH U.vm) (h : T3 D tys s) : T3 D tys U := ⟨va_K.moved hW.alike h.1, fun q hq => va_Nw.warmM hW (h.2.1 q hq), fun C hC => va_Nw.warmC hW (h.2.2.1 C hC), va_AO.moved hW.alike h.2.2.2.1, va_AO.moved hW.alike h.2.2.2.2⟩
theorem T3.call {D : va_G} {tys : List (ClassId × FieldType)} {U : State} {f : JFrame} {mk : MethodId} {a : Array Value} (h : T3 D tys U) : T3 D tys (U.calling f mk a) := ⟨va_K.moved (u := U) (U := U.calling f mk a) (Vm.Alike.refl U.vm) h.1, fun q hq => va_Nw.same (u := U) (U := U.calling f mk a) rfl rfl (h.2.1 q hq), fun C hC => va_Nw.same (u := U) (U := U.calling f mk a) rfl rfl (h.2.2.1 C hC), va_AO.moved (u := U) (U := U.calling f mk a) (Vm.Alike.refl U.vm) h.2.2.2.1, va_AO.moved (u := U) (U := U.calling f mk a) (Vm.Alike.refl U.vm) h.2.2.2.2⟩
theorem Tb.t3 {g : Geo} {U : State} (h : Tb g U) : T3 g.D g.tys U := h
/-- the row that every new list begins with: it lies at z, ahead of b; nothing ahead of b is ever written -/
def Em (D : va_G) (z b : Nat) (c2 : ClassId) (U : State) : Prop := va_Z "java/util/ArrayList" "DEFAULTCAPACITY_EMPTY_ELEMENTDATA" "[Ljava/lang/Object;" (.ref z) (fun q => b ≤ q) U U.heap ∧ z < b ∧ b ≤ U.heap.size ∧ ∃ cell : Cell, U.heap[z]? = some cell ∧ U.isArrayOf cell (.object "java/lang/Object") ∧ cell.slots.size = 0
theorem Em.call {D : va_G} {z b : Nat} {c2 : ClassId} {U : State} {f : JFrame} {mk : MethodId} {a : Array Value} (h : Em D z b c2 U) : Em D z b c2 (U.calling f mk a) := ⟨va_Z.moved (u := U) (U := U.calling f mk a) (Vm.Alike.refl U.vm) h.1, h.2.1, h.2.2.1, h.2.2.2⟩
theorem Em.on {D : va_G} {z b : Nat} {c2 : ClassId} {s U : State} {A : Nat → Prop} {locs : List Loc} (hW : s.WarmedH U.vm) (h : Em D z b c2 s) (hS : va_S A s.heap U.heap locs) (hAb : ∀ q, A q → b ≤ q) : Em D z b c2 U := by
  obtain ⟨cell, h1, h2, h3⟩ := h.2.2.2
  exact ⟨va_Z.moved hW.alike (h.1.kept (fun a h1 h2 => hS.2.1 a h1 (fun z => h2 (hAb a z)))), h.2.1, Nat.le_trans h.2.2.1 hS.1, cell, by rw [hS.2.1 z (Array.getElem?_eq_some_iff.mp h1).1 (fun q => absurd h.2.1 (Nat.not_lt.mpr (hAb _ q)))]; exact h1, State.isArrayOf_alike hW.alike h2, h3⟩
theorem Em.row {D : va_G} {z b : Nat} {c2 : ClassId} {s : State} {A : Nat → Prop} {H : Heap} {locs : List Loc} (h : Em D z b c2 s) (hS : va_S A s.heap H locs) (hAb : ∀ q, A q → b ≤ q) : ∃ cell : Cell, H[z]? = some cell ∧ s.isArrayOf cell (.object "java/lang/Object") ∧ cell.slots.size = 0 := by
  obtain ⟨cell, h1, h2, h3⟩ := h.2.2.2
  exact ⟨cell, by rw [hS.2.1 z (Array.getElem?_eq_some_iff.mp h1).1 (fun q => absurd h.2.1 (Nat.not_lt.mpr (hAb _ q)))]; exact h1, h2, h3⟩
section
variable {p : Program} {l : Launch} {e : Env} {R : Room} {s : State} {m : MethodId} {args : Array Value} {below : List Frame} {meth : Method} {c : Code} {H : Heap} {locs : List Loc} {cells slots : Nat} {Q : State → Prop}
theorem va_alenZ {cc : ByteArray} {pc : Nat} {ls : Array Slot} {rest : List Value} (hx : p.tables.exec = Jvm.exec) (hb : c.code = cc) {z : Nat} (h : ∃ cell : Cell, H[z]? = some cell ∧ s.isArrayOf cell (.object "java/lang/Object") ∧ cell.slots.size = 0) (hdg : decode cc pc = .ok (.arraylength, 1)) (kk : W p l e R s m args below meth c H locs cells slots Q (F0 m (pc + 1) ls (.int 0 :: rest))) : W p l e R s m args below meth c H locs cells slots Q (F0 m pc ls (.ref z :: rest)) := by
  obtain ⟨cell, h1, h2, h3⟩ := h
  exact W.alen (n := Int32.ofNat 0) hx hb h1 h2 (by rw [h3] <;> rfl) rfl rfl hdg kk
end
def Xe (D : va_G) (tys : List (ClassId × FieldType)) (z b : Nat) (c2 : ClassId) (av : List Value) (PS : Heap → Prop) (ws : va_W) : Array Value → State → Prop := va_Pc av (fun U => (T3 D tys U ∧ Em D z b c2 U) ∧ PS U.heap ∧ va_P D vwCl ws U.heap ∧ va_D (fun q => b ≤ q) ws)
theorem Xe.blind {D : va_G} {tys : List (ClassId × FieldType)} {z b : Nat} {c2 : ClassId} {av : List Value} {PS : Heap → Prop} {ws : va_W} : FrameBlind (Xe D tys z b c2 av PS ws) := fun _ _ _ _ h => ⟨h.1, ⟨T3.call h.2.1.1, Em.call h.2.1.2⟩, h.2.2⟩
theorem Xe.warm {D : va_G} {tys : List (ClassId × FieldType)} {z b : Nat} {c2 : ClassId} {s U : State} {A : Nat → Prop} {H : Heap} {locs : List Loc} (hW : s.WarmedH U.vm) (hT : T3 D tys s) (hE : Em D z b c2 s) (hS : va_S A s.heap H locs) (hAb : ∀ q, A q → b ≤ q) (hU : U.heap = H) : T3 D tys U ∧ Em D z b c2 U := ⟨T3.warm hW hT, Em.on hW hE (by rw [hU]; exact hS) hAb⟩
theorem RAi {D : va_G} {tys : List (ClassId × FieldType)} {cA c0 : ClassId} {k0 : Nat} {s : State} (hK : va_K D vwCl (tys ++ [(cA, .int)]) s) (h0 : tys[k0]? = some (c0, .int)) : cA = c0 := by
  have hl : k0 < tys.length := (List.getElem?_eq_some_iff.mp h0).1
  have h1 := (hK.2 tys.length (cA, .int) (by rw [List.getElem?_append_right (Nat.le_refl _), Nat.sub_self]; rfl)).2
  have h2 := (hK.2 k0 (c0, .int) (by rw [List.getElem?_append_left hl]; exact h0)).2
  exact Option.some.inj (h1.symm.trans h2)
theorem RAo {D : va_G} {tys : List (ClassId × FieldType)} {cA c2 : ClassId} {k2 : Nat} {C : String} {s : State} (hK : va_K D vwCl (tys ++ [(cA, .object C)]) s) (h2 : tys[k2]? = some (c2, .object C)) : cA = c2 := by
  have hl : k2 < tys.length := (List.getElem?_eq_some_iff.mp h2).1
  obtain ⟨_, _, -, -, -, h1⟩ := (hK.2 tys.length (cA, .object C) (by rw [List.getElem?_append_right (Nat.le_refl _), Nat.sub_self]; rfl)).2
  obtain ⟨_, _, -, -, -, h3⟩ := (hK.2 k2 (c2, .object C) (by rw [List.getElem?_append_left hl]; exact h2)).2
  exact Option.some.inj (h1.symm.trans h3)
theorem xc_X3 : "Sandglass$Resource" ∈ xcast := by simp [xcast]
theorem xc_X5 : "Sandglass$Store" ∈ xcast := by simp [xcast]
theorem xc_X6 : "Sandglass$Tally" ∈ xcast := by simp [xcast]
theorem xc_X4 : "Sandglass$Script" ∈ xcast := by simp [xcast]
theorem xc_X1 : "Sandglass$Instruction" ∈ xcast := by simp [xcast]
theorem xc_X0 : "Sandglass$Chunk" ∈ xcast := by simp [xcast]
theorem hca_of {D : va_G} {tys : List (ClassId × FieldType)} {U : State} (h : T3 D tys U) {C : String} (hC : C ∈ xcast) : va_Nw (.castable C "java/lang/Object") U := h.2.2.1 C hC
/-- "java/util/AbstractCollection" "<init>" "()V" -/
theorem hd_Jxa1e45_init_da8c8 : yJxa1e45_init_da8c8.cls = RJxa1e45 ∧ yJxa1e45_init_da8c8.cls ≠ "java/lang/invoke/MethodHandle" ∧ yJxa1e45_init_da8c8.cls ≠ "java/lang/invoke/VarHandle" ∧ (parseMethodDescriptor yJxa1e45_init_da8c8.desc).map (fun d => d.parameters.length) = some 0 := by decide +kernel
set_option maxHeartbeats 4000000 in
set_option maxRecDepth 100000 in
theorem x_Jxa1e45_init_da8c8 (l : Launch) {D : va_G} {tys : List (ClassId × FieldType)} {z b : Nat} {k0 k2 : Nat} {c0 c2 : ClassId} (h0 : tys[k0]? = some (c0, .int)) (h2 : tys[k2]? = some (c2, .object "java/lang/Object")) (a : Nat) (sz : Nat) : Met l yJxa1e45_init_da8c8 (ws_ yJxa1e45_init_da8c8 cJxa1e45_init_da8c8 1 none) (rm_ 1 12 0 0) (Xe D tys z b c2 [.ref a] (fun H9 => H9.size = sz) [(a, .inr (0, [.int 0, .null, .int 0]))]) (va_Qv (fun _ : Unit => True) (fun _ t => va_P D vwCl [(a, .inr (0, [.int 0, .null, .int 0]))] t.heap ∧ va_D (va_A [(a, .inr (0, [.int 0, .null, .int 0]))] sz) [(a, .inr (0, [.int 0, .null, .int 0]))]) (va_A [(a, .inr (0, [.int 0, .null, .int 0]))] sz)) 0 0 (va_A [(a, .inr (0, [.int 0, .null, .int 0]))] sz) := by
  refine Met.ofW (cc := cJxa1e45_init_da8c8) (maxL := 1) (ret := none) (by decide) rfl ?_
  intro p e9 s m args below meth c s₁ B hml hv
  obtain ⟨rfl, ⟨hT, hE⟩, hsz, hP, hD0⟩ := hv
  have hx := B.exec
  have hb := B.bytes
  have hr := B.returns
  have hts : ∀ w ∈ lw_all, w.before _ s = true := fun w h => atoms_spec (ws := (ws_ yJxa1e45_init_da8c8 cJxa1e45_init_da8c8 1 none)) B.pre w (List.mem_cons_of_mem _ h)
  have hown : s.vm.findClass RJxa1e45 = some m.cls := findClass_of_methodNamed B.named
  have hlocks := B.notSynchronized
  have hin9 : meth.name = "<init>" := (name_of_methodNamed B.named B.method).1
  subst hsz
  have hD := hD0.self (sz := s.heap.size)
  have hAb : ∀ q, va_A [(a, .inr (0, [.int 0, .null, .int 0]))] s.heap.size q → b ≤ q := fun q h => h.elim (fun ⟨k, e, h⟩ => hD0.2 k _ h) (fun h => Nat.le_trans hE.2.2.1 h)
  generalize hAe : va_A [(a, .inr (0, [.int 0, .null, .int 0]))] s.heap.size = A at hD hAb ⊢
  have hA : ∀ q : Nat, s.heap.size ≤ q → A q := fun q h => by rw [← hAe]; exact Or.inr h
  have hS : va_S A s.heap s.heap [] := va_S.rf
  have hZ := hE.1.narrow hAb
  have hE0 := fun (H9 : Heap) (l9 : List Loc) (h9 : va_S A s.heap H9 l9) => Em.row hE h9 hAb
  obtain ⟨H, hHe⟩ : ∃ H : Heap, H = s.heap := ⟨_, rfl⟩
  have hP : va_P D vwCl [(a, .inr (0, [.int 0, .null, .int 0]))] s.heap := hP
  have hl := lv_entry ([.ref a]) (n := 1) (Nat.le_of_ble_eq_true rfl)
  rw [lg_entry_eq]
  generalize (lg_sl ([.ref a]) ++ List.replicate (1 - (lg_sl ([.ref a])).length) Slot.unset).toArray = ls at hl ⊢
  have hl : lv_has ls 1 [(0, .ref a)] := hl
  clear hHe H
  refine lv_aload_n hx hb dJxa1e45_init_da8c8_0 rfl (lv_at hl 0 rfl) ?_
  refine W.objInit hx hb hown (hts _ q81) (hts _ q68) (hts _ q69) rfl (by rw [hml]; exact hl.1) rfl dJxa1e45_init_da8c8_1 (Nat.le_of_ble_eq_true rfl) (Nat.le_of_ble_eq_true rfl) ?_
  refine W.eq (g2 := F0 m 4 ls []) rfl ?_
  have hP9 := hP.sub (ws' := [(a, .inr (0, [.int 0, .null, .int 0]))]) [0] rfl
  have hD9 := hD.sub (ws' := [(a, .inr (0, [.int 0, .null, .int 0]))]) [0] (by decide) rfl
  exact W.vret hx hb hr (fun t9 ht hW => ⟨⟨(), rfl, trivial, by rw [ht]; exact hP9, hD9⟩, hS.F ht⟩) hS.2.2 dJxa1e45_init_da8c8_4
/-- "java/util/AbstractList" "<init>" "()V" -/
theorem hd_Jxc12de_init_da8c8 : yJxc12de_init_da8c8.cls = RJxc12de ∧ yJxc12de_init_da8c8.cls ≠ "java/lang/invoke/MethodHandle" ∧ yJxc12de_init_da8c8.cls ≠ "java/lang/invoke/VarHandle" ∧ (parseMethodDescriptor yJxc12de_init_da8c8.desc).map (fun d => d.parameters.length) = some 0 := by decide +kernel
set_option maxHeartbeats 4000000 in
set_option maxRecDepth 100000 in
theorem x_Jxc12de_init_da8c8 (l : Launch) {D : va_G} {tys : List (ClassId × FieldType)} {z b : Nat} {k0 k2 : Nat} {c0 c2 : ClassId} (h0 : tys[k0]? = some (c0, .int)) (h2 : tys[k2]? = some (c2, .object "java/lang/Object")) (a : Nat) (sz : Nat) : Met l yJxc12de_init_da8c8 (ws_ yJxc12de_init_da8c8 cJxc12de_init_da8c8 1 none) (rm_ 2 32 0 0) (Xe D tys z b c2 [.ref a] (fun H9 => H9.size = sz) [(a, .inr (0, [.int 0, .null, .int 0]))]) (va_Qv (fun _ : Unit => True) (fun _ t => va_P D vwCl [(a, .inr (0, [.int 0, .null, .int 0]))] t.heap ∧ va_D (va_A [(a, .inr (0, [.int 0, .null, .int 0]))] sz) [(a, .inr (0, [.int 0, .null, .int 0]))]) (va_A [(a, .inr (0, [.int 0, .null, .int 0]))] sz)) 0 0 (va_A [(a, .inr (0, [.int 0, .null, .int 0]))] sz) := by
  refine Met.ofW (cc := cJxc12de_init_da8c8) (maxL := 1) (ret := none) (by decide) rfl ?_
  intro p e9 s m args below meth c s₁ B hml hv
  obtain ⟨rfl, ⟨hT, hE⟩, hsz, hP, hD0⟩ := hv
  have hx := B.exec
  have hb := B.bytes
  have hr := B.returns
  have hts : ∀ w ∈ lw_all, w.before _ s = true := fun w h => atoms_spec (ws := (ws_ yJxc12de_init_da8c8 cJxc12de_init_da8c8 1 none)) B.pre w (List.mem_cons_of_mem _ h)
  have hown : s.vm.findClass RJxc12de = some m.cls := findClass_of_methodNamed B.named
  have hlocks := B.notSynchronized
  have hin9 : meth.name = "<init>" := (name_of_methodNamed B.named B.method).1
  subst hsz
  have hD := hD0.self (sz := s.heap.size)
  have hAb : ∀ q, va_A [(a, .inr (0, [.int 0, .null, .int 0]))] s.heap.size q → b ≤ q := fun q h => h.elim (fun ⟨k, e, h⟩ => hD0.2 k _ h) (fun h => Nat.le_trans hE.2.2.1 h)
  generalize hAe : va_A [(a, .inr (0, [.int 0, .null, .int 0]))] s.heap.size = A at hD hAb ⊢
  have hA : ∀ q : Nat, s.heap.size ≤ q → A q := fun q h => by rw [← hAe]; exact Or.inr h
  have hS : va_S A s.heap s.heap [] := va_S.rf
  have hZ := hE.1.narrow hAb
  have hE0 := fun (H9 : Heap) (l9 : List Loc) (h9 : va_S A s.heap H9 l9) => Em.row hE h9 hAb
  obtain ⟨H, hHe⟩ : ∃ H : Heap, H = s.heap := ⟨_, rfl⟩
  have hP : va_P D vwCl [(a, .inr (0, [.int 0, .null, .int 0]))] s.heap := hP
  have hl := lv_entry ([.ref a]) (n := 1) (Nat.le_of_ble_eq_true rfl)
  rw [lg_entry_eq]
  generalize (lg_sl ([.ref a]) ++ List.replicate (1 - (lg_sl ([.ref a])).length) Slot.unset).toArray = ls at hl ⊢
  have hl : lv_has ls 1 [(0, .ref a)] := hl
  clear hHe H
  refine lv_aload_n hx hb dJxc12de_init_da8c8_0 rfl (lv_at hl 0 rfl) ?_
  have hPc := hP.sub (ws' := [(a, .inr (0, [.int 0, .null, .int 0]))]) [0] rfl
  have hDc := hD.sub (ws' := [(a, .inr (0, [.int 0, .null, .int 0]))]) [0] (by decide) rfl
  have hFc := va_free (wc := [(a, .inr (0, [.int 0, .null, .int 0]))]) hD hS hA [0] rfl
  refine va_callv (va_runI (As := []) (rest := []) ⟨hx, hb, hml, hown, hts⟩ (x_Jxa1e45_init_da8c8 l h0 h2 a s.heap.size) (cwI 0 hts (gd_code q80) rfl rfl rfl (hts _ q38) (hts _ q78) (hts _ q79) rfl hd_Jxa1e45_init_da8c8.2 ⟨Nat.le_of_ble_eq_true rfl, Nat.le_of_ble_eq_true rfl⟩) ⟨Xe.blind, fun U hU hW => ⟨rfl, Xe.warm hW hT hE hS hAb hU, by show U.heap.size = _; rw [hU], by rw [hU]; exact hPc, hDc.weaken (fun k q _ h => hAb _ h)⟩⟩ rfl rfl hl.1 rfl (lv_room (Nat.le_of_ble_eq_true rfl)) dJxc12de_init_da8c8_1 ⟨Nat.le_of_ble_eq_true rfl, Nat.le_of_ble_eq_true rfl⟩) hS (fun q _ h => hFc q h) hFc (fun u9 t9 H1 locs ht9 hvm9 hw9 hB9 hz9 hk9 hS => ?_)
  obtain ⟨hP1, hD1⟩ := hB9
  rw [ht9] at hP1
  obtain ⟨hP, hD⟩ := va_join (wr := []) (w1 := [(a, .inr (0, [.int 0, .null, .int 0]))]) hP hD [0] [] rfl rfl (by decide) (by decide) hk9 hFc hP1 hD1
  generalize H1 = H at hP hS ⊢
  have hP : va_P D vwCl [(a, .inr (0, [.int 0, .null, .int 0]))] H := hP
  have hD : va_D A [(a, .inr (0, [.int 0, .null, .int 0]))] := hD
  refine lv_aload_n hx hb dJxc12de_init_da8c8_4 rfl (lv_at hl 0 rfl) ?_
  refine lv_iconst (v := 0) hx hb dJxc12de_init_da8c8_5 (by decide) ?_
  refine va_put (D := D) (ci := 0) (v := .int 0) (ty := .int) hx hb hts i_Jx4a65c tyJx4a65c tyJx4a65c_ok nmJx4a65c hown hT.1 hP hD hS 0 rfl rfl 0 (by decide) (hts _ q86) (fun _ h9 => h9) rfl (by decide +kernel) rfl rfl (Nat.le_of_ble_eq_true rfl) dJxc12de_init_da8c8_6 (fun H locs hP hD hS => ?_)
  have hP : va_P D vwCl [(a, .inr (0, [.int 0, .null, .int 0]))] H := hP
  have hD : va_D A [(a, .inr (0, [.int 0, .null, .int 0]))] := hD
  have hP9 := hP.sub (ws' := [(a, .inr (0, [.int 0, .null, .int 0]))]) [0] rfl
  have hD9 := hD.sub (ws' := [(a, .inr (0, [.int 0, .null, .int 0]))]) [0] (by decide) rfl
  exact W.vret hx hb hr (fun t9 ht hW => ⟨⟨(), rfl, trivial, by rw [ht]; exact hP9, hD9⟩, hS.F ht⟩) hS.2.2 dJxc12de_init_da8c8_9
/-- "java/util/ArrayList" "<init>" "()V" -/
theorem hd_Jx4a65c_init_da8c8 : yJx4a65c_init_da8c8.cls = RJx4a65c ∧ yJx4a65c_init_da8c8.cls ≠ "java/lang/invoke/MethodHandle" ∧ yJx4a65c_init_da8c8.cls ≠ "java/lang/invoke/VarHandle" ∧ (parseMethodDescriptor yJx4a65c_init_da8c8.desc).map (fun d => d.parameters.length) = some 0 := by decide +kernel
set_option maxHeartbeats 4000000 in
set_option maxRecDepth 100000 in
theorem x_Jx4a65c_init_da8c8 (l : Launch) {D : va_G} {tys : List (ClassId × FieldType)} {z b : Nat} {k0 k2 : Nat} {c0 c2 : ClassId} (h0 : tys[k0]? = some (c0, .int)) (h2 : tys[k2]? = some (c2, .object "java/lang/Object")) (a : Nat) (sz : Nat) : Met l yJx4a65c_init_da8c8 (ws_ yJx4a65c_init_da8c8 cJx4a65c_init_da8c8 1 none) (rm_ 3 52 0 0) (Xe D tys z b c2 [.ref a] (fun H9 => H9.size = sz) [(a, .inr (0, [.int 0, .null, .int 0]))]) (va_Qv (fun _ : Unit => True) (fun _ t => va_P D vwCl [(a, .inr (0, [.int 0, .ref z, .int 0]))] t.heap ∧ va_D (va_A [(a, .inr (0, [.int 0, .null, .int 0]))] sz) [(a, .inr (0, [.int 0, .ref z, .int 0]))]) (va_A [(a, .inr (0, [.int 0, .null, .int 0]))] sz)) 0 0 (va_A [(a, .inr (0, [.int 0, .null, .int 0]))] sz) := by
  refine Met.ofW (cc := cJx4a65c_init_da8c8) (maxL := 1) (ret := none) (by decide) rfl ?_
  intro p e9 s m args below meth c s₁ B hml hv
  obtain ⟨rfl, ⟨hT, hE⟩, hsz, hP, hD0⟩ := hv
  have hx := B.exec
  have hb := B.bytes
  have hr := B.returns
  have hts : ∀ w ∈ lw_all, w.before _ s = true := fun w h => atoms_spec (ws := (ws_ yJx4a65c_init_da8c8 cJx4a65c_init_da8c8 1 none)) B.pre w (List.mem_cons_of_mem _ h)
  have hown : s.vm.findClass RJx4a65c = some m.cls := findClass_of_methodNamed B.named
  have hlocks := B.notSynchronized
  have hin9 : meth.name = "<init>" := (name_of_methodNamed B.named B.method).1
  subst hsz
  have hD := hD0.self (sz := s.heap.size)
  have hAb : ∀ q, va_A [(a, .inr (0, [.int 0, .null, .int 0]))] s.heap.size q → b ≤ q := fun q h => h.elim (fun ⟨k, e, h⟩ => hD0.2 k _ h) (fun h => Nat.le_trans hE.2.2.1 h)
  generalize hAe : va_A [(a, .inr (0, [.int 0, .null, .int 0]))] s.heap.size = A at hD hAb ⊢
  have hA : ∀ q : Nat, s.heap.size ≤ q → A q := fun q h => by rw [← hAe]; exact Or.inr h
  have hS : va_S A s.heap s.heap [] := va_S.rf
  have hZ := hE.1.narrow hAb
  have hE0 := fun (H9 : Heap) (l9 : List Loc) (h9 : va_S A s.heap H9 l9) => Em.row hE h9 hAb
  obtain ⟨H, hHe⟩ : ∃ H : Heap, H = s.heap := ⟨_, rfl⟩
  have hP : va_P D vwCl [(a, .inr (0, [.int 0, .null, .int 0]))] s.heap := hP
  have hl := lv_entry ([.ref a]) (n := 1) (Nat.le_of_ble_eq_true rfl)
  rw [lg_entry_eq]
  generalize (lg_sl ([.ref a]) ++ List.replicate (1 - (lg_sl ([.ref a])).length) Slot.unset).toArray = ls at hl ⊢
  have hl : lv_has ls 1 [(0, .ref a)] := hl
  clear hHe H
  refine lv_aload_n hx hb dJx4a65c_init_da8c8_0 rfl (lv_at hl 0 rfl) ?_
  have hPc := hP.sub (ws' := [(a, .inr (0, [.int 0, .null, .int 0]))]) [0] rfl
  have hDc := hD.sub (ws' := [(a, .inr (0, [.int 0, .null, .int 0]))]) [0] (by decide) rfl
  have hFc := va_free (wc := [(a, .inr (0, [.int 0, .null, .int 0]))]) hD hS hA [0] rfl
  refine va_callv (va_runI (As := []) (rest := []) ⟨hx, hb, hml, hown, hts⟩ (x_Jxc12de_init_da8c8 l h0 h2 a s.heap.size) (cwI 0 hts (gd_code q77) rfl rfl rfl (hts _ q39) (hts _ q75) (hts _ q76) rfl hd_Jxc12de_init_da8c8.2 ⟨Nat.le_of_ble_eq_true rfl, Nat.le_of_ble_eq_true rfl⟩) ⟨Xe.blind, fun U hU hW => ⟨rfl, Xe.warm hW hT hE hS hAb hU, by show U.heap.size = _; rw [hU], by rw [hU]; exact hPc, hDc.weaken (fun k q _ h => hAb _ h)⟩⟩ rfl rfl hl.1 rfl (lv_room (Nat.le_of_ble_eq_true rfl)) dJx4a65c_init_da8c8_1 ⟨Nat.le_of_ble_eq_true rfl, Nat.le_of_ble_eq_true rfl⟩) hS (fun q _ h => hFc q h) hFc (fun u9 t9 H1 locs ht9 hvm9 hw9 hB9 hz9 hk9 hS => ?_)
  obtain ⟨hP1, hD1⟩ := hB9
  rw [ht9] at hP1
  obtain ⟨hP, hD⟩ := va_join (wr := []) (w1 := [(a, .inr (0, [.int 0, .null, .int 0]))]) hP hD [0] [] rfl rfl (by decide) (by decide) hk9 hFc hP1 hD1
  generalize H1 = H at hP hS ⊢
  have hP : va_P D vwCl [(a, .inr (0, [.int 0, .null, .int 0]))] H := hP
  have hD : va_D A [(a, .inr (0, [.int 0, .null, .int 0]))] := hD
  refine lv_aload_n hx hb dJx4a65c_init_da8c8_4 rfl (lv_at hl 0 rfl) ?_
  refine va_gets hx hb hZ hS hown (hts _ q82) (fun _ h9 => h9) dJx4a65c_init_da8c8_5 ?_
  refine va_put (D := D) (ci := 0) (v := .ref z) (ty := (.array (.object "java/lang/Object"))) hx hb hts i_Jx4a65c tyJx4a65c tyJx4a65c_ok nmJx4a65c hown hT.1 hP hD hS 0 rfl rfl 1 (by decide) (hts _ q84) (fun _ h9 => h9) rfl (by decide +kernel) rfl rfl (Nat.le_of_ble_eq_true rfl) dJx4a65c_init_da8c8_8 (fun H locs hP hD hS => ?_)
  have hP : va_P D vwCl [(a, .inr (0, [.int 0, .ref z, .int 0]))] H := hP
  have hD : va_D A [(a, .inr (0, [.int 0, .ref z, .int 0]))] := hD
  have hP9 := hP.sub (ws' := [(a, .inr (0, [.int 0, .ref z, .int 0]))]) [0] rfl
  have hD9 := hD.sub (ws' := [(a, .inr (0, [.int 0, .ref z, .int 0]))]) [0] (by decide) rfl
  exact W.vret hx hb hr (fun t9 ht hW => ⟨⟨(), rfl, trivial, by rw [ht]; exact hP9, hD9⟩, hS.F ht⟩) hS.2.2 dJx4a65c_init_da8c8_11
/-- "Sandglass$Chunk" "<init>" "()V" -/
theorem hd_X0_init : yX0_init.cls = RX0 ∧ yX0_init.cls ≠ "java/lang/invoke/MethodHandle" ∧ yX0_init.cls ≠ "java/lang/invoke/VarHandle" ∧ (parseMethodDescriptor yX0_init.desc).map (fun d => d.parameters.length) = some 0 := by decide +kernel
set_option maxHeartbeats 4000000 in
set_option maxRecDepth 100000 in
theorem x_X0_init (l : Launch) {D : va_G} {tys : List (ClassId × FieldType)} {z b : Nat} {k0 k2 : Nat} {c0 c2 : ClassId} (h0 : tys[k0]? = some (c0, .int)) (h2 : tys[k2]? = some (c2, .object "java/lang/Object")) (a : Nat) (sz : Nat) : Met l yX0_init (ws_ yX0_init cX0_init 1 none) (rm_ 1 12 1 512) (Xe D tys z b c2 [.ref a] (fun H9 => H9.size = sz) [(a, .inr (1, [.null]))]) (va_Qv (fun _ : Unit => True) (fun _ t => ∃ (q1 : Nat), va_P D vwCl [(a, .inr (1, [.ref q1])), (q1, .inl (c0, 512, .inl (fun _ => 0)))] t.heap ∧ va_D (va_A [(a, .inr (1, [.null]))] sz) [(a, .inr (1, [.ref q1])), (q1, .inl (c0, 512, .inl (fun _ => 0)))]) (va_A [(a, .inr (1, [.null]))] sz)) 1 512 (va_A [(a, .inr (1, [.null]))] sz) := by
  refine Met.ofW (cc := cX0_init) (maxL := 1) (ret := none) (by decide) rfl ?_
  intro p e9 s m args below meth c s₁ B hml hv
  obtain ⟨rfl, ⟨hT, hE⟩, hsz, hP, hD0⟩ := hv
  have hx := B.exec
  have hb := B.bytes
  have hr := B.returns
  have hts : ∀ w ∈ lw_all, w.before _ s = true := fun w h => atoms_spec (ws := (ws_ yX0_init cX0_init 1 none)) B.pre w (List.mem_cons_of_mem _ h)
  have hown : s.vm.findClass RX0 = some m.cls := findClass_of_methodNamed B.named
  have hlocks := B.notSynchronized
  have hin9 : meth.name = "<init>" := (name_of_methodNamed B.named B.method).1
  subst hsz
  have hD := hD0.self (sz := s.heap.size)
  have hAb : ∀ q, va_A [(a, .inr (1, [.null]))] s.heap.size q → b ≤ q := fun q h => h.elim (fun ⟨k, e, h⟩ => hD0.2 k _ h) (fun h => Nat.le_trans hE.2.2.1 h)
  generalize hAe : va_A [(a, .inr (1, [.null]))] s.heap.size = A at hD hAb ⊢
  have hA : ∀ q : Nat, s.heap.size ≤ q → A q := fun q h => by rw [← hAe]; exact Or.inr h
  have hS : va_S A s.heap s.heap [] := va_S.rf
  have hZ := hE.1.narrow hAb
  have hE0 := fun (H9 : Heap) (l9 : List Loc) (h9 : va_S A s.heap H9 l9) => Em.row hE h9 hAb
  obtain ⟨H, hHe⟩ : ∃ H : Heap, H = s.heap := ⟨_, rfl⟩
  have hP : va_P D vwCl [(a, .inr (1, [.null]))] s.heap := hP
  have hl := lv_entry ([.ref a]) (n := 1) (Nat.le_of_ble_eq_true rfl)
  rw [lg_entry_eq]
  generalize (lg_sl ([.ref a]) ++ List.replicate (1 - (lg_sl ([.ref a])).length) Slot.unset).toArray = ls at hl ⊢
  have hl : lv_has ls 1 [(0, .ref a)] := hl
  clear hHe H
  refine lv_aload_n hx hb dX0_init_0 rfl (lv_at hl 0 rfl) ?_
  refine W.objInit hx hb hown (hts _ q557) (hts _ q68) (hts _ q69) rfl (by rw [hml]; exact hl.1) rfl dX0_init_1 (Nat.le_of_ble_eq_true rfl) (Nat.le_of_ble_eq_true rfl) ?_
  refine W.eq (g2 := F0 m 4 ls []) rfl ?_
  refine lv_aload_n hx hb dX0_init_4 rfl (lv_at hl 0 rfl) ?_
  refine lv_sipush (v := 512) hx hb dX0_init_5 (by decide) ?_
  refine va_newa (atype := .int) (ty := .int) (N' := 512) (a0 := (512, .inl (fun _ => 0))) hx hb (hts _ q187) rfl hT.1 hP hD hS hA (fun _ => rfl) (by decide) rfl (Nat.le_of_ble_eq_true rfl) (Nat.le_of_ble_eq_true rfl) (Nat.le_of_ble_eq_true rfl) dX0_init_8 (fun q1 cA H hK9 hP hD hS => ?_)
  have e9 : cA = c0 := RAi hK9 h0
  rw [e9] at hP hD
  have hP : va_P D vwCl [(a, .inr (1, [.null])), (q1, .inl (c0, 512, .inl (fun _ => 0)))] H := hP
  have hD : va_D A [(a, .inr (1, [.null])), (q1, .inl (c0, 512, .inl (fun _ => 0)))] := hD
  refine va_putF (D := D) (ci := 1) (v := .ref q1) (ty := (.array .int)) hx hb hts i_X0 tyX0 tyX0_ok nmX0 hown hT.1 hP hD hS 0 rfl rfl 0 (by decide) (hts _ q558) (fun _ h9 => h9) rfl hin9 rfl (by decide +kernel) rfl rfl (Nat.le_of_ble_eq_true rfl) dX0_init_10 (fun H locs hP hD hS => ?_)
  have hP : va_P D vwCl [(a, .inr (1, [.ref q1])), (q1, .inl (c0, 512, .inl (fun _ => 0)))] H := hP
  have hD : va_D A [(a, .inr (1, [.ref q1])), (q1, .inl (c0, 512, .inl (fun _ => 0)))] := hD
  have hP9 := hP.sub (ws' := [(a, .inr (1, [.ref q1])), (q1, .inl (c0, 512, .inl (fun _ => 0)))]) [0, 1] rfl
  have hD9 := hD.sub (ws' := [(a, .inr (1, [.ref q1])), (q1, .inl (c0, 512, .inl (fun _ => 0)))]) [0, 1] (by decide) rfl
  exact W.vret hx hb hr (fun t9 ht hW => ⟨⟨(), rfl, trivial, q1, by rw [ht]; exact hP9, hD9⟩, hS.F ht⟩) hS.2.2 dX0_init_13
/-- "java/util/ArrayList" "grow" "(I)[Ljava/lang/Object;" -/
theorem hd_Jx4a65c_grow_92f84 : yJx4a65c_grow_92f84.cls = RJx4a65c ∧ yJx4a65c_grow_92f84.cls ≠ "java/lang/invoke/MethodHandle" ∧ yJx4a65c_grow_92f84.cls ≠ "java/lang/invoke/VarHandle" ∧ (parseMethodDescriptor yJx4a65c_grow_92f84.desc).map (fun d => d.parameters.length) = some 1 := by decide +kernel
set_option maxHeartbeats 4000000 in
set_option maxRecDepth 100000 in
theorem x_Jx4a65c_grow_92f84 (l : Launch) {D : va_G} {tys : List (ClassId × FieldType)} {z b : Nat} {k0 k2 : Nat} {c0 c2 : ClassId} (h0 : tys[k0]? = some (c0, .int)) (h2 : tys[k2]? = some (c2, .object "java/lang/Object")) (a : Nat) (mo : Int32) (sz : Nat) : Met l yJx4a65c_grow_92f84 (ws_ yJx4a65c_grow_92f84 cJx4a65c_grow_92f84 4 (some (.array (.object "java/lang/Object")))) (rm_ 1 22 1 10) (Xe D tys z b c2 [.ref a, .int (0 + 1)] (fun H9 => H9.size = sz) [(a, .inr (0, [.int mo, .ref z, .int 0]))]) (va_Qq (fun (v : Option Nat) (u : Nat) => v = some u) (fun (u : Nat) t => ∃ q1 : Nat, u = q1 ∧ va_P D vwCl [(a, .inr (0, [.int mo, .ref q1, .int 0])), (q1, .inl (c2, 10, .inr (.inr (.inr (.inr (fun _ => none))))))] t.heap ∧ va_D (va_A [(a, .inr (0, [.int mo, .ref z, .int 0]))] sz) [(a, .inr (0, [.int mo, .ref q1, .int 0])), (q1, .inl (c2, 10, .inr (.inr (.inr (.inr (fun _ => none))))))]) (va_A [(a, .inr (0, [.int mo, .ref z, .int 0]))] sz)) 1 10 (va_A [(a, .inr (0, [.int mo, .ref z, .int 0]))] sz) := by
  refine Met.ofW (cc := cJx4a65c_grow_92f84) (maxL := 4) (ret := (some (.array (.object "java/lang/Object")))) (by decide) rfl ?_
  intro p e9 s m args below meth c s₁ B hml hv
  obtain ⟨rfl, ⟨hT, hE⟩, hsz, hP, hD0⟩ := hv
  have hx := B.exec
  have hb := B.bytes
  have hr := B.returns
  have hts : ∀ w ∈ lw_all, w.before _ s = true := fun w h => atoms_spec (ws := (ws_ yJx4a65c_grow_92f84 cJx4a65c_grow_92f84 4 (some (.array (.object "java/lang/Object"))))) B.pre w (List.mem_cons_of_mem _ h)
  have hown : s.vm.findClass RJx4a65c = some m.cls := findClass_of_methodNamed B.named
  have hlocks := B.notSynchronized
  subst hsz
  have hD := hD0.self (sz := s.heap.size)
  have hAb : ∀ q, va_A [(a, .inr (0, [.int mo, .ref z, .int 0]))] s.heap.size q → b ≤ q := fun q h => h.elim (fun ⟨k, e, h⟩ => hD0.2 k _ h) (fun h => Nat.le_trans hE.2.2.1 h)
  generalize hAe : va_A [(a, .inr (0, [.int mo, .ref z, .int 0]))] s.heap.size = A at hD hAb ⊢
  have hA : ∀ q : Nat, s.heap.size ≤ q → A q := fun q h => by rw [← hAe]; exact Or.inr h
  have hS : va_S A s.heap s.heap [] := va_S.rf
  have hZ := hE.1.narrow hAb
  have hE0 := fun (H9 : Heap) (l9 : List Loc) (h9 : va_S A s.heap H9 l9) => Em.row hE h9 hAb
  obtain ⟨H, hHe⟩ : ∃ H : Heap, H = s.heap := ⟨_, rfl⟩
  have hP : va_P D vwCl [(a, .inr (0, [.int mo, .ref z, .int 0]))] s.heap := hP
  have hl := lv_entry ([.ref a, .int (0 + 1)]) (n := 4) (Nat.le_of_ble_eq_true rfl)
  rw [lg_entry_eq]
  generalize (lg_sl ([.ref a, .int (0 + 1)]) ++ List.replicate (4 - (lg_sl ([.ref a, .int (0 + 1)])).length) Slot.unset).toArray = ls at hl ⊢
  have hl : lv_has ls 4 [(0, .ref a), (1, .int (0 + 1))] := hl
  clear hHe H
  refine lv_aload_n hx hb dJx4a65c_grow_92f84_0 rfl (lv_at hl 0 rfl) ?_
  refine va_get hx hb hts i_Jx4a65c hown hT.1 hP 0 rfl rfl 1 (by decide) (hts _ q84) (fun _ h9 => h9) rfl dJx4a65c_grow_92f84_1 ?_
  refine va_alenZ hx hb (hE0 _ _ hS) dJx4a65c_grow_92f84_4 ?_
  refine lv_istore_n (lv' := [(2, .int 0), (0, .ref a), (1, .int (0 + 1))]) hx hb dJx4a65c_grow_92f84_5 rfl hl (by decide) rfl (fun ls hl => ?_)
  refine lv_iload_n hx hb dJx4a65c_grow_92f84_6 rfl (lv_at hl 0 rfl) ?_
  refine lv_if_gt (tgt := 20) hx hb dJx4a65c_grow_92f84_7 (by decide) (fun h9 => absurd h9 (by decide)) (fun _ => ?_)
  refine lv_aload_n hx hb dJx4a65c_grow_92f84_10 rfl (lv_at hl 1 rfl) ?_
  refine va_get hx hb hts i_Jx4a65c hown hT.1 hP 0 rfl rfl 1 (by decide) (hts _ q84) (fun _ h9 => h9) rfl dJx4a65c_grow_92f84_11 ?_
  refine va_gets hx hb hZ hS hown (hts _ q82) (fun _ h9 => h9) dJx4a65c_grow_92f84_14 ?_
  refine lv_acmp_eq (rx := some z) (ry := some z) (tgt := 45) hx hb dJx4a65c_grow_92f84_17 (by decide) (fun _ => ?_) (fun h9 => absurd rfl h9)
  refine lv_aload_n hx hb dJx4a65c_grow_92f84_45 rfl (lv_at hl 1 rfl) ?_
  refine lv_bipush (v := 10) hx hb dJx4a65c_grow_92f84_46 (by decide) ?_
  refine lv_iload_n hx hb dJx4a65c_grow_92f84_48 rfl (lv_at hl 2 rfl) ?_
  refine va_mmax hx hb (by rw [hml]; exact hl.1.symm) hown (hts _ q618) (hts _ q482) (hts _ q50) (hts _ q483) (Nat.le_of_ble_eq_true rfl) (Nat.le_of_ble_eq_true rfl) (Nat.le_of_ble_eq_true rfl) (Nat.le_of_ble_eq_true rfl) dJx4a65c_grow_92f84_49 ?_
  refine W.eq (g2 := F0 m 52 ls [.int 10, .ref a]) (by rw [if_neg (by decide)]) ?_
  refine va_newq (C := "java/lang/Object") (N' := 10) hx hb hown (hts _ q619) hT.2.2.2.2 hT.1 hP hD hS hA (by decide) rfl (Nat.le_of_ble_eq_true rfl) (Nat.le_of_ble_eq_true rfl) (Nat.le_of_ble_eq_true rfl) dJx4a65c_grow_92f84_52 (fun q1 cA H hK9 hP hD hS => ?_)
  have e9 : cA = c2 := RAo hK9 h2
  rw [e9] at hP hD
  have hP : va_P D vwCl [(a, .inr (0, [.int mo, .ref z, .int 0])), (q1, .inl (c2, 10, .inr (.inr (.inr (.inr (fun _ => none))))))] H := hP
  have hD : va_D A [(a, .inr (0, [.int mo, .ref z, .int 0])), (q1, .inl (c2, 10, .inr (.inr (.inr (.inr (fun _ => none))))))] := hD
  refine lv_dup_x1 hx hb dJx4a65c_grow_92f84_55 rfl rfl ?_
  refine va_put (D := D) (ci := 0) (v := .ref q1) (ty := (.array (.object "java/lang/Object"))) hx hb hts i_Jx4a65c tyJx4a65c tyJx4a65c_ok nmJx4a65c hown hT.1 hP hD hS 0 rfl rfl 1 (by decide) (hts _ q84) (fun _ h9 => h9) rfl (by decide +kernel) rfl rfl (Nat.le_of_ble_eq_true rfl) dJx4a65c_grow_92f84_56 (fun H locs hP hD hS => ?_)
  have hP : va_P D vwCl [(a, .inr (0, [.int mo, .ref q1, .int 0])), (q1, .inl (c2, 10, .inr (.inr (.inr (.inr (fun _ => none))))))] H := hP
  have hD : va_D A [(a, .inr (0, [.int mo, .ref q1, .int 0])), (q1, .inl (c2, 10, .inr (.inr (.inr (.inr (fun _ => none))))))] := hD
  have hP9 := hP.sub (ws' := [(a, .inr (0, [.int mo, .ref q1, .int 0])), (q1, .inl (c2, 10, .inr (.inr (.inr (.inr (fun _ => none))))))]) [0, 1] rfl
  have hD9 := hD.sub (ws' := [(a, .inr (0, [.int mo, .ref q1, .int 0])), (q1, .inl (c2, 10, .inr (.inr (.inr (.inr (fun _ => none))))))]) [0, 1] (by decide) rfl
  exact W.aret (v := .ref q1) (rt := (.array (.object "java/lang/Object"))) hx hb hr (Or.inr ⟨_, rfl⟩) (Or.inr ⟨_, rfl⟩) (fun t9 ht hW => ⟨⟨some q1, q1, rfl, rfl, q1, rfl, by rw [ht]; exact hP9, hD9⟩, hS.F ht⟩) hS.2.2 dJx4a65c_grow_92f84_59
/-- "java/util/ArrayList" "grow" "()[Ljava/lang/Object;" -/
theorem hd_Jx4a65c_grow_d5877 : yJx4a65c_grow_d5877.cls = RJx4a65c ∧ yJx4a65c_grow_d5877.cls ≠ "java/lang/invoke/MethodHandle" ∧ yJx4a65c_grow_d5877.cls ≠ "java/lang/invoke/VarHandle" ∧ (parseMethodDescriptor yJx4a65c_grow_d5877.desc).map (fun d => d.parameters.length) = some 0 := by decide +kernel
set_option maxHeartbeats 4000000 in
set_option maxRecDepth 100000 in
theorem x_Jx4a65c_grow_d5877 (l : Launch) {D : va_G} {tys : List (ClassId × FieldType)} {z b : Nat} {k0 k2 : Nat} {c0 c2 : ClassId} (h0 : tys[k0]? = some (c0, .int)) (h2 : tys[k2]? = some (c2, .object "java/lang/Object")) (a : Nat) (mo : Int32) (sz : Nat) : Met l yJx4a65c_grow_d5877 (ws_ yJx4a65c_grow_d5877 cJx4a65c_grow_d5877 1 (some (.array (.object "java/lang/Object")))) (rm_ 2 45 1 10) (Xe D tys z b c2 [.ref a] (fun H9 => H9.size = sz) [(a, .inr (0, [.int mo, .ref z, .int 0]))]) (va_Qq (fun (v : Option Nat) (u : Nat) => v = some u) (fun (u : Nat) t => ∃ q1 : Nat, u = q1 ∧ va_P D vwCl [(a, .inr (0, [.int mo, .ref q1, .int 0])), (q1, .inl (c2, 10, .inr (.inr (.inr (.inr (fun _ => none))))))] t.heap ∧ va_D (va_A [(a, .inr (0, [.int mo, .ref z, .int 0]))] sz) [(a, .inr (0, [.int mo, .ref q1, .int 0])), (q1, .inl (c2, 10, .inr (.inr (.inr (.inr (fun _ => none))))))]) (va_A [(a, .inr (0, [.int mo, .ref z, .int 0]))] sz)) 1 10 (va_A [(a, .inr (0, [.int mo, .ref z, .int 0]))] sz) := by
  refine Met.ofW (cc := cJx4a65c_grow_d5877) (maxL := 1) (ret := (some (.array (.object "java/lang/Object")))) (by decide) rfl ?_
  intro p e9 s m args below meth c s₁ B hml hv
  obtain ⟨rfl, ⟨hT, hE⟩, hsz, hP, hD0⟩ := hv
  have hx := B.exec
  have hb := B.bytes
  have hr := B.returns
  have hts : ∀ w ∈ lw_all, w.before _ s = true := fun w h => atoms_spec (ws := (ws_ yJx4a65c_grow_d5877 cJx4a65c_grow_d5877 1 (some (.array (.object "java/lang/Object"))))) B.pre w (List.mem_cons_of_mem _ h)
  have hown : s.vm.findClass RJx4a65c = some m.cls := findClass_of_methodNamed B.named
  have hlocks := B.notSynchronized
  subst hsz
  have hD := hD0.self (sz := s.heap.size)
  have hAb : ∀ q, va_A [(a, .inr (0, [.int mo, .ref z, .int 0]))] s.heap.size q → b ≤ q := fun q h => h.elim (fun ⟨k, e, h⟩ => hD0.2 k _ h) (fun h => Nat.le_trans hE.2.2.1 h)
  generalize hAe : va_A [(a, .inr (0, [.int mo, .ref z, .int 0]))] s.heap.size = A at hD hAb ⊢
  have hA : ∀ q : Nat, s.heap.size ≤ q → A q := fun q h => by rw [← hAe]; exact Or.inr h
  have hS : va_S A s.heap s.heap [] := va_S.rf
  have hZ := hE.1.narrow hAb
  have hE0 := fun (H9 : Heap) (l9 : List Loc) (h9 : va_S A s.heap H9 l9) => Em.row hE h9 hAb
  obtain ⟨H, hHe⟩ : ∃ H : Heap, H = s.heap := ⟨_, rfl⟩
  have hP : va_P D vwCl [(a, .inr (0, [.int mo, .ref z, .int 0]))] s.heap := hP
  have hl := lv_entry ([.ref a]) (n := 1) (Nat.le_of_ble_eq_true rfl)
  rw [lg_entry_eq]
  generalize (lg_sl ([.ref a]) ++ List.replicate (1 - (lg_sl ([.ref a])).length) Slot.unset).toArray = ls at hl ⊢
  have hl : lv_has ls 1 [(0, .ref a)] := hl
  clear hHe H
  refine lv_aload_n hx hb dJx4a65c_grow_d5877_0 rfl (lv_at hl 0 rfl) ?_
  refine lv_aload_n hx hb dJx4a65c_grow_d5877_1 rfl (lv_at hl 0 rfl) ?_
  refine va_get hx hb hts i_Jx4a65c hown hT.1 hP 0 rfl rfl 2 (by decide) (hts _ q85) (fun _ h9 => h9) rfl dJx4a65c_grow_d5877_2 ?_
  refine lv_iconst (v := 1) hx hb dJx4a65c_grow_d5877_5 (by decide) ?_
  refine lv_iadd hx hb dJx4a65c_grow_d5877_6 ?_
  have hPc := hP.sub (ws' := [(a, .inr (0, [.int mo, .ref z, .int 0]))]) [0] rfl
  have hDc := hD.sub (ws' := [(a, .inr (0, [.int mo, .ref z, .int 0]))]) [0] (by decide) rfl
  have hFc := va_free (wc := [(a, .inr (0, [.int mo, .ref z, .int 0]))]) hD hS hA [0] rfl
  refine va_callq (va_runV (As := [.int (0 + 1)]) (rest := []) ⟨hx, hb, hml, hown, hts⟩ (x_Jx4a65c_grow_92f84 l h0 h2 a mo s.heap.size) (cwV 1 hts (gd_V q575 q577 q22 q40 q578) rfl rfl rfl hd_Jx4a65c_grow_92f84 ⟨Nat.le_of_ble_eq_true rfl, Nat.le_of_ble_eq_true rfl⟩) ⟨Xe.blind, va_recv (q0 := 0) hT.1 hP rfl rfl, fun U hU hW => ⟨rfl, Xe.warm hW hT hE hS hAb hU, by show U.heap.size = _; rw [hU], by rw [hU]; exact hPc, hDc.weaken (fun k q _ h => hAb _ h)⟩⟩ rfl rfl hl.1 rfl (lv_room (Nat.le_of_ble_eq_true rfl)) dJx4a65c_grow_d5877_7 ⟨Nat.le_of_ble_eq_true rfl, Nat.le_of_ble_eq_true rfl⟩) hS (fun q _ h => hFc q h) hFc (fun v9 u9 t9 H1 locs ht9 hvm9 hw9 hB9 hz9 hk9 hS => ?_)
  obtain ⟨q1, hu9, hP1, hD1⟩ := hB9
  rw [ht9] at hP1
  rw [hw9, hu9]
  obtain ⟨hP, hD⟩ := va_join (wr := []) (w1 := [(a, .inr (0, [.int mo, .ref q1, .int 0])), (q1, .inl (c2, 10, .inr (.inr (.inr (.inr (fun _ => none))))))]) hP hD [0] [] rfl rfl (by decide) (by decide) hk9 hFc hP1 hD1
  generalize H1 = H at hP hS ⊢
  have hP : va_P D vwCl [(a, .inr (0, [.int mo, .ref q1, .int 0])), (q1, .inl (c2, 10, .inr (.inr (.inr (.inr (fun _ => none))))))] H := hP
  have hD : va_D A [(a, .inr (0, [.int mo, .ref q1, .int 0])), (q1, .inl (c2, 10, .inr (.inr (.inr (.inr (fun _ => none))))))] := hD
  refine W.eq (g2 := F0 m 10 ls [.ref q1]) (by rfl) ?_
  have hP9 := hP.sub (ws' := [(a, .inr (0, [.int mo, .ref q1, .int 0])), (q1, .inl (c2, 10, .inr (.inr (.inr (.inr (fun _ => none))))))]) [0, 1] rfl
  have hD9 := hD.sub (ws' := [(a, .inr (0, [.int mo, .ref q1, .int 0])), (q1, .inl (c2, 10, .inr (.inr (.inr (.inr (fun _ => none))))))]) [0, 1] (by decide) rfl
  exact W.aret (v := .ref q1) (rt := (.array (.object "java/lang/Object"))) hx hb hr (Or.inr ⟨_, rfl⟩) (Or.inr ⟨_, rfl⟩) (fun t9 ht hW => ⟨⟨some q1, q1, rfl, rfl, q1, rfl, by rw [ht]; exact hP9, hD9⟩, hS.F ht⟩) hS.2.2 dJx4a65c_grow_d5877_10
/-- "java/util/ArrayList" "add" "(Ljava/lang/Object;[Ljava/lang/Object;I)V" -/
theorem hd_Jx4a65c_add_72be8 : yJx4a65c_add_72be8.cls = RJx4a65c ∧ yJx4a65c_add_72be8.cls ≠ "java/lang/invoke/MethodHandle" ∧ yJx4a65c_add_72be8.cls ≠ "java/lang/invoke/VarHandle" ∧ (parseMethodDescriptor yJx4a65c_add_72be8.desc).map (fun d => d.parameters.length) = some 3 := by decide +kernel
set_option maxHeartbeats 4000000 in
set_option maxRecDepth 100000 in
theorem x_Jx4a65c_add_72be81 (l : Launch) {D : va_G} {tys : List (ClassId × FieldType)} {z b : Nat} {k0 k2 : Nat} {c0 c2 : ClassId} (h0 : tys[k0]? = some (c0, .int)) (h2 : tys[k2]? = some (c2, .object "java/lang/Object")) (a e x n : Nat) (mo : Int32) (f : Nat → Option Nat) (ci : Nat) (vs : List Value) (r : vw_C) (hci : vwCl[ci]? = some r) (hcx : r.1 ∈ xcast) (hn : n < 10) (sz : Nat) : Met l yJx4a65c_add_72be8 (ws_ yJx4a65c_add_72be8 cJx4a65c_add_72be8 4 none) (rm_ 0 0 0 0) (Xe D tys z b c2 [.ref a, .ref x, .ref e, .int (nI n)] (fun H9 => H9.size = sz) [(a, .inr (0, [.int mo, .ref e, .int (nI n)])), (e, .inl (c2, 10, .inr (.inr (.inr (.inr f))))), (x, .inr (ci, vs))]) (va_Qv (fun _ : Unit => True) (fun _ t => va_P D vwCl [(a, .inr (0, [.int mo, .ref e, .int ((nI n) + 1)])), (e, .inl (c2, 10, .inr (.inr (.inr (.inr (va_up f ((nI n)).toNatClampNeg (some x))))))), (x, .inr (ci, vs))] t.heap ∧ va_D (va_A [(a, .inr (0, [.int mo, .ref e, .int (nI n)])), (e, .inl (c2, 10, .inr (.inr (.inr (.inr f))))), (x, .inr (ci, vs))] sz) [(a, .inr (0, [.int mo, .ref e, .int ((nI n) + 1)])), (e, .inl (c2, 10, .inr (.inr (.inr (.inr (va_up f ((nI n)).toNatClampNeg (some x))))))), (x, .inr (ci, vs))]) (va_A [(a, .inr (0, [.int mo, .ref e, .int (nI n)])), (e, .inl (c2, 10, .inr (.inr (.inr (.inr f))))), (x, .inr (ci, vs))] sz)) 0 0 (va_A [(a, .inr (0, [.int mo, .ref e, .int (nI n)])), (e, .inl (c2, 10, .inr (.inr (.inr (.inr f))))), (x, .inr (ci, vs))] sz) := by
  refine Met.ofW (cc := cJx4a65c_add_72be8) (maxL := 4) (ret := none) (by decide) rfl ?_
  intro p e9 s m args below meth c s₁ B hml hv
  obtain ⟨rfl, ⟨hT, hE⟩, hsz, hP, hD0⟩ := hv
  have hx := B.exec
  have hb := B.bytes
  have hr := B.returns
  have hts : ∀ w ∈ lw_all, w.before _ s = true := fun w h => atoms_spec (ws := (ws_ yJx4a65c_add_72be8 cJx4a65c_add_72be8 4 none)) B.pre w (List.mem_cons_of_mem _ h)
  have hown : s.vm.findClass RJx4a65c = some m.cls := findClass_of_methodNamed B.named
  have hlocks := B.notSynchronized
  subst hsz
  have hD := hD0.self (sz := s.heap.size)
  have hAb : ∀ q, va_A [(a, .inr (0, [.int mo, .ref e, .int (nI n)])), (e, .inl (c2, 10, .inr (.inr (.inr (.inr f))))), (x, .inr (ci, vs))] s.heap.size q → b ≤ q := fun q h => h.elim (fun ⟨k, e, h⟩ => hD0.2 k _ h) (fun h => Nat.le_trans hE.2.2.1 h)
  generalize hAe : va_A [(a, .inr (0, [.int mo, .ref e, .int (nI n)])), (e, .inl (c2, 10, .inr (.inr (.inr (.inr f))))), (x, .inr (ci, vs))] s.heap.size = A at hD hAb ⊢
  have hA : ∀ q : Nat, s.heap.size ≤ q → A q := fun q h => by rw [← hAe]; exact Or.inr h
  have hS : va_S A s.heap s.heap [] := va_S.rf
  have hZ := hE.1.narrow hAb
  have hE0 := fun (H9 : Heap) (l9 : List Loc) (h9 : va_S A s.heap H9 l9) => Em.row hE h9 hAb
  obtain ⟨H, hHe⟩ : ∃ H : Heap, H = s.heap := ⟨_, rfl⟩
  have hP : va_P D vwCl [(a, .inr (0, [.int mo, .ref e, .int (nI n)])), (e, .inl (c2, 10, .inr (.inr (.inr (.inr f))))), (x, .inr (ci, vs))] s.heap := hP
  have hl := lv_entry ([.ref a, .ref x, .ref e, .int (nI n)]) (n := 4) (Nat.le_of_ble_eq_true rfl)
  rw [lg_entry_eq]
  generalize (lg_sl ([.ref a, .ref x, .ref e, .int (nI n)]) ++ List.replicate (4 - (lg_sl ([.ref a, .ref x, .ref e, .int (nI n)])).length) Slot.unset).toArray = ls at hl ⊢
  have hl : lv_has ls 4 [(0, .ref a), (1, .ref x), (2, .ref e), (3, .int (nI n))] := hl
  clear hHe H
  refine lv_iload_n hx hb dJx4a65c_add_72be8_0 rfl (lv_at hl 3 rfl) ?_
  refine lv_aload_n hx hb dJx4a65c_add_72be8_1 rfl (lv_at hl 2 rfl) ?_
  refine va_alen hx hb hT.1 hP 1 k2 rfl h2 (v := 10) rfl dJx4a65c_add_72be8_2 ?_
  refine lv_icmp_ne (tgt := 11) hx hb dJx4a65c_add_72be8_3 (by decide) (fun _ => ?_) (fun h9 => absurd h9 (fun z9 => absurd ((nI_eq (a := n) (b := 10) (by omega) (by decide)).mp z9) (by omega)))
  refine lv_aload_n hx hb dJx4a65c_add_72be8_11 rfl (lv_at hl 2 rfl) ?_
  refine lv_iload_n hx hb dJx4a65c_add_72be8_12 rfl (lv_at hl 3 rfl) ?_
  refine lv_aload_n hx hb dJx4a65c_add_72be8_13 rfl (lv_at hl 1 rfl) ?_
  refine va_astqO (ci := ci) hx hb hT.1 hP hD hS 1 k2 2 rfl h2 (hT.2.2.1 _ hcx) rfl hci (vp_in_nI hn (by decide)) dJx4a65c_add_72be8_14 (fun H locs hP hD hS => ?_)
  have hP : va_P D vwCl [(a, .inr (0, [.int mo, .ref e, .int (nI n)])), (e, .inl (c2, 10, .inr (.inr (.inr (.inr (va_up f ((nI n)).toNatClampNeg (some x))))))), (x, .inr (ci, vs))] H := hP
  have hD : va_D A [(a, .inr (0, [.int mo, .ref e, .int (nI n)])), (e, .inl (c2, 10, .inr (.inr (.inr (.inr (va_up f ((nI n)).toNatClampNeg (some x))))))), (x, .inr (ci, vs))] := hD
  refine lv_aload_n hx hb dJx4a65c_add_72be8_15 rfl (lv_at hl 0 rfl) ?_
  refine lv_iload_n hx hb dJx4a65c_add_72be8_16 rfl (lv_at hl 3 rfl) ?_
  refine lv_iconst (v := 1) hx hb dJx4a65c_add_72be8_17 (by decide) ?_
  refine lv_iadd hx hb dJx4a65c_add_72be8_18 ?_
  refine va_put (D := D) (ci := 0) (v := .int ((nI n) + 1)) (ty := .int) hx hb hts i_Jx4a65c tyJx4a65c tyJx4a65c_ok nmJx4a65c hown hT.1 hP hD hS 0 rfl rfl 2 (by decide) (hts _ q85) (fun _ h9 => h9) rfl (by decide +kernel) rfl rfl (Nat.le_of_ble_eq_true rfl) dJx4a65c_add_72be8_19 (fun H locs hP hD hS => ?_)
  have hP : va_P D vwCl [(a, .inr (0, [.int mo, .ref e, .int ((nI n) + 1)])), (e, .inl (c2, 10, .inr (.inr (.inr (.inr (va_up f ((nI n)).toNatClampNeg (some x))))))), (x, .inr (ci, vs))] H := hP
  have hD : va_D A [(a, .inr (0, [.int mo, .ref e, .int ((nI n) + 1)])), (e, .inl (c2, 10, .inr (.inr (.inr (.inr (va_up f ((nI n)).toNatClampNeg (some x))))))), (x, .inr (ci, vs))] := hD
  have hP9 := hP.sub (ws' := [(a, .inr (0, [.int mo, .ref e, .int ((nI n) + 1)])), (e, .inl (c2, 10, .inr (.inr (.inr (.inr (va_up f ((nI n)).toNatClampNeg (some x))))))), (x, .inr (ci, vs))]) [0, 1, 2] rfl
  have hD9 := hD.sub (ws' := [(a, .inr (0, [.int mo, .ref e, .int ((nI n) + 1)])), (e, .inl (c2, 10, .inr (.inr (.inr (.inr (va_up f ((nI n)).toNatClampNeg (some x))))))), (x, .inr (ci, vs))]) [0, 1, 2] (by decide) rfl
  exact W.vret hx hb hr (fun t9 ht hW => ⟨⟨(), rfl, trivial, by rw [ht]; exact hP9, hD9⟩, hS.F ht⟩) hS.2.2 dJx4a65c_add_72be8_22
set_option maxHeartbeats 4000000 in
set_option maxRecDepth 100000 in
theorem x_Jx4a65c_add_72be80 (l : Launch) {D : va_G} {tys : List (ClassId × FieldType)} {z b : Nat} {k0 k2 : Nat} {c0 c2 : ClassId} (h0 : tys[k0]? = some (c0, .int)) (h2 : tys[k2]? = some (c2, .object "java/lang/Object")) (a x : Nat) (mo : Int32) (ci : Nat) (vs : List Value) (r : vw_C) (hci : vwCl[ci]? = some r) (hcx : r.1 ∈ xcast) (sz : Nat) : Met l yJx4a65c_add_72be8 (ws_ yJx4a65c_add_72be8 cJx4a65c_add_72be8 4 none) (rm_ 3 65 1 10) (Xe D tys z b c2 [.ref a, .ref x, .ref z, .int 0] (fun H9 => H9.size = sz) [(a, .inr (0, [.int mo, .ref z, .int 0])), (x, .inr (ci, vs))]) (va_Qv (fun _ : Unit => True) (fun _ t => ∃ (q1 : Nat), va_P D vwCl [(a, .inr (0, [.int mo, .ref q1, .int (0 + 1)])), (q1, .inl (c2, 10, .inr (.inr (.inr (.inr (va_up (fun _ => none) (0 : Int32).toNatClampNeg (some x))))))), (x, .inr (ci, vs))] t.heap ∧ va_D (va_A [(a, .inr (0, [.int mo, .ref z, .int 0])), (x, .inr (ci, vs))] sz) [(a, .inr (0, [.int mo, .ref q1, .int (0 + 1)])), (q1, .inl (c2, 10, .inr (.inr (.inr (.inr (va_up (fun _ => none) (0 : Int32).toNatClampNeg (some x))))))), (x, .inr (ci, vs))]) (va_A [(a, .inr (0, [.int mo, .ref z, .int 0])), (x, .inr (ci, vs))] sz)) 1 10 (va_A [(a, .inr (0, [.int mo, .ref z, .int 0])), (x, .inr (ci, vs))] sz) := by
  refine Met.ofW (cc := cJx4a65c_add_72be8) (maxL := 4) (ret := none) (by decide) rfl ?_
  intro p e9 s m args below meth c s₁ B hml hv
  obtain ⟨rfl, ⟨hT, hE⟩, hsz, hP, hD0⟩ := hv
  have hx := B.exec
  have hb := B.bytes
  have hr := B.returns
  have hts : ∀ w ∈ lw_all, w.before _ s = true := fun w h => atoms_spec (ws := (ws_ yJx4a65c_add_72be8 cJx4a65c_add_72be8 4 none)) B.pre w (List.mem_cons_of_mem _ h)
  have hown : s.vm.findClass RJx4a65c = some m.cls := findClass_of_methodNamed B.named
  have hlocks := B.notSynchronized
  subst hsz
  have hD := hD0.self (sz := s.heap.size)
  have hAb : ∀ q, va_A [(a, .inr (0, [.int mo, .ref z, .int 0])), (x, .inr (ci, vs))] s.heap.size q → b ≤ q := fun q h => h.elim (fun ⟨k, e, h⟩ => hD0.2 k _ h) (fun h => Nat.le_trans hE.2.2.1 h)
  generalize hAe : va_A [(a, .inr (0, [.int mo, .ref z, .int 0])), (x, .inr (ci, vs))] s.heap.size = A at hD hAb ⊢
  have hA : ∀ q : Nat, s.heap.size ≤ q → A q := fun q h => by rw [← hAe]; exact Or.inr h
  have hS : va_S A s.heap s.heap [] := va_S.rf
  have hZ := hE.1.narrow hAb
  have hE0 := fun (H9 : Heap) (l9 : List Loc) (h9 : va_S A s.heap H9 l9) => Em.row hE h9 hAb
  obtain ⟨H, hHe⟩ : ∃ H : Heap, H = s.heap := ⟨_, rfl⟩
  have hP : va_P D vwCl [(a, .inr (0, [.int mo, .ref z, .int 0])), (x, .inr (ci, vs))] s.heap := hP
  have hl := lv_entry ([.ref a, .ref x, .ref z, .int 0]) (n := 4) (Nat.le_of_ble_eq_true rfl)
  rw [lg_entry_eq]
  generalize (lg_sl ([.ref a, .ref x, .ref z, .int 0]) ++ List.replicate (4 - (lg_sl ([.ref a, .ref x, .ref z, .int 0])).length) Slot.unset).toArray = ls at hl ⊢
  have hl : lv_has ls 4 [(0, .ref a), (1, .ref x), (2, .ref z), (3, .int 0)] := hl
  clear hHe H
  refine lv_iload_n hx hb dJx4a65c_add_72be8_0 rfl (lv_at hl 3 rfl) ?_
  refine lv_aload_n hx hb dJx4a65c_add_72be8_1 rfl (lv_at hl 2 rfl) ?_
  refine va_alenZ hx hb (hE0 _ _ hS) dJx4a65c_add_72be8_2 ?_
  refine lv_icmp_ne (tgt := 11) hx hb dJx4a65c_add_72be8_3 (by decide) (fun h9 => absurd rfl h9) (fun _ => ?_)
  refine lv_aload_n hx hb dJx4a65c_add_72be8_6 rfl (lv_at hl 0 rfl) ?_
  have hPc := hP.sub (ws' := [(a, .inr (0, [.int mo, .ref z, .int 0]))]) [0] rfl
  have hDc := hD.sub (ws' := [(a, .inr (0, [.int mo, .ref z, .int 0]))]) [0] (by decide) rfl
  have hFc := va_free (wc := [(a, .inr (0, [.int mo, .ref z, .int 0]))]) hD hS hA [0] rfl
  refine va_callq (va_runV (As := []) (rest := []) ⟨hx, hb, hml, hown, hts⟩ (x_Jx4a65c_grow_d5877 l h0 h2 a mo s.heap.size) (cwV 0 hts (gd_V q571 q573 q21 q40 q574) rfl rfl rfl hd_Jx4a65c_grow_d5877 ⟨Nat.le_of_ble_eq_true rfl, Nat.le_of_ble_eq_true rfl⟩) ⟨Xe.blind, va_recv (q0 := 0) hT.1 hP rfl rfl, fun U hU hW => ⟨rfl, Xe.warm hW hT hE hS hAb hU, by show U.heap.size = _; rw [hU], by rw [hU]; exact hPc, hDc.weaken (fun k q _ h => hAb _ h)⟩⟩ rfl rfl hl.1 rfl (lv_room (Nat.le_of_ble_eq_true rfl)) dJx4a65c_add_72be8_7 ⟨Nat.le_of_ble_eq_true rfl, Nat.le_of_ble_eq_true rfl⟩) hS (fun q _ h => hFc q h) hFc (fun v9 u9 t9 H1 locs ht9 hvm9 hw9 hB9 hz9 hk9 hS => ?_)
  obtain ⟨q1, hu9, hP1, hD1⟩ := hB9
  rw [ht9] at hP1
  rw [hw9, hu9]
  obtain ⟨hP, hD⟩ := va_join (wr := [(x, .inr (ci, vs))]) (w1 := [(a, .inr (0, [.int mo, .ref q1, .int 0])), (q1, .inl (c2, 10, .inr (.inr (.inr (.inr (fun _ => none))))))]) hP hD [0] [1] rfl rfl (by decide) (by decide) hk9 hFc hP1 hD1
  generalize H1 = H at hP hS ⊢
  have hP : va_P D vwCl [(x, .inr (ci, vs)), (a, .inr (0, [.int mo, .ref q1, .int 0])), (q1, .inl (c2, 10, .inr (.inr (.inr (.inr (fun _ => none))))))] H := hP
  have hD : va_D A [(x, .inr (ci, vs)), (a, .inr (0, [.int mo, .ref q1, .int 0])), (q1, .inl (c2, 10, .inr (.inr (.inr (.inr (fun _ => none))))))] := hD
  refine W.eq (g2 := F0 m 10 ls [.ref q1]) (by rfl) ?_
  refine lv_astore_n (lv' := [(2, .ref q1), (0, .ref a), (1, .ref x), (3, .int 0)]) hx hb dJx4a65c_add_72be8_10 rfl hl (by decide) rfl (fun ls hl => ?_)
  refine lv_aload_n hx hb dJx4a65c_add_72be8_11 rfl (lv_at hl 0 rfl) ?_
  refine lv_iload_n hx hb dJx4a65c_add_72be8_12 rfl (lv_at hl 3 rfl) ?_
  refine lv_aload_n hx hb dJx4a65c_add_72be8_13 rfl (lv_at hl 2 rfl) ?_
  refine va_astqO (ci := ci) hx hb hT.1 hP hD hS 2 k2 0 rfl h2 (hT.2.2.1 _ hcx) rfl hci (vp_in_nI (n := 0) (N := 10) (by decide) (by decide)) dJx4a65c_add_72be8_14 (fun H locs hP hD hS => ?_)
  have hP : va_P D vwCl [(x, .inr (ci, vs)), (a, .inr (0, [.int mo, .ref q1, .int 0])), (q1, .inl (c2, 10, .inr (.inr (.inr (.inr (va_up (fun _ => none) (0 : Int32).toNatClampNeg (some x)))))))] H := hP
  have hD : va_D A [(x, .inr (ci, vs)), (a, .inr (0, [.int mo, .ref q1, .int 0])), (q1, .inl (c2, 10, .inr (.inr (.inr (.inr (va_up (fun _ => none) (0 : Int32).toNatClampNeg (some x)))))))] := hD
  refine lv_aload_n hx hb dJx4a65c_add_72be8_15 rfl (lv_at hl 1 rfl) ?_
  refine lv_iload_n hx hb dJx4a65c_add_72be8_16 rfl (lv_at hl 3 rfl) ?_
  refine lv_iconst (v := 1) hx hb dJx4a65c_add_72be8_17 (by decide) ?_
  refine lv_iadd hx hb dJx4a65c_add_72be8_18 ?_
  refine va_put (D := D) (ci := 0) (v := .int (0 + 1)) (ty := .int) hx hb hts i_Jx4a65c tyJx4a65c tyJx4a65c_ok nmJx4a65c hown hT.1 hP hD hS 1 rfl rfl 2 (by decide) (hts _ q85) (fun _ h9 => h9) rfl (by decide +kernel) rfl rfl (Nat.le_of_ble_eq_true rfl) dJx4a65c_add_72be8_19 (fun H locs hP hD hS => ?_)
  have hP : va_P D vwCl [(x, .inr (ci, vs)), (a, .inr (0, [.int mo, .ref q1, .int (0 + 1)])), (q1, .inl (c2, 10, .inr (.inr (.inr (.inr (va_up (fun _ => none) (0 : Int32).toNatClampNeg (some x)))))))] H := hP
  have hD : va_D A [(x, .inr (ci, vs)), (a, .inr (0, [.int mo, .ref q1, .int (0 + 1)])), (q1, .inl (c2, 10, .inr (.inr (.inr (.inr (va_up (fun _ => none) (0 : Int32).toNatClampNeg (some x)))))))] := hD
  have hP9 := hP.sub (ws' := [(a, .inr (0, [.int mo, .ref q1, .int (0 + 1)])), (q1, .inl (c2, 10, .inr (.inr (.inr (.inr (va_up (fun _ => none) (0 : Int32).toNatClampNeg (some x))))))), (x, .inr (ci, vs))]) [1, 2, 0] rfl
  have hD9 := hD.sub (ws' := [(a, .inr (0, [.int mo, .ref q1, .int (0 + 1)])), (q1, .inl (c2, 10, .inr (.inr (.inr (.inr (va_up (fun _ => none) (0 : Int32).toNatClampNeg (some x))))))), (x, .inr (ci, vs))]) [1, 2, 0] (by decide) rfl
  exact W.vret hx hb hr (fun t9 ht hW => ⟨⟨(), rfl, trivial, q1, by rw [ht]; exact hP9, hD9⟩, hS.F ht⟩) hS.2.2 dJx4a65c_add_72be8_22
/-- "java/util/ArrayList" "add" "(Ljava/lang/Object;)Z" -/
theorem hd_Jx4a65c_add_9ea2d : yJx4a65c_add_9ea2d.cls = RJx4a65c ∧ yJx4a65c_add_9ea2d.cls ≠ "java/lang/invoke/MethodHandle" ∧ yJx4a65c_add_9ea2d.cls ≠ "java/lang/invoke/VarHandle" ∧ (parseMethodDescriptor yJx4a65c_add_9ea2d.desc).map (fun d => d.parameters.length) = some 1 := by decide +kernel
set_option maxHeartbeats 4000000 in
set_option maxRecDepth 100000 in
theorem x_Jx4a65c_add_9ea2d1 (l : Launch) {D : va_G} {tys : List (ClassId × FieldType)} {z b : Nat} {k0 k2 : Nat} {c0 c2 : ClassId} (h0 : tys[k0]? = some (c0, .int)) (h2 : tys[k2]? = some (c2, .object "java/lang/Object")) (a e x n : Nat) (mo : Int32) (f : Nat → Option Nat) (ci : Nat) (vs : List Value) (r : vw_C) (hci : vwCl[ci]? = some r) (hcx : r.1 ∈ xcast) (hn : n < 10) (sz : Nat) : Met l yJx4a65c_add_9ea2d (ws_ yJx4a65c_add_9ea2d cJx4a65c_add_9ea2d 2 (some .boolean)) (rm_ 1 23 0 0) (Xe D tys z b c2 [.ref a, .ref x] (fun H9 => H9.size = sz) [(a, .inr (0, [.int mo, .ref e, .int (nI n)])), (e, .inl (c2, 10, .inr (.inr (.inr (.inr f))))), (x, .inr (ci, vs))]) (va_Qi (fun (v : Int32) (_ : Unit) => v = 1) (fun _ t => va_P D vwCl [(a, .inr (0, [.int (mo + 1), .ref e, .int (nI n + 1)])), (e, .inl (c2, 10, .inr (.inr (.inr (.inr (va_up f (nI n).toNatClampNeg (some x))))))), (x, .inr (ci, vs))] t.heap ∧ va_D (va_A [(a, .inr (0, [.int mo, .ref e, .int (nI n)])), (e, .inl (c2, 10, .inr (.inr (.inr (.inr f))))), (x, .inr (ci, vs))] sz) [(a, .inr (0, [.int (mo + 1), .ref e, .int (nI n + 1)])), (e, .inl (c2, 10, .inr (.inr (.inr (.inr (va_up f (nI n).toNatClampNeg (some x))))))), (x, .inr (ci, vs))]) (va_A [(a, .inr (0, [.int mo, .ref e, .int (nI n)])), (e, .inl (c2, 10, .inr (.inr (.inr (.inr f))))), (x, .inr (ci, vs))] sz)) 0 0 (va_A [(a, .inr (0, [.int mo, .ref e, .int (nI n)])), (e, .inl (c2, 10, .inr (.inr (.inr (.inr f))))), (x, .inr (ci, vs))] sz) := by
  refine Met.ofW (cc := cJx4a65c_add_9ea2d) (maxL := 2) (ret := (some .boolean)) (by decide) rfl ?_
  intro p e9 s m args below meth c s₁ B hml hv
  obtain ⟨rfl, ⟨hT, hE⟩, hsz, hP, hD0⟩ := hv
  have hx := B.exec
  have hb := B.bytes
  have hr := B.returns
  have hts : ∀ w ∈ lw_all, w.before _ s = true := fun w h => atoms_spec (ws := (ws_ yJx4a65c_add_9ea2d cJx4a65c_add_9ea2d 2 (some .boolean))) B.pre w (List.mem_cons_of_mem _ h)
  have hown : s.vm.findClass RJx4a65c = some m.cls := findClass_of_methodNamed B.named
  have hlocks := B.notSynchronized
  subst hsz
  have hD := hD0.self (sz := s.heap.size)
  have hAb : ∀ q, va_A [(a, .inr (0, [.int mo, .ref e, .int (nI n)])), (e, .inl (c2, 10, .inr (.inr (.inr (.inr f))))), (x, .inr (ci, vs))] s.heap.size q → b ≤ q := fun q h => h.elim (fun ⟨k, e, h⟩ => hD0.2 k _ h) (fun h => Nat.le_trans hE.2.2.1 h)
  generalize hAe : va_A [(a, .inr (0, [.int mo, .ref e, .int (nI n)])), (e, .inl (c2, 10, .inr (.inr (.inr (.inr f))))), (x, .inr (ci, vs))] s.heap.size = A at hD hAb ⊢
  have hA : ∀ q : Nat, s.heap.size ≤ q → A q := fun q h => by rw [← hAe]; exact Or.inr h
  have hS : va_S A s.heap s.heap [] := va_S.rf
  have hZ := hE.1.narrow hAb
  have hE0 := fun (H9 : Heap) (l9 : List Loc) (h9 : va_S A s.heap H9 l9) => Em.row hE h9 hAb
  obtain ⟨H, hHe⟩ : ∃ H : Heap, H = s.heap := ⟨_, rfl⟩
  have hP : va_P D vwCl [(a, .inr (0, [.int mo, .ref e, .int (nI n)])), (e, .inl (c2, 10, .inr (.inr (.inr (.inr f))))), (x, .inr (ci, vs))] s.heap := hP
  have hl := lv_entry ([.ref a, .ref x]) (n := 2) (Nat.le_of_ble_eq_true rfl)
  rw [lg_entry_eq]
  generalize (lg_sl ([.ref a, .ref x]) ++ List.replicate (2 - (lg_sl ([.ref a, .ref x])).length) Slot.unset).toArray = ls at hl ⊢
  have hl : lv_has ls 2 [(0, .ref a), (1, .ref x)] := hl
  clear hHe H
  refine lv_aload_n hx hb dJx4a65c_add_9ea2d_0 rfl (lv_at hl 0 rfl) ?_
  refine lv_dup hx hb dJx4a65c_add_9ea2d_1 rfl ?_
  refine va_get hx hb hts i_Jx4a65c hown hT.1 hP 0 rfl rfl 0 (by decide) (hts _ q87) (fun x9 h9 => u_same (hts _ q88) x9 h9) rfl dJx4a65c_add_9ea2d_2 ?_
  refine lv_iconst (v := 1) hx hb dJx4a65c_add_9ea2d_5 (by decide) ?_
  refine lv_iadd hx hb dJx4a65c_add_9ea2d_6 ?_
  refine va_put (D := D) (ci := 0) (v := .int (mo + 1)) (ty := .int) hx hb hts i_Jx4a65c tyJx4a65c tyJx4a65c_ok nmJx4a65c hown hT.1 hP hD hS 0 rfl rfl 0 (by decide) (hts _ q87) (fun x9 h9 => u_same (hts _ q88) x9 h9) rfl (by decide +kernel) rfl rfl (Nat.le_of_ble_eq_true rfl) dJx4a65c_add_9ea2d_7 (fun H locs hP hD hS => ?_)
  have hP : va_P D vwCl [(a, .inr (0, [.int (mo + 1), .ref e, .int (nI n)])), (e, .inl (c2, 10, .inr (.inr (.inr (.inr f))))), (x, .inr (ci, vs))] H := hP
  have hD : va_D A [(a, .inr (0, [.int (mo + 1), .ref e, .int (nI n)])), (e, .inl (c2, 10, .inr (.inr (.inr (.inr f))))), (x, .inr (ci, vs))] := hD
  refine lv_aload_n hx hb dJx4a65c_add_9ea2d_10 rfl (lv_at hl 0 rfl) ?_
  refine lv_aload_n hx hb dJx4a65c_add_9ea2d_11 rfl (lv_at hl 1 rfl) ?_
  refine lv_aload_n hx hb dJx4a65c_add_9ea2d_12 rfl (lv_at hl 0 rfl) ?_
  refine va_get hx hb hts i_Jx4a65c hown hT.1 hP 0 rfl rfl 1 (by decide) (hts _ q84) (fun _ h9 => h9) rfl dJx4a65c_add_9ea2d_13 ?_
  refine lv_aload_n hx hb dJx4a65c_add_9ea2d_16 rfl (lv_at hl 0 rfl) ?_
  refine va_get hx hb hts i_Jx4a65c hown hT.1 hP 0 rfl rfl 2 (by decide) (hts _ q85) (fun _ h9 => h9) rfl dJx4a65c_add_9ea2d_17 ?_
  have hPc := hP.sub (ws' := [(a, .inr (0, [.int (mo + 1), .ref e, .int (nI n)])), (e, .inl (c2, 10, .inr (.inr (.inr (.inr f))))), (x, .inr (ci, vs))]) [0, 1, 2] rfl
  have hDc := hD.sub (ws' := [(a, .inr (0, [.int (mo + 1), .ref e, .int (nI n)])), (e, .inl (c2, 10, .inr (.inr (.inr (.inr f))))), (x, .inr (ci, vs))]) [0, 1, 2] (by decide) rfl
  have hFc := va_free (wc := [(a, .inr (0, [.int (mo + 1), .ref e, .int (nI n)])), (e, .inl (c2, 10, .inr (.inr (.inr (.inr f))))), (x, .inr (ci, vs))]) hD hS hA [0, 1, 2] rfl
  refine va_callv (va_runV (As := [.ref x, .ref e, .int (nI n)]) (rest := []) ⟨hx, hb, hml, hown, hts⟩ (x_Jx4a65c_add_72be81 l h0 h2 a e x n ((mo + 1)) f ci vs r hci hcx hn H.size) (cwV 3 hts (gd_V q567 q569 q20 q40 q570) rfl rfl rfl hd_Jx4a65c_add_72be8 ⟨Nat.le_of_ble_eq_true rfl, Nat.le_of_ble_eq_true rfl⟩) ⟨Xe.blind, va_recv (q0 := 0) hT.1 hP rfl rfl, fun U hU hW => ⟨rfl, Xe.warm hW hT hE hS hAb hU, by show U.heap.size = _; rw [hU], by rw [hU]; exact hPc, hDc.weaken (fun k q _ h => hAb _ h)⟩⟩ rfl rfl hl.1 rfl (lv_room (Nat.le_of_ble_eq_true rfl)) dJx4a65c_add_9ea2d_20 ⟨Nat.le_of_ble_eq_true rfl, Nat.le_of_ble_eq_true rfl⟩) hS (fun q _ h => hFc q h) hFc (fun u9 t9 H1 locs ht9 hvm9 hw9 hB9 hz9 hk9 hS => ?_)
  obtain ⟨hP1, hD1⟩ := hB9
  rw [ht9] at hP1
  obtain ⟨hP, hD⟩ := va_join (wr := []) (w1 := [(a, .inr (0, [.int (mo + 1), .ref e, .int (nI n + 1)])), (e, .inl (c2, 10, .inr (.inr (.inr (.inr (va_up f (nI n).toNatClampNeg (some x))))))), (x, .inr (ci, vs))]) hP hD [0, 1, 2] [] rfl rfl (by decide) (by decide) hk9 hFc hP1 hD1
  generalize H1 = H at hP hS ⊢
  have hP : va_P D vwCl [(a, .inr (0, [.int (mo + 1), .ref e, .int (nI n + 1)])), (e, .inl (c2, 10, .inr (.inr (.inr (.inr (va_up f (nI n).toNatClampNeg (some x))))))), (x, .inr (ci, vs))] H := hP
  have hD : va_D A [(a, .inr (0, [.int (mo + 1), .ref e, .int (nI n + 1)])), (e, .inl (c2, 10, .inr (.inr (.inr (.inr (va_up f (nI n).toNatClampNeg (some x))))))), (x, .inr (ci, vs))] := hD
  refine lv_iconst (v := 1) hx hb dJx4a65c_add_9ea2d_23 (by decide) ?_
  have hP9 := hP.sub (ws' := [(a, .inr (0, [.int (mo + 1), .ref e, .int (nI n + 1)])), (e, .inl (c2, 10, .inr (.inr (.inr (.inr (va_up f (nI n).toNatClampNeg (some x))))))), (x, .inr (ci, vs))]) [0, 1, 2] rfl
  have hD9 := hD.sub (ws' := [(a, .inr (0, [.int (mo + 1), .ref e, .int (nI n + 1)])), (e, .inl (c2, 10, .inr (.inr (.inr (.inr (va_up f (nI n).toNatClampNeg (some x))))))), (x, .inr (ci, vs))]) [0, 1, 2] (by decide) rfl
  exact W.zret (v := 1) (ty := .boolean) hx hb hr (by decide) (fun t9 ht hW => ⟨⟨1, (), rfl, rfl, by rw [ht]; exact hP9, hD9⟩, hS.F ht⟩) hS.2.2 dJx4a65c_add_9ea2d_24
set_option maxHeartbeats 4000000 in
set_option maxRecDepth 100000 in
theorem x_Jx4a65c_add_9ea2d0 (l : Launch) {D : va_G} {tys : List (ClassId × FieldType)} {z b : Nat} {k0 k2 : Nat} {c0 c2 : ClassId} (h0 : tys[k0]? = some (c0, .int)) (h2 : tys[k2]? = some (c2, .object "java/lang/Object")) (a x : Nat) (mo : Int32) (ci : Nat) (vs : List Value) (r : vw_C) (hci : vwCl[ci]? = some r) (hcx : r.1 ∈ xcast) (sz : Nat) : Met l yJx4a65c_add_9ea2d (ws_ yJx4a65c_add_9ea2d cJx4a65c_add_9ea2d 2 (some .boolean)) (rm_ 4 88 1 10) (Xe D tys z b c2 [.ref a, .ref x] (fun H9 => H9.size = sz) [(a, .inr (0, [.int mo, .ref z, .int 0])), (x, .inr (ci, vs))]) (va_Qi (fun (v : Int32) (_ : Unit) => v = 1) (fun _ t => ∃ (q1 : Nat), va_P D vwCl [(a, .inr (0, [.int (mo + 1), .ref q1, .int (0 + 1)])), (q1, .inl (c2, 10, .inr (.inr (.inr (.inr (va_up (fun _ => none) (0 : Int32).toNatClampNeg (some x))))))), (x, .inr (ci, vs))] t.heap ∧ va_D (va_A [(a, .inr (0, [.int mo, .ref z, .int 0])), (x, .inr (ci, vs))] sz) [(a, .inr (0, [.int (mo + 1), .ref q1, .int (0 + 1)])), (q1, .inl (c2, 10, .inr (.inr (.inr (.inr (va_up (fun _ => none) (0 : Int32).toNatClampNeg (some x))))))), (x, .inr (ci, vs))]) (va_A [(a, .inr (0, [.int mo, .ref z, .int 0])), (x, .inr (ci, vs))] sz)) 1 10 (va_A [(a, .inr (0, [.int mo, .ref z, .int 0])), (x, .inr (ci, vs))] sz) := by
  refine Met.ofW (cc := cJx4a65c_add_9ea2d) (maxL := 2) (ret := (some .boolean)) (by decide) rfl ?_
  intro p e9 s m args below meth c s₁ B hml hv
  obtain ⟨rfl, ⟨hT, hE⟩, hsz, hP, hD0⟩ := hv
  have hx := B.exec
  have hb := B.bytes
  have hr := B.returns
  have hts : ∀ w ∈ lw_all, w.before _ s = true := fun w h => atoms_spec (ws := (ws_ yJx4a65c_add_9ea2d cJx4a65c_add_9ea2d 2 (some .boolean))) B.pre w (List.mem_cons_of_mem _ h)
  have hown : s.vm.findClass RJx4a65c = some m.cls := findClass_of_methodNamed B.named
  have hlocks := B.notSynchronized
  subst hsz
  have hD := hD0.self (sz := s.heap.size)
  have hAb : ∀ q, va_A [(a, .inr (0, [.int mo, .ref z, .int 0])), (x, .inr (ci, vs))] s.heap.size q → b ≤ q := fun q h => h.elim (fun ⟨k, e, h⟩ => hD0.2 k _ h) (fun h => Nat.le_trans hE.2.2.1 h)
  generalize hAe : va_A [(a, .inr (0, [.int mo, .ref z, .int 0])), (x, .inr (ci, vs))] s.heap.size = A at hD hAb ⊢
  have hA : ∀ q : Nat, s.heap.size ≤ q → A q := fun q h => by rw [← hAe]; exact Or.inr h
  have hS : va_S A s.heap s.heap [] := va_S.rf
  have hZ := hE.1.narrow hAb
  have hE0 := fun (H9 : Heap) (l9 : List Loc) (h9 : va_S A s.heap H9 l9) => Em.row hE h9 hAb
  obtain ⟨H, hHe⟩ : ∃ H : Heap, H = s.heap := ⟨_, rfl⟩
  have hP : va_P D vwCl [(a, .inr (0, [.int mo, .ref z, .int 0])), (x, .inr (ci, vs))] s.heap := hP
  have hl := lv_entry ([.ref a, .ref x]) (n := 2) (Nat.le_of_ble_eq_true rfl)
  rw [lg_entry_eq]
  generalize (lg_sl ([.ref a, .ref x]) ++ List.replicate (2 - (lg_sl ([.ref a, .ref x])).length) Slot.unset).toArray = ls at hl ⊢
  have hl : lv_has ls 2 [(0, .ref a), (1, .ref x)] := hl
  clear hHe H
  refine lv_aload_n hx hb dJx4a65c_add_9ea2d_0 rfl (lv_at hl 0 rfl) ?_
  refine lv_dup hx hb dJx4a65c_add_9ea2d_1 rfl ?_
  refine va_get hx hb hts i_Jx4a65c hown hT.1 hP 0 rfl rfl 0 (by decide) (hts _ q87) (fun x9 h9 => u_same (hts _ q88) x9 h9) rfl dJx4a65c_add_9ea2d_2 ?_
  refine lv_iconst (v := 1) hx hb dJx4a65c_add_9ea2d_5 (by decide) ?_
  refine lv_iadd hx hb dJx4a65c_add_9ea2d_6 ?_
  refine va_put (D := D) (ci := 0) (v := .int (mo + 1)) (ty := .int) hx hb hts i_Jx4a65c tyJx4a65c tyJx4a65c_ok nmJx4a65c hown hT.1 hP hD hS 0 rfl rfl 0 (by decide) (hts _ q87) (fun x9 h9 => u_same (hts _ q88) x9 h9) rfl (by decide +kernel) rfl rfl (Nat.le_of_ble_eq_true rfl) dJx4a65c_add_9ea2d_7 (fun H locs hP hD hS => ?_)
  have hP : va_P D vwCl [(a, .inr (0, [.int (mo + 1), .ref z, .int 0])), (x, .inr (ci, vs))] H := hP
  have hD : va_D A [(a, .inr (0, [.int (mo + 1), .ref z, .int 0])), (x, .inr (ci, vs))] := hD
  refine lv_aload_n hx hb dJx4a65c_add_9ea2d_10 rfl (lv_at hl 0 rfl) ?_
  refine lv_aload_n hx hb dJx4a65c_add_9ea2d_11 rfl (lv_at hl 1 rfl) ?_
  refine lv_aload_n hx hb dJx4a65c_add_9ea2d_12 rfl (lv_at hl 0 rfl) ?_
  refine va_get hx hb hts i_Jx4a65c hown hT.1 hP 0 rfl rfl 1 (by decide) (hts _ q84) (fun _ h9 => h9) rfl dJx4a65c_add_9ea2d_13 ?_
  refine lv_aload_n hx hb dJx4a65c_add_9ea2d_16 rfl (lv_at hl 0 rfl) ?_
  refine va_get hx hb hts i_Jx4a65c hown hT.1 hP 0 rfl rfl 2 (by decide) (hts _ q85) (fun _ h9 => h9) rfl dJx4a65c_add_9ea2d_17 ?_
  have hPc := hP.sub (ws' := [(a, .inr (0, [.int (mo + 1), .ref z, .int 0])), (x, .inr (ci, vs))]) [0, 1] rfl
  have hDc := hD.sub (ws' := [(a, .inr (0, [.int (mo + 1), .ref z, .int 0])), (x, .inr (ci, vs))]) [0, 1] (by decide) rfl
  have hFc := va_free (wc := [(a, .inr (0, [.int (mo + 1), .ref z, .int 0])), (x, .inr (ci, vs))]) hD hS hA [0, 1] rfl
  refine va_callv (va_runV (As := [.ref x, .ref z, .int 0]) (rest := []) ⟨hx, hb, hml, hown, hts⟩ (x_Jx4a65c_add_72be80 l h0 h2 a x ((mo + 1)) ci vs r hci hcx H.size) (cwV 3 hts (gd_V q567 q569 q20 q40 q570) rfl rfl rfl hd_Jx4a65c_add_72be8 ⟨Nat.le_of_ble_eq_true rfl, Nat.le_of_ble_eq_true rfl⟩) ⟨Xe.blind, va_recv (q0 := 0) hT.1 hP rfl rfl, fun U hU hW => ⟨rfl, Xe.warm hW hT hE hS hAb hU, by show U.heap.size = _; rw [hU], by rw [hU]; exact hPc, hDc.weaken (fun k q _ h => hAb _ h)⟩⟩ rfl rfl hl.1 rfl (lv_room (Nat.le_of_ble_eq_true rfl)) dJx4a65c_add_9ea2d_20 ⟨Nat.le_of_ble_eq_true rfl, Nat.le_of_ble_eq_true rfl⟩) hS (fun q _ h => hFc q h) hFc (fun u9 t9 H1 locs ht9 hvm9 hw9 hB9 hz9 hk9 hS => ?_)
  obtain ⟨q1, hP1, hD1⟩ := hB9
  rw [ht9] at hP1
  obtain ⟨hP, hD⟩ := va_join (wr := []) (w1 := [(a, .inr (0, [.int (mo + 1), .ref q1, .int (0 + 1)])), (q1, .inl (c2, 10, .inr (.inr (.inr (.inr (va_up (fun _ => none) (0 : Int32).toNatClampNeg (some x))))))), (x, .inr (ci, vs))]) hP hD [0, 1] [] rfl rfl (by decide) (by decide) hk9 hFc hP1 hD1
  generalize H1 = H at hP hS ⊢
  have hP : va_P D vwCl [(a, .inr (0, [.int (mo + 1), .ref q1, .int (0 + 1)])), (q1, .inl (c2, 10, .inr (.inr (.inr (.inr (va_up (fun _ => none) (0 : Int32).toNatClampNeg (some x))))))), (x, .inr (ci, vs))] H := hP
  have hD : va_D A [(a, .inr (0, [.int (mo + 1), .ref q1, .int (0 + 1)])), (q1, .inl (c2, 10, .inr (.inr (.inr (.inr (va_up (fun _ => none) (0 : Int32).toNatClampNeg (some x))))))), (x, .inr (ci, vs))] := hD
  refine lv_iconst (v := 1) hx hb dJx4a65c_add_9ea2d_23 (by decide) ?_
  have hP9 := hP.sub (ws' := [(a, .inr (0, [.int (mo + 1), .ref q1, .int (0 + 1)])), (q1, .inl (c2, 10, .inr (.inr (.inr (.inr (va_up (fun _ => none) (0 : Int32).toNatClampNeg (some x))))))), (x, .inr (ci, vs))]) [0, 1, 2] rfl
  have hD9 := hD.sub (ws' := [(a, .inr (0, [.int (mo + 1), .ref q1, .int (0 + 1)])), (q1, .inl (c2, 10, .inr (.inr (.inr (.inr (va_up (fun _ => none) (0 : Int32).toNatClampNeg (some x))))))), (x, .inr (ci, vs))]) [0, 1, 2] (by decide) rfl
  exact W.zret (v := 1) (ty := .boolean) hx hb hr (by decide) (fun t9 ht hW => ⟨⟨1, (), rfl, rfl, q1, by rw [ht]; exact hP9, hD9⟩, hS.F ht⟩) hS.2.2 dJx4a65c_add_9ea2d_24
