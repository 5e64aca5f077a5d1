/-! what a tally does with a number, over cells -/
theorem up_at {f : Nat → Option Nat} {n q : Nat} : va_up f (nI n).toNatClampNeg (some q) (nI n + 1 - 1).toNatClampNeg = some q := by
  rw [show nI n + 1 - 1 = nI n by rw [nI_1, nI_pred]]
  exact va_up_self _ _ _
theorem rem_in {x : Int32} (h : ¬ x < 0) : ¬ x - x / 512 * 512 < 0 ∧ ¬ (512 : Int32) ≤ x - x / 512 * 512 ∧ vp_in (x - x / 512 * 512) 512 := by
  obtain ⟨j, hj, rfl⟩ := nI_of h
  have e : nI j - nI j / 512 * 512 = nI (j % 512) := pk_rem (d := 512) hj (by decide) (by decide)
  rw [e]
  have h1 : j % 512 < 512 := Nat.mod_lt _ (by decide)
  exact ⟨nI_pos (by omega), fun z => nI_ge h1 (by decide) z, vp_in_nI h1 (by decide)⟩
set_option maxHeartbeats 4000000 in
set_option maxRecDepth 100000 in
theorem x_Jx4a65c_size_8abf5 (l : Launch) {D : va_G} {tys : List (ClassId × FieldType)} {z b : Nat} {k0 k2 : Nat} {c0 c2 : ClassId} (h0 : tys[k0]? = some (c0, .int)) (h2 : tys[k2]? = some (c2, .object "java/lang/Object")) (a e : Nat) (n mo : Int32) (sz : Nat) : Met l yJx4a65c_size_8abf5 (ws_ yJx4a65c_size_8abf5 cJx4a65c_size_8abf5 1 (some .int)) (rm_ 0 0 0 0) (Xe D tys z b c2 [.ref a] (fun H9 => H9.size = sz) [(a, .inr (0, [.int mo, .ref e, .int n]))]) (va_Qi (fun (v : Int32) (_ : Unit) => v = n) (fun _ t => va_P D vwCl [(a, .inr (0, [.int mo, .ref e, .int n]))] t.heap ∧ va_D (va_A [(a, .inr (0, [.int mo, .ref e, .int n]))] sz) [(a, .inr (0, [.int mo, .ref e, .int n]))]) (va_A [(a, .inr (0, [.int mo, .ref e, .int n]))] sz)) 0 0 (va_A [(a, .inr (0, [.int mo, .ref e, .int n]))] sz) := by
  refine Met.ofW (cc := cJx4a65c_size_8abf5) (maxL := 1) (ret := (some .int)) (by decide) rfl ?_
  intro p e9 s m args below meth c s₁ B hml hv
  obtain ⟨rfl, ⟨hT, hE⟩, hsz, hP, hD0⟩ := hv
  have hx := B.exec
  have hb := B.bytes
  have hr := B.returns
  have hts : ∀ w ∈ lw_all, w.before _ s = true := fun w h => atoms_spec (ws := (ws_ yJx4a65c_size_8abf5 cJx4a65c_size_8abf5 1 (some .int))) B.pre w (List.mem_cons_of_mem _ h)
  have hown : s.vm.findClass RJx4a65c = some m.cls := findClass_of_methodNamed B.named
  have hlocks := B.notSynchronized
  subst hsz
  have hD := hD0.self (sz := s.heap.size)
  have hAb : ∀ q, va_A [(a, .inr (0, [.int mo, .ref e, .int n]))] s.heap.size q → b ≤ q := fun q h => h.elim (fun ⟨k, e, h⟩ => hD0.2 k _ h) (fun h => Nat.le_trans hE.2.2.1 h)
  generalize hAe : va_A [(a, .inr (0, [.int mo, .ref e, .int n]))] s.heap.size = A at hD hAb ⊢
  have hA : ∀ q : Nat, s.heap.size ≤ q → A q := fun q h => by rw [← hAe]; exact Or.inr h
  have hS : va_S A s.heap s.heap [] := va_S.rf
  have hZ := hE.1.narrow hAb
  have hE0 := fun (H9 : Heap) (l9 : List Loc) (h9 : va_S A s.heap H9 l9) => Em.row hE h9 hAb
  obtain ⟨H, hHe⟩ : ∃ H : Heap, H = s.heap := ⟨_, rfl⟩
  have hP : va_P D vwCl [(a, .inr (0, [.int mo, .ref e, .int n]))] s.heap := hP
  have hl := lv_entry ([.ref a]) (n := 1) (Nat.le_of_ble_eq_true rfl)
  rw [lg_entry_eq]
  generalize (lg_sl ([.ref a]) ++ List.replicate (1 - (lg_sl ([.ref a])).length) Slot.unset).toArray = ls at hl ⊢
  have hl : lv_has ls 1 [(0, .ref a)] := hl
  clear hHe H
  refine lv_aload_n hx hb dJx4a65c_size_8abf5_0 rfl (lv_at hl 0 rfl) ?_
  refine va_get hx hb hts i_Jx4a65c hown hT.1 hP 0 rfl rfl 2 (by decide) (hts _ q85) (fun _ h9 => h9) rfl dJx4a65c_size_8abf5_1 ?_
  have hP9 := hP.sub (ws' := [(a, .inr (0, [.int mo, .ref e, .int n]))]) [0] rfl
  have hD9 := hD.sub (ws' := [(a, .inr (0, [.int mo, .ref e, .int n]))]) [0] (by decide) rfl
  exact W.iret (v := n) hx hb hr (fun t9 ht hW => ⟨⟨n, (), rfl, rfl, by rw [ht]; exact hP9, hD9⟩, hS.F ht⟩) hS.2.2 dJx4a65c_size_8abf5_4
/-- "java/util/ArrayList" "isEmpty" "()Z" -/
theorem hd_Jx4a65c_isEmpty_aae02 : yJx4a65c_isEmpty_aae02.cls = RJx4a65c ∧ yJx4a65c_isEmpty_aae02.cls ≠ "java/lang/invoke/MethodHandle" ∧ yJx4a65c_isEmpty_aae02.cls ≠ "java/lang/invoke/VarHandle" ∧ (parseMethodDescriptor yJx4a65c_isEmpty_aae02.desc).map (fun d => d.parameters.length) = some 0 := by decide +kernel
set_option maxHeartbeats 4000000 in
set_option maxRecDepth 100000 in
theorem x_Jx4a65c_isEmpty_aae020 (l : Launch) {D : va_G} {tys : List (ClassId × FieldType)} {z b : Nat} {k0 k2 : Nat} {c0 c2 : ClassId} (h0 : tys[k0]? = some (c0, .int)) (h2 : tys[k2]? = some (c2, .object "java/lang/Object")) (a e : Nat) (mo : Int32) (sz : Nat) : Met l yJx4a65c_isEmpty_aae02 (ws_ yJx4a65c_isEmpty_aae02 cJx4a65c_isEmpty_aae02 1 (some .boolean)) (rm_ 0 0 0 0) (Xe D tys z b c2 [.ref a] (fun H9 => H9.size = sz) [(a, .inr (0, [.int mo, .ref e, .int 0]))]) (va_Qi (fun (v : Int32) (_ : Unit) => v = 1) (fun _ t => va_P D vwCl [(a, .inr (0, [.int mo, .ref e, .int 0]))] t.heap ∧ va_D (va_A [(a, .inr (0, [.int mo, .ref e, .int 0]))] sz) [(a, .inr (0, [.int mo, .ref e, .int 0]))]) (va_A [(a, .inr (0, [.int mo, .ref e, .int 0]))] sz)) 0 0 (va_A [(a, .inr (0, [.int mo, .ref e, .int 0]))] sz) := by
  refine Met.ofW (cc := cJx4a65c_isEmpty_aae02) (maxL := 1) (ret := (some .boolean)) (by decide) rfl ?_
  intro p e9 s m args below meth c s₁ B hml hv
  obtain ⟨rfl, ⟨hT, hE⟩, hsz, hP, hD0⟩ := hv
  have hx := B.exec
  have hb := B.bytes
  have hr := B.returns
  have hts : ∀ w ∈ lw_all, w.before _ s = true := fun w h => atoms_spec (ws := (ws_ yJx4a65c_isEmpty_aae02 cJx4a65c_isEmpty_aae02 1 (some .boolean))) B.pre w (List.mem_cons_of_mem _ h)
  have hown : s.vm.findClass RJx4a65c = some m.cls := findClass_of_methodNamed B.named
  have hlocks := B.notSynchronized
  subst hsz
  have hD := hD0.self (sz := s.heap.size)
  have hAb : ∀ q, va_A [(a, .inr (0, [.int mo, .ref e, .int 0]))] s.heap.size q → b ≤ q := fun q h => h.elim (fun ⟨k, e, h⟩ => hD0.2 k _ h) (fun h => Nat.le_trans hE.2.2.1 h)
  generalize hAe : va_A [(a, .inr (0, [.int mo, .ref e, .int 0]))] s.heap.size = A at hD hAb ⊢
  have hA : ∀ q : Nat, s.heap.size ≤ q → A q := fun q h => by rw [← hAe]; exact Or.inr h
  have hS : va_S A s.heap s.heap [] := va_S.rf
  have hZ := hE.1.narrow hAb
  have hE0 := fun (H9 : Heap) (l9 : List Loc) (h9 : va_S A s.heap H9 l9) => Em.row hE h9 hAb
  obtain ⟨H, hHe⟩ : ∃ H : Heap, H = s.heap := ⟨_, rfl⟩
  have hP : va_P D vwCl [(a, .inr (0, [.int mo, .ref e, .int 0]))] s.heap := hP
  have hl := lv_entry ([.ref a]) (n := 1) (Nat.le_of_ble_eq_true rfl)
  rw [lg_entry_eq]
  generalize (lg_sl ([.ref a]) ++ List.replicate (1 - (lg_sl ([.ref a])).length) Slot.unset).toArray = ls at hl ⊢
  have hl : lv_has ls 1 [(0, .ref a)] := hl
  clear hHe H
  refine lv_aload_n hx hb dJx4a65c_isEmpty_aae02_0 rfl (lv_at hl 0 rfl) ?_
  refine va_get hx hb hts i_Jx4a65c hown hT.1 hP 0 rfl rfl 2 (by decide) (hts _ q85) (fun _ h9 => h9) rfl dJx4a65c_isEmpty_aae02_1 ?_
  refine lv_if_ne (tgt := 11) hx hb dJx4a65c_isEmpty_aae02_4 (by decide) (fun h9 => absurd rfl h9) (fun _ => ?_)
  refine lv_iconst (v := 1) hx hb dJx4a65c_isEmpty_aae02_7 (by decide) ?_
  refine lv_goto (tgt := 12) hx hb dJx4a65c_isEmpty_aae02_8 (by decide) ?_
  have hP9 := hP.sub (ws' := [(a, .inr (0, [.int mo, .ref e, .int 0]))]) [0] rfl
  have hD9 := hD.sub (ws' := [(a, .inr (0, [.int mo, .ref e, .int 0]))]) [0] (by decide) rfl
  exact W.zret (v := 1) (ty := .boolean) hx hb hr (by decide) (fun t9 ht hW => ⟨⟨1, (), rfl, rfl, by rw [ht]; exact hP9, hD9⟩, hS.F ht⟩) hS.2.2 dJx4a65c_isEmpty_aae02_12
set_option maxHeartbeats 4000000 in
set_option maxRecDepth 100000 in
theorem x_Jx4a65c_isEmpty_aae021 (l : Launch) {D : va_G} {tys : List (ClassId × FieldType)} {z b : Nat} {k0 k2 : Nat} {c0 c2 : ClassId} (h0 : tys[k0]? = some (c0, .int)) (h2 : tys[k2]? = some (c2, .object "java/lang/Object")) (a e : Nat) (n mo : Int32) (hn0 : ¬ n = 0) (sz : Nat) : Met l yJx4a65c_isEmpty_aae02 (ws_ yJx4a65c_isEmpty_aae02 cJx4a65c_isEmpty_aae02 1 (some .boolean)) (rm_ 0 0 0 0) (Xe D tys z b c2 [.ref a] (fun H9 => H9.size = sz) [(a, .inr (0, [.int mo, .ref e, .int n]))]) (va_Qi (fun (v : Int32) (_ : Unit) => v = 0) (fun _ t => va_P D vwCl [(a, .inr (0, [.int mo, .ref e, .int n]))] t.heap ∧ va_D (va_A [(a, .inr (0, [.int mo, .ref e, .int n]))] sz) [(a, .inr (0, [.int mo, .ref e, .int n]))]) (va_A [(a, .inr (0, [.int mo, .ref e, .int n]))] sz)) 0 0 (va_A [(a, .inr (0, [.int mo, .ref e, .int n]))] sz) := by
  refine Met.ofW (cc := cJx4a65c_isEmpty_aae02) (maxL := 1) (ret := (some .boolean)) (by decide) rfl ?_
  intro p e9 s m args below meth c s₁ B hml hv
  obtain ⟨rfl, ⟨hT, hE⟩, hsz, hP, hD0⟩ := hv
  have hx := B.exec
  have hb := B.bytes
  have hr := B.returns
  have hts : ∀ w ∈ lw_all, w.before _ s = true := fun w h => atoms_spec (ws := (ws_ yJx4a65c_isEmpty_aae02 cJx4a65c_isEmpty_aae02 1 (some .boolean))) B.pre w (List.mem_cons_of_mem _ h)
  have hown : s.vm.findClass RJx4a65c = some m.cls := findClass_of_methodNamed B.named
  have hlocks := B.notSynchronized
  subst hsz
  have hD := hD0.self (sz := s.heap.size)
  have hAb : ∀ q, va_A [(a, .inr (0, [.int mo, .ref e, .int n]))] s.heap.size q → b ≤ q := fun q h => h.elim (fun ⟨k, e, h⟩ => hD0.2 k _ h) (fun h => Nat.le_trans hE.2.2.1 h)
  generalize hAe : va_A [(a, .inr (0, [.int mo, .ref e, .int n]))] s.heap.size = A at hD hAb ⊢
  have hA : ∀ q : Nat, s.heap.size ≤ q → A q := fun q h => by rw [← hAe]; exact Or.inr h
  have hS : va_S A s.heap s.heap [] := va_S.rf
  have hZ := hE.1.narrow hAb
  have hE0 := fun (H9 : Heap) (l9 : List Loc) (h9 : va_S A s.heap H9 l9) => Em.row hE h9 hAb
  obtain ⟨H, hHe⟩ : ∃ H : Heap, H = s.heap := ⟨_, rfl⟩
  have hP : va_P D vwCl [(a, .inr (0, [.int mo, .ref e, .int n]))] s.heap := hP
  have hl := lv_entry ([.ref a]) (n := 1) (Nat.le_of_ble_eq_true rfl)
  rw [lg_entry_eq]
  generalize (lg_sl ([.ref a]) ++ List.replicate (1 - (lg_sl ([.ref a])).length) Slot.unset).toArray = ls at hl ⊢
  have hl : lv_has ls 1 [(0, .ref a)] := hl
  clear hHe H
  refine lv_aload_n hx hb dJx4a65c_isEmpty_aae02_0 rfl (lv_at hl 0 rfl) ?_
  refine va_get hx hb hts i_Jx4a65c hown hT.1 hP 0 rfl rfl 2 (by decide) (hts _ q85) (fun _ h9 => h9) rfl dJx4a65c_isEmpty_aae02_1 ?_
  refine lv_if_ne (tgt := 11) hx hb dJx4a65c_isEmpty_aae02_4 (by decide) (fun _ => ?_) (fun h9 => absurd h9 hn0)
  refine lv_iconst (v := 0) hx hb dJx4a65c_isEmpty_aae02_11 (by decide) ?_
  have hP9 := hP.sub (ws' := [(a, .inr (0, [.int mo, .ref e, .int n]))]) [0] rfl
  have hD9 := hD.sub (ws' := [(a, .inr (0, [.int mo, .ref e, .int n]))]) [0] (by decide) rfl
  exact W.zret (v := 0) (ty := .boolean) hx hb hr (by decide) (fun t9 ht hW => ⟨⟨0, (), rfl, rfl, by rw [ht]; exact hP9, hD9⟩, hS.F ht⟩) hS.2.2 dJx4a65c_isEmpty_aae02_12
set_option maxHeartbeats 4000000 in
set_option maxRecDepth 100000 in
theorem x_J3_checkIndex_8e157 (l : Launch) {D : va_G} {tys : List (ClassId × FieldType)} {z b : Nat} {k0 k2 : Nat} {c0 c2 : ClassId} (h0 : tys[k0]? = some (c0, .int)) (h2 : tys[k2]? = some (c2, .object "java/lang/Object")) (i n : Int32) (hi0 : ¬ i < 0) (hi1 : i < n) (sz : Nat) : Met l yJ3_checkIndex_8e157 (ws_ yJ3_checkIndex_8e157 cJ3_checkIndex_8e157 3 (some .int)) (rm_ 0 0 0 0) (Xe D tys z b c2 [.int i, .int n, .null] (fun H9 => H9.size = sz) []) (va_Qi (fun (v : Int32) (_ : Unit) => v = i) (fun _ t => va_P D vwCl [] t.heap ∧ va_D (va_A [] sz) []) (va_A [] sz)) 0 0 (va_A [] sz) := by
  refine Met.ofW (cc := cJ3_checkIndex_8e157) (maxL := 3) (ret := (some .int)) (by decide) rfl ?_
  intro p e9 s m args below meth c s₁ B hml hv
  obtain ⟨rfl, ⟨hT, hE⟩, hsz, hP, hD0⟩ := hv
  have hx := B.exec
  have hb := B.bytes
  have hr := B.returns
  have hts : ∀ w ∈ lw_all, w.before _ s = true := fun w h => atoms_spec (ws := (ws_ yJ3_checkIndex_8e157 cJ3_checkIndex_8e157 3 (some .int))) B.pre w (List.mem_cons_of_mem _ h)
  have hown : s.vm.findClass RJ3 = some m.cls := findClass_of_methodNamed B.named
  have hlocks := B.notSynchronized
  subst hsz
  have hD := hD0.self (sz := s.heap.size)
  have hAb : ∀ q, va_A [] s.heap.size q → b ≤ q := fun q h => h.elim (fun ⟨k, e, h⟩ => hD0.2 k _ h) (fun h => Nat.le_trans hE.2.2.1 h)
  generalize hAe : va_A [] s.heap.size = A at hD hAb ⊢
  have hA : ∀ q : Nat, s.heap.size ≤ q → A q := fun q h => by rw [← hAe]; exact Or.inr h
  have hS : va_S A s.heap s.heap [] := va_S.rf
  have hZ := hE.1.narrow hAb
  have hE0 := fun (H9 : Heap) (l9 : List Loc) (h9 : va_S A s.heap H9 l9) => Em.row hE h9 hAb
  obtain ⟨H, hHe⟩ : ∃ H : Heap, H = s.heap := ⟨_, rfl⟩
  have hP : va_P D vwCl [] s.heap := hP
  have hl := lv_entry ([.int i, .int n, .null]) (n := 3) (Nat.le_of_ble_eq_true rfl)
  rw [lg_entry_eq]
  generalize (lg_sl ([.int i, .int n, .null]) ++ List.replicate (3 - (lg_sl ([.int i, .int n, .null])).length) Slot.unset).toArray = ls at hl ⊢
  have hl : lv_has ls 3 [(0, .int i), (1, .int n), (2, .null)] := hl
  clear hHe H
  refine lv_iload_n hx hb dJ3_checkIndex_8e157_0 rfl (lv_at hl 0 rfl) ?_
  refine lv_if_lt (tgt := 9) hx hb dJ3_checkIndex_8e157_1 (by decide) (fun h9 => absurd h9 hi0) (fun _ => ?_)
  refine lv_iload_n hx hb dJ3_checkIndex_8e157_4 rfl (lv_at hl 0 rfl) ?_
  refine lv_iload_n hx hb dJ3_checkIndex_8e157_5 rfl (lv_at hl 1 rfl) ?_
  refine lv_icmp_lt (tgt := 16) hx hb dJ3_checkIndex_8e157_6 (by decide) (fun _ => ?_) (fun h9 => absurd hi1 h9)
  refine lv_iload_n hx hb dJ3_checkIndex_8e157_16 rfl (lv_at hl 0 rfl) ?_
  have hP9 := hP.sub (ws' := []) [] rfl
  have hD9 := hD.sub (ws' := []) [] (by decide) rfl
  exact W.iret (v := i) hx hb hr (fun t9 ht hW => ⟨⟨i, (), rfl, rfl, by rw [ht]; exact hP9, hD9⟩, hS.F ht⟩) hS.2.2 dJ3_checkIndex_8e157_17
set_option maxHeartbeats 4000000 in
set_option maxRecDepth 100000 in
theorem x_J15_checkIndex_7cf53 (l : Launch) {D : va_G} {tys : List (ClassId × FieldType)} {z b : Nat} {k0 k2 : Nat} {c0 c2 : ClassId} (h0 : tys[k0]? = some (c0, .int)) (h2 : tys[k2]? = some (c2, .object "java/lang/Object")) (i n : Int32) (hi0 : ¬ i < 0) (hi1 : i < n) (sz : Nat) : Met l yJ15_checkIndex_7cf53 (ws_ yJ15_checkIndex_7cf53 cJ15_checkIndex_7cf53 2 (some .int)) (rm_ 1 22 0 0) (Xe D tys z b c2 [.int i, .int n] (fun H9 => H9.size = sz) []) (va_Qi (fun (v : Int32) (_ : Unit) => v = i) (fun _ t => va_P D vwCl [] t.heap ∧ va_D (va_A [] sz) []) (va_A [] sz)) 0 0 (va_A [] sz) := by
  refine Met.ofW (cc := cJ15_checkIndex_7cf53) (maxL := 2) (ret := (some .int)) (by decide) rfl ?_
  intro p e9 s m args below meth c s₁ B hml hv
  obtain ⟨rfl, ⟨hT, hE⟩, hsz, hP, hD0⟩ := hv
  have hx := B.exec
  have hb := B.bytes
  have hr := B.returns
  have hts : ∀ w ∈ lw_all, w.before _ s = true := fun w h => atoms_spec (ws := (ws_ yJ15_checkIndex_7cf53 cJ15_checkIndex_7cf53 2 (some .int))) B.pre w (List.mem_cons_of_mem _ h)
  have hown : s.vm.findClass RJ15 = some m.cls := findClass_of_methodNamed B.named
  have hlocks := B.notSynchronized
  subst hsz
  have hD := hD0.self (sz := s.heap.size)
  have hAb : ∀ q, va_A [] s.heap.size q → b ≤ q := fun q h => h.elim (fun ⟨k, e, h⟩ => hD0.2 k _ h) (fun h => Nat.le_trans hE.2.2.1 h)
  generalize hAe : va_A [] s.heap.size = A at hD hAb ⊢
  have hA : ∀ q : Nat, s.heap.size ≤ q → A q := fun q h => by rw [← hAe]; exact Or.inr h
  have hS : va_S A s.heap s.heap [] := va_S.rf
  have hZ := hE.1.narrow hAb
  have hE0 := fun (H9 : Heap) (l9 : List Loc) (h9 : va_S A s.heap H9 l9) => Em.row hE h9 hAb
  obtain ⟨H, hHe⟩ : ∃ H : Heap, H = s.heap := ⟨_, rfl⟩
  have hP : va_P D vwCl [] s.heap := hP
  have hl := lv_entry ([.int i, .int n]) (n := 2) (Nat.le_of_ble_eq_true rfl)
  rw [lg_entry_eq]
  generalize (lg_sl ([.int i, .int n]) ++ List.replicate (2 - (lg_sl ([.int i, .int n])).length) Slot.unset).toArray = ls at hl ⊢
  have hl : lv_has ls 2 [(0, .int i), (1, .int n)] := hl
  clear hHe H
  refine lv_iload_n hx hb dJ15_checkIndex_7cf53_0 rfl (lv_at hl 0 rfl) ?_
  refine lv_iload_n hx hb dJ15_checkIndex_7cf53_1 rfl (lv_at hl 1 rfl) ?_
  refine lv_null hx hb dJ15_checkIndex_7cf53_2 ?_
  have hPc := hP.sub (ws' := []) [] rfl
  have hDc := hD.sub (ws' := []) [] (by decide) rfl
  have hFc := va_free (wc := []) hD hS hA [] rfl
  refine va_calli (va_runS (As := [.int i, .int n, .null]) (rest := []) ⟨hx, hb, hml, hown, hts⟩ (x_J3_checkIndex_8e157 l h0 h2 i n hi0 hi1 s.heap.size) (va_cwS 3 hts (gd_S q336 q337 q57 q338) rfl rfl rfl hd_J3_checkIndex_8e157.2 ⟨Nat.le_of_ble_eq_true rfl, Nat.le_of_ble_eq_true rfl⟩) ⟨Xe.blind, fun U hU hW => ⟨rfl, Xe.warm hW hT hE hS hAb hU, by show U.heap.size = _; rw [hU], by rw [hU]; exact hPc, hDc.weaken (fun k q _ h => hAb _ h)⟩⟩ rfl rfl hl.1 rfl (lv_room (Nat.le_of_ble_eq_true rfl)) dJ15_checkIndex_7cf53_3 ⟨Nat.le_of_ble_eq_true rfl, Nat.le_of_ble_eq_true rfl⟩) hS (fun q _ h => hFc q h) hFc (fun v9 u9 t9 H1 locs ht9 hvm9 hw9 hB9 hz9 hk9 hS => ?_)
  obtain ⟨hP1, hD1⟩ := hB9
  rw [ht9] at hP1
  rw [hw9]
  obtain ⟨hP, hD⟩ := va_join (wr := []) (w1 := []) hP hD [] [] rfl rfl (by decide) (by decide) hk9 hFc hP1 hD1
  generalize H1 = H at hP hS ⊢
  have hP : va_P D vwCl [] H := hP
  have hD : va_D A [] := hD
  have hP9 := hP.sub (ws' := []) [] rfl
  have hD9 := hD.sub (ws' := []) [] (by decide) rfl
  exact W.iret (v := i) hx hb hr (fun t9 ht hW => ⟨⟨i, (), rfl, rfl, by rw [ht]; exact hP9, hD9⟩, hS.F ht⟩) hS.2.2 dJ15_checkIndex_7cf53_6
set_option maxHeartbeats 4000000 in
set_option maxRecDepth 100000 in
theorem x_Jx4a65c_elementData_915e3 (l : Launch) {D : va_G} {tys : List (ClassId × FieldType)} {z b : Nat} {k0 k2 : Nat} {c0 c2 : ClassId} (h0 : tys[k0]? = some (c0, .int)) (h2 : tys[k2]? = some (c2, .object "java/lang/Object")) (a e y : Nat) (n mo i : Int32) (f : Nat → Option Nat) (hin : vp_in i 10) (hy : f i.toNatClampNeg = some y) (sz : Nat) : Met l yJx4a65c_elementData_915e3 (ws_ yJx4a65c_elementData_915e3 cJx4a65c_elementData_915e3 2 (some (.object "java/lang/Object"))) (rm_ 0 0 0 0) (Xe D tys z b c2 [.ref a, .int i] (fun H9 => H9.size = sz) [(a, .inr (0, [.int mo, .ref e, .int n])), (e, .inl (c2, 10, .inr (.inr (.inr (.inr f)))))]) (va_Qq (fun (v : Option Nat) (_ : Unit) => v = some y) (fun _ t => va_P D vwCl [(a, .inr (0, [.int mo, .ref e, .int n])), (e, .inl (c2, 10, .inr (.inr (.inr (.inr f)))))] t.heap ∧ va_D (va_A [(a, .inr (0, [.int mo, .ref e, .int n])), (e, .inl (c2, 10, .inr (.inr (.inr (.inr f)))))] sz) [(a, .inr (0, [.int mo, .ref e, .int n])), (e, .inl (c2, 10, .inr (.inr (.inr (.inr f)))))]) (va_A [(a, .inr (0, [.int mo, .ref e, .int n])), (e, .inl (c2, 10, .inr (.inr (.inr (.inr f)))))] sz)) 0 0 (va_A [(a, .inr (0, [.int mo, .ref e, .int n])), (e, .inl (c2, 10, .inr (.inr (.inr (.inr f)))))] sz) := by
  refine Met.ofW (cc := cJx4a65c_elementData_915e3) (maxL := 2) (ret := (some (.object "java/lang/Object"))) (by decide) rfl ?_
  intro p e9 s m args below meth c s₁ B hml hv
  obtain ⟨rfl, ⟨hT, hE⟩, hsz, hP, hD0⟩ := hv
  have hx := B.exec
  have hb := B.bytes
  have hr := B.returns
  have hts : ∀ w ∈ lw_all, w.before _ s = true := fun w h => atoms_spec (ws := (ws_ yJx4a65c_elementData_915e3 cJx4a65c_elementData_915e3 2 (some (.object "java/lang/Object")))) B.pre w (List.mem_cons_of_mem _ h)
  have hown : s.vm.findClass RJx4a65c = some m.cls := findClass_of_methodNamed B.named
  have hlocks := B.notSynchronized
  subst hsz
  have hD := hD0.self (sz := s.heap.size)
  have hAb : ∀ q, va_A [(a, .inr (0, [.int mo, .ref e, .int n])), (e, .inl (c2, 10, .inr (.inr (.inr (.inr f)))))] s.heap.size q → b ≤ q := fun q h => h.elim (fun ⟨k, e, h⟩ => hD0.2 k _ h) (fun h => Nat.le_trans hE.2.2.1 h)
  generalize hAe : va_A [(a, .inr (0, [.int mo, .ref e, .int n])), (e, .inl (c2, 10, .inr (.inr (.inr (.inr f)))))] s.heap.size = A at hD hAb ⊢
  have hA : ∀ q : Nat, s.heap.size ≤ q → A q := fun q h => by rw [← hAe]; exact Or.inr h
  have hS : va_S A s.heap s.heap [] := va_S.rf
  have hZ := hE.1.narrow hAb
  have hE0 := fun (H9 : Heap) (l9 : List Loc) (h9 : va_S A s.heap H9 l9) => Em.row hE h9 hAb
  obtain ⟨H, hHe⟩ : ∃ H : Heap, H = s.heap := ⟨_, rfl⟩
  have hP : va_P D vwCl [(a, .inr (0, [.int mo, .ref e, .int n])), (e, .inl (c2, 10, .inr (.inr (.inr (.inr f)))))] s.heap := hP
  have hl := lv_entry ([.ref a, .int i]) (n := 2) (Nat.le_of_ble_eq_true rfl)
  rw [lg_entry_eq]
  generalize (lg_sl ([.ref a, .int i]) ++ List.replicate (2 - (lg_sl ([.ref a, .int i])).length) Slot.unset).toArray = ls at hl ⊢
  have hl : lv_has ls 2 [(0, .ref a), (1, .int i)] := hl
  clear hHe H
  refine lv_aload_n hx hb dJx4a65c_elementData_915e3_0 rfl (lv_at hl 0 rfl) ?_
  refine va_get hx hb hts i_Jx4a65c hown hT.1 hP 0 rfl rfl 1 (by decide) (hts _ q84) (fun _ h9 => h9) rfl dJx4a65c_elementData_915e3_1 ?_
  refine lv_iload_n hx hb dJx4a65c_elementData_915e3_4 rfl (lv_at hl 1 rfl) ?_
  refine va_aldq hx hb hT.1 hP 1 k2 rfl h2 hin dJx4a65c_elementData_915e3_5 ?_
  refine W.eq (g2 := F0 m 6 ls [.ref y]) (by rw [hy]; rfl) ?_
  have hP9 := hP.sub (ws' := [(a, .inr (0, [.int mo, .ref e, .int n])), (e, .inl (c2, 10, .inr (.inr (.inr (.inr f)))))]) [0, 1] rfl
  have hD9 := hD.sub (ws' := [(a, .inr (0, [.int mo, .ref e, .int n])), (e, .inl (c2, 10, .inr (.inr (.inr (.inr f)))))]) [0, 1] (by decide) rfl
  exact W.aret (v := .ref y) (rt := (.object "java/lang/Object")) hx hb hr (Or.inl ⟨_, rfl⟩) (Or.inr ⟨_, rfl⟩) (fun t9 ht hW => ⟨⟨some y, (), rfl, rfl, by rw [ht]; exact hP9, hD9⟩, hS.F ht⟩) hS.2.2 dJx4a65c_elementData_915e3_6
set_option maxHeartbeats 4000000 in
set_option maxRecDepth 100000 in
theorem x_Jx4a65c_get_915e3 (l : Launch) {D : va_G} {tys : List (ClassId × FieldType)} {z b : Nat} {k0 k2 : Nat} {c0 c2 : ClassId} (h0 : tys[k0]? = some (c0, .int)) (h2 : tys[k2]? = some (c2, .object "java/lang/Object")) (a e y : Nat) (n mo i : Int32) (f : Nat → Option Nat) (hi0 : ¬ i < 0) (hi1 : i < n) (hin : vp_in i 10) (hy : f i.toNatClampNeg = some y) (sz : Nat) : Met l yJx4a65c_get_915e3 (ws_ yJx4a65c_get_915e3 cJx4a65c_get_915e3 2 (some (.object "java/lang/Object"))) (rm_ 2 43 0 0) (Xe D tys z b c2 [.ref a, .int i] (fun H9 => H9.size = sz) [(a, .inr (0, [.int mo, .ref e, .int n])), (e, .inl (c2, 10, .inr (.inr (.inr (.inr f)))))]) (va_Qq (fun (v : Option Nat) (_ : Unit) => v = some y) (fun _ t => va_P D vwCl [(a, .inr (0, [.int mo, .ref e, .int n])), (e, .inl (c2, 10, .inr (.inr (.inr (.inr f)))))] t.heap ∧ va_D (va_A [(a, .inr (0, [.int mo, .ref e, .int n])), (e, .inl (c2, 10, .inr (.inr (.inr (.inr f)))))] sz) [(a, .inr (0, [.int mo, .ref e, .int n])), (e, .inl (c2, 10, .inr (.inr (.inr (.inr f)))))]) (va_A [(a, .inr (0, [.int mo, .ref e, .int n])), (e, .inl (c2, 10, .inr (.inr (.inr (.inr f)))))] sz)) 0 0 (va_A [(a, .inr (0, [.int mo, .ref e, .int n])), (e, .inl (c2, 10, .inr (.inr (.inr (.inr f)))))] sz) := by
  refine Met.ofW (cc := cJx4a65c_get_915e3) (maxL := 2) (ret := (some (.object "java/lang/Object"))) (by decide) rfl ?_
  intro p e9 s m args below meth c s₁ B hml hv
  obtain ⟨rfl, ⟨hT, hE⟩, hsz, hP, hD0⟩ := hv
  have hx := B.exec
  have hb := B.bytes
  have hr := B.returns
  have hts : ∀ w ∈ lw_all, w.before _ s = true := fun w h => atoms_spec (ws := (ws_ yJx4a65c_get_915e3 cJx4a65c_get_915e3 2 (some (.object "java/lang/Object")))) B.pre w (List.mem_cons_of_mem _ h)
  have hown : s.vm.findClass RJx4a65c = some m.cls := findClass_of_methodNamed B.named
  have hlocks := B.notSynchronized
  subst hsz
  have hD := hD0.self (sz := s.heap.size)
  have hAb : ∀ q, va_A [(a, .inr (0, [.int mo, .ref e, .int n])), (e, .inl (c2, 10, .inr (.inr (.inr (.inr f)))))] s.heap.size q → b ≤ q := fun q h => h.elim (fun ⟨k, e, h⟩ => hD0.2 k _ h) (fun h => Nat.le_trans hE.2.2.1 h)
  generalize hAe : va_A [(a, .inr (0, [.int mo, .ref e, .int n])), (e, .inl (c2, 10, .inr (.inr (.inr (.inr f)))))] s.heap.size = A at hD hAb ⊢
  have hA : ∀ q : Nat, s.heap.size ≤ q → A q := fun q h => by rw [← hAe]; exact Or.inr h
  have hS : va_S A s.heap s.heap [] := va_S.rf
  have hZ := hE.1.narrow hAb
  have hE0 := fun (H9 : Heap) (l9 : List Loc) (h9 : va_S A s.heap H9 l9) => Em.row hE h9 hAb
  obtain ⟨H, hHe⟩ : ∃ H : Heap, H = s.heap := ⟨_, rfl⟩
  have hP : va_P D vwCl [(a, .inr (0, [.int mo, .ref e, .int n])), (e, .inl (c2, 10, .inr (.inr (.inr (.inr f)))))] s.heap := hP
  have hl := lv_entry ([.ref a, .int i]) (n := 2) (Nat.le_of_ble_eq_true rfl)
  rw [lg_entry_eq]
  generalize (lg_sl ([.ref a, .int i]) ++ List.replicate (2 - (lg_sl ([.ref a, .int i])).length) Slot.unset).toArray = ls at hl ⊢
  have hl : lv_has ls 2 [(0, .ref a), (1, .int i)] := hl
  clear hHe H
  refine lv_iload_n hx hb dJx4a65c_get_915e3_0 rfl (lv_at hl 1 rfl) ?_
  refine lv_aload_n hx hb dJx4a65c_get_915e3_1 rfl (lv_at hl 0 rfl) ?_
  refine va_get hx hb hts i_Jx4a65c hown hT.1 hP 0 rfl rfl 2 (by decide) (hts _ q85) (fun _ h9 => h9) rfl dJx4a65c_get_915e3_2 ?_
  have hPc := hP.sub (ws' := []) [] rfl
  have hDc := hD.sub (ws' := []) [] (by decide) rfl
  have hFc := va_free (wc := []) hD hS hA [] rfl
  refine va_calli (va_runS (As := [.int i, .int n]) (rest := []) ⟨hx, hb, hml, hown, hts⟩ (x_J15_checkIndex_7cf53 l h0 h2 i n hi0 hi1 s.heap.size) (va_cwS 2 hts (gd_S q333 q334 q56 q335) rfl rfl rfl hd_J15_checkIndex_7cf53.2 ⟨Nat.le_of_ble_eq_true rfl, Nat.le_of_ble_eq_true rfl⟩) ⟨Xe.blind, fun U hU hW => ⟨rfl, Xe.warm hW hT hE hS hAb hU, by show U.heap.size = _; rw [hU], by rw [hU]; exact hPc, hDc.weaken (fun k q _ h => hAb _ h)⟩⟩ rfl rfl hl.1 rfl (lv_room (Nat.le_of_ble_eq_true rfl)) dJx4a65c_get_915e3_5 ⟨Nat.le_of_ble_eq_true rfl, Nat.le_of_ble_eq_true rfl⟩) hS (fun q _ h => hFc q h) hFc (fun v9 u9 t9 H1 locs ht9 hvm9 hw9 hB9 hz9 hk9 hS => ?_)
  obtain ⟨hP1, hD1⟩ := hB9
  rw [ht9] at hP1
  rw [hw9]
  obtain ⟨hP, hD⟩ := va_join (wr := [(a, .inr (0, [.int mo, .ref e, .int n])), (e, .inl (c2, 10, .inr (.inr (.inr (.inr f)))))]) (w1 := []) hP hD [] [0, 1] rfl rfl (by decide) (by decide) hk9 hFc hP1 hD1
  generalize H1 = H at hP hS ⊢
  have hP : va_P D vwCl [(a, .inr (0, [.int mo, .ref e, .int n])), (e, .inl (c2, 10, .inr (.inr (.inr (.inr f)))))] H := hP
  have hD : va_D A [(a, .inr (0, [.int mo, .ref e, .int n])), (e, .inl (c2, 10, .inr (.inr (.inr (.inr f)))))] := hD
  refine lv_pop hx hb dJx4a65c_get_915e3_8 rfl ?_
  refine lv_aload_n hx hb dJx4a65c_get_915e3_9 rfl (lv_at hl 0 rfl) ?_
  refine lv_iload_n hx hb dJx4a65c_get_915e3_10 rfl (lv_at hl 1 rfl) ?_
  have hPc := hP.sub (ws' := [(a, .inr (0, [.int mo, .ref e, .int n])), (e, .inl (c2, 10, .inr (.inr (.inr (.inr f)))))]) [0, 1] rfl
  have hDc := hD.sub (ws' := [(a, .inr (0, [.int mo, .ref e, .int n])), (e, .inl (c2, 10, .inr (.inr (.inr (.inr f)))))]) [0, 1] (by decide) rfl
  have hFc := va_free (wc := [(a, .inr (0, [.int mo, .ref e, .int n])), (e, .inl (c2, 10, .inr (.inr (.inr (.inr f)))))]) hD hS hA [0, 1] rfl
  refine va_callq (va_runV (As := [.int i]) (rest := []) ⟨hx, hb, hml, hown, hts⟩ (x_Jx4a65c_elementData_915e3 l h0 h2 a e y n mo i f hin hy H.size) (cwV 1 hts (gd_V q339 q340 q341 q40 q342) rfl rfl rfl hd_Jx4a65c_elementData_915e3 ⟨Nat.le_of_ble_eq_true rfl, Nat.le_of_ble_eq_true rfl⟩) ⟨Xe.blind, va_recv (q0 := 0) hT.1 hP rfl rfl, fun U hU hW => ⟨rfl, Xe.warm hW hT hE hS hAb hU, by show U.heap.size = _; rw [hU], by rw [hU]; exact hPc, hDc.weaken (fun k q _ h => hAb _ h)⟩⟩ rfl rfl hl.1 rfl (lv_room (Nat.le_of_ble_eq_true rfl)) dJx4a65c_get_915e3_11 ⟨Nat.le_of_ble_eq_true rfl, Nat.le_of_ble_eq_true rfl⟩) hS (fun q _ h => hFc q h) hFc (fun v9 u9 t9 H1 locs ht9 hvm9 hw9 hB9 hz9 hk9 hS => ?_)
  obtain ⟨hP1, hD1⟩ := hB9
  rw [ht9] at hP1
  rw [hw9]
  obtain ⟨hP, hD⟩ := va_join (wr := []) (w1 := [(a, .inr (0, [.int mo, .ref e, .int n])), (e, .inl (c2, 10, .inr (.inr (.inr (.inr f)))))]) hP hD [0, 1] [] rfl rfl (by decide) (by decide) hk9 hFc hP1 hD1
  generalize H1 = H at hP hS ⊢
  have hP : va_P D vwCl [(a, .inr (0, [.int mo, .ref e, .int n])), (e, .inl (c2, 10, .inr (.inr (.inr (.inr f)))))] H := hP
  have hD : va_D A [(a, .inr (0, [.int mo, .ref e, .int n])), (e, .inl (c2, 10, .inr (.inr (.inr (.inr f)))))] := hD
  refine W.eq (g2 := F0 m 14 ls [.ref y]) (by rfl) ?_
  have hP9 := hP.sub (ws' := [(a, .inr (0, [.int mo, .ref e, .int n])), (e, .inl (c2, 10, .inr (.inr (.inr (.inr f)))))]) [0, 1] rfl
  have hD9 := hD.sub (ws' := [(a, .inr (0, [.int mo, .ref e, .int n])), (e, .inl (c2, 10, .inr (.inr (.inr (.inr f)))))]) [0, 1] (by decide) rfl
  exact W.aret (v := .ref y) (rt := (.object "java/lang/Object")) hx hb hr (Or.inl ⟨_, rfl⟩) (Or.inr ⟨_, rfl⟩) (fun t9 ht hW => ⟨⟨some y, (), rfl, rfl, by rw [ht]; exact hP9, hD9⟩, hS.F ht⟩) hS.2.2 dJx4a65c_get_915e3_14
set_option maxHeartbeats 4000000 in
set_option maxRecDepth 100000 in
theorem x_X8_set (l : Launch) {D : va_G} {tys : List (ClassId × FieldType)} {z b : Nat} {k0 k2 : Nat} {c0 c2 : ClassId} (h0 : tys[k0]? = some (c0, .int)) (h2 : tys[k2]? = some (c2, .object "java/lang/Object")) (a : Nat) (i v : Int32) (f : Nat → Int32) (hs : ¬ i < 0 ∧ ¬ (512 : Int32) ≤ i ∧ vp_in i 512) (sz : Nat) : Met l yX8_set (ws_ yX8_set cX8_set 3 none) (rm_ 0 0 0 0) (Xe D tys z b c2 [.ref a, .int i, .int v] (fun H9 => H9.size = sz) [(a, .inl (c0, 512, .inl f))]) (va_Qv (fun _ : Unit => True) (fun _ t => va_P D vwCl [(a, .inl (c0, 512, .inl (upd f i.toNatClampNeg v)))] t.heap ∧ va_D (va_A [(a, .inl (c0, 512, .inl f))] sz) [(a, .inl (c0, 512, .inl (upd f i.toNatClampNeg v)))]) (va_A [(a, .inl (c0, 512, .inl f))] sz)) 0 0 (va_A [(a, .inl (c0, 512, .inl f))] sz) := by
  refine Met.ofW (cc := cX8_set) (maxL := 3) (ret := none) (by decide) rfl ?_
  intro p e9 s m args below meth c s₁ B hml hv
  obtain ⟨rfl, ⟨hT, hE⟩, hsz, hP, hD0⟩ := hv
  have hx := B.exec
  have hb := B.bytes
  have hr := B.returns
  have hts : ∀ w ∈ lw_all, w.before _ s = true := fun w h => atoms_spec (ws := (ws_ yX8_set cX8_set 3 none)) B.pre w (List.mem_cons_of_mem _ h)
  have hown : s.vm.findClass RX8 = some m.cls := findClass_of_methodNamed B.named
  have hlocks := B.notSynchronized
  subst hsz
  have hD := hD0.self (sz := s.heap.size)
  have hAb : ∀ q, va_A [(a, .inl (c0, 512, .inl f))] s.heap.size q → b ≤ q := fun q h => h.elim (fun ⟨k, e, h⟩ => hD0.2 k _ h) (fun h => Nat.le_trans hE.2.2.1 h)
  generalize hAe : va_A [(a, .inl (c0, 512, .inl f))] s.heap.size = A at hD hAb ⊢
  have hA : ∀ q : Nat, s.heap.size ≤ q → A q := fun q h => by rw [← hAe]; exact Or.inr h
  have hS : va_S A s.heap s.heap [] := va_S.rf
  have hZ := hE.1.narrow hAb
  have hE0 := fun (H9 : Heap) (l9 : List Loc) (h9 : va_S A s.heap H9 l9) => Em.row hE h9 hAb
  obtain ⟨H, hHe⟩ : ∃ H : Heap, H = s.heap := ⟨_, rfl⟩
  have hP : va_P D vwCl [(a, .inl (c0, 512, .inl f))] s.heap := hP
  have hl := lv_entry ([.ref a, .int i, .int v]) (n := 3) (Nat.le_of_ble_eq_true rfl)
  rw [lg_entry_eq]
  generalize (lg_sl ([.ref a, .int i, .int v]) ++ List.replicate (3 - (lg_sl ([.ref a, .int i, .int v])).length) Slot.unset).toArray = ls at hl ⊢
  have hl : lv_has ls 3 [(0, .ref a), (1, .int i), (2, .int v)] := hl
  clear hHe H
  refine lv_iload_n hx hb dX8_set_0 rfl (lv_at hl 1 rfl) ?_
  refine lv_if_lt (tgt := 14) hx hb dX8_set_1 (by decide) (fun h9 => absurd h9 hs.1) (fun _ => ?_)
  refine lv_iload_n hx hb dX8_set_4 rfl (lv_at hl 1 rfl) ?_
  refine lv_aload_n hx hb dX8_set_5 rfl (lv_at hl 0 rfl) ?_
  refine va_alen hx hb hT.1 hP 0 k0 rfl h0 (v := 512) rfl dX8_set_6 ?_
  refine lv_icmp_ge (tgt := 14) hx hb dX8_set_7 (by decide) (fun h9 => absurd h9 hs.2.1) (fun _ => ?_)
  refine lv_aload_n hx hb dX8_set_10 rfl (lv_at hl 0 rfl) ?_
  refine lv_iload_n hx hb dX8_set_11 rfl (lv_at hl 1 rfl) ?_
  refine lv_iload_n hx hb dX8_set_12 rfl (lv_at hl 2 rfl) ?_
  refine va_iast hx hb hT.1 hP hD hS 0 k0 rfl h0 hs.2.2 dX8_set_13 (fun H locs hP hD hS => ?_)
  have hP : va_P D vwCl [(a, .inl (c0, 512, .inl (upd f i.toNatClampNeg v)))] H := hP
  have hD : va_D A [(a, .inl (c0, 512, .inl (upd f i.toNatClampNeg v)))] := hD
  have hP9 := hP.sub (ws' := [(a, .inl (c0, 512, .inl (upd f i.toNatClampNeg v)))]) [0] rfl
  have hD9 := hD.sub (ws' := [(a, .inl (c0, 512, .inl (upd f i.toNatClampNeg v)))]) [0] (by decide) rfl
  exact W.vret hx hb hr (fun t9 ht hW => ⟨⟨(), rfl, trivial, by rw [ht]; exact hP9, hD9⟩, hS.F ht⟩) hS.2.2 dX8_set_14
theorem pred_ok {n : Nat} (h0 : ¬ nI n = 0) (hn : n ≤ 10) : ¬ nI n - 1 < 0 ∧ nI n - 1 < nI n ∧ vp_in (nI n - 1) 10 := by
  cases n with
  | zero => exact absurd rfl h0
  | succ k =>
    rw [nI_pred]
    exact ⟨nI_pos (by omega), nI_lt (by omega) (by omega), vp_in_nI (by omega) (by decide)⟩
/-- "Sandglass$Tally" "keep" "(I)V" -/
theorem hd_X6_keep : yX6_keep.cls = RX6 ∧ yX6_keep.cls ≠ "java/lang/invoke/MethodHandle" ∧ yX6_keep.cls ≠ "java/lang/invoke/VarHandle" ∧ (parseMethodDescriptor yX6_keep.desc).map (fun d => d.parameters.length) = some 1 := by decide +kernel
set_option maxHeartbeats 4000000 in
set_option maxRecDepth 100000 in
theorem x_X6_keep0 (l : Launch) {D : va_G} {tys : List (ClassId × FieldType)} {z b : Nat} {k0 k2 : Nat} {c0 c2 : ClassId} (h0 : tys[k0]? = some (c0, .int)) (h2 : tys[k2]? = some (c2, .object "java/lang/Object")) (ty li : Nat) (ba co su le gr la op os fl bs : Int32)  (hfl : fl < 8192000) (hset : ¬ fl - fl / 512 * 512 < 0 ∧ ¬ (512 : Int32) ≤ fl - fl / 512 * 512 ∧ vp_in (fl - fl / 512 * 512) 512) (sz : Nat) : Met l yX6_keep (ws_ yX6_keep cX6_keep 2 none) (rm_ 5 111 3 523) (Xe D tys z b c2 [.ref ty, .int bs] (fun H9 => H9.size = sz) [(ty, .inr (7, [.int ba, .int co, .int su, .int le, .int gr, .int la, .int op, .int os, .int fl, .ref li])), (li, .inr (0, [.int 0, .ref z, .int 0]))]) (va_Qv (fun _ : Unit => True) (fun _ t => ∃ (q1 q2 q3 : Nat), va_P D vwCl [(ty, .inr (7, [.int ba, .int co, .int su, .int le, .int gr, .int la, .int op, .int os, .int (fl + 1), .ref li])), (q1, .inr (1, [.ref q2])), (li, .inr (0, [.int (0 + 1), .ref q3, .int (0 + 1)])), (q3, .inl (c2, 10, .inr (.inr (.inr (.inr (va_up (fun _ => none) (0 : Int32).toNatClampNeg (some q1))))))), (q2, .inl (c0, 512, .inl (upd (fun _ => 0) ((fl - fl / 512 * 512)).toNatClampNeg bs)))] t.heap ∧ va_D (va_A [(ty, .inr (7, [.int ba, .int co, .int su, .int le, .int gr, .int la, .int op, .int os, .int fl, .ref li])), (li, .inr (0, [.int 0, .ref z, .int 0]))] sz) [(ty, .inr (7, [.int ba, .int co, .int su, .int le, .int gr, .int la, .int op, .int os, .int (fl + 1), .ref li])), (q1, .inr (1, [.ref q2])), (li, .inr (0, [.int (0 + 1), .ref q3, .int (0 + 1)])), (q3, .inl (c2, 10, .inr (.inr (.inr (.inr (va_up (fun _ => none) (0 : Int32).toNatClampNeg (some q1))))))), (q2, .inl (c0, 512, .inl (upd (fun _ => 0) ((fl - fl / 512 * 512)).toNatClampNeg bs)))]) (va_A [(ty, .inr (7, [.int ba, .int co, .int su, .int le, .int gr, .int la, .int op, .int os, .int fl, .ref li])), (li, .inr (0, [.int 0, .ref z, .int 0]))] sz)) 3 523 (va_A [(ty, .inr (7, [.int ba, .int co, .int su, .int le, .int gr, .int la, .int op, .int os, .int fl, .ref li])), (li, .inr (0, [.int 0, .ref z, .int 0]))] sz) := by
  refine Met.ofW (cc := cX6_keep) (maxL := 2) (ret := none) (by decide) rfl ?_
  intro p e9 s m args below meth c s₁ B hml hv
  obtain ⟨rfl, ⟨hT, hE⟩, hsz, hP, hD0⟩ := hv
  have hx := B.exec
  have hb := B.bytes
  have hr := B.returns
  have hts : ∀ w ∈ lw_all, w.before _ s = true := fun w h => atoms_spec (ws := (ws_ yX6_keep cX6_keep 2 none)) B.pre w (List.mem_cons_of_mem _ h)
  have hown : s.vm.findClass RX6 = some m.cls := findClass_of_methodNamed B.named
  have hlocks := B.notSynchronized
  subst hsz
  have hD := hD0.self (sz := s.heap.size)
  have hAb : ∀ q, va_A [(ty, .inr (7, [.int ba, .int co, .int su, .int le, .int gr, .int la, .int op, .int os, .int fl, .ref li])), (li, .inr (0, [.int 0, .ref z, .int 0]))] s.heap.size q → b ≤ q := fun q h => h.elim (fun ⟨k, e, h⟩ => hD0.2 k _ h) (fun h => Nat.le_trans hE.2.2.1 h)
  generalize hAe : va_A [(ty, .inr (7, [.int ba, .int co, .int su, .int le, .int gr, .int la, .int op, .int os, .int fl, .ref li])), (li, .inr (0, [.int 0, .ref z, .int 0]))] s.heap.size = A at hD hAb ⊢
  have hA : ∀ q : Nat, s.heap.size ≤ q → A q := fun q h => by rw [← hAe]; exact Or.inr h
  have hS : va_S A s.heap s.heap [] := va_S.rf
  have hZ := hE.1.narrow hAb
  have hE0 := fun (H9 : Heap) (l9 : List Loc) (h9 : va_S A s.heap H9 l9) => Em.row hE h9 hAb
  obtain ⟨H, hHe⟩ : ∃ H : Heap, H = s.heap := ⟨_, rfl⟩
  have hP : va_P D vwCl [(ty, .inr (7, [.int ba, .int co, .int su, .int le, .int gr, .int la, .int op, .int os, .int fl, .ref li])), (li, .inr (0, [.int 0, .ref z, .int 0]))] s.heap := hP
  have hl := lv_entry ([.ref ty, .int bs]) (n := 2) (Nat.le_of_ble_eq_true rfl)
  rw [lg_entry_eq]
  generalize (lg_sl ([.ref ty, .int bs]) ++ List.replicate (2 - (lg_sl ([.ref ty, .int bs])).length) Slot.unset).toArray = ls at hl ⊢
  have hl : lv_has ls 2 [(0, .ref ty), (1, .int bs)] := hl
  clear hHe H
  refine lv_aload_n hx hb dX6_keep_0 rfl (lv_at hl 0 rfl) ?_
  refine va_get hx hb hts i_X6 hown hT.1 hP 0 rfl rfl 8 (by decide) (hts _ q1038) (fun _ h9 => h9) rfl dX6_keep_1 ?_
  refine lv_ldc hx hb hown (v := 8192000) (hts _ q546) dX6_keep_4 ?_
  refine lv_icmp_lt (tgt := 10) hx hb dX6_keep_6 (by decide) (fun _ => ?_) (fun h9 => absurd hfl h9)
  refine lv_aload_n hx hb dX6_keep_10 rfl (lv_at hl 0 rfl) ?_
  refine va_get hx hb hts i_X6 hown hT.1 hP 0 rfl rfl 9 (by decide) (hts _ q1040) (fun _ h9 => h9) rfl dX6_keep_11 ?_
  have hPc := hP.sub (ws' := [(li, .inr (0, [.int 0, .ref z, .int 0]))]) [1] rfl
  have hDc := hD.sub (ws' := [(li, .inr (0, [.int 0, .ref z, .int 0]))]) [1] (by decide) rfl
  have hFc := va_free (wc := [(li, .inr (0, [.int 0, .ref z, .int 0]))]) hD hS hA [1] rfl
  refine va_calli (va_runV (As := []) (rest := []) ⟨hx, hb, hml, hown, hts⟩ (x_Jx4a65c_isEmpty_aae020 l h0 h2 li z 0 s.heap.size) (cwV 0 hts (gd_V q547 q548 q549 q40 q550) rfl rfl rfl hd_Jx4a65c_isEmpty_aae02 ⟨Nat.le_of_ble_eq_true rfl, Nat.le_of_ble_eq_true rfl⟩) ⟨Xe.blind, va_recv (q0 := 1) hT.1 hP rfl rfl, fun U hU hW => ⟨rfl, Xe.warm hW hT hE hS hAb hU, by show U.heap.size = _; rw [hU], by rw [hU]; exact hPc, hDc.weaken (fun k q _ h => hAb _ h)⟩⟩ rfl rfl hl.1 rfl (lv_room (Nat.le_of_ble_eq_true rfl)) dX6_keep_14 ⟨Nat.le_of_ble_eq_true rfl, Nat.le_of_ble_eq_true rfl⟩) hS (fun q _ h => hFc q h) hFc (fun v9 u9 t9 H1 locs ht9 hvm9 hw9 hB9 hz9 hk9 hS => ?_)
  obtain ⟨hP1, hD1⟩ := hB9
  rw [ht9] at hP1
  rw [hw9]
  obtain ⟨hP, hD⟩ := va_join (wr := [(ty, .inr (7, [.int ba, .int co, .int su, .int le, .int gr, .int la, .int op, .int os, .int fl, .ref li]))]) (w1 := [(li, .inr (0, [.int 0, .ref z, .int 0]))]) hP hD [1] [0] rfl rfl (by decide) (by decide) hk9 hFc hP1 hD1
  generalize H1 = H at hP hS ⊢
  have hP : va_P D vwCl [(ty, .inr (7, [.int ba, .int co, .int su, .int le, .int gr, .int la, .int op, .int os, .int fl, .ref li])), (li, .inr (0, [.int 0, .ref z, .int 0]))] H := hP
  have hD : va_D A [(ty, .inr (7, [.int ba, .int co, .int su, .int le, .int gr, .int la, .int op, .int os, .int fl, .ref li])), (li, .inr (0, [.int 0, .ref z, .int 0]))] := hD
  refine lv_if_ne (tgt := 38) hx hb dX6_keep_17 (by decide) (fun _ => ?_) (fun h9 => absurd h9 (by decide))
  refine lv_aload_n hx hb dX6_keep_38 rfl (lv_at hl 0 rfl) ?_
  refine va_get hx hb hts i_X6 hown hT.1 hP 0 rfl rfl 9 (by decide) (hts _ q1040) (fun _ h9 => h9) rfl dX6_keep_39 ?_
  refine va_new (ci := 1) (fs := [.null]) (C := RX0) (T := TX0) (N := 1) hx hb hts i_X0 tyX0 tyX0_ok hown (hts _ q552) (hts _ q553) (hts _ q61) hT.1 hP hD hS hA rfl (fun j hj => by rcases (show j = 0 by omega) with rfl <;> rfl) (Nat.le_of_ble_eq_true rfl) (Nat.le_of_ble_eq_true rfl) dX6_keep_42 (fun q1 H hP hD hS => ?_)
  have hP : va_P D vwCl [(ty, .inr (7, [.int ba, .int co, .int su, .int le, .int gr, .int la, .int op, .int os, .int fl, .ref li])), (li, .inr (0, [.int 0, .ref z, .int 0])), (q1, .inr (1, [.null]))] H := hP
  have hD : va_D A [(ty, .inr (7, [.int ba, .int co, .int su, .int le, .int gr, .int la, .int op, .int os, .int fl, .ref li])), (li, .inr (0, [.int 0, .ref z, .int 0])), (q1, .inr (1, [.null]))] := hD
  refine lv_dup hx hb dX6_keep_45 rfl ?_
  have hPc := hP.sub (ws' := [(q1, .inr (1, [.null]))]) [2] rfl
  have hDc := hD.sub (ws' := [(q1, .inr (1, [.null]))]) [2] (by decide) rfl
  have hFc := va_free (wc := [(q1, .inr (1, [.null]))]) hD hS hA [2] rfl
  refine va_callv (va_runIN (As := []) (rest := [.ref q1, .ref li]) ⟨hx, hb, hml, hown, hts⟩ (x_X0_init l h0 h2 q1 H.size) ⟨va_cnB 0 hts (gd_code q556) rfl rfl rfl (hT.2.1 _ nst_8) (hts _ q61) hd_X0_init.2 ⟨Nat.le_of_ble_eq_true rfl, Nat.le_of_ble_eq_true rfl⟩, rfl, hts _ q555⟩ ⟨Xe.blind, fun U hU hW => ⟨rfl, Xe.warm hW hT hE hS hAb hU, by show U.heap.size = _; rw [hU], by rw [hU]; exact hPc, hDc.weaken (fun k q _ h => hAb _ h)⟩⟩ rfl rfl hl.1 rfl (lv_room (Nat.le_of_ble_eq_true rfl)) dX6_keep_46 ⟨Nat.le_of_ble_eq_true rfl, Nat.le_of_ble_eq_true rfl⟩) hS (fun q _ h => hFc q h) hFc (fun u9 t9 H1 locs ht9 hvm9 hw9 hB9 hz9 hk9 hS => ?_)
  obtain ⟨q2, hP1, hD1⟩ := hB9
  rw [ht9] at hP1
  obtain ⟨hP, hD⟩ := va_join (wr := [(ty, .inr (7, [.int ba, .int co, .int su, .int le, .int gr, .int la, .int op, .int os, .int fl, .ref li])), (li, .inr (0, [.int 0, .ref z, .int 0]))]) (w1 := [(q1, .inr (1, [.ref q2])), (q2, .inl (c0, 512, .inl (fun _ => 0)))]) hP hD [2] [0, 1] rfl rfl (by decide) (by decide) hk9 hFc hP1 hD1
  generalize H1 = H at hP hS ⊢
  have hP : va_P D vwCl [(ty, .inr (7, [.int ba, .int co, .int su, .int le, .int gr, .int la, .int op, .int os, .int fl, .ref li])), (li, .inr (0, [.int 0, .ref z, .int 0])), (q1, .inr (1, [.ref q2])), (q2, .inl (c0, 512, .inl (fun _ => 0)))] H := hP
  have hD : va_D A [(ty, .inr (7, [.int ba, .int co, .int su, .int le, .int gr, .int la, .int op, .int os, .int fl, .ref li])), (li, .inr (0, [.int 0, .ref z, .int 0])), (q1, .inr (1, [.ref q2])), (q2, .inl (c0, 512, .inl (fun _ => 0)))] := hD
  have hPc := hP.sub (ws' := [(li, .inr (0, [.int 0, .ref z, .int 0])), (q1, .inr (1, [.ref q2]))]) [1, 2] rfl
  have hDc := hD.sub (ws' := [(li, .inr (0, [.int 0, .ref z, .int 0])), (q1, .inr (1, [.ref q2]))]) [1, 2] (by decide) rfl
  have hFc := va_free (wc := [(li, .inr (0, [.int 0, .ref z, .int 0])), (q1, .inr (1, [.ref q2]))]) hD hS hA [1, 2] rfl
  refine va_calli (va_runV (As := [.ref q1]) (rest := []) ⟨hx, hb, hml, hown, hts⟩ (x_Jx4a65c_add_9ea2d0 l h0 h2 li q1 0 1 [.ref q2] _ rfl xc_X0 H.size) (cwV 1 hts (gd_V q563 q564 q565 q40 q566) rfl rfl rfl hd_Jx4a65c_add_9ea2d ⟨Nat.le_of_ble_eq_true rfl, Nat.le_of_ble_eq_true rfl⟩) ⟨Xe.blind, va_recv (q0 := 1) hT.1 hP rfl rfl, fun U hU hW => ⟨rfl, Xe.warm hW hT hE hS hAb hU, by show U.heap.size = _; rw [hU], by rw [hU]; exact hPc, hDc.weaken (fun k q _ h => hAb _ h)⟩⟩ rfl rfl hl.1 rfl (lv_room (Nat.le_of_ble_eq_true rfl)) dX6_keep_49 ⟨Nat.le_of_ble_eq_true rfl, Nat.le_of_ble_eq_true rfl⟩) hS (fun q _ h => hFc q h) hFc (fun v9 u9 t9 H1 locs ht9 hvm9 hw9 hB9 hz9 hk9 hS => ?_)
  obtain ⟨q3, hP1, hD1⟩ := hB9
  rw [ht9] at hP1
  rw [hw9]
  obtain ⟨hP, hD⟩ := va_join (wr := [(ty, .inr (7, [.int ba, .int co, .int su, .int le, .int gr, .int la, .int op, .int os, .int fl, .ref li])), (q2, .inl (c0, 512, .inl (fun _ => 0)))]) (w1 := [(li, .inr (0, [.int (0 + 1), .ref q3, .int (0 + 1)])), (q3, .inl (c2, 10, .inr (.inr (.inr (.inr (va_up (fun _ => none) (0 : Int32).toNatClampNeg (some q1))))))), (q1, .inr (1, [.ref q2]))]) hP hD [1, 2] [0, 3] rfl rfl (by decide) (by decide) hk9 hFc hP1 hD1
  generalize H1 = H at hP hS ⊢
  have hP : va_P D vwCl [(ty, .inr (7, [.int ba, .int co, .int su, .int le, .int gr, .int la, .int op, .int os, .int fl, .ref li])), (q2, .inl (c0, 512, .inl (fun _ => 0))), (li, .inr (0, [.int (0 + 1), .ref q3, .int (0 + 1)])), (q3, .inl (c2, 10, .inr (.inr (.inr (.inr (va_up (fun _ => none) (0 : Int32).toNatClampNeg (some q1))))))), (q1, .inr (1, [.ref q2]))] H := hP
  have hD : va_D A [(ty, .inr (7, [.int ba, .int co, .int su, .int le, .int gr, .int la, .int op, .int os, .int fl, .ref li])), (q2, .inl (c0, 512, .inl (fun _ => 0))), (li, .inr (0, [.int (0 + 1), .ref q3, .int (0 + 1)])), (q3, .inl (c2, 10, .inr (.inr (.inr (.inr (va_up (fun _ => none) (0 : Int32).toNatClampNeg (some q1))))))), (q1, .inr (1, [.ref q2]))] := hD
  refine lv_pop hx hb dX6_keep_52 rfl ?_
  refine lv_aload_n hx hb dX6_keep_53 rfl (lv_at hl 0 rfl) ?_
  refine va_get hx hb hts i_X6 hown hT.1 hP 0 rfl rfl 9 (by decide) (hts _ q1040) (fun _ h9 => h9) rfl dX6_keep_54 ?_
  refine lv_aload_n hx hb dX6_keep_57 rfl (lv_at hl 0 rfl) ?_
  refine va_get hx hb hts i_X6 hown hT.1 hP 0 rfl rfl 9 (by decide) (hts _ q1040) (fun _ h9 => h9) rfl dX6_keep_58 ?_
  have hPc := hP.sub (ws' := [(li, .inr (0, [.int (0 + 1), .ref q3, .int (0 + 1)]))]) [2] rfl
  have hDc := hD.sub (ws' := [(li, .inr (0, [.int (0 + 1), .ref q3, .int (0 + 1)]))]) [2] (by decide) rfl
  have hFc := va_free (wc := [(li, .inr (0, [.int (0 + 1), .ref q3, .int (0 + 1)]))]) hD hS hA [2] rfl
  refine va_calli (va_runV (As := []) (rest := [.ref li]) ⟨hx, hb, hml, hown, hts⟩ (x_Jx4a65c_size_8abf5 l h0 h2 li q3 ((0 + 1)) ((0 + 1)) H.size) (cwV 0 hts (gd_V q551 q326 q327 q40 q328) rfl rfl rfl hd_Jx4a65c_size_8abf5 ⟨Nat.le_of_ble_eq_true rfl, Nat.le_of_ble_eq_true rfl⟩) ⟨Xe.blind, va_recv (q0 := 2) hT.1 hP rfl rfl, fun U hU hW => ⟨rfl, Xe.warm hW hT hE hS hAb hU, by show U.heap.size = _; rw [hU], by rw [hU]; exact hPc, hDc.weaken (fun k q _ h => hAb _ h)⟩⟩ rfl rfl hl.1 rfl (lv_room (Nat.le_of_ble_eq_true rfl)) dX6_keep_61 ⟨Nat.le_of_ble_eq_true rfl, Nat.le_of_ble_eq_true rfl⟩) hS (fun q _ h => hFc q h) hFc (fun v9 u9 t9 H1 locs ht9 hvm9 hw9 hB9 hz9 hk9 hS => ?_)
  obtain ⟨hP1, hD1⟩ := hB9
  rw [ht9] at hP1
  rw [hw9]
  obtain ⟨hP, hD⟩ := va_join (wr := [(ty, .inr (7, [.int ba, .int co, .int su, .int le, .int gr, .int la, .int op, .int os, .int fl, .ref li])), (q2, .inl (c0, 512, .inl (fun _ => 0))), (q3, .inl (c2, 10, .inr (.inr (.inr (.inr (va_up (fun _ => none) (0 : Int32).toNatClampNeg (some q1))))))), (q1, .inr (1, [.ref q2]))]) (w1 := [(li, .inr (0, [.int (0 + 1), .ref q3, .int (0 + 1)]))]) hP hD [2] [0, 1, 3, 4] rfl rfl (by decide) (by decide) hk9 hFc hP1 hD1
  generalize H1 = H at hP hS ⊢
  have hP : va_P D vwCl [(ty, .inr (7, [.int ba, .int co, .int su, .int le, .int gr, .int la, .int op, .int os, .int fl, .ref li])), (q2, .inl (c0, 512, .inl (fun _ => 0))), (q3, .inl (c2, 10, .inr (.inr (.inr (.inr (va_up (fun _ => none) (0 : Int32).toNatClampNeg (some q1))))))), (q1, .inr (1, [.ref q2])), (li, .inr (0, [.int (0 + 1), .ref q3, .int (0 + 1)]))] H := hP
  have hD : va_D A [(ty, .inr (7, [.int ba, .int co, .int su, .int le, .int gr, .int la, .int op, .int os, .int fl, .ref li])), (q2, .inl (c0, 512, .inl (fun _ => 0))), (q3, .inl (c2, 10, .inr (.inr (.inr (.inr (va_up (fun _ => none) (0 : Int32).toNatClampNeg (some q1))))))), (q1, .inr (1, [.ref q2])), (li, .inr (0, [.int (0 + 1), .ref q3, .int (0 + 1)]))] := hD
  refine lv_iconst (v := 1) hx hb dX6_keep_64 (by decide) ?_
  refine lv_isub hx hb dX6_keep_65 ?_
  have hPc := hP.sub (ws' := [(li, .inr (0, [.int (0 + 1), .ref q3, .int (0 + 1)])), (q3, .inl (c2, 10, .inr (.inr (.inr (.inr (va_up (fun _ => none) (0 : Int32).toNatClampNeg (some q1)))))))]) [4, 2] rfl
  have hDc := hD.sub (ws' := [(li, .inr (0, [.int (0 + 1), .ref q3, .int (0 + 1)])), (q3, .inl (c2, 10, .inr (.inr (.inr (.inr (va_up (fun _ => none) (0 : Int32).toNatClampNeg (some q1)))))))]) [4, 2] (by decide) rfl
  have hFc := va_free (wc := [(li, .inr (0, [.int (0 + 1), .ref q3, .int (0 + 1)])), (q3, .inl (c2, 10, .inr (.inr (.inr (.inr (va_up (fun _ => none) (0 : Int32).toNatClampNeg (some q1)))))))]) hD hS hA [4, 2] rfl
  refine va_callq (va_runV (As := [.int ((0 + 1) - 1)]) (rest := []) ⟨hx, hb, hml, hown, hts⟩ (x_Jx4a65c_get_915e3 l h0 h2 li q3 q1 ((0 + 1)) ((0 + 1)) (((0 + 1) - 1)) (va_up (fun _ => none) (0 : Int32).toNatClampNeg (some q1)) (by decide) (by decide) (vp_in_nI (n := 0) (N := 10) (by decide) (by decide)) rfl H.size) (cwV 1 hts (gd_V q620 q330 q331 q40 q332) rfl rfl rfl hd_Jx4a65c_get_915e3 ⟨Nat.le_of_ble_eq_true rfl, Nat.le_of_ble_eq_true rfl⟩) ⟨Xe.blind, va_recv (q0 := 4) hT.1 hP rfl rfl, fun U hU hW => ⟨rfl, Xe.warm hW hT hE hS hAb hU, by show U.heap.size = _; rw [hU], by rw [hU]; exact hPc, hDc.weaken (fun k q _ h => hAb _ h)⟩⟩ rfl rfl hl.1 rfl (lv_room (Nat.le_of_ble_eq_true rfl)) dX6_keep_66 ⟨Nat.le_of_ble_eq_true rfl, Nat.le_of_ble_eq_true rfl⟩) hS (fun q _ h => hFc q h) hFc (fun v9 u9 t9 H1 locs ht9 hvm9 hw9 hB9 hz9 hk9 hS => ?_)
  obtain ⟨hP1, hD1⟩ := hB9
  rw [ht9] at hP1
  rw [hw9]
  obtain ⟨hP, hD⟩ := va_join (wr := [(ty, .inr (7, [.int ba, .int co, .int su, .int le, .int gr, .int la, .int op, .int os, .int fl, .ref li])), (q2, .inl (c0, 512, .inl (fun _ => 0))), (q1, .inr (1, [.ref q2]))]) (w1 := [(li, .inr (0, [.int (0 + 1), .ref q3, .int (0 + 1)])), (q3, .inl (c2, 10, .inr (.inr (.inr (.inr (va_up (fun _ => none) (0 : Int32).toNatClampNeg (some q1)))))))]) hP hD [4, 2] [0, 1, 3] rfl rfl (by decide) (by decide) hk9 hFc hP1 hD1
  generalize H1 = H at hP hS ⊢
  have hP : va_P D vwCl [(ty, .inr (7, [.int ba, .int co, .int su, .int le, .int gr, .int la, .int op, .int os, .int fl, .ref li])), (q2, .inl (c0, 512, .inl (fun _ => 0))), (q1, .inr (1, [.ref q2])), (li, .inr (0, [.int (0 + 1), .ref q3, .int (0 + 1)])), (q3, .inl (c2, 10, .inr (.inr (.inr (.inr (va_up (fun _ => none) (0 : Int32).toNatClampNeg (some q1)))))))] H := hP
  have hD : va_D A [(ty, .inr (7, [.int ba, .int co, .int su, .int le, .int gr, .int la, .int op, .int os, .int fl, .ref li])), (q2, .inl (c0, 512, .inl (fun _ => 0))), (q1, .inr (1, [.ref q2])), (li, .inr (0, [.int (0 + 1), .ref q3, .int (0 + 1)])), (q3, .inl (c2, 10, .inr (.inr (.inr (.inr (va_up (fun _ => none) (0 : Int32).toNatClampNeg (some q1)))))))] := hD
  refine W.eq (g2 := F0 m 69 ls [.ref q1]) (by rfl) ?_
  refine va_castS hx hb hown (hts _ q552) (hT.1.1 1 _ rfl).2 (va_recv (q0 := 2) hT.1 hP rfl rfl) dX6_keep_69 ?_
  refine va_get hx hb hts i_X0 hown hT.1 hP 2 rfl rfl 0 (by decide) (hts _ q559) (fun _ h9 => h9) rfl dX6_keep_72 ?_
  refine lv_aload_n hx hb dX6_keep_75 rfl (lv_at hl 0 rfl) ?_
  refine va_get hx hb hts i_X6 hown hT.1 hP 0 rfl rfl 8 (by decide) (hts _ q1038) (fun _ h9 => h9) rfl dX6_keep_76 ?_
  refine lv_sipush (v := 512) hx hb dX6_keep_79 (by decide) ?_
  refine lv_irem hx hb dX6_keep_82 (by decide) ?_
  refine lv_iload_n hx hb dX6_keep_83 rfl (lv_at hl 1 rfl) ?_
  have hPc := hP.sub (ws' := [(q2, .inl (c0, 512, .inl (fun _ => 0)))]) [1] rfl
  have hDc := hD.sub (ws' := [(q2, .inl (c0, 512, .inl (fun _ => 0)))]) [1] (by decide) rfl
  have hFc := va_free (wc := [(q2, .inl (c0, 512, .inl (fun _ => 0)))]) hD hS hA [1] rfl
  refine va_callv (va_runSN (As := [.ref q2, .int (fl - fl / 512 * 512), .int bs]) (rest := []) ⟨hx, hb, hml, hown, hts⟩ (x_X8_set l h0 h2 q2 ((fl - fl / 512 * 512)) bs (fun _ => 0) hset H.size) ⟨va_cnB 3 hts (gd_code q480) rfl rfl rfl (hT.2.1 _ nst_5) (hts _ q37) hd_X8_set.2 ⟨Nat.le_of_ble_eq_true rfl, Nat.le_of_ble_eq_true rfl⟩, hts _ q479, trivial⟩ ⟨Xe.blind, fun U hU hW => ⟨rfl, Xe.warm hW hT hE hS hAb hU, by show U.heap.size = _; rw [hU], by rw [hU]; exact hPc, hDc.weaken (fun k q _ h => hAb _ h)⟩⟩ rfl rfl hl.1 rfl (lv_room (Nat.le_of_ble_eq_true rfl)) dX6_keep_84 ⟨Nat.le_of_ble_eq_true rfl, Nat.le_of_ble_eq_true rfl⟩) hS (fun q _ h => hFc q h) hFc (fun u9 t9 H1 locs ht9 hvm9 hw9 hB9 hz9 hk9 hS => ?_)
  obtain ⟨hP1, hD1⟩ := hB9
  rw [ht9] at hP1
  obtain ⟨hP, hD⟩ := va_join (wr := [(ty, .inr (7, [.int ba, .int co, .int su, .int le, .int gr, .int la, .int op, .int os, .int fl, .ref li])), (q1, .inr (1, [.ref q2])), (li, .inr (0, [.int (0 + 1), .ref q3, .int (0 + 1)])), (q3, .inl (c2, 10, .inr (.inr (.inr (.inr (va_up (fun _ => none) (0 : Int32).toNatClampNeg (some q1)))))))]) (w1 := [(q2, .inl (c0, 512, .inl (upd (fun _ => 0) ((fl - fl / 512 * 512)).toNatClampNeg bs)))]) hP hD [1] [0, 2, 3, 4] rfl rfl (by decide) (by decide) hk9 hFc hP1 hD1
  generalize H1 = H at hP hS ⊢
  have hP : va_P D vwCl [(ty, .inr (7, [.int ba, .int co, .int su, .int le, .int gr, .int la, .int op, .int os, .int fl, .ref li])), (q1, .inr (1, [.ref q2])), (li, .inr (0, [.int (0 + 1), .ref q3, .int (0 + 1)])), (q3, .inl (c2, 10, .inr (.inr (.inr (.inr (va_up (fun _ => none) (0 : Int32).toNatClampNeg (some q1))))))), (q2, .inl (c0, 512, .inl (upd (fun _ => 0) ((fl - fl / 512 * 512)).toNatClampNeg bs)))] H := hP
  have hD : va_D A [(ty, .inr (7, [.int ba, .int co, .int su, .int le, .int gr, .int la, .int op, .int os, .int fl, .ref li])), (q1, .inr (1, [.ref q2])), (li, .inr (0, [.int (0 + 1), .ref q3, .int (0 + 1)])), (q3, .inl (c2, 10, .inr (.inr (.inr (.inr (va_up (fun _ => none) (0 : Int32).toNatClampNeg (some q1))))))), (q2, .inl (c0, 512, .inl (upd (fun _ => 0) ((fl - fl / 512 * 512)).toNatClampNeg bs)))] := hD
  refine lv_aload_n hx hb dX6_keep_87 rfl (lv_at hl 0 rfl) ?_
  refine lv_dup hx hb dX6_keep_88 rfl ?_
  refine va_get hx hb hts i_X6 hown hT.1 hP 0 rfl rfl 8 (by decide) (hts _ q1038) (fun _ h9 => h9) rfl dX6_keep_89 ?_
  refine lv_iconst (v := 1) hx hb dX6_keep_92 (by decide) ?_
  refine lv_iadd hx hb dX6_keep_93 ?_
  refine va_put (D := D) (ci := 7) (v := .int (fl + 1)) (ty := .int) hx hb hts i_X6 tyX6 tyX6_ok nmX6 hown hT.1 hP hD hS 0 rfl rfl 8 (by decide) (hts _ q1038) (fun _ h9 => h9) rfl (by decide +kernel) rfl rfl (Nat.le_of_ble_eq_true rfl) dX6_keep_94 (fun H locs hP hD hS => ?_)
  have hP : va_P D vwCl [(ty, .inr (7, [.int ba, .int co, .int su, .int le, .int gr, .int la, .int op, .int os, .int (fl + 1), .ref li])), (q1, .inr (1, [.ref q2])), (li, .inr (0, [.int (0 + 1), .ref q3, .int (0 + 1)])), (q3, .inl (c2, 10, .inr (.inr (.inr (.inr (va_up (fun _ => none) (0 : Int32).toNatClampNeg (some q1))))))), (q2, .inl (c0, 512, .inl (upd (fun _ => 0) ((fl - fl / 512 * 512)).toNatClampNeg bs)))] H := hP
  have hD : va_D A [(ty, .inr (7, [.int ba, .int co, .int su, .int le, .int gr, .int la, .int op, .int os, .int (fl + 1), .ref li])), (q1, .inr (1, [.ref q2])), (li, .inr (0, [.int (0 + 1), .ref q3, .int (0 + 1)])), (q3, .inl (c2, 10, .inr (.inr (.inr (.inr (va_up (fun _ => none) (0 : Int32).toNatClampNeg (some q1))))))), (q2, .inl (c0, 512, .inl (upd (fun _ => 0) ((fl - fl / 512 * 512)).toNatClampNeg bs)))] := hD
  have hP9 := hP.sub (ws' := [(ty, .inr (7, [.int ba, .int co, .int su, .int le, .int gr, .int la, .int op, .int os, .int (fl + 1), .ref li])), (q1, .inr (1, [.ref q2])), (li, .inr (0, [.int (0 + 1), .ref q3, .int (0 + 1)])), (q3, .inl (c2, 10, .inr (.inr (.inr (.inr (va_up (fun _ => none) (0 : Int32).toNatClampNeg (some q1))))))), (q2, .inl (c0, 512, .inl (upd (fun _ => 0) ((fl - fl / 512 * 512)).toNatClampNeg bs)))]) [0, 1, 2, 3, 4] rfl
  have hD9 := hD.sub (ws' := [(ty, .inr (7, [.int ba, .int co, .int su, .int le, .int gr, .int la, .int op, .int os, .int (fl + 1), .ref li])), (q1, .inr (1, [.ref q2])), (li, .inr (0, [.int (0 + 1), .ref q3, .int (0 + 1)])), (q3, .inl (c2, 10, .inr (.inr (.inr (.inr (va_up (fun _ => none) (0 : Int32).toNatClampNeg (some q1))))))), (q2, .inl (c0, 512, .inl (upd (fun _ => 0) ((fl - fl / 512 * 512)).toNatClampNeg bs)))]) [0, 1, 2, 3, 4] (by decide) rfl
  exact W.vret hx hb hr (fun t9 ht hW => ⟨⟨(), rfl, trivial, q1, q2, q3, by rw [ht]; exact hP9, hD9⟩, hS.F ht⟩) hS.2.2 dX6_keep_97
set_option maxHeartbeats 4000000 in
set_option maxRecDepth 100000 in
theorem x_X6_keep1 (l : Launch) {D : va_G} {tys : List (ClassId × FieldType)} {z b : Nat} {k0 k2 : Nat} {c0 c2 : ClassId} (h0 : tys[k0]? = some (c0, .int)) (h2 : tys[k2]? = some (c2, .object "java/lang/Object")) (ty li : Nat) (ba co su le gr la op os fl bs : Int32) (e n : Nat) (f : Nat → Option Nat) (hn0 : ¬ nI n = 0) (hn : n < 10) (h5 : ¬ fl < nI n * 512) (hfl : fl < 8192000) (hset : ¬ fl - fl / 512 * 512 < 0 ∧ ¬ (512 : Int32) ≤ fl - fl / 512 * 512 ∧ vp_in (fl - fl / 512 * 512) 512) (sz : Nat) : Met l yX6_keep (ws_ yX6_keep cX6_keep 2 none) (rm_ 5 111 3 523) (Xe D tys z b c2 [.ref ty, .int bs] (fun H9 => H9.size = sz) [(ty, .inr (7, [.int ba, .int co, .int su, .int le, .int gr, .int la, .int op, .int os, .int fl, .ref li])), (li, .inr (0, [.int (nI n), .ref e, .int (nI n)])), (e, .inl (c2, 10, .inr (.inr (.inr (.inr f)))))]) (va_Qv (fun _ : Unit => True) (fun _ t => ∃ (q1 q2 : Nat), va_P D vwCl [(ty, .inr (7, [.int ba, .int co, .int su, .int le, .int gr, .int la, .int op, .int os, .int (fl + 1), .ref li])), (q1, .inr (1, [.ref q2])), (li, .inr (0, [.int (((nI n)) + 1), .ref e, .int (nI n + 1)])), (e, .inl (c2, 10, .inr (.inr (.inr (.inr (va_up f (nI n).toNatClampNeg (some q1))))))), (q2, .inl (c0, 512, .inl (upd (fun _ => 0) ((fl - fl / 512 * 512)).toNatClampNeg bs)))] t.heap ∧ va_D (va_A [(ty, .inr (7, [.int ba, .int co, .int su, .int le, .int gr, .int la, .int op, .int os, .int fl, .ref li])), (li, .inr (0, [.int (nI n), .ref e, .int (nI n)])), (e, .inl (c2, 10, .inr (.inr (.inr (.inr f)))))] sz) [(ty, .inr (7, [.int ba, .int co, .int su, .int le, .int gr, .int la, .int op, .int os, .int (fl + 1), .ref li])), (q1, .inr (1, [.ref q2])), (li, .inr (0, [.int (((nI n)) + 1), .ref e, .int (nI n + 1)])), (e, .inl (c2, 10, .inr (.inr (.inr (.inr (va_up f (nI n).toNatClampNeg (some q1))))))), (q2, .inl (c0, 512, .inl (upd (fun _ => 0) ((fl - fl / 512 * 512)).toNatClampNeg bs)))]) (va_A [(ty, .inr (7, [.int ba, .int co, .int su, .int le, .int gr, .int la, .int op, .int os, .int fl, .ref li])), (li, .inr (0, [.int (nI n), .ref e, .int (nI n)])), (e, .inl (c2, 10, .inr (.inr (.inr (.inr f)))))] sz)) 3 523 (va_A [(ty, .inr (7, [.int ba, .int co, .int su, .int le, .int gr, .int la, .int op, .int os, .int fl, .ref li])), (li, .inr (0, [.int (nI n), .ref e, .int (nI n)])), (e, .inl (c2, 10, .inr (.inr (.inr (.inr f)))))] sz) := by
  refine Met.ofW (cc := cX6_keep) (maxL := 2) (ret := none) (by decide) rfl ?_
  intro p e9 s m args below meth c s₁ B hml hv
  obtain ⟨rfl, ⟨hT, hE⟩, hsz, hP, hD0⟩ := hv
  have hx := B.exec
  have hb := B.bytes
  have hr := B.returns
  have hts : ∀ w ∈ lw_all, w.before _ s = true := fun w h => atoms_spec (ws := (ws_ yX6_keep cX6_keep 2 none)) B.pre w (List.mem_cons_of_mem _ h)
  have hown : s.vm.findClass RX6 = some m.cls := findClass_of_methodNamed B.named
  have hlocks := B.notSynchronized
  subst hsz
  have hD := hD0.self (sz := s.heap.size)
  have hAb : ∀ q, va_A [(ty, .inr (7, [.int ba, .int co, .int su, .int le, .int gr, .int la, .int op, .int os, .int fl, .ref li])), (li, .inr (0, [.int (nI n), .ref e, .int (nI n)])), (e, .inl (c2, 10, .inr (.inr (.inr (.inr f)))))] s.heap.size q → b ≤ q := fun q h => h.elim (fun ⟨k, e, h⟩ => hD0.2 k _ h) (fun h => Nat.le_trans hE.2.2.1 h)
  generalize hAe : va_A [(ty, .inr (7, [.int ba, .int co, .int su, .int le, .int gr, .int la, .int op, .int os, .int fl, .ref li])), (li, .inr (0, [.int (nI n), .ref e, .int (nI n)])), (e, .inl (c2, 10, .inr (.inr (.inr (.inr f)))))] s.heap.size = A at hD hAb ⊢
  have hA : ∀ q : Nat, s.heap.size ≤ q → A q := fun q h => by rw [← hAe]; exact Or.inr h
  have hS : va_S A s.heap s.heap [] := va_S.rf
  have hZ := hE.1.narrow hAb
  have hE0 := fun (H9 : Heap) (l9 : List Loc) (h9 : va_S A s.heap H9 l9) => Em.row hE h9 hAb
  obtain ⟨H, hHe⟩ : ∃ H : Heap, H = s.heap := ⟨_, rfl⟩
  have hP : va_P D vwCl [(ty, .inr (7, [.int ba, .int co, .int su, .int le, .int gr, .int la, .int op, .int os, .int fl, .ref li])), (li, .inr (0, [.int (nI n), .ref e, .int (nI n)])), (e, .inl (c2, 10, .inr (.inr (.inr (.inr f)))))] s.heap := hP
  have hl := lv_entry ([.ref ty, .int bs]) (n := 2) (Nat.le_of_ble_eq_true rfl)
  rw [lg_entry_eq]
  generalize (lg_sl ([.ref ty, .int bs]) ++ List.replicate (2 - (lg_sl ([.ref ty, .int bs])).length) Slot.unset).toArray = ls at hl ⊢
  have hl : lv_has ls 2 [(0, .ref ty), (1, .int bs)] := hl
  clear hHe H
  refine lv_aload_n hx hb dX6_keep_0 rfl (lv_at hl 0 rfl) ?_
  refine va_get hx hb hts i_X6 hown hT.1 hP 0 rfl rfl 8 (by decide) (hts _ q1038) (fun _ h9 => h9) rfl dX6_keep_1 ?_
  refine lv_ldc hx hb hown (v := 8192000) (hts _ q546) dX6_keep_4 ?_
  refine lv_icmp_lt (tgt := 10) hx hb dX6_keep_6 (by decide) (fun _ => ?_) (fun h9 => absurd hfl h9)
  refine lv_aload_n hx hb dX6_keep_10 rfl (lv_at hl 0 rfl) ?_
  refine va_get hx hb hts i_X6 hown hT.1 hP 0 rfl rfl 9 (by decide) (hts _ q1040) (fun _ h9 => h9) rfl dX6_keep_11 ?_
  have hPc := hP.sub (ws' := [(li, .inr (0, [.int (nI n), .ref e, .int (nI n)]))]) [1] rfl
  have hDc := hD.sub (ws' := [(li, .inr (0, [.int (nI n), .ref e, .int (nI n)]))]) [1] (by decide) rfl
  have hFc := va_free (wc := [(li, .inr (0, [.int (nI n), .ref e, .int (nI n)]))]) hD hS hA [1] rfl
  refine va_calli (va_runV (As := []) (rest := []) ⟨hx, hb, hml, hown, hts⟩ (x_Jx4a65c_isEmpty_aae021 l h0 h2 li e ((nI n)) ((nI n)) hn0 s.heap.size) (cwV 0 hts (gd_V q547 q548 q549 q40 q550) rfl rfl rfl hd_Jx4a65c_isEmpty_aae02 ⟨Nat.le_of_ble_eq_true rfl, Nat.le_of_ble_eq_true rfl⟩) ⟨Xe.blind, va_recv (q0 := 1) hT.1 hP rfl rfl, fun U hU hW => ⟨rfl, Xe.warm hW hT hE hS hAb hU, by show U.heap.size = _; rw [hU], by rw [hU]; exact hPc, hDc.weaken (fun k q _ h => hAb _ h)⟩⟩ rfl rfl hl.1 rfl (lv_room (Nat.le_of_ble_eq_true rfl)) dX6_keep_14 ⟨Nat.le_of_ble_eq_true rfl, Nat.le_of_ble_eq_true rfl⟩) hS (fun q _ h => hFc q h) hFc (fun v9 u9 t9 H1 locs ht9 hvm9 hw9 hB9 hz9 hk9 hS => ?_)
  obtain ⟨hP1, hD1⟩ := hB9
  rw [ht9] at hP1
  rw [hw9]
  obtain ⟨hP, hD⟩ := va_join (wr := [(ty, .inr (7, [.int ba, .int co, .int su, .int le, .int gr, .int la, .int op, .int os, .int fl, .ref li])), (e, .inl (c2, 10, .inr (.inr (.inr (.inr f)))))]) (w1 := [(li, .inr (0, [.int (nI n), .ref e, .int (nI n)]))]) hP hD [1] [0, 2] rfl rfl (by decide) (by decide) hk9 hFc hP1 hD1
  generalize H1 = H at hP hS ⊢
  have hP : va_P D vwCl [(ty, .inr (7, [.int ba, .int co, .int su, .int le, .int gr, .int la, .int op, .int os, .int fl, .ref li])), (e, .inl (c2, 10, .inr (.inr (.inr (.inr f))))), (li, .inr (0, [.int (nI n), .ref e, .int (nI n)]))] H := hP
  have hD : va_D A [(ty, .inr (7, [.int ba, .int co, .int su, .int le, .int gr, .int la, .int op, .int os, .int fl, .ref li])), (e, .inl (c2, 10, .inr (.inr (.inr (.inr f))))), (li, .inr (0, [.int (nI n), .ref e, .int (nI n)]))] := hD
  refine lv_if_ne (tgt := 38) hx hb dX6_keep_17 (by decide) (fun h9 => absurd rfl h9) (fun _ => ?_)
  refine lv_aload_n hx hb dX6_keep_20 rfl (lv_at hl 0 rfl) ?_
  refine va_get hx hb hts i_X6 hown hT.1 hP 0 rfl rfl 8 (by decide) (hts _ q1038) (fun _ h9 => h9) rfl dX6_keep_21 ?_
  refine lv_aload_n hx hb dX6_keep_24 rfl (lv_at hl 0 rfl) ?_
  refine va_get hx hb hts i_X6 hown hT.1 hP 0 rfl rfl 9 (by decide) (hts _ q1040) (fun _ h9 => h9) rfl dX6_keep_25 ?_
  have hPc := hP.sub (ws' := [(li, .inr (0, [.int (nI n), .ref e, .int (nI n)]))]) [2] rfl
  have hDc := hD.sub (ws' := [(li, .inr (0, [.int (nI n), .ref e, .int (nI n)]))]) [2] (by decide) rfl
  have hFc := va_free (wc := [(li, .inr (0, [.int (nI n), .ref e, .int (nI n)]))]) hD hS hA [2] rfl
  refine va_calli (va_runV (As := []) (rest := [.int fl]) ⟨hx, hb, hml, hown, hts⟩ (x_Jx4a65c_size_8abf5 l h0 h2 li e ((nI n)) ((nI n)) H.size) (cwV 0 hts (gd_V q551 q326 q327 q40 q328) rfl rfl rfl hd_Jx4a65c_size_8abf5 ⟨Nat.le_of_ble_eq_true rfl, Nat.le_of_ble_eq_true rfl⟩) ⟨Xe.blind, va_recv (q0 := 2) hT.1 hP rfl rfl, fun U hU hW => ⟨rfl, Xe.warm hW hT hE hS hAb hU, by show U.heap.size = _; rw [hU], by rw [hU]; exact hPc, hDc.weaken (fun k q _ h => hAb _ h)⟩⟩ rfl rfl hl.1 rfl (lv_room (Nat.le_of_ble_eq_true rfl)) dX6_keep_28 ⟨Nat.le_of_ble_eq_true rfl, Nat.le_of_ble_eq_true rfl⟩) hS (fun q _ h => hFc q h) hFc (fun v9 u9 t9 H1 locs ht9 hvm9 hw9 hB9 hz9 hk9 hS => ?_)
  obtain ⟨hP1, hD1⟩ := hB9
  rw [ht9] at hP1
  rw [hw9]
  obtain ⟨hP, hD⟩ := va_join (wr := [(ty, .inr (7, [.int ba, .int co, .int su, .int le, .int gr, .int la, .int op, .int os, .int fl, .ref li])), (e, .inl (c2, 10, .inr (.inr (.inr (.inr f)))))]) (w1 := [(li, .inr (0, [.int (nI n), .ref e, .int (nI n)]))]) hP hD [2] [0, 1] rfl rfl (by decide) (by decide) hk9 hFc hP1 hD1
  generalize H1 = H at hP hS ⊢
  have hP : va_P D vwCl [(ty, .inr (7, [.int ba, .int co, .int su, .int le, .int gr, .int la, .int op, .int os, .int fl, .ref li])), (e, .inl (c2, 10, .inr (.inr (.inr (.inr f))))), (li, .inr (0, [.int (nI n), .ref e, .int (nI n)]))] H := hP
  have hD : va_D A [(ty, .inr (7, [.int ba, .int co, .int su, .int le, .int gr, .int la, .int op, .int os, .int fl, .ref li])), (e, .inl (c2, 10, .inr (.inr (.inr (.inr f))))), (li, .inr (0, [.int (nI n), .ref e, .int (nI n)]))] := hD
  refine lv_sipush (v := 512) hx hb dX6_keep_31 (by decide) ?_
  refine lv_imul hx hb dX6_keep_34 ?_
  refine lv_icmp_lt (tgt := 53) hx hb dX6_keep_35 (by decide) (fun h9 => absurd h9 h5) (fun _ => ?_)
  refine lv_aload_n hx hb dX6_keep_38 rfl (lv_at hl 0 rfl) ?_
  refine va_get hx hb hts i_X6 hown hT.1 hP 0 rfl rfl 9 (by decide) (hts _ q1040) (fun _ h9 => h9) rfl dX6_keep_39 ?_
  refine va_new (ci := 1) (fs := [.null]) (C := RX0) (T := TX0) (N := 1) hx hb hts i_X0 tyX0 tyX0_ok hown (hts _ q552) (hts _ q553) (hts _ q61) hT.1 hP hD hS hA rfl (fun j hj => by rcases (show j = 0 by omega) with rfl <;> rfl) (Nat.le_of_ble_eq_true rfl) (Nat.le_of_ble_eq_true rfl) dX6_keep_42 (fun q1 H hP hD hS => ?_)
  have hP : va_P D vwCl [(ty, .inr (7, [.int ba, .int co, .int su, .int le, .int gr, .int la, .int op, .int os, .int fl, .ref li])), (e, .inl (c2, 10, .inr (.inr (.inr (.inr f))))), (li, .inr (0, [.int (nI n), .ref e, .int (nI n)])), (q1, .inr (1, [.null]))] H := hP
  have hD : va_D A [(ty, .inr (7, [.int ba, .int co, .int su, .int le, .int gr, .int la, .int op, .int os, .int fl, .ref li])), (e, .inl (c2, 10, .inr (.inr (.inr (.inr f))))), (li, .inr (0, [.int (nI n), .ref e, .int (nI n)])), (q1, .inr (1, [.null]))] := hD
  refine lv_dup hx hb dX6_keep_45 rfl ?_
  have hPc := hP.sub (ws' := [(q1, .inr (1, [.null]))]) [3] rfl
  have hDc := hD.sub (ws' := [(q1, .inr (1, [.null]))]) [3] (by decide) rfl
  have hFc := va_free (wc := [(q1, .inr (1, [.null]))]) hD hS hA [3] rfl
  refine va_callv (va_runIN (As := []) (rest := [.ref q1, .ref li]) ⟨hx, hb, hml, hown, hts⟩ (x_X0_init l h0 h2 q1 H.size) ⟨va_cnB 0 hts (gd_code q556) rfl rfl rfl (hT.2.1 _ nst_8) (hts _ q61) hd_X0_init.2 ⟨Nat.le_of_ble_eq_true rfl, Nat.le_of_ble_eq_true rfl⟩, rfl, hts _ q555⟩ ⟨Xe.blind, fun U hU hW => ⟨rfl, Xe.warm hW hT hE hS hAb hU, by show U.heap.size = _; rw [hU], by rw [hU]; exact hPc, hDc.weaken (fun k q _ h => hAb _ h)⟩⟩ rfl rfl hl.1 rfl (lv_room (Nat.le_of_ble_eq_true rfl)) dX6_keep_46 ⟨Nat.le_of_ble_eq_true rfl, Nat.le_of_ble_eq_true rfl⟩) hS (fun q _ h => hFc q h) hFc (fun u9 t9 H1 locs ht9 hvm9 hw9 hB9 hz9 hk9 hS => ?_)
  obtain ⟨q2, hP1, hD1⟩ := hB9
  rw [ht9] at hP1
  obtain ⟨hP, hD⟩ := va_join (wr := [(ty, .inr (7, [.int ba, .int co, .int su, .int le, .int gr, .int la, .int op, .int os, .int fl, .ref li])), (e, .inl (c2, 10, .inr (.inr (.inr (.inr f))))), (li, .inr (0, [.int (nI n), .ref e, .int (nI n)]))]) (w1 := [(q1, .inr (1, [.ref q2])), (q2, .inl (c0, 512, .inl (fun _ => 0)))]) hP hD [3] [0, 1, 2] rfl rfl (by decide) (by decide) hk9 hFc hP1 hD1
  generalize H1 = H at hP hS ⊢
  have hP : va_P D vwCl [(ty, .inr (7, [.int ba, .int co, .int su, .int le, .int gr, .int la, .int op, .int os, .int fl, .ref li])), (e, .inl (c2, 10, .inr (.inr (.inr (.inr f))))), (li, .inr (0, [.int (nI n), .ref e, .int (nI n)])), (q1, .inr (1, [.ref q2])), (q2, .inl (c0, 512, .inl (fun _ => 0)))] H := hP
  have hD : va_D A [(ty, .inr (7, [.int ba, .int co, .int su, .int le, .int gr, .int la, .int op, .int os, .int fl, .ref li])), (e, .inl (c2, 10, .inr (.inr (.inr (.inr f))))), (li, .inr (0, [.int (nI n), .ref e, .int (nI n)])), (q1, .inr (1, [.ref q2])), (q2, .inl (c0, 512, .inl (fun _ => 0)))] := hD
  have hPc := hP.sub (ws' := [(li, .inr (0, [.int (nI n), .ref e, .int (nI n)])), (e, .inl (c2, 10, .inr (.inr (.inr (.inr f))))), (q1, .inr (1, [.ref q2]))]) [2, 1, 3] rfl
  have hDc := hD.sub (ws' := [(li, .inr (0, [.int (nI n), .ref e, .int (nI n)])), (e, .inl (c2, 10, .inr (.inr (.inr (.inr f))))), (q1, .inr (1, [.ref q2]))]) [2, 1, 3] (by decide) rfl
  have hFc := va_free (wc := [(li, .inr (0, [.int (nI n), .ref e, .int (nI n)])), (e, .inl (c2, 10, .inr (.inr (.inr (.inr f))))), (q1, .inr (1, [.ref q2]))]) hD hS hA [2, 1, 3] rfl
  refine va_calli (va_runV (As := [.ref q1]) (rest := []) ⟨hx, hb, hml, hown, hts⟩ (x_Jx4a65c_add_9ea2d1 l h0 h2 li e q1 n ((nI n)) f 1 [.ref q2] _ rfl xc_X0 hn H.size) (cwV 1 hts (gd_V q563 q564 q565 q40 q566) rfl rfl rfl hd_Jx4a65c_add_9ea2d ⟨Nat.le_of_ble_eq_true rfl, Nat.le_of_ble_eq_true rfl⟩) ⟨Xe.blind, va_recv (q0 := 2) hT.1 hP rfl rfl, fun U hU hW => ⟨rfl, Xe.warm hW hT hE hS hAb hU, by show U.heap.size = _; rw [hU], by rw [hU]; exact hPc, hDc.weaken (fun k q _ h => hAb _ h)⟩⟩ rfl rfl hl.1 rfl (lv_room (Nat.le_of_ble_eq_true rfl)) dX6_keep_49 ⟨Nat.le_of_ble_eq_true rfl, Nat.le_of_ble_eq_true rfl⟩) hS (fun q _ h => hFc q h) hFc (fun v9 u9 t9 H1 locs ht9 hvm9 hw9 hB9 hz9 hk9 hS => ?_)
  obtain ⟨hP1, hD1⟩ := hB9
  rw [ht9] at hP1
  rw [hw9]
  obtain ⟨hP, hD⟩ := va_join (wr := [(ty, .inr (7, [.int ba, .int co, .int su, .int le, .int gr, .int la, .int op, .int os, .int fl, .ref li])), (q2, .inl (c0, 512, .inl (fun _ => 0)))]) (w1 := [(li, .inr (0, [.int (((nI n)) + 1), .ref e, .int (nI n + 1)])), (e, .inl (c2, 10, .inr (.inr (.inr (.inr (va_up f (nI n).toNatClampNeg (some q1))))))), (q1, .inr (1, [.ref q2]))]) hP hD [2, 1, 3] [0, 4] rfl rfl (by decide) (by decide) hk9 hFc hP1 hD1
  generalize H1 = H at hP hS ⊢
  have hP : va_P D vwCl [(ty, .inr (7, [.int ba, .int co, .int su, .int le, .int gr, .int la, .int op, .int os, .int fl, .ref li])), (q2, .inl (c0, 512, .inl (fun _ => 0))), (li, .inr (0, [.int (((nI n)) + 1), .ref e, .int (nI n + 1)])), (e, .inl (c2, 10, .inr (.inr (.inr (.inr (va_up f (nI n).toNatClampNeg (some q1))))))), (q1, .inr (1, [.ref q2]))] H := hP
  have hD : va_D A [(ty, .inr (7, [.int ba, .int co, .int su, .int le, .int gr, .int la, .int op, .int os, .int fl, .ref li])), (q2, .inl (c0, 512, .inl (fun _ => 0))), (li, .inr (0, [.int (((nI n)) + 1), .ref e, .int (nI n + 1)])), (e, .inl (c2, 10, .inr (.inr (.inr (.inr (va_up f (nI n).toNatClampNeg (some q1))))))), (q1, .inr (1, [.ref q2]))] := hD
  refine lv_pop hx hb dX6_keep_52 rfl ?_
  refine lv_aload_n hx hb dX6_keep_53 rfl (lv_at hl 0 rfl) ?_
  refine va_get hx hb hts i_X6 hown hT.1 hP 0 rfl rfl 9 (by decide) (hts _ q1040) (fun _ h9 => h9) rfl dX6_keep_54 ?_
  refine lv_aload_n hx hb dX6_keep_57 rfl (lv_at hl 0 rfl) ?_
  refine va_get hx hb hts i_X6 hown hT.1 hP 0 rfl rfl 9 (by decide) (hts _ q1040) (fun _ h9 => h9) rfl dX6_keep_58 ?_
  have hPc := hP.sub (ws' := [(li, .inr (0, [.int (((nI n)) + 1), .ref e, .int (nI n + 1)]))]) [2] rfl
  have hDc := hD.sub (ws' := [(li, .inr (0, [.int (((nI n)) + 1), .ref e, .int (nI n + 1)]))]) [2] (by decide) rfl
  have hFc := va_free (wc := [(li, .inr (0, [.int (((nI n)) + 1), .ref e, .int (nI n + 1)]))]) hD hS hA [2] rfl
  refine va_calli (va_runV (As := []) (rest := [.ref li]) ⟨hx, hb, hml, hown, hts⟩ (x_Jx4a65c_size_8abf5 l h0 h2 li e ((nI n + 1)) ((((nI n)) + 1)) H.size) (cwV 0 hts (gd_V q551 q326 q327 q40 q328) rfl rfl rfl hd_Jx4a65c_size_8abf5 ⟨Nat.le_of_ble_eq_true rfl, Nat.le_of_ble_eq_true rfl⟩) ⟨Xe.blind, va_recv (q0 := 2) hT.1 hP rfl rfl, fun U hU hW => ⟨rfl, Xe.warm hW hT hE hS hAb hU, by show U.heap.size = _; rw [hU], by rw [hU]; exact hPc, hDc.weaken (fun k q _ h => hAb _ h)⟩⟩ rfl rfl hl.1 rfl (lv_room (Nat.le_of_ble_eq_true rfl)) dX6_keep_61 ⟨Nat.le_of_ble_eq_true rfl, Nat.le_of_ble_eq_true rfl⟩) hS (fun q _ h => hFc q h) hFc (fun v9 u9 t9 H1 locs ht9 hvm9 hw9 hB9 hz9 hk9 hS => ?_)
  obtain ⟨hP1, hD1⟩ := hB9
  rw [ht9] at hP1
  rw [hw9]
  obtain ⟨hP, hD⟩ := va_join (wr := [(ty, .inr (7, [.int ba, .int co, .int su, .int le, .int gr, .int la, .int op, .int os, .int fl, .ref li])), (q2, .inl (c0, 512, .inl (fun _ => 0))), (e, .inl (c2, 10, .inr (.inr (.inr (.inr (va_up f (nI n).toNatClampNeg (some q1))))))), (q1, .inr (1, [.ref q2]))]) (w1 := [(li, .inr (0, [.int (((nI n)) + 1), .ref e, .int (nI n + 1)]))]) hP hD [2] [0, 1, 3, 4] rfl rfl (by decide) (by decide) hk9 hFc hP1 hD1
  generalize H1 = H at hP hS ⊢
  have hP : va_P D vwCl [(ty, .inr (7, [.int ba, .int co, .int su, .int le, .int gr, .int la, .int op, .int os, .int fl, .ref li])), (q2, .inl (c0, 512, .inl (fun _ => 0))), (e, .inl (c2, 10, .inr (.inr (.inr (.inr (va_up f (nI n).toNatClampNeg (some q1))))))), (q1, .inr (1, [.ref q2])), (li, .inr (0, [.int (((nI n)) + 1), .ref e, .int (nI n + 1)]))] H := hP
  have hD : va_D A [(ty, .inr (7, [.int ba, .int co, .int su, .int le, .int gr, .int la, .int op, .int os, .int fl, .ref li])), (q2, .inl (c0, 512, .inl (fun _ => 0))), (e, .inl (c2, 10, .inr (.inr (.inr (.inr (va_up f (nI n).toNatClampNeg (some q1))))))), (q1, .inr (1, [.ref q2])), (li, .inr (0, [.int (((nI n)) + 1), .ref e, .int (nI n + 1)]))] := hD
  refine lv_iconst (v := 1) hx hb dX6_keep_64 (by decide) ?_
  refine lv_isub hx hb dX6_keep_65 ?_
  have hPc := hP.sub (ws' := [(li, .inr (0, [.int (((nI n)) + 1), .ref e, .int (nI n + 1)])), (e, .inl (c2, 10, .inr (.inr (.inr (.inr (va_up f (nI n).toNatClampNeg (some q1)))))))]) [4, 2] rfl
  have hDc := hD.sub (ws' := [(li, .inr (0, [.int (((nI n)) + 1), .ref e, .int (nI n + 1)])), (e, .inl (c2, 10, .inr (.inr (.inr (.inr (va_up f (nI n).toNatClampNeg (some q1)))))))]) [4, 2] (by decide) rfl
  have hFc := va_free (wc := [(li, .inr (0, [.int (((nI n)) + 1), .ref e, .int (nI n + 1)])), (e, .inl (c2, 10, .inr (.inr (.inr (.inr (va_up f (nI n).toNatClampNeg (some q1)))))))]) hD hS hA [4, 2] rfl
  refine va_callq (va_runV (As := [.int ((nI n + 1) - 1)]) (rest := []) ⟨hx, hb, hml, hown, hts⟩ (x_Jx4a65c_get_915e3 l h0 h2 li e q1 ((nI n + 1)) ((((nI n)) + 1)) (((nI n + 1) - 1)) (va_up f (nI n).toNatClampNeg (some q1)) (by rw [nI_1, nI_pred]; exact nI_pos (by omega)) (by rw [nI_1, nI_pred]; exact nI_lt (by omega) (by omega)) (by rw [nI_1, nI_pred]; exact vp_in_nI hn (by decide)) up_at H.size) (cwV 1 hts (gd_V q620 q330 q331 q40 q332) rfl rfl rfl hd_Jx4a65c_get_915e3 ⟨Nat.le_of_ble_eq_true rfl, Nat.le_of_ble_eq_true rfl⟩) ⟨Xe.blind, va_recv (q0 := 4) hT.1 hP rfl rfl, fun U hU hW => ⟨rfl, Xe.warm hW hT hE hS hAb hU, by show U.heap.size = _; rw [hU], by rw [hU]; exact hPc, hDc.weaken (fun k q _ h => hAb _ h)⟩⟩ rfl rfl hl.1 rfl (lv_room (Nat.le_of_ble_eq_true rfl)) dX6_keep_66 ⟨Nat.le_of_ble_eq_true rfl, Nat.le_of_ble_eq_true rfl⟩) hS (fun q _ h => hFc q h) hFc (fun v9 u9 t9 H1 locs ht9 hvm9 hw9 hB9 hz9 hk9 hS => ?_)
  obtain ⟨hP1, hD1⟩ := hB9
  rw [ht9] at hP1
  rw [hw9]
  obtain ⟨hP, hD⟩ := va_join (wr := [(ty, .inr (7, [.int ba, .int co, .int su, .int le, .int gr, .int la, .int op, .int os, .int fl, .ref li])), (q2, .inl (c0, 512, .inl (fun _ => 0))), (q1, .inr (1, [.ref q2]))]) (w1 := [(li, .inr (0, [.int (((nI n)) + 1), .ref e, .int (nI n + 1)])), (e, .inl (c2, 10, .inr (.inr (.inr (.inr (va_up f (nI n).toNatClampNeg (some q1)))))))]) hP hD [4, 2] [0, 1, 3] rfl rfl (by decide) (by decide) hk9 hFc hP1 hD1
  generalize H1 = H at hP hS ⊢
  have hP : va_P D vwCl [(ty, .inr (7, [.int ba, .int co, .int su, .int le, .int gr, .int la, .int op, .int os, .int fl, .ref li])), (q2, .inl (c0, 512, .inl (fun _ => 0))), (q1, .inr (1, [.ref q2])), (li, .inr (0, [.int (((nI n)) + 1), .ref e, .int (nI n + 1)])), (e, .inl (c2, 10, .inr (.inr (.inr (.inr (va_up f (nI n).toNatClampNeg (some q1)))))))] H := hP
  have hD : va_D A [(ty, .inr (7, [.int ba, .int co, .int su, .int le, .int gr, .int la, .int op, .int os, .int fl, .ref li])), (q2, .inl (c0, 512, .inl (fun _ => 0))), (q1, .inr (1, [.ref q2])), (li, .inr (0, [.int (((nI n)) + 1), .ref e, .int (nI n + 1)])), (e, .inl (c2, 10, .inr (.inr (.inr (.inr (va_up f (nI n).toNatClampNeg (some q1)))))))] := hD
  refine W.eq (g2 := F0 m 69 ls [.ref q1]) (by rfl) ?_
  refine va_castS hx hb hown (hts _ q552) (hT.1.1 1 _ rfl).2 (va_recv (q0 := 2) hT.1 hP rfl rfl) dX6_keep_69 ?_
  refine va_get hx hb hts i_X0 hown hT.1 hP 2 rfl rfl 0 (by decide) (hts _ q559) (fun _ h9 => h9) rfl dX6_keep_72 ?_
  refine lv_aload_n hx hb dX6_keep_75 rfl (lv_at hl 0 rfl) ?_
  refine va_get hx hb hts i_X6 hown hT.1 hP 0 rfl rfl 8 (by decide) (hts _ q1038) (fun _ h9 => h9) rfl dX6_keep_76 ?_
  refine lv_sipush (v := 512) hx hb dX6_keep_79 (by decide) ?_
  refine lv_irem hx hb dX6_keep_82 (by decide) ?_
  refine lv_iload_n hx hb dX6_keep_83 rfl (lv_at hl 1 rfl) ?_
  have hPc := hP.sub (ws' := [(q2, .inl (c0, 512, .inl (fun _ => 0)))]) [1] rfl
  have hDc := hD.sub (ws' := [(q2, .inl (c0, 512, .inl (fun _ => 0)))]) [1] (by decide) rfl
  have hFc := va_free (wc := [(q2, .inl (c0, 512, .inl (fun _ => 0)))]) hD hS hA [1] rfl
  refine va_callv (va_runSN (As := [.ref q2, .int (fl - fl / 512 * 512), .int bs]) (rest := []) ⟨hx, hb, hml, hown, hts⟩ (x_X8_set l h0 h2 q2 ((fl - fl / 512 * 512)) bs (fun _ => 0) hset H.size) ⟨va_cnB 3 hts (gd_code q480) rfl rfl rfl (hT.2.1 _ nst_5) (hts _ q37) hd_X8_set.2 ⟨Nat.le_of_ble_eq_true rfl, Nat.le_of_ble_eq_true rfl⟩, hts _ q479, trivial⟩ ⟨Xe.blind, fun U hU hW => ⟨rfl, Xe.warm hW hT hE hS hAb hU, by show U.heap.size = _; rw [hU], by rw [hU]; exact hPc, hDc.weaken (fun k q _ h => hAb _ h)⟩⟩ rfl rfl hl.1 rfl (lv_room (Nat.le_of_ble_eq_true rfl)) dX6_keep_84 ⟨Nat.le_of_ble_eq_true rfl, Nat.le_of_ble_eq_true rfl⟩) hS (fun q _ h => hFc q h) hFc (fun u9 t9 H1 locs ht9 hvm9 hw9 hB9 hz9 hk9 hS => ?_)
  obtain ⟨hP1, hD1⟩ := hB9
  rw [ht9] at hP1
  obtain ⟨hP, hD⟩ := va_join (wr := [(ty, .inr (7, [.int ba, .int co, .int su, .int le, .int gr, .int la, .int op, .int os, .int fl, .ref li])), (q1, .inr (1, [.ref q2])), (li, .inr (0, [.int (((nI n)) + 1), .ref e, .int (nI n + 1)])), (e, .inl (c2, 10, .inr (.inr (.inr (.inr (va_up f (nI n).toNatClampNeg (some q1)))))))]) (w1 := [(q2, .inl (c0, 512, .inl (upd (fun _ => 0) ((fl - fl / 512 * 512)).toNatClampNeg bs)))]) hP hD [1] [0, 2, 3, 4] rfl rfl (by decide) (by decide) hk9 hFc hP1 hD1
  generalize H1 = H at hP hS ⊢
  have hP : va_P D vwCl [(ty, .inr (7, [.int ba, .int co, .int su, .int le, .int gr, .int la, .int op, .int os, .int fl, .ref li])), (q1, .inr (1, [.ref q2])), (li, .inr (0, [.int (((nI n)) + 1), .ref e, .int (nI n + 1)])), (e, .inl (c2, 10, .inr (.inr (.inr (.inr (va_up f (nI n).toNatClampNeg (some q1))))))), (q2, .inl (c0, 512, .inl (upd (fun _ => 0) ((fl - fl / 512 * 512)).toNatClampNeg bs)))] H := hP
  have hD : va_D A [(ty, .inr (7, [.int ba, .int co, .int su, .int le, .int gr, .int la, .int op, .int os, .int fl, .ref li])), (q1, .inr (1, [.ref q2])), (li, .inr (0, [.int (((nI n)) + 1), .ref e, .int (nI n + 1)])), (e, .inl (c2, 10, .inr (.inr (.inr (.inr (va_up f (nI n).toNatClampNeg (some q1))))))), (q2, .inl (c0, 512, .inl (upd (fun _ => 0) ((fl - fl / 512 * 512)).toNatClampNeg bs)))] := hD
  refine lv_aload_n hx hb dX6_keep_87 rfl (lv_at hl 0 rfl) ?_
  refine lv_dup hx hb dX6_keep_88 rfl ?_
  refine va_get hx hb hts i_X6 hown hT.1 hP 0 rfl rfl 8 (by decide) (hts _ q1038) (fun _ h9 => h9) rfl dX6_keep_89 ?_
  refine lv_iconst (v := 1) hx hb dX6_keep_92 (by decide) ?_
  refine lv_iadd hx hb dX6_keep_93 ?_
  refine va_put (D := D) (ci := 7) (v := .int (fl + 1)) (ty := .int) hx hb hts i_X6 tyX6 tyX6_ok nmX6 hown hT.1 hP hD hS 0 rfl rfl 8 (by decide) (hts _ q1038) (fun _ h9 => h9) rfl (by decide +kernel) rfl rfl (Nat.le_of_ble_eq_true rfl) dX6_keep_94 (fun H locs hP hD hS => ?_)
  have hP : va_P D vwCl [(ty, .inr (7, [.int ba, .int co, .int su, .int le, .int gr, .int la, .int op, .int os, .int (fl + 1), .ref li])), (q1, .inr (1, [.ref q2])), (li, .inr (0, [.int (((nI n)) + 1), .ref e, .int (nI n + 1)])), (e, .inl (c2, 10, .inr (.inr (.inr (.inr (va_up f (nI n).toNatClampNeg (some q1))))))), (q2, .inl (c0, 512, .inl (upd (fun _ => 0) ((fl - fl / 512 * 512)).toNatClampNeg bs)))] H := hP
  have hD : va_D A [(ty, .inr (7, [.int ba, .int co, .int su, .int le, .int gr, .int la, .int op, .int os, .int (fl + 1), .ref li])), (q1, .inr (1, [.ref q2])), (li, .inr (0, [.int (((nI n)) + 1), .ref e, .int (nI n + 1)])), (e, .inl (c2, 10, .inr (.inr (.inr (.inr (va_up f (nI n).toNatClampNeg (some q1))))))), (q2, .inl (c0, 512, .inl (upd (fun _ => 0) ((fl - fl / 512 * 512)).toNatClampNeg bs)))] := hD
  have hP9 := hP.sub (ws' := [(ty, .inr (7, [.int ba, .int co, .int su, .int le, .int gr, .int la, .int op, .int os, .int (fl + 1), .ref li])), (q1, .inr (1, [.ref q2])), (li, .inr (0, [.int (((nI n)) + 1), .ref e, .int (nI n + 1)])), (e, .inl (c2, 10, .inr (.inr (.inr (.inr (va_up f (nI n).toNatClampNeg (some q1))))))), (q2, .inl (c0, 512, .inl (upd (fun _ => 0) ((fl - fl / 512 * 512)).toNatClampNeg bs)))]) [0, 1, 2, 3, 4] rfl
  have hD9 := hD.sub (ws' := [(ty, .inr (7, [.int ba, .int co, .int su, .int le, .int gr, .int la, .int op, .int os, .int (fl + 1), .ref li])), (q1, .inr (1, [.ref q2])), (li, .inr (0, [.int (((nI n)) + 1), .ref e, .int (nI n + 1)])), (e, .inl (c2, 10, .inr (.inr (.inr (.inr (va_up f (nI n).toNatClampNeg (some q1))))))), (q2, .inl (c0, 512, .inl (upd (fun _ => 0) ((fl - fl / 512 * 512)).toNatClampNeg bs)))]) [0, 1, 2, 3, 4] (by decide) rfl
  refine W.widen (k := 3) (n := 523) (Nat.le_of_ble_eq_true rfl) (Nat.le_of_ble_eq_true rfl) ?_
  exact W.vret hx hb hr (fun t9 ht hW => ⟨⟨(), rfl, trivial, q1, q2, by rw [ht]; exact hP9, hD9⟩, hS.F ht⟩) hS.2.2 dX6_keep_97
set_option maxHeartbeats 4000000 in
set_option maxRecDepth 100000 in
theorem x_X6_keep2 (l : Launch) {D : va_G} {tys : List (ClassId × FieldType)} {z b : Nat} {k0 k2 : Nat} {c0 c2 : ClassId} (h0 : tys[k0]? = some (c0, .int)) (h2 : tys[k2]? = some (c2, .object "java/lang/Object")) (ty li : Nat) (ba co su le gr la op os fl bs : Int32) (e n ch sm : Nat) (f : Nat → Option Nat) (w : Nat → Int32) (hn0 : ¬ nI n = 0) (hn : n ≤ 10) (h5 : fl < nI n * 512) (hc : f (nI n - 1).toNatClampNeg = some ch) (hfl : fl < 8192000) (hset : ¬ fl - fl / 512 * 512 < 0 ∧ ¬ (512 : Int32) ≤ fl - fl / 512 * 512 ∧ vp_in (fl - fl / 512 * 512) 512) (sz : Nat) : Met l yX6_keep (ws_ yX6_keep cX6_keep 2 none) (rm_ 5 111 3 523) (Xe D tys z b c2 [.ref ty, .int bs] (fun H9 => H9.size = sz) [(ty, .inr (7, [.int ba, .int co, .int su, .int le, .int gr, .int la, .int op, .int os, .int fl, .ref li])), (li, .inr (0, [.int (nI n), .ref e, .int (nI n)])), (e, .inl (c2, 10, .inr (.inr (.inr (.inr f))))), (ch, .inr (1, [.ref sm])), (sm, .inl (c0, 512, .inl w))]) (va_Qv (fun _ : Unit => True) (fun _ t => va_P D vwCl [(ty, .inr (7, [.int ba, .int co, .int su, .int le, .int gr, .int la, .int op, .int os, .int (fl + 1), .ref li])), (ch, .inr (1, [.ref sm])), (li, .inr (0, [.int (nI n), .ref e, .int (nI n)])), (e, .inl (c2, 10, .inr (.inr (.inr (.inr f))))), (sm, .inl (c0, 512, .inl (upd w ((fl - fl / 512 * 512)).toNatClampNeg bs)))] t.heap ∧ va_D (va_A [(ty, .inr (7, [.int ba, .int co, .int su, .int le, .int gr, .int la, .int op, .int os, .int fl, .ref li])), (li, .inr (0, [.int (nI n), .ref e, .int (nI n)])), (e, .inl (c2, 10, .inr (.inr (.inr (.inr f))))), (ch, .inr (1, [.ref sm])), (sm, .inl (c0, 512, .inl w))] sz) [(ty, .inr (7, [.int ba, .int co, .int su, .int le, .int gr, .int la, .int op, .int os, .int (fl + 1), .ref li])), (ch, .inr (1, [.ref sm])), (li, .inr (0, [.int (nI n), .ref e, .int (nI n)])), (e, .inl (c2, 10, .inr (.inr (.inr (.inr f))))), (sm, .inl (c0, 512, .inl (upd w ((fl - fl / 512 * 512)).toNatClampNeg bs)))]) (va_A [(ty, .inr (7, [.int ba, .int co, .int su, .int le, .int gr, .int la, .int op, .int os, .int fl, .ref li])), (li, .inr (0, [.int (nI n), .ref e, .int (nI n)])), (e, .inl (c2, 10, .inr (.inr (.inr (.inr f))))), (ch, .inr (1, [.ref sm])), (sm, .inl (c0, 512, .inl w))] sz)) 3 523 (va_A [(ty, .inr (7, [.int ba, .int co, .int su, .int le, .int gr, .int la, .int op, .int os, .int fl, .ref li])), (li, .inr (0, [.int (nI n), .ref e, .int (nI n)])), (e, .inl (c2, 10, .inr (.inr (.inr (.inr f))))), (ch, .inr (1, [.ref sm])), (sm, .inl (c0, 512, .inl w))] sz) := by
  refine Met.ofW (cc := cX6_keep) (maxL := 2) (ret := none) (by decide) rfl ?_
  intro p e9 s m args below meth c s₁ B hml hv
  obtain ⟨rfl, ⟨hT, hE⟩, hsz, hP, hD0⟩ := hv
  have hx := B.exec
  have hb := B.bytes
  have hr := B.returns
  have hts : ∀ w ∈ lw_all, w.before _ s = true := fun w h => atoms_spec (ws := (ws_ yX6_keep cX6_keep 2 none)) B.pre w (List.mem_cons_of_mem _ h)
  have hown : s.vm.findClass RX6 = some m.cls := findClass_of_methodNamed B.named
  have hlocks := B.notSynchronized
  subst hsz
  have hD := hD0.self (sz := s.heap.size)
  have hAb : ∀ q, va_A [(ty, .inr (7, [.int ba, .int co, .int su, .int le, .int gr, .int la, .int op, .int os, .int fl, .ref li])), (li, .inr (0, [.int (nI n), .ref e, .int (nI n)])), (e, .inl (c2, 10, .inr (.inr (.inr (.inr f))))), (ch, .inr (1, [.ref sm])), (sm, .inl (c0, 512, .inl w))] s.heap.size q → b ≤ q := fun q h => h.elim (fun ⟨k, e, h⟩ => hD0.2 k _ h) (fun h => Nat.le_trans hE.2.2.1 h)
  generalize hAe : va_A [(ty, .inr (7, [.int ba, .int co, .int su, .int le, .int gr, .int la, .int op, .int os, .int fl, .ref li])), (li, .inr (0, [.int (nI n), .ref e, .int (nI n)])), (e, .inl (c2, 10, .inr (.inr (.inr (.inr f))))), (ch, .inr (1, [.ref sm])), (sm, .inl (c0, 512, .inl w))] s.heap.size = A at hD hAb ⊢
  have hA : ∀ q : Nat, s.heap.size ≤ q → A q := fun q h => by rw [← hAe]; exact Or.inr h
  have hS : va_S A s.heap s.heap [] := va_S.rf
  have hZ := hE.1.narrow hAb
  have hE0 := fun (H9 : Heap) (l9 : List Loc) (h9 : va_S A s.heap H9 l9) => Em.row hE h9 hAb
  obtain ⟨H, hHe⟩ : ∃ H : Heap, H = s.heap := ⟨_, rfl⟩
  have hP : va_P D vwCl [(ty, .inr (7, [.int ba, .int co, .int su, .int le, .int gr, .int la, .int op, .int os, .int fl, .ref li])), (li, .inr (0, [.int (nI n), .ref e, .int (nI n)])), (e, .inl (c2, 10, .inr (.inr (.inr (.inr f))))), (ch, .inr (1, [.ref sm])), (sm, .inl (c0, 512, .inl w))] s.heap := hP
  have hl := lv_entry ([.ref ty, .int bs]) (n := 2) (Nat.le_of_ble_eq_true rfl)
  rw [lg_entry_eq]
  generalize (lg_sl ([.ref ty, .int bs]) ++ List.replicate (2 - (lg_sl ([.ref ty, .int bs])).length) Slot.unset).toArray = ls at hl ⊢
  have hl : lv_has ls 2 [(0, .ref ty), (1, .int bs)] := hl
  clear hHe H
  refine lv_aload_n hx hb dX6_keep_0 rfl (lv_at hl 0 rfl) ?_
  refine va_get hx hb hts i_X6 hown hT.1 hP 0 rfl rfl 8 (by decide) (hts _ q1038) (fun _ h9 => h9) rfl dX6_keep_1 ?_
  refine lv_ldc hx hb hown (v := 8192000) (hts _ q546) dX6_keep_4 ?_
  refine lv_icmp_lt (tgt := 10) hx hb dX6_keep_6 (by decide) (fun _ => ?_) (fun h9 => absurd hfl h9)
  refine lv_aload_n hx hb dX6_keep_10 rfl (lv_at hl 0 rfl) ?_
  refine va_get hx hb hts i_X6 hown hT.1 hP 0 rfl rfl 9 (by decide) (hts _ q1040) (fun _ h9 => h9) rfl dX6_keep_11 ?_
  have hPc := hP.sub (ws' := [(li, .inr (0, [.int (nI n), .ref e, .int (nI n)]))]) [1] rfl
  have hDc := hD.sub (ws' := [(li, .inr (0, [.int (nI n), .ref e, .int (nI n)]))]) [1] (by decide) rfl
  have hFc := va_free (wc := [(li, .inr (0, [.int (nI n), .ref e, .int (nI n)]))]) hD hS hA [1] rfl
  refine va_calli (va_runV (As := []) (rest := []) ⟨hx, hb, hml, hown, hts⟩ (x_Jx4a65c_isEmpty_aae021 l h0 h2 li e ((nI n)) ((nI n)) hn0 s.heap.size) (cwV 0 hts (gd_V q547 q548 q549 q40 q550) rfl rfl rfl hd_Jx4a65c_isEmpty_aae02 ⟨Nat.le_of_ble_eq_true rfl, Nat.le_of_ble_eq_true rfl⟩) ⟨Xe.blind, va_recv (q0 := 1) hT.1 hP rfl rfl, fun U hU hW => ⟨rfl, Xe.warm hW hT hE hS hAb hU, by show U.heap.size = _; rw [hU], by rw [hU]; exact hPc, hDc.weaken (fun k q _ h => hAb _ h)⟩⟩ rfl rfl hl.1 rfl (lv_room (Nat.le_of_ble_eq_true rfl)) dX6_keep_14 ⟨Nat.le_of_ble_eq_true rfl, Nat.le_of_ble_eq_true rfl⟩) hS (fun q _ h => hFc q h) hFc (fun v9 u9 t9 H1 locs ht9 hvm9 hw9 hB9 hz9 hk9 hS => ?_)
  obtain ⟨hP1, hD1⟩ := hB9
  rw [ht9] at hP1
  rw [hw9]
  obtain ⟨hP, hD⟩ := va_join (wr := [(ty, .inr (7, [.int ba, .int co, .int su, .int le, .int gr, .int la, .int op, .int os, .int fl, .ref li])), (e, .inl (c2, 10, .inr (.inr (.inr (.inr f))))), (ch, .inr (1, [.ref sm])), (sm, .inl (c0, 512, .inl w))]) (w1 := [(li, .inr (0, [.int (nI n), .ref e, .int (nI n)]))]) hP hD [1] [0, 2, 3, 4] rfl rfl (by decide) (by decide) hk9 hFc hP1 hD1
  generalize H1 = H at hP hS ⊢
  have hP : va_P D vwCl [(ty, .inr (7, [.int ba, .int co, .int su, .int le, .int gr, .int la, .int op, .int os, .int fl, .ref li])), (e, .inl (c2, 10, .inr (.inr (.inr (.inr f))))), (ch, .inr (1, [.ref sm])), (sm, .inl (c0, 512, .inl w)), (li, .inr (0, [.int (nI n), .ref e, .int (nI n)]))] H := hP
  have hD : va_D A [(ty, .inr (7, [.int ba, .int co, .int su, .int le, .int gr, .int la, .int op, .int os, .int fl, .ref li])), (e, .inl (c2, 10, .inr (.inr (.inr (.inr f))))), (ch, .inr (1, [.ref sm])), (sm, .inl (c0, 512, .inl w)), (li, .inr (0, [.int (nI n), .ref e, .int (nI n)]))] := hD
  refine lv_if_ne (tgt := 38) hx hb dX6_keep_17 (by decide) (fun h9 => absurd rfl h9) (fun _ => ?_)
  refine lv_aload_n hx hb dX6_keep_20 rfl (lv_at hl 0 rfl) ?_
  refine va_get hx hb hts i_X6 hown hT.1 hP 0 rfl rfl 8 (by decide) (hts _ q1038) (fun _ h9 => h9) rfl dX6_keep_21 ?_
  refine lv_aload_n hx hb dX6_keep_24 rfl (lv_at hl 0 rfl) ?_
  refine va_get hx hb hts i_X6 hown hT.1 hP 0 rfl rfl 9 (by decide) (hts _ q1040) (fun _ h9 => h9) rfl dX6_keep_25 ?_
  have hPc := hP.sub (ws' := [(li, .inr (0, [.int (nI n), .ref e, .int (nI n)]))]) [4] rfl
  have hDc := hD.sub (ws' := [(li, .inr (0, [.int (nI n), .ref e, .int (nI n)]))]) [4] (by decide) rfl
  have hFc := va_free (wc := [(li, .inr (0, [.int (nI n), .ref e, .int (nI n)]))]) hD hS hA [4] rfl
  refine va_calli (va_runV (As := []) (rest := [.int fl]) ⟨hx, hb, hml, hown, hts⟩ (x_Jx4a65c_size_8abf5 l h0 h2 li e ((nI n)) ((nI n)) H.size) (cwV 0 hts (gd_V q551 q326 q327 q40 q328) rfl rfl rfl hd_Jx4a65c_size_8abf5 ⟨Nat.le_of_ble_eq_true rfl, Nat.le_of_ble_eq_true rfl⟩) ⟨Xe.blind, va_recv (q0 := 4) hT.1 hP rfl rfl, fun U hU hW => ⟨rfl, Xe.warm hW hT hE hS hAb hU, by show U.heap.size = _; rw [hU], by rw [hU]; exact hPc, hDc.weaken (fun k q _ h => hAb _ h)⟩⟩ rfl rfl hl.1 rfl (lv_room (Nat.le_of_ble_eq_true rfl)) dX6_keep_28 ⟨Nat.le_of_ble_eq_true rfl, Nat.le_of_ble_eq_true rfl⟩) hS (fun q _ h => hFc q h) hFc (fun v9 u9 t9 H1 locs ht9 hvm9 hw9 hB9 hz9 hk9 hS => ?_)
  obtain ⟨hP1, hD1⟩ := hB9
  rw [ht9] at hP1
  rw [hw9]
  obtain ⟨hP, hD⟩ := va_join (wr := [(ty, .inr (7, [.int ba, .int co, .int su, .int le, .int gr, .int la, .int op, .int os, .int fl, .ref li])), (e, .inl (c2, 10, .inr (.inr (.inr (.inr f))))), (ch, .inr (1, [.ref sm])), (sm, .inl (c0, 512, .inl w))]) (w1 := [(li, .inr (0, [.int (nI n), .ref e, .int (nI n)]))]) hP hD [4] [0, 1, 2, 3] rfl rfl (by decide) (by decide) hk9 hFc hP1 hD1
  generalize H1 = H at hP hS ⊢
  have hP : va_P D vwCl [(ty, .inr (7, [.int ba, .int co, .int su, .int le, .int gr, .int la, .int op, .int os, .int fl, .ref li])), (e, .inl (c2, 10, .inr (.inr (.inr (.inr f))))), (ch, .inr (1, [.ref sm])), (sm, .inl (c0, 512, .inl w)), (li, .inr (0, [.int (nI n), .ref e, .int (nI n)]))] H := hP
  have hD : va_D A [(ty, .inr (7, [.int ba, .int co, .int su, .int le, .int gr, .int la, .int op, .int os, .int fl, .ref li])), (e, .inl (c2, 10, .inr (.inr (.inr (.inr f))))), (ch, .inr (1, [.ref sm])), (sm, .inl (c0, 512, .inl w)), (li, .inr (0, [.int (nI n), .ref e, .int (nI n)]))] := hD
  refine lv_sipush (v := 512) hx hb dX6_keep_31 (by decide) ?_
  refine lv_imul hx hb dX6_keep_34 ?_
  refine lv_icmp_lt (tgt := 53) hx hb dX6_keep_35 (by decide) (fun _ => ?_) (fun h9 => absurd h5 h9)
  refine lv_aload_n hx hb dX6_keep_53 rfl (lv_at hl 0 rfl) ?_
  refine va_get hx hb hts i_X6 hown hT.1 hP 0 rfl rfl 9 (by decide) (hts _ q1040) (fun _ h9 => h9) rfl dX6_keep_54 ?_
  refine lv_aload_n hx hb dX6_keep_57 rfl (lv_at hl 0 rfl) ?_
  refine va_get hx hb hts i_X6 hown hT.1 hP 0 rfl rfl 9 (by decide) (hts _ q1040) (fun _ h9 => h9) rfl dX6_keep_58 ?_
  have hPc := hP.sub (ws' := [(li, .inr (0, [.int (nI n), .ref e, .int (nI n)]))]) [4] rfl
  have hDc := hD.sub (ws' := [(li, .inr (0, [.int (nI n), .ref e, .int (nI n)]))]) [4] (by decide) rfl
  have hFc := va_free (wc := [(li, .inr (0, [.int (nI n), .ref e, .int (nI n)]))]) hD hS hA [4] rfl
  refine va_calli (va_runV (As := []) (rest := [.ref li]) ⟨hx, hb, hml, hown, hts⟩ (x_Jx4a65c_size_8abf5 l h0 h2 li e ((nI n)) ((nI n)) H.size) (cwV 0 hts (gd_V q551 q326 q327 q40 q328) rfl rfl rfl hd_Jx4a65c_size_8abf5 ⟨Nat.le_of_ble_eq_true rfl, Nat.le_of_ble_eq_true rfl⟩) ⟨Xe.blind, va_recv (q0 := 4) hT.1 hP rfl rfl, fun U hU hW => ⟨rfl, Xe.warm hW hT hE hS hAb hU, by show U.heap.size = _; rw [hU], by rw [hU]; exact hPc, hDc.weaken (fun k q _ h => hAb _ h)⟩⟩ rfl rfl hl.1 rfl (lv_room (Nat.le_of_ble_eq_true rfl)) dX6_keep_61 ⟨Nat.le_of_ble_eq_true rfl, Nat.le_of_ble_eq_true rfl⟩) hS (fun q _ h => hFc q h) hFc (fun v9 u9 t9 H1 locs ht9 hvm9 hw9 hB9 hz9 hk9 hS => ?_)
  obtain ⟨hP1, hD1⟩ := hB9
  rw [ht9] at hP1
  rw [hw9]
  obtain ⟨hP, hD⟩ := va_join (wr := [(ty, .inr (7, [.int ba, .int co, .int su, .int le, .int gr, .int la, .int op, .int os, .int fl, .ref li])), (e, .inl (c2, 10, .inr (.inr (.inr (.inr f))))), (ch, .inr (1, [.ref sm])), (sm, .inl (c0, 512, .inl w))]) (w1 := [(li, .inr (0, [.int (nI n), .ref e, .int (nI n)]))]) hP hD [4] [0, 1, 2, 3] rfl rfl (by decide) (by decide) hk9 hFc hP1 hD1
  generalize H1 = H at hP hS ⊢
  have hP : va_P D vwCl [(ty, .inr (7, [.int ba, .int co, .int su, .int le, .int gr, .int la, .int op, .int os, .int fl, .ref li])), (e, .inl (c2, 10, .inr (.inr (.inr (.inr f))))), (ch, .inr (1, [.ref sm])), (sm, .inl (c0, 512, .inl w)), (li, .inr (0, [.int (nI n), .ref e, .int (nI n)]))] H := hP
  have hD : va_D A [(ty, .inr (7, [.int ba, .int co, .int su, .int le, .int gr, .int la, .int op, .int os, .int fl, .ref li])), (e, .inl (c2, 10, .inr (.inr (.inr (.inr f))))), (ch, .inr (1, [.ref sm])), (sm, .inl (c0, 512, .inl w)), (li, .inr (0, [.int (nI n), .ref e, .int (nI n)]))] := hD
  refine lv_iconst (v := 1) hx hb dX6_keep_64 (by decide) ?_
  refine lv_isub hx hb dX6_keep_65 ?_
  have hPc := hP.sub (ws' := [(li, .inr (0, [.int (nI n), .ref e, .int (nI n)])), (e, .inl (c2, 10, .inr (.inr (.inr (.inr f)))))]) [4, 1] rfl
  have hDc := hD.sub (ws' := [(li, .inr (0, [.int (nI n), .ref e, .int (nI n)])), (e, .inl (c2, 10, .inr (.inr (.inr (.inr f)))))]) [4, 1] (by decide) rfl
  have hFc := va_free (wc := [(li, .inr (0, [.int (nI n), .ref e, .int (nI n)])), (e, .inl (c2, 10, .inr (.inr (.inr (.inr f)))))]) hD hS hA [4, 1] rfl
  refine va_callq (va_runV (As := [.int ((nI n) - 1)]) (rest := []) ⟨hx, hb, hml, hown, hts⟩ (x_Jx4a65c_get_915e3 l h0 h2 li e ch ((nI n)) ((nI n)) (((nI n) - 1)) f (pred_ok hn0 hn).1 (pred_ok hn0 hn).2.1 (pred_ok hn0 hn).2.2 hc H.size) (cwV 1 hts (gd_V q620 q330 q331 q40 q332) rfl rfl rfl hd_Jx4a65c_get_915e3 ⟨Nat.le_of_ble_eq_true rfl, Nat.le_of_ble_eq_true rfl⟩) ⟨Xe.blind, va_recv (q0 := 4) hT.1 hP rfl rfl, fun U hU hW => ⟨rfl, Xe.warm hW hT hE hS hAb hU, by show U.heap.size = _; rw [hU], by rw [hU]; exact hPc, hDc.weaken (fun k q _ h => hAb _ h)⟩⟩ rfl rfl hl.1 rfl (lv_room (Nat.le_of_ble_eq_true rfl)) dX6_keep_66 ⟨Nat.le_of_ble_eq_true rfl, Nat.le_of_ble_eq_true rfl⟩) hS (fun q _ h => hFc q h) hFc (fun v9 u9 t9 H1 locs ht9 hvm9 hw9 hB9 hz9 hk9 hS => ?_)
  obtain ⟨hP1, hD1⟩ := hB9
  rw [ht9] at hP1
  rw [hw9]
  obtain ⟨hP, hD⟩ := va_join (wr := [(ty, .inr (7, [.int ba, .int co, .int su, .int le, .int gr, .int la, .int op, .int os, .int fl, .ref li])), (ch, .inr (1, [.ref sm])), (sm, .inl (c0, 512, .inl w))]) (w1 := [(li, .inr (0, [.int (nI n), .ref e, .int (nI n)])), (e, .inl (c2, 10, .inr (.inr (.inr (.inr f)))))]) hP hD [4, 1] [0, 2, 3] rfl rfl (by decide) (by decide) hk9 hFc hP1 hD1
  generalize H1 = H at hP hS ⊢
  have hP : va_P D vwCl [(ty, .inr (7, [.int ba, .int co, .int su, .int le, .int gr, .int la, .int op, .int os, .int fl, .ref li])), (ch, .inr (1, [.ref sm])), (sm, .inl (c0, 512, .inl w)), (li, .inr (0, [.int (nI n), .ref e, .int (nI n)])), (e, .inl (c2, 10, .inr (.inr (.inr (.inr f)))))] H := hP
  have hD : va_D A [(ty, .inr (7, [.int ba, .int co, .int su, .int le, .int gr, .int la, .int op, .int os, .int fl, .ref li])), (ch, .inr (1, [.ref sm])), (sm, .inl (c0, 512, .inl w)), (li, .inr (0, [.int (nI n), .ref e, .int (nI n)])), (e, .inl (c2, 10, .inr (.inr (.inr (.inr f)))))] := hD
  refine W.eq (g2 := F0 m 69 ls [.ref ch]) (by rfl) ?_
  refine va_castS hx hb hown (hts _ q552) (hT.1.1 1 _ rfl).2 (va_recv (q0 := 1) hT.1 hP rfl rfl) dX6_keep_69 ?_
  refine va_get hx hb hts i_X0 hown hT.1 hP 1 rfl rfl 0 (by decide) (hts _ q559) (fun _ h9 => h9) rfl dX6_keep_72 ?_
  refine lv_aload_n hx hb dX6_keep_75 rfl (lv_at hl 0 rfl) ?_
  refine va_get hx hb hts i_X6 hown hT.1 hP 0 rfl rfl 8 (by decide) (hts _ q1038) (fun _ h9 => h9) rfl dX6_keep_76 ?_
  refine lv_sipush (v := 512) hx hb dX6_keep_79 (by decide) ?_
  refine lv_irem hx hb dX6_keep_82 (by decide) ?_
  refine lv_iload_n hx hb dX6_keep_83 rfl (lv_at hl 1 rfl) ?_
  have hPc := hP.sub (ws' := [(sm, .inl (c0, 512, .inl w))]) [2] rfl
  have hDc := hD.sub (ws' := [(sm, .inl (c0, 512, .inl w))]) [2] (by decide) rfl
  have hFc := va_free (wc := [(sm, .inl (c0, 512, .inl w))]) hD hS hA [2] rfl
  refine va_callv (va_runSN (As := [.ref sm, .int (fl - fl / 512 * 512), .int bs]) (rest := []) ⟨hx, hb, hml, hown, hts⟩ (x_X8_set l h0 h2 sm ((fl - fl / 512 * 512)) bs w hset H.size) ⟨va_cnB 3 hts (gd_code q480) rfl rfl rfl (hT.2.1 _ nst_5) (hts _ q37) hd_X8_set.2 ⟨Nat.le_of_ble_eq_true rfl, Nat.le_of_ble_eq_true rfl⟩, hts _ q479, trivial⟩ ⟨Xe.blind, fun U hU hW => ⟨rfl, Xe.warm hW hT hE hS hAb hU, by show U.heap.size = _; rw [hU], by rw [hU]; exact hPc, hDc.weaken (fun k q _ h => hAb _ h)⟩⟩ rfl rfl hl.1 rfl (lv_room (Nat.le_of_ble_eq_true rfl)) dX6_keep_84 ⟨Nat.le_of_ble_eq_true rfl, Nat.le_of_ble_eq_true rfl⟩) hS (fun q _ h => hFc q h) hFc (fun u9 t9 H1 locs ht9 hvm9 hw9 hB9 hz9 hk9 hS => ?_)
  obtain ⟨hP1, hD1⟩ := hB9
  rw [ht9] at hP1
  obtain ⟨hP, hD⟩ := va_join (wr := [(ty, .inr (7, [.int ba, .int co, .int su, .int le, .int gr, .int la, .int op, .int os, .int fl, .ref li])), (ch, .inr (1, [.ref sm])), (li, .inr (0, [.int (nI n), .ref e, .int (nI n)])), (e, .inl (c2, 10, .inr (.inr (.inr (.inr f)))))]) (w1 := [(sm, .inl (c0, 512, .inl (upd w ((fl - fl / 512 * 512)).toNatClampNeg bs)))]) hP hD [2] [0, 1, 3, 4] rfl rfl (by decide) (by decide) hk9 hFc hP1 hD1
  generalize H1 = H at hP hS ⊢
  have hP : va_P D vwCl [(ty, .inr (7, [.int ba, .int co, .int su, .int le, .int gr, .int la, .int op, .int os, .int fl, .ref li])), (ch, .inr (1, [.ref sm])), (li, .inr (0, [.int (nI n), .ref e, .int (nI n)])), (e, .inl (c2, 10, .inr (.inr (.inr (.inr f))))), (sm, .inl (c0, 512, .inl (upd w ((fl - fl / 512 * 512)).toNatClampNeg bs)))] H := hP
  have hD : va_D A [(ty, .inr (7, [.int ba, .int co, .int su, .int le, .int gr, .int la, .int op, .int os, .int fl, .ref li])), (ch, .inr (1, [.ref sm])), (li, .inr (0, [.int (nI n), .ref e, .int (nI n)])), (e, .inl (c2, 10, .inr (.inr (.inr (.inr f))))), (sm, .inl (c0, 512, .inl (upd w ((fl - fl / 512 * 512)).toNatClampNeg bs)))] := hD
  refine lv_aload_n hx hb dX6_keep_87 rfl (lv_at hl 0 rfl) ?_
  refine lv_dup hx hb dX6_keep_88 rfl ?_
  refine va_get hx hb hts i_X6 hown hT.1 hP 0 rfl rfl 8 (by decide) (hts _ q1038) (fun _ h9 => h9) rfl dX6_keep_89 ?_
  refine lv_iconst (v := 1) hx hb dX6_keep_92 (by decide) ?_
  refine lv_iadd hx hb dX6_keep_93 ?_
  refine va_put (D := D) (ci := 7) (v := .int (fl + 1)) (ty := .int) hx hb hts i_X6 tyX6 tyX6_ok nmX6 hown hT.1 hP hD hS 0 rfl rfl 8 (by decide) (hts _ q1038) (fun _ h9 => h9) rfl (by decide +kernel) rfl rfl (Nat.le_of_ble_eq_true rfl) dX6_keep_94 (fun H locs hP hD hS => ?_)
  have hP : va_P D vwCl [(ty, .inr (7, [.int ba, .int co, .int su, .int le, .int gr, .int la, .int op, .int os, .int (fl + 1), .ref li])), (ch, .inr (1, [.ref sm])), (li, .inr (0, [.int (nI n), .ref e, .int (nI n)])), (e, .inl (c2, 10, .inr (.inr (.inr (.inr f))))), (sm, .inl (c0, 512, .inl (upd w ((fl - fl / 512 * 512)).toNatClampNeg bs)))] H := hP
  have hD : va_D A [(ty, .inr (7, [.int ba, .int co, .int su, .int le, .int gr, .int la, .int op, .int os, .int (fl + 1), .ref li])), (ch, .inr (1, [.ref sm])), (li, .inr (0, [.int (nI n), .ref e, .int (nI n)])), (e, .inl (c2, 10, .inr (.inr (.inr (.inr f))))), (sm, .inl (c0, 512, .inl (upd w ((fl - fl / 512 * 512)).toNatClampNeg bs)))] := hD
  have hP9 := hP.sub (ws' := [(ty, .inr (7, [.int ba, .int co, .int su, .int le, .int gr, .int la, .int op, .int os, .int (fl + 1), .ref li])), (ch, .inr (1, [.ref sm])), (li, .inr (0, [.int (nI n), .ref e, .int (nI n)])), (e, .inl (c2, 10, .inr (.inr (.inr (.inr f))))), (sm, .inl (c0, 512, .inl (upd w ((fl - fl / 512 * 512)).toNatClampNeg bs)))]) [0, 1, 2, 3, 4] rfl
  have hD9 := hD.sub (ws' := [(ty, .inr (7, [.int ba, .int co, .int su, .int le, .int gr, .int la, .int op, .int os, .int (fl + 1), .ref li])), (ch, .inr (1, [.ref sm])), (li, .inr (0, [.int (nI n), .ref e, .int (nI n)])), (e, .inl (c2, 10, .inr (.inr (.inr (.inr f))))), (sm, .inl (c0, 512, .inl (upd w ((fl - fl / 512 * 512)).toNatClampNeg bs)))]) [0, 1, 2, 3, 4] (by decide) rfl
  refine W.widen (k := 3) (n := 523) (Nat.le_of_ble_eq_true rfl) (Nat.le_of_ble_eq_true rfl) ?_
  exact W.vret hx hb hr (fun t9 ht hW => ⟨⟨(), rfl, trivial, by rw [ht]; exact hP9, hD9⟩, hS.F ht⟩) hS.2.2 dX6_keep_97
/-- "Sandglass$Tally" "take" "(I)V" -/
theorem hd_X6_take : yX6_take.cls = RX6 ∧ yX6_take.cls ≠ "java/lang/invoke/MethodHandle" ∧ yX6_take.cls ≠ "java/lang/invoke/VarHandle" ∧ (parseMethodDescriptor yX6_take.desc).map (fun d => d.parameters.length) = some 1 := by decide +kernel
set_option maxHeartbeats 4000000 in
set_option maxRecDepth 100000 in
theorem x_X6_take_0n (l : Launch) {D : va_G} {tys : List (ClassId × FieldType)} {z b : Nat} {k0 k2 : Nat} {c0 c2 : ClassId} (h0 : tys[k0]? = some (c0, .int)) (h2 : tys[k2]? = some (c2, .object "java/lang/Object")) (ty li : Nat) (ba co su le gr la op os fl bs : Int32)  (hco : co = 0) (hop : op + 1 < ba) (sz : Nat) : Met l yX6_take (ws_ yX6_take cX6_take 2 none) (rm_ 6 133 3 523) (Xe D tys z b c2 [.ref ty, .int bs] (fun H9 => H9.size = sz) [(ty, .inr (7, [.int ba, .int co, .int su, .int le, .int gr, .int la, .int op, .int os, .int fl, .ref li]))]) (va_Qv (fun _ : Unit => True) (fun _ t => va_P D vwCl [(ty, .inr (7, [.int ba, .int (co + 1), .int (su + bs), .int bs, .int bs, .int bs, .int (op + 1), .int (os + bs), .int fl, .ref li]))] t.heap ∧ va_D (va_A [(ty, .inr (7, [.int ba, .int co, .int su, .int le, .int gr, .int la, .int op, .int os, .int fl, .ref li]))] sz) [(ty, .inr (7, [.int ba, .int (co + 1), .int (su + bs), .int bs, .int bs, .int bs, .int (op + 1), .int (os + bs), .int fl, .ref li]))]) (va_A [(ty, .inr (7, [.int ba, .int co, .int su, .int le, .int gr, .int la, .int op, .int os, .int fl, .ref li]))] sz)) 3 523 (va_A [(ty, .inr (7, [.int ba, .int co, .int su, .int le, .int gr, .int la, .int op, .int os, .int fl, .ref li]))] sz) := by
  refine Met.ofW (cc := cX6_take) (maxL := 2) (ret := none) (by decide) rfl ?_
  intro p e9 s m args below meth c s₁ B hml hv
  obtain ⟨rfl, ⟨hT, hE⟩, hsz, hP, hD0⟩ := hv
  have hx := B.exec
  have hb := B.bytes
  have hr := B.returns
  have hts : ∀ w ∈ lw_all, w.before _ s = true := fun w h => atoms_spec (ws := (ws_ yX6_take cX6_take 2 none)) B.pre w (List.mem_cons_of_mem _ h)
  have hown : s.vm.findClass RX6 = some m.cls := findClass_of_methodNamed B.named
  have hlocks := B.notSynchronized
  subst hsz
  have hD := hD0.self (sz := s.heap.size)
  have hAb : ∀ q, va_A [(ty, .inr (7, [.int ba, .int co, .int su, .int le, .int gr, .int la, .int op, .int os, .int fl, .ref li]))] s.heap.size q → b ≤ q := fun q h => h.elim (fun ⟨k, e, h⟩ => hD0.2 k _ h) (fun h => Nat.le_trans hE.2.2.1 h)
  generalize hAe : va_A [(ty, .inr (7, [.int ba, .int co, .int su, .int le, .int gr, .int la, .int op, .int os, .int fl, .ref li]))] s.heap.size = A at hD hAb ⊢
  have hA : ∀ q : Nat, s.heap.size ≤ q → A q := fun q h => by rw [← hAe]; exact Or.inr h
  have hS : va_S A s.heap s.heap [] := va_S.rf
  have hZ := hE.1.narrow hAb
  have hE0 := fun (H9 : Heap) (l9 : List Loc) (h9 : va_S A s.heap H9 l9) => Em.row hE h9 hAb
  obtain ⟨H, hHe⟩ : ∃ H : Heap, H = s.heap := ⟨_, rfl⟩
  have hP : va_P D vwCl [(ty, .inr (7, [.int ba, .int co, .int su, .int le, .int gr, .int la, .int op, .int os, .int fl, .ref li]))] s.heap := hP
  have hl := lv_entry ([.ref ty, .int bs]) (n := 2) (Nat.le_of_ble_eq_true rfl)
  rw [lg_entry_eq]
  generalize (lg_sl ([.ref ty, .int bs]) ++ List.replicate (2 - (lg_sl ([.ref ty, .int bs])).length) Slot.unset).toArray = ls at hl ⊢
  have hl : lv_has ls 2 [(0, .ref ty), (1, .int bs)] := hl
  clear hHe H
  refine lv_aload_n hx hb dX6_take_0 rfl (lv_at hl 0 rfl) ?_
  refine lv_aload_n hx hb dX6_take_1 rfl (lv_at hl 0 rfl) ?_
  refine va_get hx hb hts i_X6 hown hT.1 hP 0 rfl rfl 1 (by decide) (hts _ q1026) (fun _ h9 => h9) rfl dX6_take_2 ?_
  refine lv_if_ne (tgt := 12) hx hb dX6_take_5 (by decide) (fun h9 => absurd hco h9) (fun _ => ?_)
  refine lv_iload_n hx hb dX6_take_8 rfl (lv_at hl 1 rfl) ?_
  refine lv_goto (tgt := 20) hx hb dX6_take_9 (by decide) ?_
  refine va_put (D := D) (ci := 7) (v := .int bs) (ty := .int) hx hb hts i_X6 tyX6 tyX6_ok nmX6 hown hT.1 hP hD hS 0 rfl rfl 3 (by decide) (hts _ q1030) (fun _ h9 => h9) rfl (by decide +kernel) rfl rfl (Nat.le_of_ble_eq_true rfl) dX6_take_20 (fun H locs hP hD hS => ?_)
  have hP : va_P D vwCl [(ty, .inr (7, [.int ba, .int co, .int su, .int bs, .int gr, .int la, .int op, .int os, .int fl, .ref li]))] H := hP
  have hD : va_D A [(ty, .inr (7, [.int ba, .int co, .int su, .int bs, .int gr, .int la, .int op, .int os, .int fl, .ref li]))] := hD
  refine lv_aload_n hx hb dX6_take_23 rfl (lv_at hl 0 rfl) ?_
  refine lv_aload_n hx hb dX6_take_24 rfl (lv_at hl 0 rfl) ?_
  refine va_get hx hb hts i_X6 hown hT.1 hP 0 rfl rfl 1 (by decide) (hts _ q1026) (fun _ h9 => h9) rfl dX6_take_25 ?_
  refine lv_if_ne (tgt := 35) hx hb dX6_take_28 (by decide) (fun h9 => absurd hco h9) (fun _ => ?_)
  refine lv_iload_n hx hb dX6_take_31 rfl (lv_at hl 1 rfl) ?_
  refine lv_goto (tgt := 43) hx hb dX6_take_32 (by decide) ?_
  refine va_put (D := D) (ci := 7) (v := .int bs) (ty := .int) hx hb hts i_X6 tyX6 tyX6_ok nmX6 hown hT.1 hP hD hS 0 rfl rfl 4 (by decide) (hts _ q1032) (fun _ h9 => h9) rfl (by decide +kernel) rfl rfl (Nat.le_of_ble_eq_true rfl) dX6_take_43 (fun H locs hP hD hS => ?_)
  have hP : va_P D vwCl [(ty, .inr (7, [.int ba, .int co, .int su, .int bs, .int bs, .int la, .int op, .int os, .int fl, .ref li]))] H := hP
  have hD : va_D A [(ty, .inr (7, [.int ba, .int co, .int su, .int bs, .int bs, .int la, .int op, .int os, .int fl, .ref li]))] := hD
  refine lv_aload_n hx hb dX6_take_46 rfl (lv_at hl 0 rfl) ?_
  refine lv_iload_n hx hb dX6_take_47 rfl (lv_at hl 1 rfl) ?_
  refine va_put (D := D) (ci := 7) (v := .int bs) (ty := .int) hx hb hts i_X6 tyX6 tyX6_ok nmX6 hown hT.1 hP hD hS 0 rfl rfl 5 (by decide) (hts _ q1034) (fun _ h9 => h9) rfl (by decide +kernel) rfl rfl (Nat.le_of_ble_eq_true rfl) dX6_take_48 (fun H locs hP hD hS => ?_)
  have hP : va_P D vwCl [(ty, .inr (7, [.int ba, .int co, .int su, .int bs, .int bs, .int bs, .int op, .int os, .int fl, .ref li]))] H := hP
  have hD : va_D A [(ty, .inr (7, [.int ba, .int co, .int su, .int bs, .int bs, .int bs, .int op, .int os, .int fl, .ref li]))] := hD
  refine lv_aload_n hx hb dX6_take_51 rfl (lv_at hl 0 rfl) ?_
  refine lv_dup hx hb dX6_take_52 rfl ?_
  refine va_get hx hb hts i_X6 hown hT.1 hP 0 rfl rfl 2 (by decide) (hts _ q1028) (fun _ h9 => h9) rfl dX6_take_53 ?_
  refine lv_iload_n hx hb dX6_take_56 rfl (lv_at hl 1 rfl) ?_
  refine lv_iadd hx hb dX6_take_57 ?_
  refine va_put (D := D) (ci := 7) (v := .int (su + bs)) (ty := .int) hx hb hts i_X6 tyX6 tyX6_ok nmX6 hown hT.1 hP hD hS 0 rfl rfl 2 (by decide) (hts _ q1028) (fun _ h9 => h9) rfl (by decide +kernel) rfl rfl (Nat.le_of_ble_eq_true rfl) dX6_take_58 (fun H locs hP hD hS => ?_)
  have hP : va_P D vwCl [(ty, .inr (7, [.int ba, .int co, .int (su + bs), .int bs, .int bs, .int bs, .int op, .int os, .int fl, .ref li]))] H := hP
  have hD : va_D A [(ty, .inr (7, [.int ba, .int co, .int (su + bs), .int bs, .int bs, .int bs, .int op, .int os, .int fl, .ref li]))] := hD
  refine lv_aload_n hx hb dX6_take_61 rfl (lv_at hl 0 rfl) ?_
  refine lv_dup hx hb dX6_take_62 rfl ?_
  refine va_get hx hb hts i_X6 hown hT.1 hP 0 rfl rfl 1 (by decide) (hts _ q1026) (fun _ h9 => h9) rfl dX6_take_63 ?_
  refine lv_iconst (v := 1) hx hb dX6_take_66 (by decide) ?_
  refine lv_iadd hx hb dX6_take_67 ?_
  refine va_put (D := D) (ci := 7) (v := .int (co + 1)) (ty := .int) hx hb hts i_X6 tyX6 tyX6_ok nmX6 hown hT.1 hP hD hS 0 rfl rfl 1 (by decide) (hts _ q1026) (fun _ h9 => h9) rfl (by decide +kernel) rfl rfl (Nat.le_of_ble_eq_true rfl) dX6_take_68 (fun H locs hP hD hS => ?_)
  have hP : va_P D vwCl [(ty, .inr (7, [.int ba, .int (co + 1), .int (su + bs), .int bs, .int bs, .int bs, .int op, .int os, .int fl, .ref li]))] H := hP
  have hD : va_D A [(ty, .inr (7, [.int ba, .int (co + 1), .int (su + bs), .int bs, .int bs, .int bs, .int op, .int os, .int fl, .ref li]))] := hD
  refine lv_aload_n hx hb dX6_take_71 rfl (lv_at hl 0 rfl) ?_
  refine lv_dup hx hb dX6_take_72 rfl ?_
  refine va_get hx hb hts i_X6 hown hT.1 hP 0 rfl rfl 6 (by decide) (hts _ q1036) (fun _ h9 => h9) rfl dX6_take_73 ?_
  refine lv_iconst (v := 1) hx hb dX6_take_76 (by decide) ?_
  refine lv_iadd hx hb dX6_take_77 ?_
  refine va_put (D := D) (ci := 7) (v := .int (op + 1)) (ty := .int) hx hb hts i_X6 tyX6 tyX6_ok nmX6 hown hT.1 hP hD hS 0 rfl rfl 6 (by decide) (hts _ q1036) (fun _ h9 => h9) rfl (by decide +kernel) rfl rfl (Nat.le_of_ble_eq_true rfl) dX6_take_78 (fun H locs hP hD hS => ?_)
  have hP : va_P D vwCl [(ty, .inr (7, [.int ba, .int (co + 1), .int (su + bs), .int bs, .int bs, .int bs, .int (op + 1), .int os, .int fl, .ref li]))] H := hP
  have hD : va_D A [(ty, .inr (7, [.int ba, .int (co + 1), .int (su + bs), .int bs, .int bs, .int bs, .int (op + 1), .int os, .int fl, .ref li]))] := hD
  refine lv_aload_n hx hb dX6_take_81 rfl (lv_at hl 0 rfl) ?_
  refine lv_dup hx hb dX6_take_82 rfl ?_
  refine va_get hx hb hts i_X6 hown hT.1 hP 0 rfl rfl 7 (by decide) (hts _ q1037) (fun _ h9 => h9) rfl dX6_take_83 ?_
  refine lv_iload_n hx hb dX6_take_86 rfl (lv_at hl 1 rfl) ?_
  refine lv_iadd hx hb dX6_take_87 ?_
  refine va_put (D := D) (ci := 7) (v := .int (os + bs)) (ty := .int) hx hb hts i_X6 tyX6 tyX6_ok nmX6 hown hT.1 hP hD hS 0 rfl rfl 7 (by decide) (hts _ q1037) (fun _ h9 => h9) rfl (by decide +kernel) rfl rfl (Nat.le_of_ble_eq_true rfl) dX6_take_88 (fun H locs hP hD hS => ?_)
  have hP : va_P D vwCl [(ty, .inr (7, [.int ba, .int (co + 1), .int (su + bs), .int bs, .int bs, .int bs, .int (op + 1), .int (os + bs), .int fl, .ref li]))] H := hP
  have hD : va_D A [(ty, .inr (7, [.int ba, .int (co + 1), .int (su + bs), .int bs, .int bs, .int bs, .int (op + 1), .int (os + bs), .int fl, .ref li]))] := hD
  refine lv_aload_n hx hb dX6_take_91 rfl (lv_at hl 0 rfl) ?_
  refine va_get hx hb hts i_X6 hown hT.1 hP 0 rfl rfl 6 (by decide) (hts _ q1036) (fun _ h9 => h9) rfl dX6_take_92 ?_
  refine lv_aload_n hx hb dX6_take_95 rfl (lv_at hl 0 rfl) ?_
  refine va_get hx hb hts i_X6 hown hT.1 hP 0 rfl rfl 0 (by decide) (hts _ q1025) (fun _ h9 => h9) rfl dX6_take_96 ?_
  refine lv_icmp_lt (tgt := 120) hx hb dX6_take_99 (by decide) (fun _ => ?_) (fun h9 => absurd hop h9)
  have hP9 := hP.sub (ws' := [(ty, .inr (7, [.int ba, .int (co + 1), .int (su + bs), .int bs, .int bs, .int bs, .int (op + 1), .int (os + bs), .int fl, .ref li]))]) [0] rfl
  have hD9 := hD.sub (ws' := [(ty, .inr (7, [.int ba, .int (co + 1), .int (su + bs), .int bs, .int bs, .int bs, .int (op + 1), .int (os + bs), .int fl, .ref li]))]) [0] (by decide) rfl
  refine W.widen (k := 3) (n := 523) (Nat.le_of_ble_eq_true rfl) (Nat.le_of_ble_eq_true rfl) ?_
  exact W.vret hx hb hr (fun t9 ht hW => ⟨⟨(), rfl, trivial, by rw [ht]; exact hP9, hD9⟩, hS.F ht⟩) hS.2.2 dX6_take_120
set_option maxHeartbeats 4000000 in
set_option maxRecDepth 100000 in
theorem x_X6_take_00 (l : Launch) {D : va_G} {tys : List (ClassId × FieldType)} {z b : Nat} {k0 k2 : Nat} {c0 c2 : ClassId} (h0 : tys[k0]? = some (c0, .int)) (h2 : tys[k2]? = some (c2, .object "java/lang/Object")) (ty li : Nat) (ba co su le gr la op os fl bs : Int32)  (hco : co = 0) (hop : ¬ op + 1 < ba) (hfl : fl < 8192000) (hset : ¬ fl - fl / 512 * 512 < 0 ∧ ¬ (512 : Int32) ≤ fl - fl / 512 * 512 ∧ vp_in (fl - fl / 512 * 512) 512) (sz : Nat) : Met l yX6_take (ws_ yX6_take cX6_take 2 none) (rm_ 6 133 3 523) (Xe D tys z b c2 [.ref ty, .int bs] (fun H9 => H9.size = sz) [(ty, .inr (7, [.int ba, .int co, .int su, .int le, .int gr, .int la, .int op, .int os, .int fl, .ref li])), (li, .inr (0, [.int 0, .ref z, .int 0]))]) (va_Qv (fun _ : Unit => True) (fun _ t => ∃ (q1 q2 q3 : Nat), va_P D vwCl [(ty, .inr (7, [.int ba, .int ((co + 1)), .int ((su + bs)), .int bs, .int bs, .int bs, .int 0, .int 0, .int (fl + 1), .ref li])), (q1, .inr (1, [.ref q2])), (li, .inr (0, [.int (0 + 1), .ref q3, .int (0 + 1)])), (q3, .inl (c2, 10, .inr (.inr (.inr (.inr (va_up (fun _ => none) (0 : Int32).toNatClampNeg (some q1))))))), (q2, .inl (c0, 512, .inl (upd (fun _ => 0) ((fl - fl / 512 * 512)).toNatClampNeg ((os + bs)))))] t.heap ∧ va_D (va_A [(ty, .inr (7, [.int ba, .int co, .int su, .int le, .int gr, .int la, .int op, .int os, .int fl, .ref li])), (li, .inr (0, [.int 0, .ref z, .int 0]))] sz) [(ty, .inr (7, [.int ba, .int ((co + 1)), .int ((su + bs)), .int bs, .int bs, .int bs, .int 0, .int 0, .int (fl + 1), .ref li])), (q1, .inr (1, [.ref q2])), (li, .inr (0, [.int (0 + 1), .ref q3, .int (0 + 1)])), (q3, .inl (c2, 10, .inr (.inr (.inr (.inr (va_up (fun _ => none) (0 : Int32).toNatClampNeg (some q1))))))), (q2, .inl (c0, 512, .inl (upd (fun _ => 0) ((fl - fl / 512 * 512)).toNatClampNeg ((os + bs)))))]) (va_A [(ty, .inr (7, [.int ba, .int co, .int su, .int le, .int gr, .int la, .int op, .int os, .int fl, .ref li])), (li, .inr (0, [.int 0, .ref z, .int 0]))] sz)) 3 523 (va_A [(ty, .inr (7, [.int ba, .int co, .int su, .int le, .int gr, .int la, .int op, .int os, .int fl, .ref li])), (li, .inr (0, [.int 0, .ref z, .int 0]))] sz) := by
  refine Met.ofW (cc := cX6_take) (maxL := 2) (ret := none) (by decide) rfl ?_
  intro p e9 s m args below meth c s₁ B hml hv
  obtain ⟨rfl, ⟨hT, hE⟩, hsz, hP, hD0⟩ := hv
  have hx := B.exec
  have hb := B.bytes
  have hr := B.returns
  have hts : ∀ w ∈ lw_all, w.before _ s = true := fun w h => atoms_spec (ws := (ws_ yX6_take cX6_take 2 none)) B.pre w (List.mem_cons_of_mem _ h)
  have hown : s.vm.findClass RX6 = some m.cls := findClass_of_methodNamed B.named
  have hlocks := B.notSynchronized
  subst hsz
  have hD := hD0.self (sz := s.heap.size)
  have hAb : ∀ q, va_A [(ty, .inr (7, [.int ba, .int co, .int su, .int le, .int gr, .int la, .int op, .int os, .int fl, .ref li])), (li, .inr (0, [.int 0, .ref z, .int 0]))] s.heap.size q → b ≤ q := fun q h => h.elim (fun ⟨k, e, h⟩ => hD0.2 k _ h) (fun h => Nat.le_trans hE.2.2.1 h)
  generalize hAe : va_A [(ty, .inr (7, [.int ba, .int co, .int su, .int le, .int gr, .int la, .int op, .int os, .int fl, .ref li])), (li, .inr (0, [.int 0, .ref z, .int 0]))] s.heap.size = A at hD hAb ⊢
  have hA : ∀ q : Nat, s.heap.size ≤ q → A q := fun q h => by rw [← hAe]; exact Or.inr h
  have hS : va_S A s.heap s.heap [] := va_S.rf
  have hZ := hE.1.narrow hAb
  have hE0 := fun (H9 : Heap) (l9 : List Loc) (h9 : va_S A s.heap H9 l9) => Em.row hE h9 hAb
  obtain ⟨H, hHe⟩ : ∃ H : Heap, H = s.heap := ⟨_, rfl⟩
  have hP : va_P D vwCl [(ty, .inr (7, [.int ba, .int co, .int su, .int le, .int gr, .int la, .int op, .int os, .int fl, .ref li])), (li, .inr (0, [.int 0, .ref z, .int 0]))] s.heap := hP
  have hl := lv_entry ([.ref ty, .int bs]) (n := 2) (Nat.le_of_ble_eq_true rfl)
  rw [lg_entry_eq]
  generalize (lg_sl ([.ref ty, .int bs]) ++ List.replicate (2 - (lg_sl ([.ref ty, .int bs])).length) Slot.unset).toArray = ls at hl ⊢
  have hl : lv_has ls 2 [(0, .ref ty), (1, .int bs)] := hl
  clear hHe H
  refine lv_aload_n hx hb dX6_take_0 rfl (lv_at hl 0 rfl) ?_
  refine lv_aload_n hx hb dX6_take_1 rfl (lv_at hl 0 rfl) ?_
  refine va_get hx hb hts i_X6 hown hT.1 hP 0 rfl rfl 1 (by decide) (hts _ q1026) (fun _ h9 => h9) rfl dX6_take_2 ?_
  refine lv_if_ne (tgt := 12) hx hb dX6_take_5 (by decide) (fun h9 => absurd hco h9) (fun _ => ?_)
  refine lv_iload_n hx hb dX6_take_8 rfl (lv_at hl 1 rfl) ?_
  refine lv_goto (tgt := 20) hx hb dX6_take_9 (by decide) ?_
  refine va_put (D := D) (ci := 7) (v := .int bs) (ty := .int) hx hb hts i_X6 tyX6 tyX6_ok nmX6 hown hT.1 hP hD hS 0 rfl rfl 3 (by decide) (hts _ q1030) (fun _ h9 => h9) rfl (by decide +kernel) rfl rfl (Nat.le_of_ble_eq_true rfl) dX6_take_20 (fun H locs hP hD hS => ?_)
  have hP : va_P D vwCl [(ty, .inr (7, [.int ba, .int co, .int su, .int bs, .int gr, .int la, .int op, .int os, .int fl, .ref li])), (li, .inr (0, [.int 0, .ref z, .int 0]))] H := hP
  have hD : va_D A [(ty, .inr (7, [.int ba, .int co, .int su, .int bs, .int gr, .int la, .int op, .int os, .int fl, .ref li])), (li, .inr (0, [.int 0, .ref z, .int 0]))] := hD
  refine lv_aload_n hx hb dX6_take_23 rfl (lv_at hl 0 rfl) ?_
  refine lv_aload_n hx hb dX6_take_24 rfl (lv_at hl 0 rfl) ?_
  refine va_get hx hb hts i_X6 hown hT.1 hP 0 rfl rfl 1 (by decide) (hts _ q1026) (fun _ h9 => h9) rfl dX6_take_25 ?_
  refine lv_if_ne (tgt := 35) hx hb dX6_take_28 (by decide) (fun h9 => absurd hco h9) (fun _ => ?_)
  refine lv_iload_n hx hb dX6_take_31 rfl (lv_at hl 1 rfl) ?_
  refine lv_goto (tgt := 43) hx hb dX6_take_32 (by decide) ?_
  refine va_put (D := D) (ci := 7) (v := .int bs) (ty := .int) hx hb hts i_X6 tyX6 tyX6_ok nmX6 hown hT.1 hP hD hS 0 rfl rfl 4 (by decide) (hts _ q1032) (fun _ h9 => h9) rfl (by decide +kernel) rfl rfl (Nat.le_of_ble_eq_true rfl) dX6_take_43 (fun H locs hP hD hS => ?_)
  have hP : va_P D vwCl [(ty, .inr (7, [.int ba, .int co, .int su, .int bs, .int bs, .int la, .int op, .int os, .int fl, .ref li])), (li, .inr (0, [.int 0, .ref z, .int 0]))] H := hP
  have hD : va_D A [(ty, .inr (7, [.int ba, .int co, .int su, .int bs, .int bs, .int la, .int op, .int os, .int fl, .ref li])), (li, .inr (0, [.int 0, .ref z, .int 0]))] := hD
  refine lv_aload_n hx hb dX6_take_46 rfl (lv_at hl 0 rfl) ?_
  refine lv_iload_n hx hb dX6_take_47 rfl (lv_at hl 1 rfl) ?_
  refine va_put (D := D) (ci := 7) (v := .int bs) (ty := .int) hx hb hts i_X6 tyX6 tyX6_ok nmX6 hown hT.1 hP hD hS 0 rfl rfl 5 (by decide) (hts _ q1034) (fun _ h9 => h9) rfl (by decide +kernel) rfl rfl (Nat.le_of_ble_eq_true rfl) dX6_take_48 (fun H locs hP hD hS => ?_)
  have hP : va_P D vwCl [(ty, .inr (7, [.int ba, .int co, .int su, .int bs, .int bs, .int bs, .int op, .int os, .int fl, .ref li])), (li, .inr (0, [.int 0, .ref z, .int 0]))] H := hP
  have hD : va_D A [(ty, .inr (7, [.int ba, .int co, .int su, .int bs, .int bs, .int bs, .int op, .int os, .int fl, .ref li])), (li, .inr (0, [.int 0, .ref z, .int 0]))] := hD
  refine lv_aload_n hx hb dX6_take_51 rfl (lv_at hl 0 rfl) ?_
  refine lv_dup hx hb dX6_take_52 rfl ?_
  refine va_get hx hb hts i_X6 hown hT.1 hP 0 rfl rfl 2 (by decide) (hts _ q1028) (fun _ h9 => h9) rfl dX6_take_53 ?_
  refine lv_iload_n hx hb dX6_take_56 rfl (lv_at hl 1 rfl) ?_
  refine lv_iadd hx hb dX6_take_57 ?_
  refine va_put (D := D) (ci := 7) (v := .int (su + bs)) (ty := .int) hx hb hts i_X6 tyX6 tyX6_ok nmX6 hown hT.1 hP hD hS 0 rfl rfl 2 (by decide) (hts _ q1028) (fun _ h9 => h9) rfl (by decide +kernel) rfl rfl (Nat.le_of_ble_eq_true rfl) dX6_take_58 (fun H locs hP hD hS => ?_)
  have hP : va_P D vwCl [(ty, .inr (7, [.int ba, .int co, .int (su + bs), .int bs, .int bs, .int bs, .int op, .int os, .int fl, .ref li])), (li, .inr (0, [.int 0, .ref z, .int 0]))] H := hP
  have hD : va_D A [(ty, .inr (7, [.int ba, .int co, .int (su + bs), .int bs, .int bs, .int bs, .int op, .int os, .int fl, .ref li])), (li, .inr (0, [.int 0, .ref z, .int 0]))] := hD
  refine lv_aload_n hx hb dX6_take_61 rfl (lv_at hl 0 rfl) ?_
  refine lv_dup hx hb dX6_take_62 rfl ?_
  refine va_get hx hb hts i_X6 hown hT.1 hP 0 rfl rfl 1 (by decide) (hts _ q1026) (fun _ h9 => h9) rfl dX6_take_63 ?_
  refine lv_iconst (v := 1) hx hb dX6_take_66 (by decide) ?_
  refine lv_iadd hx hb dX6_take_67 ?_
  refine va_put (D := D) (ci := 7) (v := .int (co + 1)) (ty := .int) hx hb hts i_X6 tyX6 tyX6_ok nmX6 hown hT.1 hP hD hS 0 rfl rfl 1 (by decide) (hts _ q1026) (fun _ h9 => h9) rfl (by decide +kernel) rfl rfl (Nat.le_of_ble_eq_true rfl) dX6_take_68 (fun H locs hP hD hS => ?_)
  have hP : va_P D vwCl [(ty, .inr (7, [.int ba, .int (co + 1), .int (su + bs), .int bs, .int bs, .int bs, .int op, .int os, .int fl, .ref li])), (li, .inr (0, [.int 0, .ref z, .int 0]))] H := hP
  have hD : va_D A [(ty, .inr (7, [.int ba, .int (co + 1), .int (su + bs), .int bs, .int bs, .int bs, .int op, .int os, .int fl, .ref li])), (li, .inr (0, [.int 0, .ref z, .int 0]))] := hD
  refine lv_aload_n hx hb dX6_take_71 rfl (lv_at hl 0 rfl) ?_
  refine lv_dup hx hb dX6_take_72 rfl ?_
  refine va_get hx hb hts i_X6 hown hT.1 hP 0 rfl rfl 6 (by decide) (hts _ q1036) (fun _ h9 => h9) rfl dX6_take_73 ?_
  refine lv_iconst (v := 1) hx hb dX6_take_76 (by decide) ?_
  refine lv_iadd hx hb dX6_take_77 ?_
  refine va_put (D := D) (ci := 7) (v := .int (op + 1)) (ty := .int) hx hb hts i_X6 tyX6 tyX6_ok nmX6 hown hT.1 hP hD hS 0 rfl rfl 6 (by decide) (hts _ q1036) (fun _ h9 => h9) rfl (by decide +kernel) rfl rfl (Nat.le_of_ble_eq_true rfl) dX6_take_78 (fun H locs hP hD hS => ?_)
  have hP : va_P D vwCl [(ty, .inr (7, [.int ba, .int (co + 1), .int (su + bs), .int bs, .int bs, .int bs, .int (op + 1), .int os, .int fl, .ref li])), (li, .inr (0, [.int 0, .ref z, .int 0]))] H := hP
  have hD : va_D A [(ty, .inr (7, [.int ba, .int (co + 1), .int (su + bs), .int bs, .int bs, .int bs, .int (op + 1), .int os, .int fl, .ref li])), (li, .inr (0, [.int 0, .ref z, .int 0]))] := hD
  refine lv_aload_n hx hb dX6_take_81 rfl (lv_at hl 0 rfl) ?_
  refine lv_dup hx hb dX6_take_82 rfl ?_
  refine va_get hx hb hts i_X6 hown hT.1 hP 0 rfl rfl 7 (by decide) (hts _ q1037) (fun _ h9 => h9) rfl dX6_take_83 ?_
  refine lv_iload_n hx hb dX6_take_86 rfl (lv_at hl 1 rfl) ?_
  refine lv_iadd hx hb dX6_take_87 ?_
  refine va_put (D := D) (ci := 7) (v := .int (os + bs)) (ty := .int) hx hb hts i_X6 tyX6 tyX6_ok nmX6 hown hT.1 hP hD hS 0 rfl rfl 7 (by decide) (hts _ q1037) (fun _ h9 => h9) rfl (by decide +kernel) rfl rfl (Nat.le_of_ble_eq_true rfl) dX6_take_88 (fun H locs hP hD hS => ?_)
  have hP : va_P D vwCl [(ty, .inr (7, [.int ba, .int (co + 1), .int (su + bs), .int bs, .int bs, .int bs, .int (op + 1), .int (os + bs), .int fl, .ref li])), (li, .inr (0, [.int 0, .ref z, .int 0]))] H := hP
  have hD : va_D A [(ty, .inr (7, [.int ba, .int (co + 1), .int (su + bs), .int bs, .int bs, .int bs, .int (op + 1), .int (os + bs), .int fl, .ref li])), (li, .inr (0, [.int 0, .ref z, .int 0]))] := hD
  refine lv_aload_n hx hb dX6_take_91 rfl (lv_at hl 0 rfl) ?_
  refine va_get hx hb hts i_X6 hown hT.1 hP 0 rfl rfl 6 (by decide) (hts _ q1036) (fun _ h9 => h9) rfl dX6_take_92 ?_
  refine lv_aload_n hx hb dX6_take_95 rfl (lv_at hl 0 rfl) ?_
  refine va_get hx hb hts i_X6 hown hT.1 hP 0 rfl rfl 0 (by decide) (hts _ q1025) (fun _ h9 => h9) rfl dX6_take_96 ?_
  refine lv_icmp_lt (tgt := 120) hx hb dX6_take_99 (by decide) (fun h9 => absurd h9 hop) (fun _ => ?_)
  refine lv_aload_n hx hb dX6_take_102 rfl (lv_at hl 0 rfl) ?_
  refine lv_aload_n hx hb dX6_take_103 rfl (lv_at hl 0 rfl) ?_
  refine va_get hx hb hts i_X6 hown hT.1 hP 0 rfl rfl 7 (by decide) (hts _ q1037) (fun _ h9 => h9) rfl dX6_take_104 ?_
  have hPc := hP.sub (ws' := [(ty, .inr (7, [.int ba, .int (co + 1), .int (su + bs), .int bs, .int bs, .int bs, .int (op + 1), .int (os + bs), .int fl, .ref li])), (li, .inr (0, [.int 0, .ref z, .int 0]))]) [0, 1] rfl
  have hDc := hD.sub (ws' := [(ty, .inr (7, [.int ba, .int (co + 1), .int (su + bs), .int bs, .int bs, .int bs, .int (op + 1), .int (os + bs), .int fl, .ref li])), (li, .inr (0, [.int 0, .ref z, .int 0]))]) [0, 1] (by decide) rfl
  have hFc := va_free (wc := [(ty, .inr (7, [.int ba, .int (co + 1), .int (su + bs), .int bs, .int bs, .int bs, .int (op + 1), .int (os + bs), .int fl, .ref li])), (li, .inr (0, [.int 0, .ref z, .int 0]))]) hD hS hA [0, 1] rfl
  refine va_callv (va_runV (As := [.int (os + bs)]) (rest := []) ⟨hx, hb, hml, hown, hts⟩ (x_X6_keep0 l h0 h2 ty li ba ((co + 1)) ((su + bs)) bs bs bs ((op + 1)) ((os + bs)) fl ((os + bs)) hfl hset H.size) (cwV 1 hts (gd_V q541 q543 q19 q54 q545) rfl rfl rfl hd_X6_keep ⟨Nat.le_of_ble_eq_true rfl, Nat.le_of_ble_eq_true rfl⟩) ⟨Xe.blind, va_recv (q0 := 0) hT.1 hP rfl rfl, fun U hU hW => ⟨rfl, Xe.warm hW hT hE hS hAb hU, by show U.heap.size = _; rw [hU], by rw [hU]; exact hPc, hDc.weaken (fun k q _ h => hAb _ h)⟩⟩ rfl rfl hl.1 rfl (lv_room (Nat.le_of_ble_eq_true rfl)) dX6_take_107 ⟨Nat.le_of_ble_eq_true rfl, Nat.le_of_ble_eq_true rfl⟩) hS (fun q _ h => hFc q h) hFc (fun u9 t9 H1 locs ht9 hvm9 hw9 hB9 hz9 hk9 hS => ?_)
  obtain ⟨q1, q2, q3, hP1, hD1⟩ := hB9
  rw [ht9] at hP1
  obtain ⟨hP, hD⟩ := va_join (wr := []) (w1 := [(ty, .inr (7, [.int ba, .int ((co + 1)), .int ((su + bs)), .int bs, .int bs, .int bs, .int ((op + 1)), .int ((os + bs)), .int (fl + 1), .ref li])), (q1, .inr (1, [.ref q2])), (li, .inr (0, [.int (0 + 1), .ref q3, .int (0 + 1)])), (q3, .inl (c2, 10, .inr (.inr (.inr (.inr (va_up (fun _ => none) (0 : Int32).toNatClampNeg (some q1))))))), (q2, .inl (c0, 512, .inl (upd (fun _ => 0) ((fl - fl / 512 * 512)).toNatClampNeg ((os + bs)))))]) hP hD [0, 1] [] rfl rfl (by decide) (by decide) hk9 hFc hP1 hD1
  generalize H1 = H at hP hS ⊢
  have hP : va_P D vwCl [(ty, .inr (7, [.int ba, .int ((co + 1)), .int ((su + bs)), .int bs, .int bs, .int bs, .int ((op + 1)), .int ((os + bs)), .int (fl + 1), .ref li])), (q1, .inr (1, [.ref q2])), (li, .inr (0, [.int (0 + 1), .ref q3, .int (0 + 1)])), (q3, .inl (c2, 10, .inr (.inr (.inr (.inr (va_up (fun _ => none) (0 : Int32).toNatClampNeg (some q1))))))), (q2, .inl (c0, 512, .inl (upd (fun _ => 0) ((fl - fl / 512 * 512)).toNatClampNeg ((os + bs)))))] H := hP
  have hD : va_D A [(ty, .inr (7, [.int ba, .int ((co + 1)), .int ((su + bs)), .int bs, .int bs, .int bs, .int ((op + 1)), .int ((os + bs)), .int (fl + 1), .ref li])), (q1, .inr (1, [.ref q2])), (li, .inr (0, [.int (0 + 1), .ref q3, .int (0 + 1)])), (q3, .inl (c2, 10, .inr (.inr (.inr (.inr (va_up (fun _ => none) (0 : Int32).toNatClampNeg (some q1))))))), (q2, .inl (c0, 512, .inl (upd (fun _ => 0) ((fl - fl / 512 * 512)).toNatClampNeg ((os + bs)))))] := hD
  refine lv_aload_n hx hb dX6_take_110 rfl (lv_at hl 0 rfl) ?_
  refine lv_iconst (v := 0) hx hb dX6_take_111 (by decide) ?_
  refine va_put (D := D) (ci := 7) (v := .int 0) (ty := .int) hx hb hts i_X6 tyX6 tyX6_ok nmX6 hown hT.1 hP hD hS 0 rfl rfl 6 (by decide) (hts _ q1036) (fun _ h9 => h9) rfl (by decide +kernel) rfl rfl (Nat.le_of_ble_eq_true rfl) dX6_take_112 (fun H locs hP hD hS => ?_)
  have hP : va_P D vwCl [(ty, .inr (7, [.int ba, .int ((co + 1)), .int ((su + bs)), .int bs, .int bs, .int bs, .int 0, .int ((os + bs)), .int (fl + 1), .ref li])), (q1, .inr (1, [.ref q2])), (li, .inr (0, [.int (0 + 1), .ref q3, .int (0 + 1)])), (q3, .inl (c2, 10, .inr (.inr (.inr (.inr (va_up (fun _ => none) (0 : Int32).toNatClampNeg (some q1))))))), (q2, .inl (c0, 512, .inl (upd (fun _ => 0) ((fl - fl / 512 * 512)).toNatClampNeg ((os + bs)))))] H := hP
  have hD : va_D A [(ty, .inr (7, [.int ba, .int ((co + 1)), .int ((su + bs)), .int bs, .int bs, .int bs, .int 0, .int ((os + bs)), .int (fl + 1), .ref li])), (q1, .inr (1, [.ref q2])), (li, .inr (0, [.int (0 + 1), .ref q3, .int (0 + 1)])), (q3, .inl (c2, 10, .inr (.inr (.inr (.inr (va_up (fun _ => none) (0 : Int32).toNatClampNeg (some q1))))))), (q2, .inl (c0, 512, .inl (upd (fun _ => 0) ((fl - fl / 512 * 512)).toNatClampNeg ((os + bs)))))] := hD
  refine lv_aload_n hx hb dX6_take_115 rfl (lv_at hl 0 rfl) ?_
  refine lv_iconst (v := 0) hx hb dX6_take_116 (by decide) ?_
  refine va_put (D := D) (ci := 7) (v := .int 0) (ty := .int) hx hb hts i_X6 tyX6 tyX6_ok nmX6 hown hT.1 hP hD hS 0 rfl rfl 7 (by decide) (hts _ q1037) (fun _ h9 => h9) rfl (by decide +kernel) rfl rfl (Nat.le_of_ble_eq_true rfl) dX6_take_117 (fun H locs hP hD hS => ?_)
  have hP : va_P D vwCl [(ty, .inr (7, [.int ba, .int ((co + 1)), .int ((su + bs)), .int bs, .int bs, .int bs, .int 0, .int 0, .int (fl + 1), .ref li])), (q1, .inr (1, [.ref q2])), (li, .inr (0, [.int (0 + 1), .ref q3, .int (0 + 1)])), (q3, .inl (c2, 10, .inr (.inr (.inr (.inr (va_up (fun _ => none) (0 : Int32).toNatClampNeg (some q1))))))), (q2, .inl (c0, 512, .inl (upd (fun _ => 0) ((fl - fl / 512 * 512)).toNatClampNeg ((os + bs)))))] H := hP
  have hD : va_D A [(ty, .inr (7, [.int ba, .int ((co + 1)), .int ((su + bs)), .int bs, .int bs, .int bs, .int 0, .int 0, .int (fl + 1), .ref li])), (q1, .inr (1, [.ref q2])), (li, .inr (0, [.int (0 + 1), .ref q3, .int (0 + 1)])), (q3, .inl (c2, 10, .inr (.inr (.inr (.inr (va_up (fun _ => none) (0 : Int32).toNatClampNeg (some q1))))))), (q2, .inl (c0, 512, .inl (upd (fun _ => 0) ((fl - fl / 512 * 512)).toNatClampNeg ((os + bs)))))] := hD
  have hP9 := hP.sub (ws' := [(ty, .inr (7, [.int ba, .int ((co + 1)), .int ((su + bs)), .int bs, .int bs, .int bs, .int 0, .int 0, .int (fl + 1), .ref li])), (q1, .inr (1, [.ref q2])), (li, .inr (0, [.int (0 + 1), .ref q3, .int (0 + 1)])), (q3, .inl (c2, 10, .inr (.inr (.inr (.inr (va_up (fun _ => none) (0 : Int32).toNatClampNeg (some q1))))))), (q2, .inl (c0, 512, .inl (upd (fun _ => 0) ((fl - fl / 512 * 512)).toNatClampNeg ((os + bs)))))]) [0, 1, 2, 3, 4] rfl
  have hD9 := hD.sub (ws' := [(ty, .inr (7, [.int ba, .int ((co + 1)), .int ((su + bs)), .int bs, .int bs, .int bs, .int 0, .int 0, .int (fl + 1), .ref li])), (q1, .inr (1, [.ref q2])), (li, .inr (0, [.int (0 + 1), .ref q3, .int (0 + 1)])), (q3, .inl (c2, 10, .inr (.inr (.inr (.inr (va_up (fun _ => none) (0 : Int32).toNatClampNeg (some q1))))))), (q2, .inl (c0, 512, .inl (upd (fun _ => 0) ((fl - fl / 512 * 512)).toNatClampNeg ((os + bs)))))]) [0, 1, 2, 3, 4] (by decide) rfl
  exact W.vret hx hb hr (fun t9 ht hW => ⟨⟨(), rfl, trivial, q1, q2, q3, by rw [ht]; exact hP9, hD9⟩, hS.F ht⟩) hS.2.2 dX6_take_120
set_option maxHeartbeats 4000000 in
set_option maxRecDepth 100000 in
theorem x_X6_take_01 (l : Launch) {D : va_G} {tys : List (ClassId × FieldType)} {z b : Nat} {k0 k2 : Nat} {c0 c2 : ClassId} (h0 : tys[k0]? = some (c0, .int)) (h2 : tys[k2]? = some (c2, .object "java/lang/Object")) (ty li : Nat) (ba co su le gr la op os fl bs : Int32) (e n : Nat) (f : Nat → Option Nat) (hn0 : ¬ nI n = 0) (hn : n < 10) (h5 : ¬ fl < nI n * 512) (hco : co = 0) (hop : ¬ op + 1 < ba) (hfl : fl < 8192000) (hset : ¬ fl - fl / 512 * 512 < 0 ∧ ¬ (512 : Int32) ≤ fl - fl / 512 * 512 ∧ vp_in (fl - fl / 512 * 512) 512) (sz : Nat) : Met l yX6_take (ws_ yX6_take cX6_take 2 none) (rm_ 6 133 3 523) (Xe D tys z b c2 [.ref ty, .int bs] (fun H9 => H9.size = sz) [(ty, .inr (7, [.int ba, .int co, .int su, .int le, .int gr, .int la, .int op, .int os, .int fl, .ref li])), (li, .inr (0, [.int (nI n), .ref e, .int (nI n)])), (e, .inl (c2, 10, .inr (.inr (.inr (.inr f)))))]) (va_Qv (fun _ : Unit => True) (fun _ t => ∃ (q1 q2 : Nat), va_P D vwCl [(ty, .inr (7, [.int ba, .int ((co + 1)), .int ((su + bs)), .int bs, .int bs, .int bs, .int 0, .int 0, .int (fl + 1), .ref li])), (q1, .inr (1, [.ref q2])), (li, .inr (0, [.int (((nI n)) + 1), .ref e, .int (nI n + 1)])), (e, .inl (c2, 10, .inr (.inr (.inr (.inr (va_up f (nI n).toNatClampNeg (some q1))))))), (q2, .inl (c0, 512, .inl (upd (fun _ => 0) ((fl - fl / 512 * 512)).toNatClampNeg ((os + bs)))))] t.heap ∧ va_D (va_A [(ty, .inr (7, [.int ba, .int co, .int su, .int le, .int gr, .int la, .int op, .int os, .int fl, .ref li])), (li, .inr (0, [.int (nI n), .ref e, .int (nI n)])), (e, .inl (c2, 10, .inr (.inr (.inr (.inr f)))))] sz) [(ty, .inr (7, [.int ba, .int ((co + 1)), .int ((su + bs)), .int bs, .int bs, .int bs, .int 0, .int 0, .int (fl + 1), .ref li])), (q1, .inr (1, [.ref q2])), (li, .inr (0, [.int (((nI n)) + 1), .ref e, .int (nI n + 1)])), (e, .inl (c2, 10, .inr (.inr (.inr (.inr (va_up f (nI n).toNatClampNeg (some q1))))))), (q2, .inl (c0, 512, .inl (upd (fun _ => 0) ((fl - fl / 512 * 512)).toNatClampNeg ((os + bs)))))]) (va_A [(ty, .inr (7, [.int ba, .int co, .int su, .int le, .int gr, .int la, .int op, .int os, .int fl, .ref li])), (li, .inr (0, [.int (nI n), .ref e, .int (nI n)])), (e, .inl (c2, 10, .inr (.inr (.inr (.inr f)))))] sz)) 3 523 (va_A [(ty, .inr (7, [.int ba, .int co, .int su, .int le, .int gr, .int la, .int op, .int os, .int fl, .ref li])), (li, .inr (0, [.int (nI n), .ref e, .int (nI n)])), (e, .inl (c2, 10, .inr (.inr (.inr (.inr f)))))] sz) := by
  refine Met.ofW (cc := cX6_take) (maxL := 2) (ret := none) (by decide) rfl ?_
  intro p e9 s m args below meth c s₁ B hml hv
  obtain ⟨rfl, ⟨hT, hE⟩, hsz, hP, hD0⟩ := hv
  have hx := B.exec
  have hb := B.bytes
  have hr := B.returns
  have hts : ∀ w ∈ lw_all, w.before _ s = true := fun w h => atoms_spec (ws := (ws_ yX6_take cX6_take 2 none)) B.pre w (List.mem_cons_of_mem _ h)
  have hown : s.vm.findClass RX6 = some m.cls := findClass_of_methodNamed B.named
  have hlocks := B.notSynchronized
  subst hsz
  have hD := hD0.self (sz := s.heap.size)
  have hAb : ∀ q, va_A [(ty, .inr (7, [.int ba, .int co, .int su, .int le, .int gr, .int la, .int op, .int os, .int fl, .ref li])), (li, .inr (0, [.int (nI n), .ref e, .int (nI n)])), (e, .inl (c2, 10, .inr (.inr (.inr (.inr f)))))] s.heap.size q → b ≤ q := fun q h => h.elim (fun ⟨k, e, h⟩ => hD0.2 k _ h) (fun h => Nat.le_trans hE.2.2.1 h)
  generalize hAe : va_A [(ty, .inr (7, [.int ba, .int co, .int su, .int le, .int gr, .int la, .int op, .int os, .int fl, .ref li])), (li, .inr (0, [.int (nI n), .ref e, .int (nI n)])), (e, .inl (c2, 10, .inr (.inr (.inr (.inr f)))))] s.heap.size = A at hD hAb ⊢
  have hA : ∀ q : Nat, s.heap.size ≤ q → A q := fun q h => by rw [← hAe]; exact Or.inr h
  have hS : va_S A s.heap s.heap [] := va_S.rf
  have hZ := hE.1.narrow hAb
  have hE0 := fun (H9 : Heap) (l9 : List Loc) (h9 : va_S A s.heap H9 l9) => Em.row hE h9 hAb
  obtain ⟨H, hHe⟩ : ∃ H : Heap, H = s.heap := ⟨_, rfl⟩
  have hP : va_P D vwCl [(ty, .inr (7, [.int ba, .int co, .int su, .int le, .int gr, .int la, .int op, .int os, .int fl, .ref li])), (li, .inr (0, [.int (nI n), .ref e, .int (nI n)])), (e, .inl (c2, 10, .inr (.inr (.inr (.inr f)))))] s.heap := hP
  have hl := lv_entry ([.ref ty, .int bs]) (n := 2) (Nat.le_of_ble_eq_true rfl)
  rw [lg_entry_eq]
  generalize (lg_sl ([.ref ty, .int bs]) ++ List.replicate (2 - (lg_sl ([.ref ty, .int bs])).length) Slot.unset).toArray = ls at hl ⊢
  have hl : lv_has ls 2 [(0, .ref ty), (1, .int bs)] := hl
  clear hHe H
  refine lv_aload_n hx hb dX6_take_0 rfl (lv_at hl 0 rfl) ?_
  refine lv_aload_n hx hb dX6_take_1 rfl (lv_at hl 0 rfl) ?_
  refine va_get hx hb hts i_X6 hown hT.1 hP 0 rfl rfl 1 (by decide) (hts _ q1026) (fun _ h9 => h9) rfl dX6_take_2 ?_
  refine lv_if_ne (tgt := 12) hx hb dX6_take_5 (by decide) (fun h9 => absurd hco h9) (fun _ => ?_)
  refine lv_iload_n hx hb dX6_take_8 rfl (lv_at hl 1 rfl) ?_
  refine lv_goto (tgt := 20) hx hb dX6_take_9 (by decide) ?_
  refine va_put (D := D) (ci := 7) (v := .int bs) (ty := .int) hx hb hts i_X6 tyX6 tyX6_ok nmX6 hown hT.1 hP hD hS 0 rfl rfl 3 (by decide) (hts _ q1030) (fun _ h9 => h9) rfl (by decide +kernel) rfl rfl (Nat.le_of_ble_eq_true rfl) dX6_take_20 (fun H locs hP hD hS => ?_)
  have hP : va_P D vwCl [(ty, .inr (7, [.int ba, .int co, .int su, .int bs, .int gr, .int la, .int op, .int os, .int fl, .ref li])), (li, .inr (0, [.int (nI n), .ref e, .int (nI n)])), (e, .inl (c2, 10, .inr (.inr (.inr (.inr f)))))] H := hP
  have hD : va_D A [(ty, .inr (7, [.int ba, .int co, .int su, .int bs, .int gr, .int la, .int op, .int os, .int fl, .ref li])), (li, .inr (0, [.int (nI n), .ref e, .int (nI n)])), (e, .inl (c2, 10, .inr (.inr (.inr (.inr f)))))] := hD
  refine lv_aload_n hx hb dX6_take_23 rfl (lv_at hl 0 rfl) ?_
  refine lv_aload_n hx hb dX6_take_24 rfl (lv_at hl 0 rfl) ?_
  refine va_get hx hb hts i_X6 hown hT.1 hP 0 rfl rfl 1 (by decide) (hts _ q1026) (fun _ h9 => h9) rfl dX6_take_25 ?_
  refine lv_if_ne (tgt := 35) hx hb dX6_take_28 (by decide) (fun h9 => absurd hco h9) (fun _ => ?_)
  refine lv_iload_n hx hb dX6_take_31 rfl (lv_at hl 1 rfl) ?_
  refine lv_goto (tgt := 43) hx hb dX6_take_32 (by decide) ?_
  refine va_put (D := D) (ci := 7) (v := .int bs) (ty := .int) hx hb hts i_X6 tyX6 tyX6_ok nmX6 hown hT.1 hP hD hS 0 rfl rfl 4 (by decide) (hts _ q1032) (fun _ h9 => h9) rfl (by decide +kernel) rfl rfl (Nat.le_of_ble_eq_true rfl) dX6_take_43 (fun H locs hP hD hS => ?_)
  have hP : va_P D vwCl [(ty, .inr (7, [.int ba, .int co, .int su, .int bs, .int bs, .int la, .int op, .int os, .int fl, .ref li])), (li, .inr (0, [.int (nI n), .ref e, .int (nI n)])), (e, .inl (c2, 10, .inr (.inr (.inr (.inr f)))))] H := hP
  have hD : va_D A [(ty, .inr (7, [.int ba, .int co, .int su, .int bs, .int bs, .int la, .int op, .int os, .int fl, .ref li])), (li, .inr (0, [.int (nI n), .ref e, .int (nI n)])), (e, .inl (c2, 10, .inr (.inr (.inr (.inr f)))))] := hD
  refine lv_aload_n hx hb dX6_take_46 rfl (lv_at hl 0 rfl) ?_
  refine lv_iload_n hx hb dX6_take_47 rfl (lv_at hl 1 rfl) ?_
  refine va_put (D := D) (ci := 7) (v := .int bs) (ty := .int) hx hb hts i_X6 tyX6 tyX6_ok nmX6 hown hT.1 hP hD hS 0 rfl rfl 5 (by decide) (hts _ q1034) (fun _ h9 => h9) rfl (by decide +kernel) rfl rfl (Nat.le_of_ble_eq_true rfl) dX6_take_48 (fun H locs hP hD hS => ?_)
  have hP : va_P D vwCl [(ty, .inr (7, [.int ba, .int co, .int su, .int bs, .int bs, .int bs, .int op, .int os, .int fl, .ref li])), (li, .inr (0, [.int (nI n), .ref e, .int (nI n)])), (e, .inl (c2, 10, .inr (.inr (.inr (.inr f)))))] H := hP
  have hD : va_D A [(ty, .inr (7, [.int ba, .int co, .int su, .int bs, .int bs, .int bs, .int op, .int os, .int fl, .ref li])), (li, .inr (0, [.int (nI n), .ref e, .int (nI n)])), (e, .inl (c2, 10, .inr (.inr (.inr (.inr f)))))] := hD
  refine lv_aload_n hx hb dX6_take_51 rfl (lv_at hl 0 rfl) ?_
  refine lv_dup hx hb dX6_take_52 rfl ?_
  refine va_get hx hb hts i_X6 hown hT.1 hP 0 rfl rfl 2 (by decide) (hts _ q1028) (fun _ h9 => h9) rfl dX6_take_53 ?_
  refine lv_iload_n hx hb dX6_take_56 rfl (lv_at hl 1 rfl) ?_
  refine lv_iadd hx hb dX6_take_57 ?_
  refine va_put (D := D) (ci := 7) (v := .int (su + bs)) (ty := .int) hx hb hts i_X6 tyX6 tyX6_ok nmX6 hown hT.1 hP hD hS 0 rfl rfl 2 (by decide) (hts _ q1028) (fun _ h9 => h9) rfl (by decide +kernel) rfl rfl (Nat.le_of_ble_eq_true rfl) dX6_take_58 (fun H locs hP hD hS => ?_)
  have hP : va_P D vwCl [(ty, .inr (7, [.int ba, .int co, .int (su + bs), .int bs, .int bs, .int bs, .int op, .int os, .int fl, .ref li])), (li, .inr (0, [.int (nI n), .ref e, .int (nI n)])), (e, .inl (c2, 10, .inr (.inr (.inr (.inr f)))))] H := hP
  have hD : va_D A [(ty, .inr (7, [.int ba, .int co, .int (su + bs), .int bs, .int bs, .int bs, .int op, .int os, .int fl, .ref li])), (li, .inr (0, [.int (nI n), .ref e, .int (nI n)])), (e, .inl (c2, 10, .inr (.inr (.inr (.inr f)))))] := hD
  refine lv_aload_n hx hb dX6_take_61 rfl (lv_at hl 0 rfl) ?_
  refine lv_dup hx hb dX6_take_62 rfl ?_
  refine va_get hx hb hts i_X6 hown hT.1 hP 0 rfl rfl 1 (by decide) (hts _ q1026) (fun _ h9 => h9) rfl dX6_take_63 ?_
  refine lv_iconst (v := 1) hx hb dX6_take_66 (by decide) ?_
  refine lv_iadd hx hb dX6_take_67 ?_
  refine va_put (D := D) (ci := 7) (v := .int (co + 1)) (ty := .int) hx hb hts i_X6 tyX6 tyX6_ok nmX6 hown hT.1 hP hD hS 0 rfl rfl 1 (by decide) (hts _ q1026) (fun _ h9 => h9) rfl (by decide +kernel) rfl rfl (Nat.le_of_ble_eq_true rfl) dX6_take_68 (fun H locs hP hD hS => ?_)
  have hP : va_P D vwCl [(ty, .inr (7, [.int ba, .int (co + 1), .int (su + bs), .int bs, .int bs, .int bs, .int op, .int os, .int fl, .ref li])), (li, .inr (0, [.int (nI n), .ref e, .int (nI n)])), (e, .inl (c2, 10, .inr (.inr (.inr (.inr f)))))] H := hP
  have hD : va_D A [(ty, .inr (7, [.int ba, .int (co + 1), .int (su + bs), .int bs, .int bs, .int bs, .int op, .int os, .int fl, .ref li])), (li, .inr (0, [.int (nI n), .ref e, .int (nI n)])), (e, .inl (c2, 10, .inr (.inr (.inr (.inr f)))))] := hD
  refine lv_aload_n hx hb dX6_take_71 rfl (lv_at hl 0 rfl) ?_
  refine lv_dup hx hb dX6_take_72 rfl ?_
  refine va_get hx hb hts i_X6 hown hT.1 hP 0 rfl rfl 6 (by decide) (hts _ q1036) (fun _ h9 => h9) rfl dX6_take_73 ?_
  refine lv_iconst (v := 1) hx hb dX6_take_76 (by decide) ?_
  refine lv_iadd hx hb dX6_take_77 ?_
  refine va_put (D := D) (ci := 7) (v := .int (op + 1)) (ty := .int) hx hb hts i_X6 tyX6 tyX6_ok nmX6 hown hT.1 hP hD hS 0 rfl rfl 6 (by decide) (hts _ q1036) (fun _ h9 => h9) rfl (by decide +kernel) rfl rfl (Nat.le_of_ble_eq_true rfl) dX6_take_78 (fun H locs hP hD hS => ?_)
  have hP : va_P D vwCl [(ty, .inr (7, [.int ba, .int (co + 1), .int (su + bs), .int bs, .int bs, .int bs, .int (op + 1), .int os, .int fl, .ref li])), (li, .inr (0, [.int (nI n), .ref e, .int (nI n)])), (e, .inl (c2, 10, .inr (.inr (.inr (.inr f)))))] H := hP
  have hD : va_D A [(ty, .inr (7, [.int ba, .int (co + 1), .int (su + bs), .int bs, .int bs, .int bs, .int (op + 1), .int os, .int fl, .ref li])), (li, .inr (0, [.int (nI n), .ref e, .int (nI n)])), (e, .inl (c2, 10, .inr (.inr (.inr (.inr f)))))] := hD
  refine lv_aload_n hx hb dX6_take_81 rfl (lv_at hl 0 rfl) ?_
  refine lv_dup hx hb dX6_take_82 rfl ?_
  refine va_get hx hb hts i_X6 hown hT.1 hP 0 rfl rfl 7 (by decide) (hts _ q1037) (fun _ h9 => h9) rfl dX6_take_83 ?_
  refine lv_iload_n hx hb dX6_take_86 rfl (lv_at hl 1 rfl) ?_
  refine lv_iadd hx hb dX6_take_87 ?_
  refine va_put (D := D) (ci := 7) (v := .int (os + bs)) (ty := .int) hx hb hts i_X6 tyX6 tyX6_ok nmX6 hown hT.1 hP hD hS 0 rfl rfl 7 (by decide) (hts _ q1037) (fun _ h9 => h9) rfl (by decide +kernel) rfl rfl (Nat.le_of_ble_eq_true rfl) dX6_take_88 (fun H locs hP hD hS => ?_)
  have hP : va_P D vwCl [(ty, .inr (7, [.int ba, .int (co + 1), .int (su + bs), .int bs, .int bs, .int bs, .int (op + 1), .int (os + bs), .int fl, .ref li])), (li, .inr (0, [.int (nI n), .ref e, .int (nI n)])), (e, .inl (c2, 10, .inr (.inr (.inr (.inr f)))))] H := hP
  have hD : va_D A [(ty, .inr (7, [.int ba, .int (co + 1), .int (su + bs), .int bs, .int bs, .int bs, .int (op + 1), .int (os + bs), .int fl, .ref li])), (li, .inr (0, [.int (nI n), .ref e, .int (nI n)])), (e, .inl (c2, 10, .inr (.inr (.inr (.inr f)))))] := hD
  refine lv_aload_n hx hb dX6_take_91 rfl (lv_at hl 0 rfl) ?_
  refine va_get hx hb hts i_X6 hown hT.1 hP 0 rfl rfl 6 (by decide) (hts _ q1036) (fun _ h9 => h9) rfl dX6_take_92 ?_
  refine lv_aload_n hx hb dX6_take_95 rfl (lv_at hl 0 rfl) ?_
  refine va_get hx hb hts i_X6 hown hT.1 hP 0 rfl rfl 0 (by decide) (hts _ q1025) (fun _ h9 => h9) rfl dX6_take_96 ?_
  refine lv_icmp_lt (tgt := 120) hx hb dX6_take_99 (by decide) (fun h9 => absurd h9 hop) (fun _ => ?_)
  refine lv_aload_n hx hb dX6_take_102 rfl (lv_at hl 0 rfl) ?_
  refine lv_aload_n hx hb dX6_take_103 rfl (lv_at hl 0 rfl) ?_
  refine va_get hx hb hts i_X6 hown hT.1 hP 0 rfl rfl 7 (by decide) (hts _ q1037) (fun _ h9 => h9) rfl dX6_take_104 ?_
  have hPc := hP.sub (ws' := [(ty, .inr (7, [.int ba, .int (co + 1), .int (su + bs), .int bs, .int bs, .int bs, .int (op + 1), .int (os + bs), .int fl, .ref li])), (li, .inr (0, [.int (nI n), .ref e, .int (nI n)])), (e, .inl (c2, 10, .inr (.inr (.inr (.inr f)))))]) [0, 1, 2] rfl
  have hDc := hD.sub (ws' := [(ty, .inr (7, [.int ba, .int (co + 1), .int (su + bs), .int bs, .int bs, .int bs, .int (op + 1), .int (os + bs), .int fl, .ref li])), (li, .inr (0, [.int (nI n), .ref e, .int (nI n)])), (e, .inl (c2, 10, .inr (.inr (.inr (.inr f)))))]) [0, 1, 2] (by decide) rfl
  have hFc := va_free (wc := [(ty, .inr (7, [.int ba, .int (co + 1), .int (su + bs), .int bs, .int bs, .int bs, .int (op + 1), .int (os + bs), .int fl, .ref li])), (li, .inr (0, [.int (nI n), .ref e, .int (nI n)])), (e, .inl (c2, 10, .inr (.inr (.inr (.inr f)))))]) hD hS hA [0, 1, 2] rfl
  refine va_callv (va_runV (As := [.int (os + bs)]) (rest := []) ⟨hx, hb, hml, hown, hts⟩ (x_X6_keep1 l h0 h2 ty li ba ((co + 1)) ((su + bs)) bs bs bs ((op + 1)) ((os + bs)) fl ((os + bs)) e n f hn0 hn h5 hfl hset H.size) (cwV 1 hts (gd_V q541 q543 q19 q54 q545) rfl rfl rfl hd_X6_keep ⟨Nat.le_of_ble_eq_true rfl, Nat.le_of_ble_eq_true rfl⟩) ⟨Xe.blind, va_recv (q0 := 0) hT.1 hP rfl rfl, fun U hU hW => ⟨rfl, Xe.warm hW hT hE hS hAb hU, by show U.heap.size = _; rw [hU], by rw [hU]; exact hPc, hDc.weaken (fun k q _ h => hAb _ h)⟩⟩ rfl rfl hl.1 rfl (lv_room (Nat.le_of_ble_eq_true rfl)) dX6_take_107 ⟨Nat.le_of_ble_eq_true rfl, Nat.le_of_ble_eq_true rfl⟩) hS (fun q _ h => hFc q h) hFc (fun u9 t9 H1 locs ht9 hvm9 hw9 hB9 hz9 hk9 hS => ?_)
  obtain ⟨q1, q2, hP1, hD1⟩ := hB9
  rw [ht9] at hP1
  obtain ⟨hP, hD⟩ := va_join (wr := []) (w1 := [(ty, .inr (7, [.int ba, .int ((co + 1)), .int ((su + bs)), .int bs, .int bs, .int bs, .int ((op + 1)), .int ((os + bs)), .int (fl + 1), .ref li])), (q1, .inr (1, [.ref q2])), (li, .inr (0, [.int (((nI n)) + 1), .ref e, .int (nI n + 1)])), (e, .inl (c2, 10, .inr (.inr (.inr (.inr (va_up f (nI n).toNatClampNeg (some q1))))))), (q2, .inl (c0, 512, .inl (upd (fun _ => 0) ((fl - fl / 512 * 512)).toNatClampNeg ((os + bs)))))]) hP hD [0, 1, 2] [] rfl rfl (by decide) (by decide) hk9 hFc hP1 hD1
  generalize H1 = H at hP hS ⊢
  have hP : va_P D vwCl [(ty, .inr (7, [.int ba, .int ((co + 1)), .int ((su + bs)), .int bs, .int bs, .int bs, .int ((op + 1)), .int ((os + bs)), .int (fl + 1), .ref li])), (q1, .inr (1, [.ref q2])), (li, .inr (0, [.int (((nI n)) + 1), .ref e, .int (nI n + 1)])), (e, .inl (c2, 10, .inr (.inr (.inr (.inr (va_up f (nI n).toNatClampNeg (some q1))))))), (q2, .inl (c0, 512, .inl (upd (fun _ => 0) ((fl - fl / 512 * 512)).toNatClampNeg ((os + bs)))))] H := hP
  have hD : va_D A [(ty, .inr (7, [.int ba, .int ((co + 1)), .int ((su + bs)), .int bs, .int bs, .int bs, .int ((op + 1)), .int ((os + bs)), .int (fl + 1), .ref li])), (q1, .inr (1, [.ref q2])), (li, .inr (0, [.int (((nI n)) + 1), .ref e, .int (nI n + 1)])), (e, .inl (c2, 10, .inr (.inr (.inr (.inr (va_up f (nI n).toNatClampNeg (some q1))))))), (q2, .inl (c0, 512, .inl (upd (fun _ => 0) ((fl - fl / 512 * 512)).toNatClampNeg ((os + bs)))))] := hD
  refine lv_aload_n hx hb dX6_take_110 rfl (lv_at hl 0 rfl) ?_
  refine lv_iconst (v := 0) hx hb dX6_take_111 (by decide) ?_
  refine va_put (D := D) (ci := 7) (v := .int 0) (ty := .int) hx hb hts i_X6 tyX6 tyX6_ok nmX6 hown hT.1 hP hD hS 0 rfl rfl 6 (by decide) (hts _ q1036) (fun _ h9 => h9) rfl (by decide +kernel) rfl rfl (Nat.le_of_ble_eq_true rfl) dX6_take_112 (fun H locs hP hD hS => ?_)
  have hP : va_P D vwCl [(ty, .inr (7, [.int ba, .int ((co + 1)), .int ((su + bs)), .int bs, .int bs, .int bs, .int 0, .int ((os + bs)), .int (fl + 1), .ref li])), (q1, .inr (1, [.ref q2])), (li, .inr (0, [.int (((nI n)) + 1), .ref e, .int (nI n + 1)])), (e, .inl (c2, 10, .inr (.inr (.inr (.inr (va_up f (nI n).toNatClampNeg (some q1))))))), (q2, .inl (c0, 512, .inl (upd (fun _ => 0) ((fl - fl / 512 * 512)).toNatClampNeg ((os + bs)))))] H := hP
  have hD : va_D A [(ty, .inr (7, [.int ba, .int ((co + 1)), .int ((su + bs)), .int bs, .int bs, .int bs, .int 0, .int ((os + bs)), .int (fl + 1), .ref li])), (q1, .inr (1, [.ref q2])), (li, .inr (0, [.int (((nI n)) + 1), .ref e, .int (nI n + 1)])), (e, .inl (c2, 10, .inr (.inr (.inr (.inr (va_up f (nI n).toNatClampNeg (some q1))))))), (q2, .inl (c0, 512, .inl (upd (fun _ => 0) ((fl - fl / 512 * 512)).toNatClampNeg ((os + bs)))))] := hD
  refine lv_aload_n hx hb dX6_take_115 rfl (lv_at hl 0 rfl) ?_
  refine lv_iconst (v := 0) hx hb dX6_take_116 (by decide) ?_
  refine va_put (D := D) (ci := 7) (v := .int 0) (ty := .int) hx hb hts i_X6 tyX6 tyX6_ok nmX6 hown hT.1 hP hD hS 0 rfl rfl 7 (by decide) (hts _ q1037) (fun _ h9 => h9) rfl (by decide +kernel) rfl rfl (Nat.le_of_ble_eq_true rfl) dX6_take_117 (fun H locs hP hD hS => ?_)
  have hP : va_P D vwCl [(ty, .inr (7, [.int ba, .int ((co + 1)), .int ((su + bs)), .int bs, .int bs, .int bs, .int 0, .int 0, .int (fl + 1), .ref li])), (q1, .inr (1, [.ref q2])), (li, .inr (0, [.int (((nI n)) + 1), .ref e, .int (nI n + 1)])), (e, .inl (c2, 10, .inr (.inr (.inr (.inr (va_up f (nI n).toNatClampNeg (some q1))))))), (q2, .inl (c0, 512, .inl (upd (fun _ => 0) ((fl - fl / 512 * 512)).toNatClampNeg ((os + bs)))))] H := hP
  have hD : va_D A [(ty, .inr (7, [.int ba, .int ((co + 1)), .int ((su + bs)), .int bs, .int bs, .int bs, .int 0, .int 0, .int (fl + 1), .ref li])), (q1, .inr (1, [.ref q2])), (li, .inr (0, [.int (((nI n)) + 1), .ref e, .int (nI n + 1)])), (e, .inl (c2, 10, .inr (.inr (.inr (.inr (va_up f (nI n).toNatClampNeg (some q1))))))), (q2, .inl (c0, 512, .inl (upd (fun _ => 0) ((fl - fl / 512 * 512)).toNatClampNeg ((os + bs)))))] := hD
  have hP9 := hP.sub (ws' := [(ty, .inr (7, [.int ba, .int ((co + 1)), .int ((su + bs)), .int bs, .int bs, .int bs, .int 0, .int 0, .int (fl + 1), .ref li])), (q1, .inr (1, [.ref q2])), (li, .inr (0, [.int (((nI n)) + 1), .ref e, .int (nI n + 1)])), (e, .inl (c2, 10, .inr (.inr (.inr (.inr (va_up f (nI n).toNatClampNeg (some q1))))))), (q2, .inl (c0, 512, .inl (upd (fun _ => 0) ((fl - fl / 512 * 512)).toNatClampNeg ((os + bs)))))]) [0, 1, 2, 3, 4] rfl
  have hD9 := hD.sub (ws' := [(ty, .inr (7, [.int ba, .int ((co + 1)), .int ((su + bs)), .int bs, .int bs, .int bs, .int 0, .int 0, .int (fl + 1), .ref li])), (q1, .inr (1, [.ref q2])), (li, .inr (0, [.int (((nI n)) + 1), .ref e, .int (nI n + 1)])), (e, .inl (c2, 10, .inr (.inr (.inr (.inr (va_up f (nI n).toNatClampNeg (some q1))))))), (q2, .inl (c0, 512, .inl (upd (fun _ => 0) ((fl - fl / 512 * 512)).toNatClampNeg ((os + bs)))))]) [0, 1, 2, 3, 4] (by decide) rfl
  exact W.vret hx hb hr (fun t9 ht hW => ⟨⟨(), rfl, trivial, q1, q2, by rw [ht]; exact hP9, hD9⟩, hS.F ht⟩) hS.2.2 dX6_take_120
set_option maxHeartbeats 4000000 in
set_option maxRecDepth 100000 in
theorem x_X6_take_02 (l : Launch) {D : va_G} {tys : List (ClassId × FieldType)} {z b : Nat} {k0 k2 : Nat} {c0 c2 : ClassId} (h0 : tys[k0]? = some (c0, .int)) (h2 : tys[k2]? = some (c2, .object "java/lang/Object")) (ty li : Nat) (ba co su le gr la op os fl bs : Int32) (e n ch sm : Nat) (f : Nat → Option Nat) (w : Nat → Int32) (hn0 : ¬ nI n = 0) (hn : n ≤ 10) (h5 : fl < nI n * 512) (hc : f (nI n - 1).toNatClampNeg = some ch) (hco : co = 0) (hop : ¬ op + 1 < ba) (hfl : fl < 8192000) (hset : ¬ fl - fl / 512 * 512 < 0 ∧ ¬ (512 : Int32) ≤ fl - fl / 512 * 512 ∧ vp_in (fl - fl / 512 * 512) 512) (sz : Nat) : Met l yX6_take (ws_ yX6_take cX6_take 2 none) (rm_ 6 133 3 523) (Xe D tys z b c2 [.ref ty, .int bs] (fun H9 => H9.size = sz) [(ty, .inr (7, [.int ba, .int co, .int su, .int le, .int gr, .int la, .int op, .int os, .int fl, .ref li])), (li, .inr (0, [.int (nI n), .ref e, .int (nI n)])), (e, .inl (c2, 10, .inr (.inr (.inr (.inr f))))), (ch, .inr (1, [.ref sm])), (sm, .inl (c0, 512, .inl w))]) (va_Qv (fun _ : Unit => True) (fun _ t => va_P D vwCl [(ty, .inr (7, [.int ba, .int ((co + 1)), .int ((su + bs)), .int bs, .int bs, .int bs, .int 0, .int 0, .int (fl + 1), .ref li])), (ch, .inr (1, [.ref sm])), (li, .inr (0, [.int (nI n), .ref e, .int (nI n)])), (e, .inl (c2, 10, .inr (.inr (.inr (.inr f))))), (sm, .inl (c0, 512, .inl (upd w ((fl - fl / 512 * 512)).toNatClampNeg ((os + bs)))))] t.heap ∧ va_D (va_A [(ty, .inr (7, [.int ba, .int co, .int su, .int le, .int gr, .int la, .int op, .int os, .int fl, .ref li])), (li, .inr (0, [.int (nI n), .ref e, .int (nI n)])), (e, .inl (c2, 10, .inr (.inr (.inr (.inr f))))), (ch, .inr (1, [.ref sm])), (sm, .inl (c0, 512, .inl w))] sz) [(ty, .inr (7, [.int ba, .int ((co + 1)), .int ((su + bs)), .int bs, .int bs, .int bs, .int 0, .int 0, .int (fl + 1), .ref li])), (ch, .inr (1, [.ref sm])), (li, .inr (0, [.int (nI n), .ref e, .int (nI n)])), (e, .inl (c2, 10, .inr (.inr (.inr (.inr f))))), (sm, .inl (c0, 512, .inl (upd w ((fl - fl / 512 * 512)).toNatClampNeg ((os + bs)))))]) (va_A [(ty, .inr (7, [.int ba, .int co, .int su, .int le, .int gr, .int la, .int op, .int os, .int fl, .ref li])), (li, .inr (0, [.int (nI n), .ref e, .int (nI n)])), (e, .inl (c2, 10, .inr (.inr (.inr (.inr f))))), (ch, .inr (1, [.ref sm])), (sm, .inl (c0, 512, .inl w))] sz)) 3 523 (va_A [(ty, .inr (7, [.int ba, .int co, .int su, .int le, .int gr, .int la, .int op, .int os, .int fl, .ref li])), (li, .inr (0, [.int (nI n), .ref e, .int (nI n)])), (e, .inl (c2, 10, .inr (.inr (.inr (.inr f))))), (ch, .inr (1, [.ref sm])), (sm, .inl (c0, 512, .inl w))] sz) := by
  refine Met.ofW (cc := cX6_take) (maxL := 2) (ret := none) (by decide) rfl ?_
  intro p e9 s m args below meth c s₁ B hml hv
  obtain ⟨rfl, ⟨hT, hE⟩, hsz, hP, hD0⟩ := hv
  have hx := B.exec
  have hb := B.bytes
  have hr := B.returns
  have hts : ∀ w ∈ lw_all, w.before _ s = true := fun w h => atoms_spec (ws := (ws_ yX6_take cX6_take 2 none)) B.pre w (List.mem_cons_of_mem _ h)
  have hown : s.vm.findClass RX6 = some m.cls := findClass_of_methodNamed B.named
  have hlocks := B.notSynchronized
  subst hsz
  have hD := hD0.self (sz := s.heap.size)
  have hAb : ∀ q, va_A [(ty, .inr (7, [.int ba, .int co, .int su, .int le, .int gr, .int la, .int op, .int os, .int fl, .ref li])), (li, .inr (0, [.int (nI n), .ref e, .int (nI n)])), (e, .inl (c2, 10, .inr (.inr (.inr (.inr f))))), (ch, .inr (1, [.ref sm])), (sm, .inl (c0, 512, .inl w))] s.heap.size q → b ≤ q := fun q h => h.elim (fun ⟨k, e, h⟩ => hD0.2 k _ h) (fun h => Nat.le_trans hE.2.2.1 h)
  generalize hAe : va_A [(ty, .inr (7, [.int ba, .int co, .int su, .int le, .int gr, .int la, .int op, .int os, .int fl, .ref li])), (li, .inr (0, [.int (nI n), .ref e, .int (nI n)])), (e, .inl (c2, 10, .inr (.inr (.inr (.inr f))))), (ch, .inr (1, [.ref sm])), (sm, .inl (c0, 512, .inl w))] s.heap.size = A at hD hAb ⊢
  have hA : ∀ q : Nat, s.heap.size ≤ q → A q := fun q h => by rw [← hAe]; exact Or.inr h
  have hS : va_S A s.heap s.heap [] := va_S.rf
  have hZ := hE.1.narrow hAb
  have hE0 := fun (H9 : Heap) (l9 : List Loc) (h9 : va_S A s.heap H9 l9) => Em.row hE h9 hAb
  obtain ⟨H, hHe⟩ : ∃ H : Heap, H = s.heap := ⟨_, rfl⟩
  have hP : va_P D vwCl [(ty, .inr (7, [.int ba, .int co, .int su, .int le, .int gr, .int la, .int op, .int os, .int fl, .ref li])), (li, .inr (0, [.int (nI n), .ref e, .int (nI n)])), (e, .inl (c2, 10, .inr (.inr (.inr (.inr f))))), (ch, .inr (1, [.ref sm])), (sm, .inl (c0, 512, .inl w))] s.heap := hP
  have hl := lv_entry ([.ref ty, .int bs]) (n := 2) (Nat.le_of_ble_eq_true rfl)
  rw [lg_entry_eq]
  generalize (lg_sl ([.ref ty, .int bs]) ++ List.replicate (2 - (lg_sl ([.ref ty, .int bs])).length) Slot.unset).toArray = ls at hl ⊢
  have hl : lv_has ls 2 [(0, .ref ty), (1, .int bs)] := hl
  clear hHe H
  refine lv_aload_n hx hb dX6_take_0 rfl (lv_at hl 0 rfl) ?_
  refine lv_aload_n hx hb dX6_take_1 rfl (lv_at hl 0 rfl) ?_
  refine va_get hx hb hts i_X6 hown hT.1 hP 0 rfl rfl 1 (by decide) (hts _ q1026) (fun _ h9 => h9) rfl dX6_take_2 ?_
  refine lv_if_ne (tgt := 12) hx hb dX6_take_5 (by decide) (fun h9 => absurd hco h9) (fun _ => ?_)
  refine lv_iload_n hx hb dX6_take_8 rfl (lv_at hl 1 rfl) ?_
  refine lv_goto (tgt := 20) hx hb dX6_take_9 (by decide) ?_
  refine va_put (D := D) (ci := 7) (v := .int bs) (ty := .int) hx hb hts i_X6 tyX6 tyX6_ok nmX6 hown hT.1 hP hD hS 0 rfl rfl 3 (by decide) (hts _ q1030) (fun _ h9 => h9) rfl (by decide +kernel) rfl rfl (Nat.le_of_ble_eq_true rfl) dX6_take_20 (fun H locs hP hD hS => ?_)
  have hP : va_P D vwCl [(ty, .inr (7, [.int ba, .int co, .int su, .int bs, .int gr, .int la, .int op, .int os, .int fl, .ref li])), (li, .inr (0, [.int (nI n), .ref e, .int (nI n)])), (e, .inl (c2, 10, .inr (.inr (.inr (.inr f))))), (ch, .inr (1, [.ref sm])), (sm, .inl (c0, 512, .inl w))] H := hP
  have hD : va_D A [(ty, .inr (7, [.int ba, .int co, .int su, .int bs, .int gr, .int la, .int op, .int os, .int fl, .ref li])), (li, .inr (0, [.int (nI n), .ref e, .int (nI n)])), (e, .inl (c2, 10, .inr (.inr (.inr (.inr f))))), (ch, .inr (1, [.ref sm])), (sm, .inl (c0, 512, .inl w))] := hD
  refine lv_aload_n hx hb dX6_take_23 rfl (lv_at hl 0 rfl) ?_
  refine lv_aload_n hx hb dX6_take_24 rfl (lv_at hl 0 rfl) ?_
  refine va_get hx hb hts i_X6 hown hT.1 hP 0 rfl rfl 1 (by decide) (hts _ q1026) (fun _ h9 => h9) rfl dX6_take_25 ?_
  refine lv_if_ne (tgt := 35) hx hb dX6_take_28 (by decide) (fun h9 => absurd hco h9) (fun _ => ?_)
  refine lv_iload_n hx hb dX6_take_31 rfl (lv_at hl 1 rfl) ?_
  refine lv_goto (tgt := 43) hx hb dX6_take_32 (by decide) ?_
  refine va_put (D := D) (ci := 7) (v := .int bs) (ty := .int) hx hb hts i_X6 tyX6 tyX6_ok nmX6 hown hT.1 hP hD hS 0 rfl rfl 4 (by decide) (hts _ q1032) (fun _ h9 => h9) rfl (by decide +kernel) rfl rfl (Nat.le_of_ble_eq_true rfl) dX6_take_43 (fun H locs hP hD hS => ?_)
  have hP : va_P D vwCl [(ty, .inr (7, [.int ba, .int co, .int su, .int bs, .int bs, .int la, .int op, .int os, .int fl, .ref li])), (li, .inr (0, [.int (nI n), .ref e, .int (nI n)])), (e, .inl (c2, 10, .inr (.inr (.inr (.inr f))))), (ch, .inr (1, [.ref sm])), (sm, .inl (c0, 512, .inl w))] H := hP
  have hD : va_D A [(ty, .inr (7, [.int ba, .int co, .int su, .int bs, .int bs, .int la, .int op, .int os, .int fl, .ref li])), (li, .inr (0, [.int (nI n), .ref e, .int (nI n)])), (e, .inl (c2, 10, .inr (.inr (.inr (.inr f))))), (ch, .inr (1, [.ref sm])), (sm, .inl (c0, 512, .inl w))] := hD
  refine lv_aload_n hx hb dX6_take_46 rfl (lv_at hl 0 rfl) ?_
  refine lv_iload_n hx hb dX6_take_47 rfl (lv_at hl 1 rfl) ?_
  refine va_put (D := D) (ci := 7) (v := .int bs) (ty := .int) hx hb hts i_X6 tyX6 tyX6_ok nmX6 hown hT.1 hP hD hS 0 rfl rfl 5 (by decide) (hts _ q1034) (fun _ h9 => h9) rfl (by decide +kernel) rfl rfl (Nat.le_of_ble_eq_true rfl) dX6_take_48 (fun H locs hP hD hS => ?_)
  have hP : va_P D vwCl [(ty, .inr (7, [.int ba, .int co, .int su, .int bs, .int bs, .int bs, .int op, .int os, .int fl, .ref li])), (li, .inr (0, [.int (nI n), .ref e, .int (nI n)])), (e, .inl (c2, 10, .inr (.inr (.inr (.inr f))))), (ch, .inr (1, [.ref sm])), (sm, .inl (c0, 512, .inl w))] H := hP
  have hD : va_D A [(ty, .inr (7, [.int ba, .int co, .int su, .int bs, .int bs, .int bs, .int op, .int os, .int fl, .ref li])), (li, .inr (0, [.int (nI n), .ref e, .int (nI n)])), (e, .inl (c2, 10, .inr (.inr (.inr (.inr f))))), (ch, .inr (1, [.ref sm])), (sm, .inl (c0, 512, .inl w))] := hD
  refine lv_aload_n hx hb dX6_take_51 rfl (lv_at hl 0 rfl) ?_
  refine lv_dup hx hb dX6_take_52 rfl ?_
  refine va_get hx hb hts i_X6 hown hT.1 hP 0 rfl rfl 2 (by decide) (hts _ q1028) (fun _ h9 => h9) rfl dX6_take_53 ?_
  refine lv_iload_n hx hb dX6_take_56 rfl (lv_at hl 1 rfl) ?_
  refine lv_iadd hx hb dX6_take_57 ?_
  refine va_put (D := D) (ci := 7) (v := .int (su + bs)) (ty := .int) hx hb hts i_X6 tyX6 tyX6_ok nmX6 hown hT.1 hP hD hS 0 rfl rfl 2 (by decide) (hts _ q1028) (fun _ h9 => h9) rfl (by decide +kernel) rfl rfl (Nat.le_of_ble_eq_true rfl) dX6_take_58 (fun H locs hP hD hS => ?_)
  have hP : va_P D vwCl [(ty, .inr (7, [.int ba, .int co, .int (su + bs), .int bs, .int bs, .int bs, .int op, .int os, .int fl, .ref li])), (li, .inr (0, [.int (nI n), .ref e, .int (nI n)])), (e, .inl (c2, 10, .inr (.inr (.inr (.inr f))))), (ch, .inr (1, [.ref sm])), (sm, .inl (c0, 512, .inl w))] H := hP
  have hD : va_D A [(ty, .inr (7, [.int ba, .int co, .int (su + bs), .int bs, .int bs, .int bs, .int op, .int os, .int fl, .ref li])), (li, .inr (0, [.int (nI n), .ref e, .int (nI n)])), (e, .inl (c2, 10, .inr (.inr (.inr (.inr f))))), (ch, .inr (1, [.ref sm])), (sm, .inl (c0, 512, .inl w))] := hD
  refine lv_aload_n hx hb dX6_take_61 rfl (lv_at hl 0 rfl) ?_
  refine lv_dup hx hb dX6_take_62 rfl ?_
  refine va_get hx hb hts i_X6 hown hT.1 hP 0 rfl rfl 1 (by decide) (hts _ q1026) (fun _ h9 => h9) rfl dX6_take_63 ?_
  refine lv_iconst (v := 1) hx hb dX6_take_66 (by decide) ?_
  refine lv_iadd hx hb dX6_take_67 ?_
  refine va_put (D := D) (ci := 7) (v := .int (co + 1)) (ty := .int) hx hb hts i_X6 tyX6 tyX6_ok nmX6 hown hT.1 hP hD hS 0 rfl rfl 1 (by decide) (hts _ q1026) (fun _ h9 => h9) rfl (by decide +kernel) rfl rfl (Nat.le_of_ble_eq_true rfl) dX6_take_68 (fun H locs hP hD hS => ?_)
  have hP : va_P D vwCl [(ty, .inr (7, [.int ba, .int (co + 1), .int (su + bs), .int bs, .int bs, .int bs, .int op, .int os, .int fl, .ref li])), (li, .inr (0, [.int (nI n), .ref e, .int (nI n)])), (e, .inl (c2, 10, .inr (.inr (.inr (.inr f))))), (ch, .inr (1, [.ref sm])), (sm, .inl (c0, 512, .inl w))] H := hP
  have hD : va_D A [(ty, .inr (7, [.int ba, .int (co + 1), .int (su + bs), .int bs, .int bs, .int bs, .int op, .int os, .int fl, .ref li])), (li, .inr (0, [.int (nI n), .ref e, .int (nI n)])), (e, .inl (c2, 10, .inr (.inr (.inr (.inr f))))), (ch, .inr (1, [.ref sm])), (sm, .inl (c0, 512, .inl w))] := hD
  refine lv_aload_n hx hb dX6_take_71 rfl (lv_at hl 0 rfl) ?_
  refine lv_dup hx hb dX6_take_72 rfl ?_
  refine va_get hx hb hts i_X6 hown hT.1 hP 0 rfl rfl 6 (by decide) (hts _ q1036) (fun _ h9 => h9) rfl dX6_take_73 ?_
  refine lv_iconst (v := 1) hx hb dX6_take_76 (by decide) ?_
  refine lv_iadd hx hb dX6_take_77 ?_
  refine va_put (D := D) (ci := 7) (v := .int (op + 1)) (ty := .int) hx hb hts i_X6 tyX6 tyX6_ok nmX6 hown hT.1 hP hD hS 0 rfl rfl 6 (by decide) (hts _ q1036) (fun _ h9 => h9) rfl (by decide +kernel) rfl rfl (Nat.le_of_ble_eq_true rfl) dX6_take_78 (fun H locs hP hD hS => ?_)
  have hP : va_P D vwCl [(ty, .inr (7, [.int ba, .int (co + 1), .int (su + bs), .int bs, .int bs, .int bs, .int (op + 1), .int os, .int fl, .ref li])), (li, .inr (0, [.int (nI n), .ref e, .int (nI n)])), (e, .inl (c2, 10, .inr (.inr (.inr (.inr f))))), (ch, .inr (1, [.ref sm])), (sm, .inl (c0, 512, .inl w))] H := hP
  have hD : va_D A [(ty, .inr (7, [.int ba, .int (co + 1), .int (su + bs), .int bs, .int bs, .int bs, .int (op + 1), .int os, .int fl, .ref li])), (li, .inr (0, [.int (nI n), .ref e, .int (nI n)])), (e, .inl (c2, 10, .inr (.inr (.inr (.inr f))))), (ch, .inr (1, [.ref sm])), (sm, .inl (c0, 512, .inl w))] := hD
  refine lv_aload_n hx hb dX6_take_81 rfl (lv_at hl 0 rfl) ?_
  refine lv_dup hx hb dX6_take_82 rfl ?_
  refine va_get hx hb hts i_X6 hown hT.1 hP 0 rfl rfl 7 (by decide) (hts _ q1037) (fun _ h9 => h9) rfl dX6_take_83 ?_
  refine lv_iload_n hx hb dX6_take_86 rfl (lv_at hl 1 rfl) ?_
  refine lv_iadd hx hb dX6_take_87 ?_
  refine va_put (D := D) (ci := 7) (v := .int (os + bs)) (ty := .int) hx hb hts i_X6 tyX6 tyX6_ok nmX6 hown hT.1 hP hD hS 0 rfl rfl 7 (by decide) (hts _ q1037) (fun _ h9 => h9) rfl (by decide +kernel) rfl rfl (Nat.le_of_ble_eq_true rfl) dX6_take_88 (fun H locs hP hD hS => ?_)
  have hP : va_P D vwCl [(ty, .inr (7, [.int ba, .int (co + 1), .int (su + bs), .int bs, .int bs, .int bs, .int (op + 1), .int (os + bs), .int fl, .ref li])), (li, .inr (0, [.int (nI n), .ref e, .int (nI n)])), (e, .inl (c2, 10, .inr (.inr (.inr (.inr f))))), (ch, .inr (1, [.ref sm])), (sm, .inl (c0, 512, .inl w))] H := hP
  have hD : va_D A [(ty, .inr (7, [.int ba, .int (co + 1), .int (su + bs), .int bs, .int bs, .int bs, .int (op + 1), .int (os + bs), .int fl, .ref li])), (li, .inr (0, [.int (nI n), .ref e, .int (nI n)])), (e, .inl (c2, 10, .inr (.inr (.inr (.inr f))))), (ch, .inr (1, [.ref sm])), (sm, .inl (c0, 512, .inl w))] := hD
  refine lv_aload_n hx hb dX6_take_91 rfl (lv_at hl 0 rfl) ?_
  refine va_get hx hb hts i_X6 hown hT.1 hP 0 rfl rfl 6 (by decide) (hts _ q1036) (fun _ h9 => h9) rfl dX6_take_92 ?_
  refine lv_aload_n hx hb dX6_take_95 rfl (lv_at hl 0 rfl) ?_
  refine va_get hx hb hts i_X6 hown hT.1 hP 0 rfl rfl 0 (by decide) (hts _ q1025) (fun _ h9 => h9) rfl dX6_take_96 ?_
  refine lv_icmp_lt (tgt := 120) hx hb dX6_take_99 (by decide) (fun h9 => absurd h9 hop) (fun _ => ?_)
  refine lv_aload_n hx hb dX6_take_102 rfl (lv_at hl 0 rfl) ?_
  refine lv_aload_n hx hb dX6_take_103 rfl (lv_at hl 0 rfl) ?_
  refine va_get hx hb hts i_X6 hown hT.1 hP 0 rfl rfl 7 (by decide) (hts _ q1037) (fun _ h9 => h9) rfl dX6_take_104 ?_
  have hPc := hP.sub (ws' := [(ty, .inr (7, [.int ba, .int (co + 1), .int (su + bs), .int bs, .int bs, .int bs, .int (op + 1), .int (os + bs), .int fl, .ref li])), (li, .inr (0, [.int (nI n), .ref e, .int (nI n)])), (e, .inl (c2, 10, .inr (.inr (.inr (.inr f))))), (ch, .inr (1, [.ref sm])), (sm, .inl (c0, 512, .inl w))]) [0, 1, 2, 3, 4] rfl
  have hDc := hD.sub (ws' := [(ty, .inr (7, [.int ba, .int (co + 1), .int (su + bs), .int bs, .int bs, .int bs, .int (op + 1), .int (os + bs), .int fl, .ref li])), (li, .inr (0, [.int (nI n), .ref e, .int (nI n)])), (e, .inl (c2, 10, .inr (.inr (.inr (.inr f))))), (ch, .inr (1, [.ref sm])), (sm, .inl (c0, 512, .inl w))]) [0, 1, 2, 3, 4] (by decide) rfl
  have hFc := va_free (wc := [(ty, .inr (7, [.int ba, .int (co + 1), .int (su + bs), .int bs, .int bs, .int bs, .int (op + 1), .int (os + bs), .int fl, .ref li])), (li, .inr (0, [.int (nI n), .ref e, .int (nI n)])), (e, .inl (c2, 10, .inr (.inr (.inr (.inr f))))), (ch, .inr (1, [.ref sm])), (sm, .inl (c0, 512, .inl w))]) hD hS hA [0, 1, 2, 3, 4] rfl
  refine va_callv (va_runV (As := [.int (os + bs)]) (rest := []) ⟨hx, hb, hml, hown, hts⟩ (x_X6_keep2 l h0 h2 ty li ba ((co + 1)) ((su + bs)) bs bs bs ((op + 1)) ((os + bs)) fl ((os + bs)) e n ch sm f w hn0 hn h5 hc hfl hset H.size) (cwV 1 hts (gd_V q541 q543 q19 q54 q545) rfl rfl rfl hd_X6_keep ⟨Nat.le_of_ble_eq_true rfl, Nat.le_of_ble_eq_true rfl⟩) ⟨Xe.blind, va_recv (q0 := 0) hT.1 hP rfl rfl, fun U hU hW => ⟨rfl, Xe.warm hW hT hE hS hAb hU, by show U.heap.size = _; rw [hU], by rw [hU]; exact hPc, hDc.weaken (fun k q _ h => hAb _ h)⟩⟩ rfl rfl hl.1 rfl (lv_room (Nat.le_of_ble_eq_true rfl)) dX6_take_107 ⟨Nat.le_of_ble_eq_true rfl, Nat.le_of_ble_eq_true rfl⟩) hS (fun q _ h => hFc q h) hFc (fun u9 t9 H1 locs ht9 hvm9 hw9 hB9 hz9 hk9 hS => ?_)
  obtain ⟨hP1, hD1⟩ := hB9
  rw [ht9] at hP1
  obtain ⟨hP, hD⟩ := va_join (wr := []) (w1 := [(ty, .inr (7, [.int ba, .int ((co + 1)), .int ((su + bs)), .int bs, .int bs, .int bs, .int ((op + 1)), .int ((os + bs)), .int (fl + 1), .ref li])), (ch, .inr (1, [.ref sm])), (li, .inr (0, [.int (nI n), .ref e, .int (nI n)])), (e, .inl (c2, 10, .inr (.inr (.inr (.inr f))))), (sm, .inl (c0, 512, .inl (upd w ((fl - fl / 512 * 512)).toNatClampNeg ((os + bs)))))]) hP hD [0, 1, 2, 3, 4] [] rfl rfl (by decide) (by decide) hk9 hFc hP1 hD1
  generalize H1 = H at hP hS ⊢
  have hP : va_P D vwCl [(ty, .inr (7, [.int ba, .int ((co + 1)), .int ((su + bs)), .int bs, .int bs, .int bs, .int ((op + 1)), .int ((os + bs)), .int (fl + 1), .ref li])), (ch, .inr (1, [.ref sm])), (li, .inr (0, [.int (nI n), .ref e, .int (nI n)])), (e, .inl (c2, 10, .inr (.inr (.inr (.inr f))))), (sm, .inl (c0, 512, .inl (upd w ((fl - fl / 512 * 512)).toNatClampNeg ((os + bs)))))] H := hP
  have hD : va_D A [(ty, .inr (7, [.int ba, .int ((co + 1)), .int ((su + bs)), .int bs, .int bs, .int bs, .int ((op + 1)), .int ((os + bs)), .int (fl + 1), .ref li])), (ch, .inr (1, [.ref sm])), (li, .inr (0, [.int (nI n), .ref e, .int (nI n)])), (e, .inl (c2, 10, .inr (.inr (.inr (.inr f))))), (sm, .inl (c0, 512, .inl (upd w ((fl - fl / 512 * 512)).toNatClampNeg ((os + bs)))))] := hD
  refine lv_aload_n hx hb dX6_take_110 rfl (lv_at hl 0 rfl) ?_
  refine lv_iconst (v := 0) hx hb dX6_take_111 (by decide) ?_
  refine va_put (D := D) (ci := 7) (v := .int 0) (ty := .int) hx hb hts i_X6 tyX6 tyX6_ok nmX6 hown hT.1 hP hD hS 0 rfl rfl 6 (by decide) (hts _ q1036) (fun _ h9 => h9) rfl (by decide +kernel) rfl rfl (Nat.le_of_ble_eq_true rfl) dX6_take_112 (fun H locs hP hD hS => ?_)
  have hP : va_P D vwCl [(ty, .inr (7, [.int ba, .int ((co + 1)), .int ((su + bs)), .int bs, .int bs, .int bs, .int 0, .int ((os + bs)), .int (fl + 1), .ref li])), (ch, .inr (1, [.ref sm])), (li, .inr (0, [.int (nI n), .ref e, .int (nI n)])), (e, .inl (c2, 10, .inr (.inr (.inr (.inr f))))), (sm, .inl (c0, 512, .inl (upd w ((fl - fl / 512 * 512)).toNatClampNeg ((os + bs)))))] H := hP
  have hD : va_D A [(ty, .inr (7, [.int ba, .int ((co + 1)), .int ((su + bs)), .int bs, .int bs, .int bs, .int 0, .int ((os + bs)), .int (fl + 1), .ref li])), (ch, .inr (1, [.ref sm])), (li, .inr (0, [.int (nI n), .ref e, .int (nI n)])), (e, .inl (c2, 10, .inr (.inr (.inr (.inr f))))), (sm, .inl (c0, 512, .inl (upd w ((fl - fl / 512 * 512)).toNatClampNeg ((os + bs)))))] := hD
  refine lv_aload_n hx hb dX6_take_115 rfl (lv_at hl 0 rfl) ?_
  refine lv_iconst (v := 0) hx hb dX6_take_116 (by decide) ?_
  refine va_put (D := D) (ci := 7) (v := .int 0) (ty := .int) hx hb hts i_X6 tyX6 tyX6_ok nmX6 hown hT.1 hP hD hS 0 rfl rfl 7 (by decide) (hts _ q1037) (fun _ h9 => h9) rfl (by decide +kernel) rfl rfl (Nat.le_of_ble_eq_true rfl) dX6_take_117 (fun H locs hP hD hS => ?_)
  have hP : va_P D vwCl [(ty, .inr (7, [.int ba, .int ((co + 1)), .int ((su + bs)), .int bs, .int bs, .int bs, .int 0, .int 0, .int (fl + 1), .ref li])), (ch, .inr (1, [.ref sm])), (li, .inr (0, [.int (nI n), .ref e, .int (nI n)])), (e, .inl (c2, 10, .inr (.inr (.inr (.inr f))))), (sm, .inl (c0, 512, .inl (upd w ((fl - fl / 512 * 512)).toNatClampNeg ((os + bs)))))] H := hP
  have hD : va_D A [(ty, .inr (7, [.int ba, .int ((co + 1)), .int ((su + bs)), .int bs, .int bs, .int bs, .int 0, .int 0, .int (fl + 1), .ref li])), (ch, .inr (1, [.ref sm])), (li, .inr (0, [.int (nI n), .ref e, .int (nI n)])), (e, .inl (c2, 10, .inr (.inr (.inr (.inr f))))), (sm, .inl (c0, 512, .inl (upd w ((fl - fl / 512 * 512)).toNatClampNeg ((os + bs)))))] := hD
  have hP9 := hP.sub (ws' := [(ty, .inr (7, [.int ba, .int ((co + 1)), .int ((su + bs)), .int bs, .int bs, .int bs, .int 0, .int 0, .int (fl + 1), .ref li])), (ch, .inr (1, [.ref sm])), (li, .inr (0, [.int (nI n), .ref e, .int (nI n)])), (e, .inl (c2, 10, .inr (.inr (.inr (.inr f))))), (sm, .inl (c0, 512, .inl (upd w ((fl - fl / 512 * 512)).toNatClampNeg ((os + bs)))))]) [0, 1, 2, 3, 4] rfl
  have hD9 := hD.sub (ws' := [(ty, .inr (7, [.int ba, .int ((co + 1)), .int ((su + bs)), .int bs, .int bs, .int bs, .int 0, .int 0, .int (fl + 1), .ref li])), (ch, .inr (1, [.ref sm])), (li, .inr (0, [.int (nI n), .ref e, .int (nI n)])), (e, .inl (c2, 10, .inr (.inr (.inr (.inr f))))), (sm, .inl (c0, 512, .inl (upd w ((fl - fl / 512 * 512)).toNatClampNeg ((os + bs)))))]) [0, 1, 2, 3, 4] (by decide) rfl
  exact W.vret hx hb hr (fun t9 ht hW => ⟨⟨(), rfl, trivial, by rw [ht]; exact hP9, hD9⟩, hS.F ht⟩) hS.2.2 dX6_take_120
set_option maxHeartbeats 4000000 in
set_option maxRecDepth 100000 in
theorem x_X6_take_1n (l : Launch) {D : va_G} {tys : List (ClassId × FieldType)} {z b : Nat} {k0 k2 : Nat} {c0 c2 : ClassId} (h0 : tys[k0]? = some (c0, .int)) (h2 : tys[k2]? = some (c2, .object "java/lang/Object")) (ty li : Nat) (ba co su le gr la op os fl bs : Int32)  (hco : ¬ co = 0) (hop : op + 1 < ba) (sz : Nat) : Met l yX6_take (ws_ yX6_take cX6_take 2 none) (rm_ 6 133 3 523) (Xe D tys z b c2 [.ref ty, .int bs] (fun H9 => H9.size = sz) [(ty, .inr (7, [.int ba, .int co, .int su, .int le, .int gr, .int la, .int op, .int os, .int fl, .ref li]))]) (va_Qv (fun _ : Unit => True) (fun _ t => va_P D vwCl [(ty, .inr (7, [.int ba, .int (co + 1), .int (su + bs), .int (if bs < le then bs else le), .int (if gr < bs then bs else gr), .int bs, .int (op + 1), .int (os + bs), .int fl, .ref li]))] t.heap ∧ va_D (va_A [(ty, .inr (7, [.int ba, .int co, .int su, .int le, .int gr, .int la, .int op, .int os, .int fl, .ref li]))] sz) [(ty, .inr (7, [.int ba, .int (co + 1), .int (su + bs), .int (if bs < le then bs else le), .int (if gr < bs then bs else gr), .int bs, .int (op + 1), .int (os + bs), .int fl, .ref li]))]) (va_A [(ty, .inr (7, [.int ba, .int co, .int su, .int le, .int gr, .int la, .int op, .int os, .int fl, .ref li]))] sz)) 3 523 (va_A [(ty, .inr (7, [.int ba, .int co, .int su, .int le, .int gr, .int la, .int op, .int os, .int fl, .ref li]))] sz) := by
  refine Met.ofW (cc := cX6_take) (maxL := 2) (ret := none) (by decide) rfl ?_
  intro p e9 s m args below meth c s₁ B hml hv
  obtain ⟨rfl, ⟨hT, hE⟩, hsz, hP, hD0⟩ := hv
  have hx := B.exec
  have hb := B.bytes
  have hr := B.returns
  have hts : ∀ w ∈ lw_all, w.before _ s = true := fun w h => atoms_spec (ws := (ws_ yX6_take cX6_take 2 none)) B.pre w (List.mem_cons_of_mem _ h)
  have hown : s.vm.findClass RX6 = some m.cls := findClass_of_methodNamed B.named
  have hlocks := B.notSynchronized
  subst hsz
  have hD := hD0.self (sz := s.heap.size)
  have hAb : ∀ q, va_A [(ty, .inr (7, [.int ba, .int co, .int su, .int le, .int gr, .int la, .int op, .int os, .int fl, .ref li]))] s.heap.size q → b ≤ q := fun q h => h.elim (fun ⟨k, e, h⟩ => hD0.2 k _ h) (fun h => Nat.le_trans hE.2.2.1 h)
  generalize hAe : va_A [(ty, .inr (7, [.int ba, .int co, .int su, .int le, .int gr, .int la, .int op, .int os, .int fl, .ref li]))] s.heap.size = A at hD hAb ⊢
  have hA : ∀ q : Nat, s.heap.size ≤ q → A q := fun q h => by rw [← hAe]; exact Or.inr h
  have hS : va_S A s.heap s.heap [] := va_S.rf
  have hZ := hE.1.narrow hAb
  have hE0 := fun (H9 : Heap) (l9 : List Loc) (h9 : va_S A s.heap H9 l9) => Em.row hE h9 hAb
  obtain ⟨H, hHe⟩ : ∃ H : Heap, H = s.heap := ⟨_, rfl⟩
  have hP : va_P D vwCl [(ty, .inr (7, [.int ba, .int co, .int su, .int le, .int gr, .int la, .int op, .int os, .int fl, .ref li]))] s.heap := hP
  have hl := lv_entry ([.ref ty, .int bs]) (n := 2) (Nat.le_of_ble_eq_true rfl)
  rw [lg_entry_eq]
  generalize (lg_sl ([.ref ty, .int bs]) ++ List.replicate (2 - (lg_sl ([.ref ty, .int bs])).length) Slot.unset).toArray = ls at hl ⊢
  have hl : lv_has ls 2 [(0, .ref ty), (1, .int bs)] := hl
  clear hHe H
  refine lv_aload_n hx hb dX6_take_0 rfl (lv_at hl 0 rfl) ?_
  refine lv_aload_n hx hb dX6_take_1 rfl (lv_at hl 0 rfl) ?_
  refine va_get hx hb hts i_X6 hown hT.1 hP 0 rfl rfl 1 (by decide) (hts _ q1026) (fun _ h9 => h9) rfl dX6_take_2 ?_
  refine lv_if_ne (tgt := 12) hx hb dX6_take_5 (by decide) (fun _ => ?_) (fun h9 => absurd h9 hco)
  refine lv_aload_n hx hb dX6_take_12 rfl (lv_at hl 0 rfl) ?_
  refine va_get hx hb hts i_X6 hown hT.1 hP 0 rfl rfl 3 (by decide) (hts _ q1030) (fun _ h9 => h9) rfl dX6_take_13 ?_
  refine lv_iload_n hx hb dX6_take_16 rfl (lv_at hl 1 rfl) ?_
  refine va_mmin hx hb (by rw [hml]; exact hl.1.symm) hown (hts _ q539) (hts _ q497) (hts _ q50) (hts _ q498) (Nat.le_of_ble_eq_true rfl) (Nat.le_of_ble_eq_true rfl) (Nat.le_of_ble_eq_true rfl) (Nat.le_of_ble_eq_true rfl) dX6_take_17 ?_
  refine va_put (D := D) (ci := 7) (v := .int (if bs < le then bs else le)) (ty := .int) hx hb hts i_X6 tyX6 tyX6_ok nmX6 hown hT.1 hP hD hS 0 rfl rfl 3 (by decide) (hts _ q1030) (fun _ h9 => h9) rfl (by decide +kernel) rfl rfl (Nat.le_of_ble_eq_true rfl) dX6_take_20 (fun H locs hP hD hS => ?_)
  have hP : va_P D vwCl [(ty, .inr (7, [.int ba, .int co, .int su, .int (if bs < le then bs else le), .int gr, .int la, .int op, .int os, .int fl, .ref li]))] H := hP
  have hD : va_D A [(ty, .inr (7, [.int ba, .int co, .int su, .int (if bs < le then bs else le), .int gr, .int la, .int op, .int os, .int fl, .ref li]))] := hD
  refine lv_aload_n hx hb dX6_take_23 rfl (lv_at hl 0 rfl) ?_
  refine lv_aload_n hx hb dX6_take_24 rfl (lv_at hl 0 rfl) ?_
  refine va_get hx hb hts i_X6 hown hT.1 hP 0 rfl rfl 1 (by decide) (hts _ q1026) (fun _ h9 => h9) rfl dX6_take_25 ?_
  refine lv_if_ne (tgt := 35) hx hb dX6_take_28 (by decide) (fun _ => ?_) (fun h9 => absurd h9 hco)
  refine lv_aload_n hx hb dX6_take_35 rfl (lv_at hl 0 rfl) ?_
  refine va_get hx hb hts i_X6 hown hT.1 hP 0 rfl rfl 4 (by decide) (hts _ q1032) (fun _ h9 => h9) rfl dX6_take_36 ?_
  refine lv_iload_n hx hb dX6_take_39 rfl (lv_at hl 1 rfl) ?_
  refine va_mmax hx hb (by rw [hml]; exact hl.1.symm) hown (hts _ q540) (hts _ q482) (hts _ q50) (hts _ q483) (Nat.le_of_ble_eq_true rfl) (Nat.le_of_ble_eq_true rfl) (Nat.le_of_ble_eq_true rfl) (Nat.le_of_ble_eq_true rfl) dX6_take_40 ?_
  refine va_put (D := D) (ci := 7) (v := .int (if gr < bs then bs else gr)) (ty := .int) hx hb hts i_X6 tyX6 tyX6_ok nmX6 hown hT.1 hP hD hS 0 rfl rfl 4 (by decide) (hts _ q1032) (fun _ h9 => h9) rfl (by decide +kernel) rfl rfl (Nat.le_of_ble_eq_true rfl) dX6_take_43 (fun H locs hP hD hS => ?_)
  have hP : va_P D vwCl [(ty, .inr (7, [.int ba, .int co, .int su, .int (if bs < le then bs else le), .int (if gr < bs then bs else gr), .int la, .int op, .int os, .int fl, .ref li]))] H := hP
  have hD : va_D A [(ty, .inr (7, [.int ba, .int co, .int su, .int (if bs < le then bs else le), .int (if gr < bs then bs else gr), .int la, .int op, .int os, .int fl, .ref li]))] := hD
  refine lv_aload_n hx hb dX6_take_46 rfl (lv_at hl 0 rfl) ?_
  refine lv_iload_n hx hb dX6_take_47 rfl (lv_at hl 1 rfl) ?_
  refine va_put (D := D) (ci := 7) (v := .int bs) (ty := .int) hx hb hts i_X6 tyX6 tyX6_ok nmX6 hown hT.1 hP hD hS 0 rfl rfl 5 (by decide) (hts _ q1034) (fun _ h9 => h9) rfl (by decide +kernel) rfl rfl (Nat.le_of_ble_eq_true rfl) dX6_take_48 (fun H locs hP hD hS => ?_)
  have hP : va_P D vwCl [(ty, .inr (7, [.int ba, .int co, .int su, .int (if bs < le then bs else le), .int (if gr < bs then bs else gr), .int bs, .int op, .int os, .int fl, .ref li]))] H := hP
  have hD : va_D A [(ty, .inr (7, [.int ba, .int co, .int su, .int (if bs < le then bs else le), .int (if gr < bs then bs else gr), .int bs, .int op, .int os, .int fl, .ref li]))] := hD
  refine lv_aload_n hx hb dX6_take_51 rfl (lv_at hl 0 rfl) ?_
  refine lv_dup hx hb dX6_take_52 rfl ?_
  refine va_get hx hb hts i_X6 hown hT.1 hP 0 rfl rfl 2 (by decide) (hts _ q1028) (fun _ h9 => h9) rfl dX6_take_53 ?_
  refine lv_iload_n hx hb dX6_take_56 rfl (lv_at hl 1 rfl) ?_
  refine lv_iadd hx hb dX6_take_57 ?_
  refine va_put (D := D) (ci := 7) (v := .int (su + bs)) (ty := .int) hx hb hts i_X6 tyX6 tyX6_ok nmX6 hown hT.1 hP hD hS 0 rfl rfl 2 (by decide) (hts _ q1028) (fun _ h9 => h9) rfl (by decide +kernel) rfl rfl (Nat.le_of_ble_eq_true rfl) dX6_take_58 (fun H locs hP hD hS => ?_)
  have hP : va_P D vwCl [(ty, .inr (7, [.int ba, .int co, .int (su + bs), .int (if bs < le then bs else le), .int (if gr < bs then bs else gr), .int bs, .int op, .int os, .int fl, .ref li]))] H := hP
  have hD : va_D A [(ty, .inr (7, [.int ba, .int co, .int (su + bs), .int (if bs < le then bs else le), .int (if gr < bs then bs else gr), .int bs, .int op, .int os, .int fl, .ref li]))] := hD
  refine lv_aload_n hx hb dX6_take_61 rfl (lv_at hl 0 rfl) ?_
  refine lv_dup hx hb dX6_take_62 rfl ?_
  refine va_get hx hb hts i_X6 hown hT.1 hP 0 rfl rfl 1 (by decide) (hts _ q1026) (fun _ h9 => h9) rfl dX6_take_63 ?_
  refine lv_iconst (v := 1) hx hb dX6_take_66 (by decide) ?_
  refine lv_iadd hx hb dX6_take_67 ?_
  refine va_put (D := D) (ci := 7) (v := .int (co + 1)) (ty := .int) hx hb hts i_X6 tyX6 tyX6_ok nmX6 hown hT.1 hP hD hS 0 rfl rfl 1 (by decide) (hts _ q1026) (fun _ h9 => h9) rfl (by decide +kernel) rfl rfl (Nat.le_of_ble_eq_true rfl) dX6_take_68 (fun H locs hP hD hS => ?_)
  have hP : va_P D vwCl [(ty, .inr (7, [.int ba, .int (co + 1), .int (su + bs), .int (if bs < le then bs else le), .int (if gr < bs then bs else gr), .int bs, .int op, .int os, .int fl, .ref li]))] H := hP
  have hD : va_D A [(ty, .inr (7, [.int ba, .int (co + 1), .int (su + bs), .int (if bs < le then bs else le), .int (if gr < bs then bs else gr), .int bs, .int op, .int os, .int fl, .ref li]))] := hD
  refine lv_aload_n hx hb dX6_take_71 rfl (lv_at hl 0 rfl) ?_
  refine lv_dup hx hb dX6_take_72 rfl ?_
  refine va_get hx hb hts i_X6 hown hT.1 hP 0 rfl rfl 6 (by decide) (hts _ q1036) (fun _ h9 => h9) rfl dX6_take_73 ?_
  refine lv_iconst (v := 1) hx hb dX6_take_76 (by decide) ?_
  refine lv_iadd hx hb dX6_take_77 ?_
  refine va_put (D := D) (ci := 7) (v := .int (op + 1)) (ty := .int) hx hb hts i_X6 tyX6 tyX6_ok nmX6 hown hT.1 hP hD hS 0 rfl rfl 6 (by decide) (hts _ q1036) (fun _ h9 => h9) rfl (by decide +kernel) rfl rfl (Nat.le_of_ble_eq_true rfl) dX6_take_78 (fun H locs hP hD hS => ?_)
  have hP : va_P D vwCl [(ty, .inr (7, [.int ba, .int (co + 1), .int (su + bs), .int (if bs < le then bs else le), .int (if gr < bs then bs else gr), .int bs, .int (op + 1), .int os, .int fl, .ref li]))] H := hP
  have hD : va_D A [(ty, .inr (7, [.int ba, .int (co + 1), .int (su + bs), .int (if bs < le then bs else le), .int (if gr < bs then bs else gr), .int bs, .int (op + 1), .int os, .int fl, .ref li]))] := hD
  refine lv_aload_n hx hb dX6_take_81 rfl (lv_at hl 0 rfl) ?_
  refine lv_dup hx hb dX6_take_82 rfl ?_
  refine va_get hx hb hts i_X6 hown hT.1 hP 0 rfl rfl 7 (by decide) (hts _ q1037) (fun _ h9 => h9) rfl dX6_take_83 ?_
  refine lv_iload_n hx hb dX6_take_86 rfl (lv_at hl 1 rfl) ?_
  refine lv_iadd hx hb dX6_take_87 ?_
  refine va_put (D := D) (ci := 7) (v := .int (os + bs)) (ty := .int) hx hb hts i_X6 tyX6 tyX6_ok nmX6 hown hT.1 hP hD hS 0 rfl rfl 7 (by decide) (hts _ q1037) (fun _ h9 => h9) rfl (by decide +kernel) rfl rfl (Nat.le_of_ble_eq_true rfl) dX6_take_88 (fun H locs hP hD hS => ?_)
  have hP : va_P D vwCl [(ty, .inr (7, [.int ba, .int (co + 1), .int (su + bs), .int (if bs < le then bs else le), .int (if gr < bs then bs else gr), .int bs, .int (op + 1), .int (os + bs), .int fl, .ref li]))] H := hP
  have hD : va_D A [(ty, .inr (7, [.int ba, .int (co + 1), .int (su + bs), .int (if bs < le then bs else le), .int (if gr < bs then bs else gr), .int bs, .int (op + 1), .int (os + bs), .int fl, .ref li]))] := hD
  refine lv_aload_n hx hb dX6_take_91 rfl (lv_at hl 0 rfl) ?_
  refine va_get hx hb hts i_X6 hown hT.1 hP 0 rfl rfl 6 (by decide) (hts _ q1036) (fun _ h9 => h9) rfl dX6_take_92 ?_
  refine lv_aload_n hx hb dX6_take_95 rfl (lv_at hl 0 rfl) ?_
  refine va_get hx hb hts i_X6 hown hT.1 hP 0 rfl rfl 0 (by decide) (hts _ q1025) (fun _ h9 => h9) rfl dX6_take_96 ?_
  refine lv_icmp_lt (tgt := 120) hx hb dX6_take_99 (by decide) (fun _ => ?_) (fun h9 => absurd hop h9)
  have hP9 := hP.sub (ws' := [(ty, .inr (7, [.int ba, .int (co + 1), .int (su + bs), .int (if bs < le then bs else le), .int (if gr < bs then bs else gr), .int bs, .int (op + 1), .int (os + bs), .int fl, .ref li]))]) [0] rfl
  have hD9 := hD.sub (ws' := [(ty, .inr (7, [.int ba, .int (co + 1), .int (su + bs), .int (if bs < le then bs else le), .int (if gr < bs then bs else gr), .int bs, .int (op + 1), .int (os + bs), .int fl, .ref li]))]) [0] (by decide) rfl
  refine W.widen (k := 3) (n := 523) (Nat.le_of_ble_eq_true rfl) (Nat.le_of_ble_eq_true rfl) ?_
  exact W.vret hx hb hr (fun t9 ht hW => ⟨⟨(), rfl, trivial, by rw [ht]; exact hP9, hD9⟩, hS.F ht⟩) hS.2.2 dX6_take_120
set_option maxHeartbeats 4000000 in
set_option maxRecDepth 100000 in
theorem x_X6_take_10 (l : Launch) {D : va_G} {tys : List (ClassId × FieldType)} {z b : Nat} {k0 k2 : Nat} {c0 c2 : ClassId} (h0 : tys[k0]? = some (c0, .int)) (h2 : tys[k2]? = some (c2, .object "java/lang/Object")) (ty li : Nat) (ba co su le gr la op os fl bs : Int32)  (hco : ¬ co = 0) (hop : ¬ op + 1 < ba) (hfl : fl < 8192000) (hset : ¬ fl - fl / 512 * 512 < 0 ∧ ¬ (512 : Int32) ≤ fl - fl / 512 * 512 ∧ vp_in (fl - fl / 512 * 512) 512) (sz : Nat) : Met l yX6_take (ws_ yX6_take cX6_take 2 none) (rm_ 6 133 3 523) (Xe D tys z b c2 [.ref ty, .int bs] (fun H9 => H9.size = sz) [(ty, .inr (7, [.int ba, .int co, .int su, .int le, .int gr, .int la, .int op, .int os, .int fl, .ref li])), (li, .inr (0, [.int 0, .ref z, .int 0]))]) (va_Qv (fun _ : Unit => True) (fun _ t => ∃ (q1 q2 q3 : Nat), va_P D vwCl [(ty, .inr (7, [.int ba, .int ((co + 1)), .int ((su + bs)), .int ((if bs < le then bs else le)), .int ((if gr < bs then bs else gr)), .int bs, .int 0, .int 0, .int (fl + 1), .ref li])), (q1, .inr (1, [.ref q2])), (li, .inr (0, [.int (0 + 1), .ref q3, .int (0 + 1)])), (q3, .inl (c2, 10, .inr (.inr (.inr (.inr (va_up (fun _ => none) (0 : Int32).toNatClampNeg (some q1))))))), (q2, .inl (c0, 512, .inl (upd (fun _ => 0) ((fl - fl / 512 * 512)).toNatClampNeg ((os + bs)))))] t.heap ∧ va_D (va_A [(ty, .inr (7, [.int ba, .int co, .int su, .int le, .int gr, .int la, .int op, .int os, .int fl, .ref li])), (li, .inr (0, [.int 0, .ref z, .int 0]))] sz) [(ty, .inr (7, [.int ba, .int ((co + 1)), .int ((su + bs)), .int ((if bs < le then bs else le)), .int ((if gr < bs then bs else gr)), .int bs, .int 0, .int 0, .int (fl + 1), .ref li])), (q1, .inr (1, [.ref q2])), (li, .inr (0, [.int (0 + 1), .ref q3, .int (0 + 1)])), (q3, .inl (c2, 10, .inr (.inr (.inr (.inr (va_up (fun _ => none) (0 : Int32).toNatClampNeg (some q1))))))), (q2, .inl (c0, 512, .inl (upd (fun _ => 0) ((fl - fl / 512 * 512)).toNatClampNeg ((os + bs)))))]) (va_A [(ty, .inr (7, [.int ba, .int co, .int su, .int le, .int gr, .int la, .int op, .int os, .int fl, .ref li])), (li, .inr (0, [.int 0, .ref z, .int 0]))] sz)) 3 523 (va_A [(ty, .inr (7, [.int ba, .int co, .int su, .int le, .int gr, .int la, .int op, .int os, .int fl, .ref li])), (li, .inr (0, [.int 0, .ref z, .int 0]))] sz) := by
  refine Met.ofW (cc := cX6_take) (maxL := 2) (ret := none) (by decide) rfl ?_
  intro p e9 s m args below meth c s₁ B hml hv
  obtain ⟨rfl, ⟨hT, hE⟩, hsz, hP, hD0⟩ := hv
  have hx := B.exec
  have hb := B.bytes
  have hr := B.returns
  have hts : ∀ w ∈ lw_all, w.before _ s = true := fun w h => atoms_spec (ws := (ws_ yX6_take cX6_take 2 none)) B.pre w (List.mem_cons_of_mem _ h)
  have hown : s.vm.findClass RX6 = some m.cls := findClass_of_methodNamed B.named
  have hlocks := B.notSynchronized
  subst hsz
  have hD := hD0.self (sz := s.heap.size)
  have hAb : ∀ q, va_A [(ty, .inr (7, [.int ba, .int co, .int su, .int le, .int gr, .int la, .int op, .int os, .int fl, .ref li])), (li, .inr (0, [.int 0, .ref z, .int 0]))] s.heap.size q → b ≤ q := fun q h => h.elim (fun ⟨k, e, h⟩ => hD0.2 k _ h) (fun h => Nat.le_trans hE.2.2.1 h)
  generalize hAe : va_A [(ty, .inr (7, [.int ba, .int co, .int su, .int le, .int gr, .int la, .int op, .int os, .int fl, .ref li])), (li, .inr (0, [.int 0, .ref z, .int 0]))] s.heap.size = A at hD hAb ⊢
  have hA : ∀ q : Nat, s.heap.size ≤ q → A q := fun q h => by rw [← hAe]; exact Or.inr h
  have hS : va_S A s.heap s.heap [] := va_S.rf
  have hZ := hE.1.narrow hAb
  have hE0 := fun (H9 : Heap) (l9 : List Loc) (h9 : va_S A s.heap H9 l9) => Em.row hE h9 hAb
  obtain ⟨H, hHe⟩ : ∃ H : Heap, H = s.heap := ⟨_, rfl⟩
  have hP : va_P D vwCl [(ty, .inr (7, [.int ba, .int co, .int su, .int le, .int gr, .int la, .int op, .int os, .int fl, .ref li])), (li, .inr (0, [.int 0, .ref z, .int 0]))] s.heap := hP
  have hl := lv_entry ([.ref ty, .int bs]) (n := 2) (Nat.le_of_ble_eq_true rfl)
  rw [lg_entry_eq]
  generalize (lg_sl ([.ref ty, .int bs]) ++ List.replicate (2 - (lg_sl ([.ref ty, .int bs])).length) Slot.unset).toArray = ls at hl ⊢
  have hl : lv_has ls 2 [(0, .ref ty), (1, .int bs)] := hl
  clear hHe H
  refine lv_aload_n hx hb dX6_take_0 rfl (lv_at hl 0 rfl) ?_
  refine lv_aload_n hx hb dX6_take_1 rfl (lv_at hl 0 rfl) ?_
  refine va_get hx hb hts i_X6 hown hT.1 hP 0 rfl rfl 1 (by decide) (hts _ q1026) (fun _ h9 => h9) rfl dX6_take_2 ?_
  refine lv_if_ne (tgt := 12) hx hb dX6_take_5 (by decide) (fun _ => ?_) (fun h9 => absurd h9 hco)
  refine lv_aload_n hx hb dX6_take_12 rfl (lv_at hl 0 rfl) ?_
  refine va_get hx hb hts i_X6 hown hT.1 hP 0 rfl rfl 3 (by decide) (hts _ q1030) (fun _ h9 => h9) rfl dX6_take_13 ?_
  refine lv_iload_n hx hb dX6_take_16 rfl (lv_at hl 1 rfl) ?_
  refine va_mmin hx hb (by rw [hml]; exact hl.1.symm) hown (hts _ q539) (hts _ q497) (hts _ q50) (hts _ q498) (Nat.le_of_ble_eq_true rfl) (Nat.le_of_ble_eq_true rfl) (Nat.le_of_ble_eq_true rfl) (Nat.le_of_ble_eq_true rfl) dX6_take_17 ?_
  refine va_put (D := D) (ci := 7) (v := .int (if bs < le then bs else le)) (ty := .int) hx hb hts i_X6 tyX6 tyX6_ok nmX6 hown hT.1 hP hD hS 0 rfl rfl 3 (by decide) (hts _ q1030) (fun _ h9 => h9) rfl (by decide +kernel) rfl rfl (Nat.le_of_ble_eq_true rfl) dX6_take_20 (fun H locs hP hD hS => ?_)
  have hP : va_P D vwCl [(ty, .inr (7, [.int ba, .int co, .int su, .int (if bs < le then bs else le), .int gr, .int la, .int op, .int os, .int fl, .ref li])), (li, .inr (0, [.int 0, .ref z, .int 0]))] H := hP
  have hD : va_D A [(ty, .inr (7, [.int ba, .int co, .int su, .int (if bs < le then bs else le), .int gr, .int la, .int op, .int os, .int fl, .ref li])), (li, .inr (0, [.int 0, .ref z, .int 0]))] := hD
  refine lv_aload_n hx hb dX6_take_23 rfl (lv_at hl 0 rfl) ?_
  refine lv_aload_n hx hb dX6_take_24 rfl (lv_at hl 0 rfl) ?_
  refine va_get hx hb hts i_X6 hown hT.1 hP 0 rfl rfl 1 (by decide) (hts _ q1026) (fun _ h9 => h9) rfl dX6_take_25 ?_
  refine lv_if_ne (tgt := 35) hx hb dX6_take_28 (by decide) (fun _ => ?_) (fun h9 => absurd h9 hco)
  refine lv_aload_n hx hb dX6_take_35 rfl (lv_at hl 0 rfl) ?_
  refine va_get hx hb hts i_X6 hown hT.1 hP 0 rfl rfl 4 (by decide) (hts _ q1032) (fun _ h9 => h9) rfl dX6_take_36 ?_
  refine lv_iload_n hx hb dX6_take_39 rfl (lv_at hl 1 rfl) ?_
  refine va_mmax hx hb (by rw [hml]; exact hl.1.symm) hown (hts _ q540) (hts _ q482) (hts _ q50) (hts _ q483) (Nat.le_of_ble_eq_true rfl) (Nat.le_of_ble_eq_true rfl) (Nat.le_of_ble_eq_true rfl) (Nat.le_of_ble_eq_true rfl) dX6_take_40 ?_
  refine va_put (D := D) (ci := 7) (v := .int (if gr < bs then bs else gr)) (ty := .int) hx hb hts i_X6 tyX6 tyX6_ok nmX6 hown hT.1 hP hD hS 0 rfl rfl 4 (by decide) (hts _ q1032) (fun _ h9 => h9) rfl (by decide +kernel) rfl rfl (Nat.le_of_ble_eq_true rfl) dX6_take_43 (fun H locs hP hD hS => ?_)
  have hP : va_P D vwCl [(ty, .inr (7, [.int ba, .int co, .int su, .int (if bs < le then bs else le), .int (if gr < bs then bs else gr), .int la, .int op, .int os, .int fl, .ref li])), (li, .inr (0, [.int 0, .ref z, .int 0]))] H := hP
  have hD : va_D A [(ty, .inr (7, [.int ba, .int co, .int su, .int (if bs < le then bs else le), .int (if gr < bs then bs else gr), .int la, .int op, .int os, .int fl, .ref li])), (li, .inr (0, [.int 0, .ref z, .int 0]))] := hD
  refine lv_aload_n hx hb dX6_take_46 rfl (lv_at hl 0 rfl) ?_
  refine lv_iload_n hx hb dX6_take_47 rfl (lv_at hl 1 rfl) ?_
  refine va_put (D := D) (ci := 7) (v := .int bs) (ty := .int) hx hb hts i_X6 tyX6 tyX6_ok nmX6 hown hT.1 hP hD hS 0 rfl rfl 5 (by decide) (hts _ q1034) (fun _ h9 => h9) rfl (by decide +kernel) rfl rfl (Nat.le_of_ble_eq_true rfl) dX6_take_48 (fun H locs hP hD hS => ?_)
  have hP : va_P D vwCl [(ty, .inr (7, [.int ba, .int co, .int su, .int (if bs < le then bs else le), .int (if gr < bs then bs else gr), .int bs, .int op, .int os, .int fl, .ref li])), (li, .inr (0, [.int 0, .ref z, .int 0]))] H := hP
  have hD : va_D A [(ty, .inr (7, [.int ba, .int co, .int su, .int (if bs < le then bs else le), .int (if gr < bs then bs else gr), .int bs, .int op, .int os, .int fl, .ref li])), (li, .inr (0, [.int 0, .ref z, .int 0]))] := hD
  refine lv_aload_n hx hb dX6_take_51 rfl (lv_at hl 0 rfl) ?_
  refine lv_dup hx hb dX6_take_52 rfl ?_
  refine va_get hx hb hts i_X6 hown hT.1 hP 0 rfl rfl 2 (by decide) (hts _ q1028) (fun _ h9 => h9) rfl dX6_take_53 ?_
  refine lv_iload_n hx hb dX6_take_56 rfl (lv_at hl 1 rfl) ?_
  refine lv_iadd hx hb dX6_take_57 ?_
  refine va_put (D := D) (ci := 7) (v := .int (su + bs)) (ty := .int) hx hb hts i_X6 tyX6 tyX6_ok nmX6 hown hT.1 hP hD hS 0 rfl rfl 2 (by decide) (hts _ q1028) (fun _ h9 => h9) rfl (by decide +kernel) rfl rfl (Nat.le_of_ble_eq_true rfl) dX6_take_58 (fun H locs hP hD hS => ?_)
  have hP : va_P D vwCl [(ty, .inr (7, [.int ba, .int co, .int (su + bs), .int (if bs < le then bs else le), .int (if gr < bs then bs else gr), .int bs, .int op, .int os, .int fl, .ref li])), (li, .inr (0, [.int 0, .ref z, .int 0]))] H := hP
  have hD : va_D A [(ty, .inr (7, [.int ba, .int co, .int (su + bs), .int (if bs < le then bs else le), .int (if gr < bs then bs else gr), .int bs, .int op, .int os, .int fl, .ref li])), (li, .inr (0, [.int 0, .ref z, .int 0]))] := hD
  refine lv_aload_n hx hb dX6_take_61 rfl (lv_at hl 0 rfl) ?_
  refine lv_dup hx hb dX6_take_62 rfl ?_
  refine va_get hx hb hts i_X6 hown hT.1 hP 0 rfl rfl 1 (by decide) (hts _ q1026) (fun _ h9 => h9) rfl dX6_take_63 ?_
  refine lv_iconst (v := 1) hx hb dX6_take_66 (by decide) ?_
  refine lv_iadd hx hb dX6_take_67 ?_
  refine va_put (D := D) (ci := 7) (v := .int (co + 1)) (ty := .int) hx hb hts i_X6 tyX6 tyX6_ok nmX6 hown hT.1 hP hD hS 0 rfl rfl 1 (by decide) (hts _ q1026) (fun _ h9 => h9) rfl (by decide +kernel) rfl rfl (Nat.le_of_ble_eq_true rfl) dX6_take_68 (fun H locs hP hD hS => ?_)
  have hP : va_P D vwCl [(ty, .inr (7, [.int ba, .int (co + 1), .int (su + bs), .int (if bs < le then bs else le), .int (if gr < bs then bs else gr), .int bs, .int op, .int os, .int fl, .ref li])), (li, .inr (0, [.int 0, .ref z, .int 0]))] H := hP
  have hD : va_D A [(ty, .inr (7, [.int ba, .int (co + 1), .int (su + bs), .int (if bs < le then bs else le), .int (if gr < bs then bs else gr), .int bs, .int op, .int os, .int fl, .ref li])), (li, .inr (0, [.int 0, .ref z, .int 0]))] := hD
  refine lv_aload_n hx hb dX6_take_71 rfl (lv_at hl 0 rfl) ?_
  refine lv_dup hx hb dX6_take_72 rfl ?_
  refine va_get hx hb hts i_X6 hown hT.1 hP 0 rfl rfl 6 (by decide) (hts _ q1036) (fun _ h9 => h9) rfl dX6_take_73 ?_
  refine lv_iconst (v := 1) hx hb dX6_take_76 (by decide) ?_
  refine lv_iadd hx hb dX6_take_77 ?_
  refine va_put (D := D) (ci := 7) (v := .int (op + 1)) (ty := .int) hx hb hts i_X6 tyX6 tyX6_ok nmX6 hown hT.1 hP hD hS 0 rfl rfl 6 (by decide) (hts _ q1036) (fun _ h9 => h9) rfl (by decide +kernel) rfl rfl (Nat.le_of_ble_eq_true rfl) dX6_take_78 (fun H locs hP hD hS => ?_)
  have hP : va_P D vwCl [(ty, .inr (7, [.int ba, .int (co + 1), .int (su + bs), .int (if bs < le then bs else le), .int (if gr < bs then bs else gr), .int bs, .int (op + 1), .int os, .int fl, .ref li])), (li, .inr (0, [.int 0, .ref z, .int 0]))] H := hP
  have hD : va_D A [(ty, .inr (7, [.int ba, .int (co + 1), .int (su + bs), .int (if bs < le then bs else le), .int (if gr < bs then bs else gr), .int bs, .int (op + 1), .int os, .int fl, .ref li])), (li, .inr (0, [.int 0, .ref z, .int 0]))] := hD
  refine lv_aload_n hx hb dX6_take_81 rfl (lv_at hl 0 rfl) ?_
  refine lv_dup hx hb dX6_take_82 rfl ?_
  refine va_get hx hb hts i_X6 hown hT.1 hP 0 rfl rfl 7 (by decide) (hts _ q1037) (fun _ h9 => h9) rfl dX6_take_83 ?_
  refine lv_iload_n hx hb dX6_take_86 rfl (lv_at hl 1 rfl) ?_
  refine lv_iadd hx hb dX6_take_87 ?_
  refine va_put (D := D) (ci := 7) (v := .int (os + bs)) (ty := .int) hx hb hts i_X6 tyX6 tyX6_ok nmX6 hown hT.1 hP hD hS 0 rfl rfl 7 (by decide) (hts _ q1037) (fun _ h9 => h9) rfl (by decide +kernel) rfl rfl (Nat.le_of_ble_eq_true rfl) dX6_take_88 (fun H locs hP hD hS => ?_)
  have hP : va_P D vwCl [(ty, .inr (7, [.int ba, .int (co + 1), .int (su + bs), .int (if bs < le then bs else le), .int (if gr < bs then bs else gr), .int bs, .int (op + 1), .int (os + bs), .int fl, .ref li])), (li, .inr (0, [.int 0, .ref z, .int 0]))] H := hP
  have hD : va_D A [(ty, .inr (7, [.int ba, .int (co + 1), .int (su + bs), .int (if bs < le then bs else le), .int (if gr < bs then bs else gr), .int bs, .int (op + 1), .int (os + bs), .int fl, .ref li])), (li, .inr (0, [.int 0, .ref z, .int 0]))] := hD
  refine lv_aload_n hx hb dX6_take_91 rfl (lv_at hl 0 rfl) ?_
  refine va_get hx hb hts i_X6 hown hT.1 hP 0 rfl rfl 6 (by decide) (hts _ q1036) (fun _ h9 => h9) rfl dX6_take_92 ?_
  refine lv_aload_n hx hb dX6_take_95 rfl (lv_at hl 0 rfl) ?_
  refine va_get hx hb hts i_X6 hown hT.1 hP 0 rfl rfl 0 (by decide) (hts _ q1025) (fun _ h9 => h9) rfl dX6_take_96 ?_
  refine lv_icmp_lt (tgt := 120) hx hb dX6_take_99 (by decide) (fun h9 => absurd h9 hop) (fun _ => ?_)
  refine lv_aload_n hx hb dX6_take_102 rfl (lv_at hl 0 rfl) ?_
  refine lv_aload_n hx hb dX6_take_103 rfl (lv_at hl 0 rfl) ?_
  refine va_get hx hb hts i_X6 hown hT.1 hP 0 rfl rfl 7 (by decide) (hts _ q1037) (fun _ h9 => h9) rfl dX6_take_104 ?_
  have hPc := hP.sub (ws' := [(ty, .inr (7, [.int ba, .int (co + 1), .int (su + bs), .int (if bs < le then bs else le), .int (if gr < bs then bs else gr), .int bs, .int (op + 1), .int (os + bs), .int fl, .ref li])), (li, .inr (0, [.int 0, .ref z, .int 0]))]) [0, 1] rfl
  have hDc := hD.sub (ws' := [(ty, .inr (7, [.int ba, .int (co + 1), .int (su + bs), .int (if bs < le then bs else le), .int (if gr < bs then bs else gr), .int bs, .int (op + 1), .int (os + bs), .int fl, .ref li])), (li, .inr (0, [.int 0, .ref z, .int 0]))]) [0, 1] (by decide) rfl
  have hFc := va_free (wc := [(ty, .inr (7, [.int ba, .int (co + 1), .int (su + bs), .int (if bs < le then bs else le), .int (if gr < bs then bs else gr), .int bs, .int (op + 1), .int (os + bs), .int fl, .ref li])), (li, .inr (0, [.int 0, .ref z, .int 0]))]) hD hS hA [0, 1] rfl
  refine va_callv (va_runV (As := [.int (os + bs)]) (rest := []) ⟨hx, hb, hml, hown, hts⟩ (x_X6_keep0 l h0 h2 ty li ba ((co + 1)) ((su + bs)) ((if bs < le then bs else le)) ((if gr < bs then bs else gr)) bs ((op + 1)) ((os + bs)) fl ((os + bs)) hfl hset H.size) (cwV 1 hts (gd_V q541 q543 q19 q54 q545) rfl rfl rfl hd_X6_keep ⟨Nat.le_of_ble_eq_true rfl, Nat.le_of_ble_eq_true rfl⟩) ⟨Xe.blind, va_recv (q0 := 0) hT.1 hP rfl rfl, fun U hU hW => ⟨rfl, Xe.warm hW hT hE hS hAb hU, by show U.heap.size = _; rw [hU], by rw [hU]; exact hPc, hDc.weaken (fun k q _ h => hAb _ h)⟩⟩ rfl rfl hl.1 rfl (lv_room (Nat.le_of_ble_eq_true rfl)) dX6_take_107 ⟨Nat.le_of_ble_eq_true rfl, Nat.le_of_ble_eq_true rfl⟩) hS (fun q _ h => hFc q h) hFc (fun u9 t9 H1 locs ht9 hvm9 hw9 hB9 hz9 hk9 hS => ?_)
  obtain ⟨q1, q2, q3, hP1, hD1⟩ := hB9
  rw [ht9] at hP1
  obtain ⟨hP, hD⟩ := va_join (wr := []) (w1 := [(ty, .inr (7, [.int ba, .int ((co + 1)), .int ((su + bs)), .int ((if bs < le then bs else le)), .int ((if gr < bs then bs else gr)), .int bs, .int ((op + 1)), .int ((os + bs)), .int (fl + 1), .ref li])), (q1, .inr (1, [.ref q2])), (li, .inr (0, [.int (0 + 1), .ref q3, .int (0 + 1)])), (q3, .inl (c2, 10, .inr (.inr (.inr (.inr (va_up (fun _ => none) (0 : Int32).toNatClampNeg (some q1))))))), (q2, .inl (c0, 512, .inl (upd (fun _ => 0) ((fl - fl / 512 * 512)).toNatClampNeg ((os + bs)))))]) hP hD [0, 1] [] rfl rfl (by decide) (by decide) hk9 hFc hP1 hD1
  generalize H1 = H at hP hS ⊢
  have hP : va_P D vwCl [(ty, .inr (7, [.int ba, .int ((co + 1)), .int ((su + bs)), .int ((if bs < le then bs else le)), .int ((if gr < bs then bs else gr)), .int bs, .int ((op + 1)), .int ((os + bs)), .int (fl + 1), .ref li])), (q1, .inr (1, [.ref q2])), (li, .inr (0, [.int (0 + 1), .ref q3, .int (0 + 1)])), (q3, .inl (c2, 10, .inr (.inr (.inr (.inr (va_up (fun _ => none) (0 : Int32).toNatClampNeg (some q1))))))), (q2, .inl (c0, 512, .inl (upd (fun _ => 0) ((fl - fl / 512 * 512)).toNatClampNeg ((os + bs)))))] H := hP
  have hD : va_D A [(ty, .inr (7, [.int ba, .int ((co + 1)), .int ((su + bs)), .int ((if bs < le then bs else le)), .int ((if gr < bs then bs else gr)), .int bs, .int ((op + 1)), .int ((os + bs)), .int (fl + 1), .ref li])), (q1, .inr (1, [.ref q2])), (li, .inr (0, [.int (0 + 1), .ref q3, .int (0 + 1)])), (q3, .inl (c2, 10, .inr (.inr (.inr (.inr (va_up (fun _ => none) (0 : Int32).toNatClampNeg (some q1))))))), (q2, .inl (c0, 512, .inl (upd (fun _ => 0) ((fl - fl / 512 * 512)).toNatClampNeg ((os + bs)))))] := hD
  refine lv_aload_n hx hb dX6_take_110 rfl (lv_at hl 0 rfl) ?_
  refine lv_iconst (v := 0) hx hb dX6_take_111 (by decide) ?_
  refine va_put (D := D) (ci := 7) (v := .int 0) (ty := .int) hx hb hts i_X6 tyX6 tyX6_ok nmX6 hown hT.1 hP hD hS 0 rfl rfl 6 (by decide) (hts _ q1036) (fun _ h9 => h9) rfl (by decide +kernel) rfl rfl (Nat.le_of_ble_eq_true rfl) dX6_take_112 (fun H locs hP hD hS => ?_)
  have hP : va_P D vwCl [(ty, .inr (7, [.int ba, .int ((co + 1)), .int ((su + bs)), .int ((if bs < le then bs else le)), .int ((if gr < bs then bs else gr)), .int bs, .int 0, .int ((os + bs)), .int (fl + 1), .ref li])), (q1, .inr (1, [.ref q2])), (li, .inr (0, [.int (0 + 1), .ref q3, .int (0 + 1)])), (q3, .inl (c2, 10, .inr (.inr (.inr (.inr (va_up (fun _ => none) (0 : Int32).toNatClampNeg (some q1))))))), (q2, .inl (c0, 512, .inl (upd (fun _ => 0) ((fl - fl / 512 * 512)).toNatClampNeg ((os + bs)))))] H := hP
  have hD : va_D A [(ty, .inr (7, [.int ba, .int ((co + 1)), .int ((su + bs)), .int ((if bs < le then bs else le)), .int ((if gr < bs then bs else gr)), .int bs, .int 0, .int ((os + bs)), .int (fl + 1), .ref li])), (q1, .inr (1, [.ref q2])), (li, .inr (0, [.int (0 + 1), .ref q3, .int (0 + 1)])), (q3, .inl (c2, 10, .inr (.inr (.inr (.inr (va_up (fun _ => none) (0 : Int32).toNatClampNeg (some q1))))))), (q2, .inl (c0, 512, .inl (upd (fun _ => 0) ((fl - fl / 512 * 512)).toNatClampNeg ((os + bs)))))] := hD
  refine lv_aload_n hx hb dX6_take_115 rfl (lv_at hl 0 rfl) ?_
  refine lv_iconst (v := 0) hx hb dX6_take_116 (by decide) ?_
  refine va_put (D := D) (ci := 7) (v := .int 0) (ty := .int) hx hb hts i_X6 tyX6 tyX6_ok nmX6 hown hT.1 hP hD hS 0 rfl rfl 7 (by decide) (hts _ q1037) (fun _ h9 => h9) rfl (by decide +kernel) rfl rfl (Nat.le_of_ble_eq_true rfl) dX6_take_117 (fun H locs hP hD hS => ?_)
  have hP : va_P D vwCl [(ty, .inr (7, [.int ba, .int ((co + 1)), .int ((su + bs)), .int ((if bs < le then bs else le)), .int ((if gr < bs then bs else gr)), .int bs, .int 0, .int 0, .int (fl + 1), .ref li])), (q1, .inr (1, [.ref q2])), (li, .inr (0, [.int (0 + 1), .ref q3, .int (0 + 1)])), (q3, .inl (c2, 10, .inr (.inr (.inr (.inr (va_up (fun _ => none) (0 : Int32).toNatClampNeg (some q1))))))), (q2, .inl (c0, 512, .inl (upd (fun _ => 0) ((fl - fl / 512 * 512)).toNatClampNeg ((os + bs)))))] H := hP
  have hD : va_D A [(ty, .inr (7, [.int ba, .int ((co + 1)), .int ((su + bs)), .int ((if bs < le then bs else le)), .int ((if gr < bs then bs else gr)), .int bs, .int 0, .int 0, .int (fl + 1), .ref li])), (q1, .inr (1, [.ref q2])), (li, .inr (0, [.int (0 + 1), .ref q3, .int (0 + 1)])), (q3, .inl (c2, 10, .inr (.inr (.inr (.inr (va_up (fun _ => none) (0 : Int32).toNatClampNeg (some q1))))))), (q2, .inl (c0, 512, .inl (upd (fun _ => 0) ((fl - fl / 512 * 512)).toNatClampNeg ((os + bs)))))] := hD
  have hP9 := hP.sub (ws' := [(ty, .inr (7, [.int ba, .int ((co + 1)), .int ((su + bs)), .int ((if bs < le then bs else le)), .int ((if gr < bs then bs else gr)), .int bs, .int 0, .int 0, .int (fl + 1), .ref li])), (q1, .inr (1, [.ref q2])), (li, .inr (0, [.int (0 + 1), .ref q3, .int (0 + 1)])), (q3, .inl (c2, 10, .inr (.inr (.inr (.inr (va_up (fun _ => none) (0 : Int32).toNatClampNeg (some q1))))))), (q2, .inl (c0, 512, .inl (upd (fun _ => 0) ((fl - fl / 512 * 512)).toNatClampNeg ((os + bs)))))]) [0, 1, 2, 3, 4] rfl
  have hD9 := hD.sub (ws' := [(ty, .inr (7, [.int ba, .int ((co + 1)), .int ((su + bs)), .int ((if bs < le then bs else le)), .int ((if gr < bs then bs else gr)), .int bs, .int 0, .int 0, .int (fl + 1), .ref li])), (q1, .inr (1, [.ref q2])), (li, .inr (0, [.int (0 + 1), .ref q3, .int (0 + 1)])), (q3, .inl (c2, 10, .inr (.inr (.inr (.inr (va_up (fun _ => none) (0 : Int32).toNatClampNeg (some q1))))))), (q2, .inl (c0, 512, .inl (upd (fun _ => 0) ((fl - fl / 512 * 512)).toNatClampNeg ((os + bs)))))]) [0, 1, 2, 3, 4] (by decide) rfl
  exact W.vret hx hb hr (fun t9 ht hW => ⟨⟨(), rfl, trivial, q1, q2, q3, by rw [ht]; exact hP9, hD9⟩, hS.F ht⟩) hS.2.2 dX6_take_120
set_option maxHeartbeats 4000000 in
set_option maxRecDepth 100000 in
theorem x_X6_take_11 (l : Launch) {D : va_G} {tys : List (ClassId × FieldType)} {z b : Nat} {k0 k2 : Nat} {c0 c2 : ClassId} (h0 : tys[k0]? = some (c0, .int)) (h2 : tys[k2]? = some (c2, .object "java/lang/Object")) (ty li : Nat) (ba co su le gr la op os fl bs : Int32) (e n : Nat) (f : Nat → Option Nat) (hn0 : ¬ nI n = 0) (hn : n < 10) (h5 : ¬ fl < nI n * 512) (hco : ¬ co = 0) (hop : ¬ op + 1 < ba) (hfl : fl < 8192000) (hset : ¬ fl - fl / 512 * 512 < 0 ∧ ¬ (512 : Int32) ≤ fl - fl / 512 * 512 ∧ vp_in (fl - fl / 512 * 512) 512) (sz : Nat) : Met l yX6_take (ws_ yX6_take cX6_take 2 none) (rm_ 6 133 3 523) (Xe D tys z b c2 [.ref ty, .int bs] (fun H9 => H9.size = sz) [(ty, .inr (7, [.int ba, .int co, .int su, .int le, .int gr, .int la, .int op, .int os, .int fl, .ref li])), (li, .inr (0, [.int (nI n), .ref e, .int (nI n)])), (e, .inl (c2, 10, .inr (.inr (.inr (.inr f)))))]) (va_Qv (fun _ : Unit => True) (fun _ t => ∃ (q1 q2 : Nat), va_P D vwCl [(ty, .inr (7, [.int ba, .int ((co + 1)), .int ((su + bs)), .int ((if bs < le then bs else le)), .int ((if gr < bs then bs else gr)), .int bs, .int 0, .int 0, .int (fl + 1), .ref li])), (q1, .inr (1, [.ref q2])), (li, .inr (0, [.int (((nI n)) + 1), .ref e, .int (nI n + 1)])), (e, .inl (c2, 10, .inr (.inr (.inr (.inr (va_up f (nI n).toNatClampNeg (some q1))))))), (q2, .inl (c0, 512, .inl (upd (fun _ => 0) ((fl - fl / 512 * 512)).toNatClampNeg ((os + bs)))))] t.heap ∧ va_D (va_A [(ty, .inr (7, [.int ba, .int co, .int su, .int le, .int gr, .int la, .int op, .int os, .int fl, .ref li])), (li, .inr (0, [.int (nI n), .ref e, .int (nI n)])), (e, .inl (c2, 10, .inr (.inr (.inr (.inr f)))))] sz) [(ty, .inr (7, [.int ba, .int ((co + 1)), .int ((su + bs)), .int ((if bs < le then bs else le)), .int ((if gr < bs then bs else gr)), .int bs, .int 0, .int 0, .int (fl + 1), .ref li])), (q1, .inr (1, [.ref q2])), (li, .inr (0, [.int (((nI n)) + 1), .ref e, .int (nI n + 1)])), (e, .inl (c2, 10, .inr (.inr (.inr (.inr (va_up f (nI n).toNatClampNeg (some q1))))))), (q2, .inl (c0, 512, .inl (upd (fun _ => 0) ((fl - fl / 512 * 512)).toNatClampNeg ((os + bs)))))]) (va_A [(ty, .inr (7, [.int ba, .int co, .int su, .int le, .int gr, .int la, .int op, .int os, .int fl, .ref li])), (li, .inr (0, [.int (nI n), .ref e, .int (nI n)])), (e, .inl (c2, 10, .inr (.inr (.inr (.inr f)))))] sz)) 3 523 (va_A [(ty, .inr (7, [.int ba, .int co, .int su, .int le, .int gr, .int la, .int op, .int os, .int fl, .ref li])), (li, .inr (0, [.int (nI n), .ref e, .int (nI n)])), (e, .inl (c2, 10, .inr (.inr (.inr (.inr f)))))] sz) := by
  refine Met.ofW (cc := cX6_take) (maxL := 2) (ret := none) (by decide) rfl ?_
  intro p e9 s m args below meth c s₁ B hml hv
  obtain ⟨rfl, ⟨hT, hE⟩, hsz, hP, hD0⟩ := hv
  have hx := B.exec
  have hb := B.bytes
  have hr := B.returns
  have hts : ∀ w ∈ lw_all, w.before _ s = true := fun w h => atoms_spec (ws := (ws_ yX6_take cX6_take 2 none)) B.pre w (List.mem_cons_of_mem _ h)
  have hown : s.vm.findClass RX6 = some m.cls := findClass_of_methodNamed B.named
  have hlocks := B.notSynchronized
  subst hsz
  have hD := hD0.self (sz := s.heap.size)
  have hAb : ∀ q, va_A [(ty, .inr (7, [.int ba, .int co, .int su, .int le, .int gr, .int la, .int op, .int os, .int fl, .ref li])), (li, .inr (0, [.int (nI n), .ref e, .int (nI n)])), (e, .inl (c2, 10, .inr (.inr (.inr (.inr f)))))] s.heap.size q → b ≤ q := fun q h => h.elim (fun ⟨k, e, h⟩ => hD0.2 k _ h) (fun h => Nat.le_trans hE.2.2.1 h)
  generalize hAe : va_A [(ty, .inr (7, [.int ba, .int co, .int su, .int le, .int gr, .int la, .int op, .int os, .int fl, .ref li])), (li, .inr (0, [.int (nI n), .ref e, .int (nI n)])), (e, .inl (c2, 10, .inr (.inr (.inr (.inr f)))))] s.heap.size = A at hD hAb ⊢
  have hA : ∀ q : Nat, s.heap.size ≤ q → A q := fun q h => by rw [← hAe]; exact Or.inr h
  have hS : va_S A s.heap s.heap [] := va_S.rf
  have hZ := hE.1.narrow hAb
  have hE0 := fun (H9 : Heap) (l9 : List Loc) (h9 : va_S A s.heap H9 l9) => Em.row hE h9 hAb
  obtain ⟨H, hHe⟩ : ∃ H : Heap, H = s.heap := ⟨_, rfl⟩
  have hP : va_P D vwCl [(ty, .inr (7, [.int ba, .int co, .int su, .int le, .int gr, .int la, .int op, .int os, .int fl, .ref li])), (li, .inr (0, [.int (nI n), .ref e, .int (nI n)])), (e, .inl (c2, 10, .inr (.inr (.inr (.inr f)))))] s.heap := hP
  have hl := lv_entry ([.ref ty, .int bs]) (n := 2) (Nat.le_of_ble_eq_true rfl)
  rw [lg_entry_eq]
  generalize (lg_sl ([.ref ty, .int bs]) ++ List.replicate (2 - (lg_sl ([.ref ty, .int bs])).length) Slot.unset).toArray = ls at hl ⊢
  have hl : lv_has ls 2 [(0, .ref ty), (1, .int bs)] := hl
  clear hHe H
  refine lv_aload_n hx hb dX6_take_0 rfl (lv_at hl 0 rfl) ?_
  refine lv_aload_n hx hb dX6_take_1 rfl (lv_at hl 0 rfl) ?_
  refine va_get hx hb hts i_X6 hown hT.1 hP 0 rfl rfl 1 (by decide) (hts _ q1026) (fun _ h9 => h9) rfl dX6_take_2 ?_
  refine lv_if_ne (tgt := 12) hx hb dX6_take_5 (by decide) (fun _ => ?_) (fun h9 => absurd h9 hco)
  refine lv_aload_n hx hb dX6_take_12 rfl (lv_at hl 0 rfl) ?_
  refine va_get hx hb hts i_X6 hown hT.1 hP 0 rfl rfl 3 (by decide) (hts _ q1030) (fun _ h9 => h9) rfl dX6_take_13 ?_
  refine lv_iload_n hx hb dX6_take_16 rfl (lv_at hl 1 rfl) ?_
  refine va_mmin hx hb (by rw [hml]; exact hl.1.symm) hown (hts _ q539) (hts _ q497) (hts _ q50) (hts _ q498) (Nat.le_of_ble_eq_true rfl) (Nat.le_of_ble_eq_true rfl) (Nat.le_of_ble_eq_true rfl) (Nat.le_of_ble_eq_true rfl) dX6_take_17 ?_
  refine va_put (D := D) (ci := 7) (v := .int (if bs < le then bs else le)) (ty := .int) hx hb hts i_X6 tyX6 tyX6_ok nmX6 hown hT.1 hP hD hS 0 rfl rfl 3 (by decide) (hts _ q1030) (fun _ h9 => h9) rfl (by decide +kernel) rfl rfl (Nat.le_of_ble_eq_true rfl) dX6_take_20 (fun H locs hP hD hS => ?_)
  have hP : va_P D vwCl [(ty, .inr (7, [.int ba, .int co, .int su, .int (if bs < le then bs else le), .int gr, .int la, .int op, .int os, .int fl, .ref li])), (li, .inr (0, [.int (nI n), .ref e, .int (nI n)])), (e, .inl (c2, 10, .inr (.inr (.inr (.inr f)))))] H := hP
  have hD : va_D A [(ty, .inr (7, [.int ba, .int co, .int su, .int (if bs < le then bs else le), .int gr, .int la, .int op, .int os, .int fl, .ref li])), (li, .inr (0, [.int (nI n), .ref e, .int (nI n)])), (e, .inl (c2, 10, .inr (.inr (.inr (.inr f)))))] := hD
  refine lv_aload_n hx hb dX6_take_23 rfl (lv_at hl 0 rfl) ?_
  refine lv_aload_n hx hb dX6_take_24 rfl (lv_at hl 0 rfl) ?_
  refine va_get hx hb hts i_X6 hown hT.1 hP 0 rfl rfl 1 (by decide) (hts _ q1026) (fun _ h9 => h9) rfl dX6_take_25 ?_
  refine lv_if_ne (tgt := 35) hx hb dX6_take_28 (by decide) (fun _ => ?_) (fun h9 => absurd h9 hco)
  refine lv_aload_n hx hb dX6_take_35 rfl (lv_at hl 0 rfl) ?_
  refine va_get hx hb hts i_X6 hown hT.1 hP 0 rfl rfl 4 (by decide) (hts _ q1032) (fun _ h9 => h9) rfl dX6_take_36 ?_
  refine lv_iload_n hx hb dX6_take_39 rfl (lv_at hl 1 rfl) ?_
  refine va_mmax hx hb (by rw [hml]; exact hl.1.symm) hown (hts _ q540) (hts _ q482) (hts _ q50) (hts _ q483) (Nat.le_of_ble_eq_true rfl) (Nat.le_of_ble_eq_true rfl) (Nat.le_of_ble_eq_true rfl) (Nat.le_of_ble_eq_true rfl) dX6_take_40 ?_
  refine va_put (D := D) (ci := 7) (v := .int (if gr < bs then bs else gr)) (ty := .int) hx hb hts i_X6 tyX6 tyX6_ok nmX6 hown hT.1 hP hD hS 0 rfl rfl 4 (by decide) (hts _ q1032) (fun _ h9 => h9) rfl (by decide +kernel) rfl rfl (Nat.le_of_ble_eq_true rfl) dX6_take_43 (fun H locs hP hD hS => ?_)
  have hP : va_P D vwCl [(ty, .inr (7, [.int ba, .int co, .int su, .int (if bs < le then bs else le), .int (if gr < bs then bs else gr), .int la, .int op, .int os, .int fl, .ref li])), (li, .inr (0, [.int (nI n), .ref e, .int (nI n)])), (e, .inl (c2, 10, .inr (.inr (.inr (.inr f)))))] H := hP
  have hD : va_D A [(ty, .inr (7, [.int ba, .int co, .int su, .int (if bs < le then bs else le), .int (if gr < bs then bs else gr), .int la, .int op, .int os, .int fl, .ref li])), (li, .inr (0, [.int (nI n), .ref e, .int (nI n)])), (e, .inl (c2, 10, .inr (.inr (.inr (.inr f)))))] := hD
  refine lv_aload_n hx hb dX6_take_46 rfl (lv_at hl 0 rfl) ?_
  refine lv_iload_n hx hb dX6_take_47 rfl (lv_at hl 1 rfl) ?_
  refine va_put (D := D) (ci := 7) (v := .int bs) (ty := .int) hx hb hts i_X6 tyX6 tyX6_ok nmX6 hown hT.1 hP hD hS 0 rfl rfl 5 (by decide) (hts _ q1034) (fun _ h9 => h9) rfl (by decide +kernel) rfl rfl (Nat.le_of_ble_eq_true rfl) dX6_take_48 (fun H locs hP hD hS => ?_)
  have hP : va_P D vwCl [(ty, .inr (7, [.int ba, .int co, .int su, .int (if bs < le then bs else le), .int (if gr < bs then bs else gr), .int bs, .int op, .int os, .int fl, .ref li])), (li, .inr (0, [.int (nI n), .ref e, .int (nI n)])), (e, .inl (c2, 10, .inr (.inr (.inr (.inr f)))))] H := hP
  have hD : va_D A [(ty, .inr (7, [.int ba, .int co, .int su, .int (if bs < le then bs else le), .int (if gr < bs then bs else gr), .int bs, .int op, .int os, .int fl, .ref li])), (li, .inr (0, [.int (nI n), .ref e, .int (nI n)])), (e, .inl (c2, 10, .inr (.inr (.inr (.inr f)))))] := hD
  refine lv_aload_n hx hb dX6_take_51 rfl (lv_at hl 0 rfl) ?_
  refine lv_dup hx hb dX6_take_52 rfl ?_
  refine va_get hx hb hts i_X6 hown hT.1 hP 0 rfl rfl 2 (by decide) (hts _ q1028) (fun _ h9 => h9) rfl dX6_take_53 ?_
  refine lv_iload_n hx hb dX6_take_56 rfl (lv_at hl 1 rfl) ?_
  refine lv_iadd hx hb dX6_take_57 ?_
  refine va_put (D := D) (ci := 7) (v := .int (su + bs)) (ty := .int) hx hb hts i_X6 tyX6 tyX6_ok nmX6 hown hT.1 hP hD hS 0 rfl rfl 2 (by decide) (hts _ q1028) (fun _ h9 => h9) rfl (by decide +kernel) rfl rfl (Nat.le_of_ble_eq_true rfl) dX6_take_58 (fun H locs hP hD hS => ?_)
  have hP : va_P D vwCl [(ty, .inr (7, [.int ba, .int co, .int (su + bs), .int (if bs < le then bs else le), .int (if gr < bs then bs else gr), .int bs, .int op, .int os, .int fl, .ref li])), (li, .inr (0, [.int (nI n), .ref e, .int (nI n)])), (e, .inl (c2, 10, .inr (.inr (.inr (.inr f)))))] H := hP
  have hD : va_D A [(ty, .inr (7, [.int ba, .int co, .int (su + bs), .int (if bs < le then bs else le), .int (if gr < bs then bs else gr), .int bs, .int op, .int os, .int fl, .ref li])), (li, .inr (0, [.int (nI n), .ref e, .int (nI n)])), (e, .inl (c2, 10, .inr (.inr (.inr (.inr f)))))] := hD
  refine lv_aload_n hx hb dX6_take_61 rfl (lv_at hl 0 rfl) ?_
  refine lv_dup hx hb dX6_take_62 rfl ?_
  refine va_get hx hb hts i_X6 hown hT.1 hP 0 rfl rfl 1 (by decide) (hts _ q1026) (fun _ h9 => h9) rfl dX6_take_63 ?_
  refine lv_iconst (v := 1) hx hb dX6_take_66 (by decide) ?_
  refine lv_iadd hx hb dX6_take_67 ?_
  refine va_put (D := D) (ci := 7) (v := .int (co + 1)) (ty := .int) hx hb hts i_X6 tyX6 tyX6_ok nmX6 hown hT.1 hP hD hS 0 rfl rfl 1 (by decide) (hts _ q1026) (fun _ h9 => h9) rfl (by decide +kernel) rfl rfl (Nat.le_of_ble_eq_true rfl) dX6_take_68 (fun H locs hP hD hS => ?_)
  have hP : va_P D vwCl [(ty, .inr (7, [.int ba, .int (co + 1), .int (su + bs), .int (if bs < le then bs else le), .int (if gr < bs then bs else gr), .int bs, .int op, .int os, .int fl, .ref li])), (li, .inr (0, [.int (nI n), .ref e, .int (nI n)])), (e, .inl (c2, 10, .inr (.inr (.inr (.inr f)))))] H := hP
  have hD : va_D A [(ty, .inr (7, [.int ba, .int (co + 1), .int (su + bs), .int (if bs < le then bs else le), .int (if gr < bs then bs else gr), .int bs, .int op, .int os, .int fl, .ref li])), (li, .inr (0, [.int (nI n), .ref e, .int (nI n)])), (e, .inl (c2, 10, .inr (.inr (.inr (.inr f)))))] := hD
  refine lv_aload_n hx hb dX6_take_71 rfl (lv_at hl 0 rfl) ?_
  refine lv_dup hx hb dX6_take_72 rfl ?_
  refine va_get hx hb hts i_X6 hown hT.1 hP 0 rfl rfl 6 (by decide) (hts _ q1036) (fun _ h9 => h9) rfl dX6_take_73 ?_
  refine lv_iconst (v := 1) hx hb dX6_take_76 (by decide) ?_
  refine lv_iadd hx hb dX6_take_77 ?_
  refine va_put (D := D) (ci := 7) (v := .int (op + 1)) (ty := .int) hx hb hts i_X6 tyX6 tyX6_ok nmX6 hown hT.1 hP hD hS 0 rfl rfl 6 (by decide) (hts _ q1036) (fun _ h9 => h9) rfl (by decide +kernel) rfl rfl (Nat.le_of_ble_eq_true rfl) dX6_take_78 (fun H locs hP hD hS => ?_)
  have hP : va_P D vwCl [(ty, .inr (7, [.int ba, .int (co + 1), .int (su + bs), .int (if bs < le then bs else le), .int (if gr < bs then bs else gr), .int bs, .int (op + 1), .int os, .int fl, .ref li])), (li, .inr (0, [.int (nI n), .ref e, .int (nI n)])), (e, .inl (c2, 10, .inr (.inr (.inr (.inr f)))))] H := hP
  have hD : va_D A [(ty, .inr (7, [.int ba, .int (co + 1), .int (su + bs), .int (if bs < le then bs else le), .int (if gr < bs then bs else gr), .int bs, .int (op + 1), .int os, .int fl, .ref li])), (li, .inr (0, [.int (nI n), .ref e, .int (nI n)])), (e, .inl (c2, 10, .inr (.inr (.inr (.inr f)))))] := hD
  refine lv_aload_n hx hb dX6_take_81 rfl (lv_at hl 0 rfl) ?_
  refine lv_dup hx hb dX6_take_82 rfl ?_
  refine va_get hx hb hts i_X6 hown hT.1 hP 0 rfl rfl 7 (by decide) (hts _ q1037) (fun _ h9 => h9) rfl dX6_take_83 ?_
  refine lv_iload_n hx hb dX6_take_86 rfl (lv_at hl 1 rfl) ?_
  refine lv_iadd hx hb dX6_take_87 ?_
  refine va_put (D := D) (ci := 7) (v := .int (os + bs)) (ty := .int) hx hb hts i_X6 tyX6 tyX6_ok nmX6 hown hT.1 hP hD hS 0 rfl rfl 7 (by decide) (hts _ q1037) (fun _ h9 => h9) rfl (by decide +kernel) rfl rfl (Nat.le_of_ble_eq_true rfl) dX6_take_88 (fun H locs hP hD hS => ?_)
  have hP : va_P D vwCl [(ty, .inr (7, [.int ba, .int (co + 1), .int (su + bs), .int (if bs < le then bs else le), .int (if gr < bs then bs else gr), .int bs, .int (op + 1), .int (os + bs), .int fl, .ref li])), (li, .inr (0, [.int (nI n), .ref e, .int (nI n)])), (e, .inl (c2, 10, .inr (.inr (.inr (.inr f)))))] H := hP
  have hD : va_D A [(ty, .inr (7, [.int ba, .int (co + 1), .int (su + bs), .int (if bs < le then bs else le), .int (if gr < bs then bs else gr), .int bs, .int (op + 1), .int (os + bs), .int fl, .ref li])), (li, .inr (0, [.int (nI n), .ref e, .int (nI n)])), (e, .inl (c2, 10, .inr (.inr (.inr (.inr f)))))] := hD
  refine lv_aload_n hx hb dX6_take_91 rfl (lv_at hl 0 rfl) ?_
  refine va_get hx hb hts i_X6 hown hT.1 hP 0 rfl rfl 6 (by decide) (hts _ q1036) (fun _ h9 => h9) rfl dX6_take_92 ?_
  refine lv_aload_n hx hb dX6_take_95 rfl (lv_at hl 0 rfl) ?_
  refine va_get hx hb hts i_X6 hown hT.1 hP 0 rfl rfl 0 (by decide) (hts _ q1025) (fun _ h9 => h9) rfl dX6_take_96 ?_
  refine lv_icmp_lt (tgt := 120) hx hb dX6_take_99 (by decide) (fun h9 => absurd h9 hop) (fun _ => ?_)
  refine lv_aload_n hx hb dX6_take_102 rfl (lv_at hl 0 rfl) ?_
  refine lv_aload_n hx hb dX6_take_103 rfl (lv_at hl 0 rfl) ?_
  refine va_get hx hb hts i_X6 hown hT.1 hP 0 rfl rfl 7 (by decide) (hts _ q1037) (fun _ h9 => h9) rfl dX6_take_104 ?_
  have hPc := hP.sub (ws' := [(ty, .inr (7, [.int ba, .int (co + 1), .int (su + bs), .int (if bs < le then bs else le), .int (if gr < bs then bs else gr), .int bs, .int (op + 1), .int (os + bs), .int fl, .ref li])), (li, .inr (0, [.int (nI n), .ref e, .int (nI n)])), (e, .inl (c2, 10, .inr (.inr (.inr (.inr f)))))]) [0, 1, 2] rfl
  have hDc := hD.sub (ws' := [(ty, .inr (7, [.int ba, .int (co + 1), .int (su + bs), .int (if bs < le then bs else le), .int (if gr < bs then bs else gr), .int bs, .int (op + 1), .int (os + bs), .int fl, .ref li])), (li, .inr (0, [.int (nI n), .ref e, .int (nI n)])), (e, .inl (c2, 10, .inr (.inr (.inr (.inr f)))))]) [0, 1, 2] (by decide) rfl
  have hFc := va_free (wc := [(ty, .inr (7, [.int ba, .int (co + 1), .int (su + bs), .int (if bs < le then bs else le), .int (if gr < bs then bs else gr), .int bs, .int (op + 1), .int (os + bs), .int fl, .ref li])), (li, .inr (0, [.int (nI n), .ref e, .int (nI n)])), (e, .inl (c2, 10, .inr (.inr (.inr (.inr f)))))]) hD hS hA [0, 1, 2] rfl
  refine va_callv (va_runV (As := [.int (os + bs)]) (rest := []) ⟨hx, hb, hml, hown, hts⟩ (x_X6_keep1 l h0 h2 ty li ba ((co + 1)) ((su + bs)) ((if bs < le then bs else le)) ((if gr < bs then bs else gr)) bs ((op + 1)) ((os + bs)) fl ((os + bs)) e n f hn0 hn h5 hfl hset H.size) (cwV 1 hts (gd_V q541 q543 q19 q54 q545) rfl rfl rfl hd_X6_keep ⟨Nat.le_of_ble_eq_true rfl, Nat.le_of_ble_eq_true rfl⟩) ⟨Xe.blind, va_recv (q0 := 0) hT.1 hP rfl rfl, fun U hU hW => ⟨rfl, Xe.warm hW hT hE hS hAb hU, by show U.heap.size = _; rw [hU], by rw [hU]; exact hPc, hDc.weaken (fun k q _ h => hAb _ h)⟩⟩ rfl rfl hl.1 rfl (lv_room (Nat.le_of_ble_eq_true rfl)) dX6_take_107 ⟨Nat.le_of_ble_eq_true rfl, Nat.le_of_ble_eq_true rfl⟩) hS (fun q _ h => hFc q h) hFc (fun u9 t9 H1 locs ht9 hvm9 hw9 hB9 hz9 hk9 hS => ?_)
  obtain ⟨q1, q2, hP1, hD1⟩ := hB9
  rw [ht9] at hP1
  obtain ⟨hP, hD⟩ := va_join (wr := []) (w1 := [(ty, .inr (7, [.int ba, .int ((co + 1)), .int ((su + bs)), .int ((if bs < le then bs else le)), .int ((if gr < bs then bs else gr)), .int bs, .int ((op + 1)), .int ((os + bs)), .int (fl + 1), .ref li])), (q1, .inr (1, [.ref q2])), (li, .inr (0, [.int (((nI n)) + 1), .ref e, .int (nI n + 1)])), (e, .inl (c2, 10, .inr (.inr (.inr (.inr (va_up f (nI n).toNatClampNeg (some q1))))))), (q2, .inl (c0, 512, .inl (upd (fun _ => 0) ((fl - fl / 512 * 512)).toNatClampNeg ((os + bs)))))]) hP hD [0, 1, 2] [] rfl rfl (by decide) (by decide) hk9 hFc hP1 hD1
  generalize H1 = H at hP hS ⊢
  have hP : va_P D vwCl [(ty, .inr (7, [.int ba, .int ((co + 1)), .int ((su + bs)), .int ((if bs < le then bs else le)), .int ((if gr < bs then bs else gr)), .int bs, .int ((op + 1)), .int ((os + bs)), .int (fl + 1), .ref li])), (q1, .inr (1, [.ref q2])), (li, .inr (0, [.int (((nI n)) + 1), .ref e, .int (nI n + 1)])), (e, .inl (c2, 10, .inr (.inr (.inr (.inr (va_up f (nI n).toNatClampNeg (some q1))))))), (q2, .inl (c0, 512, .inl (upd (fun _ => 0) ((fl - fl / 512 * 512)).toNatClampNeg ((os + bs)))))] H := hP
  have hD : va_D A [(ty, .inr (7, [.int ba, .int ((co + 1)), .int ((su + bs)), .int ((if bs < le then bs else le)), .int ((if gr < bs then bs else gr)), .int bs, .int ((op + 1)), .int ((os + bs)), .int (fl + 1), .ref li])), (q1, .inr (1, [.ref q2])), (li, .inr (0, [.int (((nI n)) + 1), .ref e, .int (nI n + 1)])), (e, .inl (c2, 10, .inr (.inr (.inr (.inr (va_up f (nI n).toNatClampNeg (some q1))))))), (q2, .inl (c0, 512, .inl (upd (fun _ => 0) ((fl - fl / 512 * 512)).toNatClampNeg ((os + bs)))))] := hD
  refine lv_aload_n hx hb dX6_take_110 rfl (lv_at hl 0 rfl) ?_
  refine lv_iconst (v := 0) hx hb dX6_take_111 (by decide) ?_
  refine va_put (D := D) (ci := 7) (v := .int 0) (ty := .int) hx hb hts i_X6 tyX6 tyX6_ok nmX6 hown hT.1 hP hD hS 0 rfl rfl 6 (by decide) (hts _ q1036) (fun _ h9 => h9) rfl (by decide +kernel) rfl rfl (Nat.le_of_ble_eq_true rfl) dX6_take_112 (fun H locs hP hD hS => ?_)
  have hP : va_P D vwCl [(ty, .inr (7, [.int ba, .int ((co + 1)), .int ((su + bs)), .int ((if bs < le then bs else le)), .int ((if gr < bs then bs else gr)), .int bs, .int 0, .int ((os + bs)), .int (fl + 1), .ref li])), (q1, .inr (1, [.ref q2])), (li, .inr (0, [.int (((nI n)) + 1), .ref e, .int (nI n + 1)])), (e, .inl (c2, 10, .inr (.inr (.inr (.inr (va_up f (nI n).toNatClampNeg (some q1))))))), (q2, .inl (c0, 512, .inl (upd (fun _ => 0) ((fl - fl / 512 * 512)).toNatClampNeg ((os + bs)))))] H := hP
  have hD : va_D A [(ty, .inr (7, [.int ba, .int ((co + 1)), .int ((su + bs)), .int ((if bs < le then bs else le)), .int ((if gr < bs then bs else gr)), .int bs, .int 0, .int ((os + bs)), .int (fl + 1), .ref li])), (q1, .inr (1, [.ref q2])), (li, .inr (0, [.int (((nI n)) + 1), .ref e, .int (nI n + 1)])), (e, .inl (c2, 10, .inr (.inr (.inr (.inr (va_up f (nI n).toNatClampNeg (some q1))))))), (q2, .inl (c0, 512, .inl (upd (fun _ => 0) ((fl - fl / 512 * 512)).toNatClampNeg ((os + bs)))))] := hD
  refine lv_aload_n hx hb dX6_take_115 rfl (lv_at hl 0 rfl) ?_
  refine lv_iconst (v := 0) hx hb dX6_take_116 (by decide) ?_
  refine va_put (D := D) (ci := 7) (v := .int 0) (ty := .int) hx hb hts i_X6 tyX6 tyX6_ok nmX6 hown hT.1 hP hD hS 0 rfl rfl 7 (by decide) (hts _ q1037) (fun _ h9 => h9) rfl (by decide +kernel) rfl rfl (Nat.le_of_ble_eq_true rfl) dX6_take_117 (fun H locs hP hD hS => ?_)
  have hP : va_P D vwCl [(ty, .inr (7, [.int ba, .int ((co + 1)), .int ((su + bs)), .int ((if bs < le then bs else le)), .int ((if gr < bs then bs else gr)), .int bs, .int 0, .int 0, .int (fl + 1), .ref li])), (q1, .inr (1, [.ref q2])), (li, .inr (0, [.int (((nI n)) + 1), .ref e, .int (nI n + 1)])), (e, .inl (c2, 10, .inr (.inr (.inr (.inr (va_up f (nI n).toNatClampNeg (some q1))))))), (q2, .inl (c0, 512, .inl (upd (fun _ => 0) ((fl - fl / 512 * 512)).toNatClampNeg ((os + bs)))))] H := hP
  have hD : va_D A [(ty, .inr (7, [.int ba, .int ((co + 1)), .int ((su + bs)), .int ((if bs < le then bs else le)), .int ((if gr < bs then bs else gr)), .int bs, .int 0, .int 0, .int (fl + 1), .ref li])), (q1, .inr (1, [.ref q2])), (li, .inr (0, [.int (((nI n)) + 1), .ref e, .int (nI n + 1)])), (e, .inl (c2, 10, .inr (.inr (.inr (.inr (va_up f (nI n).toNatClampNeg (some q1))))))), (q2, .inl (c0, 512, .inl (upd (fun _ => 0) ((fl - fl / 512 * 512)).toNatClampNeg ((os + bs)))))] := hD
  have hP9 := hP.sub (ws' := [(ty, .inr (7, [.int ba, .int ((co + 1)), .int ((su + bs)), .int ((if bs < le then bs else le)), .int ((if gr < bs then bs else gr)), .int bs, .int 0, .int 0, .int (fl + 1), .ref li])), (q1, .inr (1, [.ref q2])), (li, .inr (0, [.int (((nI n)) + 1), .ref e, .int (nI n + 1)])), (e, .inl (c2, 10, .inr (.inr (.inr (.inr (va_up f (nI n).toNatClampNeg (some q1))))))), (q2, .inl (c0, 512, .inl (upd (fun _ => 0) ((fl - fl / 512 * 512)).toNatClampNeg ((os + bs)))))]) [0, 1, 2, 3, 4] rfl
  have hD9 := hD.sub (ws' := [(ty, .inr (7, [.int ba, .int ((co + 1)), .int ((su + bs)), .int ((if bs < le then bs else le)), .int ((if gr < bs then bs else gr)), .int bs, .int 0, .int 0, .int (fl + 1), .ref li])), (q1, .inr (1, [.ref q2])), (li, .inr (0, [.int (((nI n)) + 1), .ref e, .int (nI n + 1)])), (e, .inl (c2, 10, .inr (.inr (.inr (.inr (va_up f (nI n).toNatClampNeg (some q1))))))), (q2, .inl (c0, 512, .inl (upd (fun _ => 0) ((fl - fl / 512 * 512)).toNatClampNeg ((os + bs)))))]) [0, 1, 2, 3, 4] (by decide) rfl
  exact W.vret hx hb hr (fun t9 ht hW => ⟨⟨(), rfl, trivial, q1, q2, by rw [ht]; exact hP9, hD9⟩, hS.F ht⟩) hS.2.2 dX6_take_120
set_option maxHeartbeats 4000000 in
set_option maxRecDepth 100000 in
theorem x_X6_take_12 (l : Launch) {D : va_G} {tys : List (ClassId × FieldType)} {z b : Nat} {k0 k2 : Nat} {c0 c2 : ClassId} (h0 : tys[k0]? = some (c0, .int)) (h2 : tys[k2]? = some (c2, .object "java/lang/Object")) (ty li : Nat) (ba co su le gr la op os fl bs : Int32) (e n ch sm : Nat) (f : Nat → Option Nat) (w : Nat → Int32) (hn0 : ¬ nI n = 0) (hn : n ≤ 10) (h5 : fl < nI n * 512) (hc : f (nI n - 1).toNatClampNeg = some ch) (hco : ¬ co = 0) (hop : ¬ op + 1 < ba) (hfl : fl < 8192000) (hset : ¬ fl - fl / 512 * 512 < 0 ∧ ¬ (512 : Int32) ≤ fl - fl / 512 * 512 ∧ vp_in (fl - fl / 512 * 512) 512) (sz : Nat) : Met l yX6_take (ws_ yX6_take cX6_take 2 none) (rm_ 6 133 3 523) (Xe D tys z b c2 [.ref ty, .int bs] (fun H9 => H9.size = sz) [(ty, .inr (7, [.int ba, .int co, .int su, .int le, .int gr, .int la, .int op, .int os, .int fl, .ref li])), (li, .inr (0, [.int (nI n), .ref e, .int (nI n)])), (e, .inl (c2, 10, .inr (.inr (.inr (.inr f))))), (ch, .inr (1, [.ref sm])), (sm, .inl (c0, 512, .inl w))]) (va_Qv (fun _ : Unit => True) (fun _ t => va_P D vwCl [(ty, .inr (7, [.int ba, .int ((co + 1)), .int ((su + bs)), .int ((if bs < le then bs else le)), .int ((if gr < bs then bs else gr)), .int bs, .int 0, .int 0, .int (fl + 1), .ref li])), (ch, .inr (1, [.ref sm])), (li, .inr (0, [.int (nI n), .ref e, .int (nI n)])), (e, .inl (c2, 10, .inr (.inr (.inr (.inr f))))), (sm, .inl (c0, 512, .inl (upd w ((fl - fl / 512 * 512)).toNatClampNeg ((os + bs)))))] t.heap ∧ va_D (va_A [(ty, .inr (7, [.int ba, .int co, .int su, .int le, .int gr, .int la, .int op, .int os, .int fl, .ref li])), (li, .inr (0, [.int (nI n), .ref e, .int (nI n)])), (e, .inl (c2, 10, .inr (.inr (.inr (.inr f))))), (ch, .inr (1, [.ref sm])), (sm, .inl (c0, 512, .inl w))] sz) [(ty, .inr (7, [.int ba, .int ((co + 1)), .int ((su + bs)), .int ((if bs < le then bs else le)), .int ((if gr < bs then bs else gr)), .int bs, .int 0, .int 0, .int (fl + 1), .ref li])), (ch, .inr (1, [.ref sm])), (li, .inr (0, [.int (nI n), .ref e, .int (nI n)])), (e, .inl (c2, 10, .inr (.inr (.inr (.inr f))))), (sm, .inl (c0, 512, .inl (upd w ((fl - fl / 512 * 512)).toNatClampNeg ((os + bs)))))]) (va_A [(ty, .inr (7, [.int ba, .int co, .int su, .int le, .int gr, .int la, .int op, .int os, .int fl, .ref li])), (li, .inr (0, [.int (nI n), .ref e, .int (nI n)])), (e, .inl (c2, 10, .inr (.inr (.inr (.inr f))))), (ch, .inr (1, [.ref sm])), (sm, .inl (c0, 512, .inl w))] sz)) 3 523 (va_A [(ty, .inr (7, [.int ba, .int co, .int su, .int le, .int gr, .int la, .int op, .int os, .int fl, .ref li])), (li, .inr (0, [.int (nI n), .ref e, .int (nI n)])), (e, .inl (c2, 10, .inr (.inr (.inr (.inr f))))), (ch, .inr (1, [.ref sm])), (sm, .inl (c0, 512, .inl w))] sz) := by
  refine Met.ofW (cc := cX6_take) (maxL := 2) (ret := none) (by decide) rfl ?_
  intro p e9 s m args below meth c s₁ B hml hv
  obtain ⟨rfl, ⟨hT, hE⟩, hsz, hP, hD0⟩ := hv
  have hx := B.exec
  have hb := B.bytes
  have hr := B.returns
  have hts : ∀ w ∈ lw_all, w.before _ s = true := fun w h => atoms_spec (ws := (ws_ yX6_take cX6_take 2 none)) B.pre w (List.mem_cons_of_mem _ h)
  have hown : s.vm.findClass RX6 = some m.cls := findClass_of_methodNamed B.named
  have hlocks := B.notSynchronized
  subst hsz
  have hD := hD0.self (sz := s.heap.size)
  have hAb : ∀ q, va_A [(ty, .inr (7, [.int ba, .int co, .int su, .int le, .int gr, .int la, .int op, .int os, .int fl, .ref li])), (li, .inr (0, [.int (nI n), .ref e, .int (nI n)])), (e, .inl (c2, 10, .inr (.inr (.inr (.inr f))))), (ch, .inr (1, [.ref sm])), (sm, .inl (c0, 512, .inl w))] s.heap.size q → b ≤ q := fun q h => h.elim (fun ⟨k, e, h⟩ => hD0.2 k _ h) (fun h => Nat.le_trans hE.2.2.1 h)
  generalize hAe : va_A [(ty, .inr (7, [.int ba, .int co, .int su, .int le, .int gr, .int la, .int op, .int os, .int fl, .ref li])), (li, .inr (0, [.int (nI n), .ref e, .int (nI n)])), (e, .inl (c2, 10, .inr (.inr (.inr (.inr f))))), (ch, .inr (1, [.ref sm])), (sm, .inl (c0, 512, .inl w))] s.heap.size = A at hD hAb ⊢
  have hA : ∀ q : Nat, s.heap.size ≤ q → A q := fun q h => by rw [← hAe]; exact Or.inr h
  have hS : va_S A s.heap s.heap [] := va_S.rf
  have hZ := hE.1.narrow hAb
  have hE0 := fun (H9 : Heap) (l9 : List Loc) (h9 : va_S A s.heap H9 l9) => Em.row hE h9 hAb
  obtain ⟨H, hHe⟩ : ∃ H : Heap, H = s.heap := ⟨_, rfl⟩
  have hP : va_P D vwCl [(ty, .inr (7, [.int ba, .int co, .int su, .int le, .int gr, .int la, .int op, .int os, .int fl, .ref li])), (li, .inr (0, [.int (nI n), .ref e, .int (nI n)])), (e, .inl (c2, 10, .inr (.inr (.inr (.inr f))))), (ch, .inr (1, [.ref sm])), (sm, .inl (c0, 512, .inl w))] s.heap := hP
  have hl := lv_entry ([.ref ty, .int bs]) (n := 2) (Nat.le_of_ble_eq_true rfl)
  rw [lg_entry_eq]
  generalize (lg_sl ([.ref ty, .int bs]) ++ List.replicate (2 - (lg_sl ([.ref ty, .int bs])).length) Slot.unset).toArray = ls at hl ⊢
  have hl : lv_has ls 2 [(0, .ref ty), (1, .int bs)] := hl
  clear hHe H
  refine lv_aload_n hx hb dX6_take_0 rfl (lv_at hl 0 rfl) ?_
  refine lv_aload_n hx hb dX6_take_1 rfl (lv_at hl 0 rfl) ?_
  refine va_get hx hb hts i_X6 hown hT.1 hP 0 rfl rfl 1 (by decide) (hts _ q1026) (fun _ h9 => h9) rfl dX6_take_2 ?_
  refine lv_if_ne (tgt := 12) hx hb dX6_take_5 (by decide) (fun _ => ?_) (fun h9 => absurd h9 hco)
  refine lv_aload_n hx hb dX6_take_12 rfl (lv_at hl 0 rfl) ?_
  refine va_get hx hb hts i_X6 hown hT.1 hP 0 rfl rfl 3 (by decide) (hts _ q1030) (fun _ h9 => h9) rfl dX6_take_13 ?_
  refine lv_iload_n hx hb dX6_take_16 rfl (lv_at hl 1 rfl) ?_
  refine va_mmin hx hb (by rw [hml]; exact hl.1.symm) hown (hts _ q539) (hts _ q497) (hts _ q50) (hts _ q498) (Nat.le_of_ble_eq_true rfl) (Nat.le_of_ble_eq_true rfl) (Nat.le_of_ble_eq_true rfl) (Nat.le_of_ble_eq_true rfl) dX6_take_17 ?_
  refine va_put (D := D) (ci := 7) (v := .int (if bs < le then bs else le)) (ty := .int) hx hb hts i_X6 tyX6 tyX6_ok nmX6 hown hT.1 hP hD hS 0 rfl rfl 3 (by decide) (hts _ q1030) (fun _ h9 => h9) rfl (by decide +kernel) rfl rfl (Nat.le_of_ble_eq_true rfl) dX6_take_20 (fun H locs hP hD hS => ?_)
  have hP : va_P D vwCl [(ty, .inr (7, [.int ba, .int co, .int su, .int (if bs < le then bs else le), .int gr, .int la, .int op, .int os, .int fl, .ref li])), (li, .inr (0, [.int (nI n), .ref e, .int (nI n)])), (e, .inl (c2, 10, .inr (.inr (.inr (.inr f))))), (ch, .inr (1, [.ref sm])), (sm, .inl (c0, 512, .inl w))] H := hP
  have hD : va_D A [(ty, .inr (7, [.int ba, .int co, .int su, .int (if bs < le then bs else le), .int gr, .int la, .int op, .int os, .int fl, .ref li])), (li, .inr (0, [.int (nI n), .ref e, .int (nI n)])), (e, .inl (c2, 10, .inr (.inr (.inr (.inr f))))), (ch, .inr (1, [.ref sm])), (sm, .inl (c0, 512, .inl w))] := hD
  refine lv_aload_n hx hb dX6_take_23 rfl (lv_at hl 0 rfl) ?_
  refine lv_aload_n hx hb dX6_take_24 rfl (lv_at hl 0 rfl) ?_
  refine va_get hx hb hts i_X6 hown hT.1 hP 0 rfl rfl 1 (by decide) (hts _ q1026) (fun _ h9 => h9) rfl dX6_take_25 ?_
  refine lv_if_ne (tgt := 35) hx hb dX6_take_28 (by decide) (fun _ => ?_) (fun h9 => absurd h9 hco)
  refine lv_aload_n hx hb dX6_take_35 rfl (lv_at hl 0 rfl) ?_
  refine va_get hx hb hts i_X6 hown hT.1 hP 0 rfl rfl 4 (by decide) (hts _ q1032) (fun _ h9 => h9) rfl dX6_take_36 ?_
  refine lv_iload_n hx hb dX6_take_39 rfl (lv_at hl 1 rfl) ?_
  refine va_mmax hx hb (by rw [hml]; exact hl.1.symm) hown (hts _ q540) (hts _ q482) (hts _ q50) (hts _ q483) (Nat.le_of_ble_eq_true rfl) (Nat.le_of_ble_eq_true rfl) (Nat.le_of_ble_eq_true rfl) (Nat.le_of_ble_eq_true rfl) dX6_take_40 ?_
  refine va_put (D := D) (ci := 7) (v := .int (if gr < bs then bs else gr)) (ty := .int) hx hb hts i_X6 tyX6 tyX6_ok nmX6 hown hT.1 hP hD hS 0 rfl rfl 4 (by decide) (hts _ q1032) (fun _ h9 => h9) rfl (by decide +kernel) rfl rfl (Nat.le_of_ble_eq_true rfl) dX6_take_43 (fun H locs hP hD hS => ?_)
  have hP : va_P D vwCl [(ty, .inr (7, [.int ba, .int co, .int su, .int (if bs < le then bs else le), .int (if gr < bs then bs else gr), .int la, .int op, .int os, .int fl, .ref li])), (li, .inr (0, [.int (nI n), .ref e, .int (nI n)])), (e, .inl (c2, 10, .inr (.inr (.inr (.inr f))))), (ch, .inr (1, [.ref sm])), (sm, .inl (c0, 512, .inl w))] H := hP
  have hD : va_D A [(ty, .inr (7, [.int ba, .int co, .int su, .int (if bs < le then bs else le), .int (if gr < bs then bs else gr), .int la, .int op, .int os, .int fl, .ref li])), (li, .inr (0, [.int (nI n), .ref e, .int (nI n)])), (e, .inl (c2, 10, .inr (.inr (.inr (.inr f))))), (ch, .inr (1, [.ref sm])), (sm, .inl (c0, 512, .inl w))] := hD
  refine lv_aload_n hx hb dX6_take_46 rfl (lv_at hl 0 rfl) ?_
  refine lv_iload_n hx hb dX6_take_47 rfl (lv_at hl 1 rfl) ?_
  refine va_put (D := D) (ci := 7) (v := .int bs) (ty := .int) hx hb hts i_X6 tyX6 tyX6_ok nmX6 hown hT.1 hP hD hS 0 rfl rfl 5 (by decide) (hts _ q1034) (fun _ h9 => h9) rfl (by decide +kernel) rfl rfl (Nat.le_of_ble_eq_true rfl) dX6_take_48 (fun H locs hP hD hS => ?_)
  have hP : va_P D vwCl [(ty, .inr (7, [.int ba, .int co, .int su, .int (if bs < le then bs else le), .int (if gr < bs then bs else gr), .int bs, .int op, .int os, .int fl, .ref li])), (li, .inr (0, [.int (nI n), .ref e, .int (nI n)])), (e, .inl (c2, 10, .inr (.inr (.inr (.inr f))))), (ch, .inr (1, [.ref sm])), (sm, .inl (c0, 512, .inl w))] H := hP
  have hD : va_D A [(ty, .inr (7, [.int ba, .int co, .int su, .int (if bs < le then bs else le), .int (if gr < bs then bs else gr), .int bs, .int op, .int os, .int fl, .ref li])), (li, .inr (0, [.int (nI n), .ref e, .int (nI n)])), (e, .inl (c2, 10, .inr (.inr (.inr (.inr f))))), (ch, .inr (1, [.ref sm])), (sm, .inl (c0, 512, .inl w))] := hD
  refine lv_aload_n hx hb dX6_take_51 rfl (lv_at hl 0 rfl) ?_
  refine lv_dup hx hb dX6_take_52 rfl ?_
  refine va_get hx hb hts i_X6 hown hT.1 hP 0 rfl rfl 2 (by decide) (hts _ q1028) (fun _ h9 => h9) rfl dX6_take_53 ?_
  refine lv_iload_n hx hb dX6_take_56 rfl (lv_at hl 1 rfl) ?_
  refine lv_iadd hx hb dX6_take_57 ?_
  refine va_put (D := D) (ci := 7) (v := .int (su + bs)) (ty := .int) hx hb hts i_X6 tyX6 tyX6_ok nmX6 hown hT.1 hP hD hS 0 rfl rfl 2 (by decide) (hts _ q1028) (fun _ h9 => h9) rfl (by decide +kernel) rfl rfl (Nat.le_of_ble_eq_true rfl) dX6_take_58 (fun H locs hP hD hS => ?_)
  have hP : va_P D vwCl [(ty, .inr (7, [.int ba, .int co, .int (su + bs), .int (if bs < le then bs else le), .int (if gr < bs then bs else gr), .int bs, .int op, .int os, .int fl, .ref li])), (li, .inr (0, [.int (nI n), .ref e, .int (nI n)])), (e, .inl (c2, 10, .inr (.inr (.inr (.inr f))))), (ch, .inr (1, [.ref sm])), (sm, .inl (c0, 512, .inl w))] H := hP
  have hD : va_D A [(ty, .inr (7, [.int ba, .int co, .int (su + bs), .int (if bs < le then bs else le), .int (if gr < bs then bs else gr), .int bs, .int op, .int os, .int fl, .ref li])), (li, .inr (0, [.int (nI n), .ref e, .int (nI n)])), (e, .inl (c2, 10, .inr (.inr (.inr (.inr f))))), (ch, .inr (1, [.ref sm])), (sm, .inl (c0, 512, .inl w))] := hD
  refine lv_aload_n hx hb dX6_take_61 rfl (lv_at hl 0 rfl) ?_
  refine lv_dup hx hb dX6_take_62 rfl ?_
  refine va_get hx hb hts i_X6 hown hT.1 hP 0 rfl rfl 1 (by decide) (hts _ q1026) (fun _ h9 => h9) rfl dX6_take_63 ?_
  refine lv_iconst (v := 1) hx hb dX6_take_66 (by decide) ?_
  refine lv_iadd hx hb dX6_take_67 ?_
  refine va_put (D := D) (ci := 7) (v := .int (co + 1)) (ty := .int) hx hb hts i_X6 tyX6 tyX6_ok nmX6 hown hT.1 hP hD hS 0 rfl rfl 1 (by decide) (hts _ q1026) (fun _ h9 => h9) rfl (by decide +kernel) rfl rfl (Nat.le_of_ble_eq_true rfl) dX6_take_68 (fun H locs hP hD hS => ?_)
  have hP : va_P D vwCl [(ty, .inr (7, [.int ba, .int (co + 1), .int (su + bs), .int (if bs < le then bs else le), .int (if gr < bs then bs else gr), .int bs, .int op, .int os, .int fl, .ref li])), (li, .inr (0, [.int (nI n), .ref e, .int (nI n)])), (e, .inl (c2, 10, .inr (.inr (.inr (.inr f))))), (ch, .inr (1, [.ref sm])), (sm, .inl (c0, 512, .inl w))] H := hP
  have hD : va_D A [(ty, .inr (7, [.int ba, .int (co + 1), .int (su + bs), .int (if bs < le then bs else le), .int (if gr < bs then bs else gr), .int bs, .int op, .int os, .int fl, .ref li])), (li, .inr (0, [.int (nI n), .ref e, .int (nI n)])), (e, .inl (c2, 10, .inr (.inr (.inr (.inr f))))), (ch, .inr (1, [.ref sm])), (sm, .inl (c0, 512, .inl w))] := hD
  refine lv_aload_n hx hb dX6_take_71 rfl (lv_at hl 0 rfl) ?_
  refine lv_dup hx hb dX6_take_72 rfl ?_
  refine va_get hx hb hts i_X6 hown hT.1 hP 0 rfl rfl 6 (by decide) (hts _ q1036) (fun _ h9 => h9) rfl dX6_take_73 ?_
  refine lv_iconst (v := 1) hx hb dX6_take_76 (by decide) ?_
  refine lv_iadd hx hb dX6_take_77 ?_
  refine va_put (D := D) (ci := 7) (v := .int (op + 1)) (ty := .int) hx hb hts i_X6 tyX6 tyX6_ok nmX6 hown hT.1 hP hD hS 0 rfl rfl 6 (by decide) (hts _ q1036) (fun _ h9 => h9) rfl (by decide +kernel) rfl rfl (Nat.le_of_ble_eq_true rfl) dX6_take_78 (fun H locs hP hD hS => ?_)
  have hP : va_P D vwCl [(ty, .inr (7, [.int ba, .int (co + 1), .int (su + bs), .int (if bs < le then bs else le), .int (if gr < bs then bs else gr), .int bs, .int (op + 1), .int os, .int fl, .ref li])), (li, .inr (0, [.int (nI n), .ref e, .int (nI n)])), (e, .inl (c2, 10, .inr (.inr (.inr (.inr f))))), (ch, .inr (1, [.ref sm])), (sm, .inl (c0, 512, .inl w))] H := hP
  have hD : va_D A [(ty, .inr (7, [.int ba, .int (co + 1), .int (su + bs), .int (if bs < le then bs else le), .int (if gr < bs then bs else gr), .int bs, .int (op + 1), .int os, .int fl, .ref li])), (li, .inr (0, [.int (nI n), .ref e, .int (nI n)])), (e, .inl (c2, 10, .inr (.inr (.inr (.inr f))))), (ch, .inr (1, [.ref sm])), (sm, .inl (c0, 512, .inl w))] := hD
  refine lv_aload_n hx hb dX6_take_81 rfl (lv_at hl 0 rfl) ?_
  refine lv_dup hx hb dX6_take_82 rfl ?_
  refine va_get hx hb hts i_X6 hown hT.1 hP 0 rfl rfl 7 (by decide) (hts _ q1037) (fun _ h9 => h9) rfl dX6_take_83 ?_
  refine lv_iload_n hx hb dX6_take_86 rfl (lv_at hl 1 rfl) ?_
  refine lv_iadd hx hb dX6_take_87 ?_
  refine va_put (D := D) (ci := 7) (v := .int (os + bs)) (ty := .int) hx hb hts i_X6 tyX6 tyX6_ok nmX6 hown hT.1 hP hD hS 0 rfl rfl 7 (by decide) (hts _ q1037) (fun _ h9 => h9) rfl (by decide +kernel) rfl rfl (Nat.le_of_ble_eq_true rfl) dX6_take_88 (fun H locs hP hD hS => ?_)
  have hP : va_P D vwCl [(ty, .inr (7, [.int ba, .int (co + 1), .int (su + bs), .int (if bs < le then bs else le), .int (if gr < bs then bs else gr), .int bs, .int (op + 1), .int (os + bs), .int fl, .ref li])), (li, .inr (0, [.int (nI n), .ref e, .int (nI n)])), (e, .inl (c2, 10, .inr (.inr (.inr (.inr f))))), (ch, .inr (1, [.ref sm])), (sm, .inl (c0, 512, .inl w))] H := hP
  have hD : va_D A [(ty, .inr (7, [.int ba, .int (co + 1), .int (su + bs), .int (if bs < le then bs else le), .int (if gr < bs then bs else gr), .int bs, .int (op + 1), .int (os + bs), .int fl, .ref li])), (li, .inr (0, [.int (nI n), .ref e, .int (nI n)])), (e, .inl (c2, 10, .inr (.inr (.inr (.inr f))))), (ch, .inr (1, [.ref sm])), (sm, .inl (c0, 512, .inl w))] := hD
  refine lv_aload_n hx hb dX6_take_91 rfl (lv_at hl 0 rfl) ?_
  refine va_get hx hb hts i_X6 hown hT.1 hP 0 rfl rfl 6 (by decide) (hts _ q1036) (fun _ h9 => h9) rfl dX6_take_92 ?_
  refine lv_aload_n hx hb dX6_take_95 rfl (lv_at hl 0 rfl) ?_
  refine va_get hx hb hts i_X6 hown hT.1 hP 0 rfl rfl 0 (by decide) (hts _ q1025) (fun _ h9 => h9) rfl dX6_take_96 ?_
  refine lv_icmp_lt (tgt := 120) hx hb dX6_take_99 (by decide) (fun h9 => absurd h9 hop) (fun _ => ?_)
  refine lv_aload_n hx hb dX6_take_102 rfl (lv_at hl 0 rfl) ?_
  refine lv_aload_n hx hb dX6_take_103 rfl (lv_at hl 0 rfl) ?_
  refine va_get hx hb hts i_X6 hown hT.1 hP 0 rfl rfl 7 (by decide) (hts _ q1037) (fun _ h9 => h9) rfl dX6_take_104 ?_
  have hPc := hP.sub (ws' := [(ty, .inr (7, [.int ba, .int (co + 1), .int (su + bs), .int (if bs < le then bs else le), .int (if gr < bs then bs else gr), .int bs, .int (op + 1), .int (os + bs), .int fl, .ref li])), (li, .inr (0, [.int (nI n), .ref e, .int (nI n)])), (e, .inl (c2, 10, .inr (.inr (.inr (.inr f))))), (ch, .inr (1, [.ref sm])), (sm, .inl (c0, 512, .inl w))]) [0, 1, 2, 3, 4] rfl
  have hDc := hD.sub (ws' := [(ty, .inr (7, [.int ba, .int (co + 1), .int (su + bs), .int (if bs < le then bs else le), .int (if gr < bs then bs else gr), .int bs, .int (op + 1), .int (os + bs), .int fl, .ref li])), (li, .inr (0, [.int (nI n), .ref e, .int (nI n)])), (e, .inl (c2, 10, .inr (.inr (.inr (.inr f))))), (ch, .inr (1, [.ref sm])), (sm, .inl (c0, 512, .inl w))]) [0, 1, 2, 3, 4] (by decide) rfl
  have hFc := va_free (wc := [(ty, .inr (7, [.int ba, .int (co + 1), .int (su + bs), .int (if bs < le then bs else le), .int (if gr < bs then bs else gr), .int bs, .int (op + 1), .int (os + bs), .int fl, .ref li])), (li, .inr (0, [.int (nI n), .ref e, .int (nI n)])), (e, .inl (c2, 10, .inr (.inr (.inr (.inr f))))), (ch, .inr (1, [.ref sm])), (sm, .inl (c0, 512, .inl w))]) hD hS hA [0, 1, 2, 3, 4] rfl
  refine va_callv (va_runV (As := [.int (os + bs)]) (rest := []) ⟨hx, hb, hml, hown, hts⟩ (x_X6_keep2 l h0 h2 ty li ba ((co + 1)) ((su + bs)) ((if bs < le then bs else le)) ((if gr < bs then bs else gr)) bs ((op + 1)) ((os + bs)) fl ((os + bs)) e n ch sm f w hn0 hn h5 hc hfl hset H.size) (cwV 1 hts (gd_V q541 q543 q19 q54 q545) rfl rfl rfl hd_X6_keep ⟨Nat.le_of_ble_eq_true rfl, Nat.le_of_ble_eq_true rfl⟩) ⟨Xe.blind, va_recv (q0 := 0) hT.1 hP rfl rfl, fun U hU hW => ⟨rfl, Xe.warm hW hT hE hS hAb hU, by show U.heap.size = _; rw [hU], by rw [hU]; exact hPc, hDc.weaken (fun k q _ h => hAb _ h)⟩⟩ rfl rfl hl.1 rfl (lv_room (Nat.le_of_ble_eq_true rfl)) dX6_take_107 ⟨Nat.le_of_ble_eq_true rfl, Nat.le_of_ble_eq_true rfl⟩) hS (fun q _ h => hFc q h) hFc (fun u9 t9 H1 locs ht9 hvm9 hw9 hB9 hz9 hk9 hS => ?_)
  obtain ⟨hP1, hD1⟩ := hB9
  rw [ht9] at hP1
  obtain ⟨hP, hD⟩ := va_join (wr := []) (w1 := [(ty, .inr (7, [.int ba, .int ((co + 1)), .int ((su + bs)), .int ((if bs < le then bs else le)), .int ((if gr < bs then bs else gr)), .int bs, .int ((op + 1)), .int ((os + bs)), .int (fl + 1), .ref li])), (ch, .inr (1, [.ref sm])), (li, .inr (0, [.int (nI n), .ref e, .int (nI n)])), (e, .inl (c2, 10, .inr (.inr (.inr (.inr f))))), (sm, .inl (c0, 512, .inl (upd w ((fl - fl / 512 * 512)).toNatClampNeg ((os + bs)))))]) hP hD [0, 1, 2, 3, 4] [] rfl rfl (by decide) (by decide) hk9 hFc hP1 hD1
  generalize H1 = H at hP hS ⊢
  have hP : va_P D vwCl [(ty, .inr (7, [.int ba, .int ((co + 1)), .int ((su + bs)), .int ((if bs < le then bs else le)), .int ((if gr < bs then bs else gr)), .int bs, .int ((op + 1)), .int ((os + bs)), .int (fl + 1), .ref li])), (ch, .inr (1, [.ref sm])), (li, .inr (0, [.int (nI n), .ref e, .int (nI n)])), (e, .inl (c2, 10, .inr (.inr (.inr (.inr f))))), (sm, .inl (c0, 512, .inl (upd w ((fl - fl / 512 * 512)).toNatClampNeg ((os + bs)))))] H := hP
  have hD : va_D A [(ty, .inr (7, [.int ba, .int ((co + 1)), .int ((su + bs)), .int ((if bs < le then bs else le)), .int ((if gr < bs then bs else gr)), .int bs, .int ((op + 1)), .int ((os + bs)), .int (fl + 1), .ref li])), (ch, .inr (1, [.ref sm])), (li, .inr (0, [.int (nI n), .ref e, .int (nI n)])), (e, .inl (c2, 10, .inr (.inr (.inr (.inr f))))), (sm, .inl (c0, 512, .inl (upd w ((fl - fl / 512 * 512)).toNatClampNeg ((os + bs)))))] := hD
  refine lv_aload_n hx hb dX6_take_110 rfl (lv_at hl 0 rfl) ?_
  refine lv_iconst (v := 0) hx hb dX6_take_111 (by decide) ?_
  refine va_put (D := D) (ci := 7) (v := .int 0) (ty := .int) hx hb hts i_X6 tyX6 tyX6_ok nmX6 hown hT.1 hP hD hS 0 rfl rfl 6 (by decide) (hts _ q1036) (fun _ h9 => h9) rfl (by decide +kernel) rfl rfl (Nat.le_of_ble_eq_true rfl) dX6_take_112 (fun H locs hP hD hS => ?_)
  have hP : va_P D vwCl [(ty, .inr (7, [.int ba, .int ((co + 1)), .int ((su + bs)), .int ((if bs < le then bs else le)), .int ((if gr < bs then bs else gr)), .int bs, .int 0, .int ((os + bs)), .int (fl + 1), .ref li])), (ch, .inr (1, [.ref sm])), (li, .inr (0, [.int (nI n), .ref e, .int (nI n)])), (e, .inl (c2, 10, .inr (.inr (.inr (.inr f))))), (sm, .inl (c0, 512, .inl (upd w ((fl - fl / 512 * 512)).toNatClampNeg ((os + bs)))))] H := hP
  have hD : va_D A [(ty, .inr (7, [.int ba, .int ((co + 1)), .int ((su + bs)), .int ((if bs < le then bs else le)), .int ((if gr < bs then bs else gr)), .int bs, .int 0, .int ((os + bs)), .int (fl + 1), .ref li])), (ch, .inr (1, [.ref sm])), (li, .inr (0, [.int (nI n), .ref e, .int (nI n)])), (e, .inl (c2, 10, .inr (.inr (.inr (.inr f))))), (sm, .inl (c0, 512, .inl (upd w ((fl - fl / 512 * 512)).toNatClampNeg ((os + bs)))))] := hD
  refine lv_aload_n hx hb dX6_take_115 rfl (lv_at hl 0 rfl) ?_
  refine lv_iconst (v := 0) hx hb dX6_take_116 (by decide) ?_
  refine va_put (D := D) (ci := 7) (v := .int 0) (ty := .int) hx hb hts i_X6 tyX6 tyX6_ok nmX6 hown hT.1 hP hD hS 0 rfl rfl 7 (by decide) (hts _ q1037) (fun _ h9 => h9) rfl (by decide +kernel) rfl rfl (Nat.le_of_ble_eq_true rfl) dX6_take_117 (fun H locs hP hD hS => ?_)
  have hP : va_P D vwCl [(ty, .inr (7, [.int ba, .int ((co + 1)), .int ((su + bs)), .int ((if bs < le then bs else le)), .int ((if gr < bs then bs else gr)), .int bs, .int 0, .int 0, .int (fl + 1), .ref li])), (ch, .inr (1, [.ref sm])), (li, .inr (0, [.int (nI n), .ref e, .int (nI n)])), (e, .inl (c2, 10, .inr (.inr (.inr (.inr f))))), (sm, .inl (c0, 512, .inl (upd w ((fl - fl / 512 * 512)).toNatClampNeg ((os + bs)))))] H := hP
  have hD : va_D A [(ty, .inr (7, [.int ba, .int ((co + 1)), .int ((su + bs)), .int ((if bs < le then bs else le)), .int ((if gr < bs then bs else gr)), .int bs, .int 0, .int 0, .int (fl + 1), .ref li])), (ch, .inr (1, [.ref sm])), (li, .inr (0, [.int (nI n), .ref e, .int (nI n)])), (e, .inl (c2, 10, .inr (.inr (.inr (.inr f))))), (sm, .inl (c0, 512, .inl (upd w ((fl - fl / 512 * 512)).toNatClampNeg ((os + bs)))))] := hD
  have hP9 := hP.sub (ws' := [(ty, .inr (7, [.int ba, .int ((co + 1)), .int ((su + bs)), .int ((if bs < le then bs else le)), .int ((if gr < bs then bs else gr)), .int bs, .int 0, .int 0, .int (fl + 1), .ref li])), (ch, .inr (1, [.ref sm])), (li, .inr (0, [.int (nI n), .ref e, .int (nI n)])), (e, .inl (c2, 10, .inr (.inr (.inr (.inr f))))), (sm, .inl (c0, 512, .inl (upd w ((fl - fl / 512 * 512)).toNatClampNeg ((os + bs)))))]) [0, 1, 2, 3, 4] rfl
  have hD9 := hD.sub (ws' := [(ty, .inr (7, [.int ba, .int ((co + 1)), .int ((su + bs)), .int ((if bs < le then bs else le)), .int ((if gr < bs then bs else gr)), .int bs, .int 0, .int 0, .int (fl + 1), .ref li])), (ch, .inr (1, [.ref sm])), (li, .inr (0, [.int (nI n), .ref e, .int (nI n)])), (e, .inl (c2, 10, .inr (.inr (.inr (.inr f))))), (sm, .inl (c0, 512, .inl (upd w ((fl - fl / 512 * 512)).toNatClampNeg ((os + bs)))))]) [0, 1, 2, 3, 4] (by decide) rfl
  exact W.vret hx hb hr (fun t9 ht hW => ⟨⟨(), rfl, trivial, by rw [ht]; exact hP9, hD9⟩, hS.F ht⟩) hS.2.2 dX6_take_120
