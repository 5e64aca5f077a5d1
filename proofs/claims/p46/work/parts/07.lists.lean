/-! lists: size() and get(i); the numbers of the things in a list -/
theorem r_cast {p : Program} {l : Launch} {e : Env} {R : Room} {s : State} {m : MethodId} {args : Array Value} {below : List Frame} {meth : Method} {c : Code} {H : Heap} {locs : List Loc} {cells slots : Nat} {Q : State → Prop} {cc : ByteArray} {pc : Nat} {ls : Array Slot} {rest : List Value} {g : Geo} {μ : Mem} {k : Nat} (hx : p.tables.exec = Jvm.exec) (hb : c.code = cc) (hts : ∀ w ∈ lw_all, w.before args s = true) {own C : String} {T : u_T} {N ci index : Nat} (hown : s.vm.findClass own = some m.cls) (hT : Tb g s) (hP : Rg g μ H) (hk : k ∈ g.idx) {fs : (Nat → Int32) → List Value} (he : ∀ n, ob g k n = .inr (ci, fs n)) (hc : vwCl[ci]? = some (C, T, N)) (hlink : Cond.classLink own index C ∈ lw_all) (hdg : decode cc pc = .ok (.checkcast index, 3))
    (kk : W p l e R s m args below meth c H locs cells slots Q (F0 m (pc + 3) ls (.ref (g.ad k) :: rest))) : W p l e R s m args below meth c H locs cells slots Q (F0 m pc ls (.ref (g.ad k) :: rest)) :=
  va_castS hx hb hown (hts _ hlink) (hT.1.1 ci _ hc).2 (r_recv hT hP hk he hc) hdg kk
/-- a list at object t, its row at address e, of n things f -/
def isLs (g : Geo) (t e n : Nat) (f : Nat → Option Nat) : Prop := t ∈ g.idx ∧ n ≤ 10 ∧ (∀ m, ob g t m = obL e n) ∧ ∀ (μ : Mem) (H : Heap), Rg g μ H → va_at g.D vwCl (e, .inl (g.cy 2, 10, .inr (.inr (.inr (.inr f))))) H
theorem q_Jsize : Cond.fieldLink RJx4a65c 48 (TJx4a65c 2).1 (TJx4a65c 2).2.1 (TJx4a65c 2).2.2.1 ∈ lw_all := q85
theorem q_Jdata : Cond.fieldLink RJx4a65c 9 (TJx4a65c 1).1 (TJx4a65c 1).2.1 (TJx4a65c 1).2.2.1 ∈ lw_all := q84
/-- "jdk/internal/util/Preconditions" "checkIndex" "(IILjava/util/function/BiFunction;)I" -/
def f_J3_checkIndex_8e157 (g : Geo) (μ : Mem) (i : Int32) (n : Int32) : Option (Int32) := if i < 0 then none else (if i < n then (some i) else none)
theorem hd_J3_checkIndex_8e157 : yJ3_checkIndex_8e157.cls = RJ3 ∧ yJ3_checkIndex_8e157.cls ≠ "java/lang/invoke/MethodHandle" ∧ yJ3_checkIndex_8e157.cls ≠ "java/lang/invoke/VarHandle" ∧ (parseMethodDescriptor yJ3_checkIndex_8e157.desc).map (fun d => d.parameters.length) = some 3 := by decide +kernel
set_option maxHeartbeats 4000000 in
set_option maxRecDepth 100000 in
theorem c_J3_checkIndex_8e157 (l : Launch) {g : Geo} (hg : Good g) (μ : Mem) (i : Int32) (n : Int32) {r : Int32} (hf : f_J3_checkIndex_8e157 g μ i n = some r) : Met l yJ3_checkIndex_8e157 (ws_ yJ3_checkIndex_8e157 cJ3_checkIndex_8e157 3 (some .int)) (rm_ 0 0 0 0) (Pz g [.int i, .int n, .null] (Rg g μ)) (va_Qi (fun (v : Int32) (_ : Unit) => v = r) (fun _ _ => True) (fun _ => False)) 0 0 (fun _ => False) := by
  refine Met.ofW (cc := cJ3_checkIndex_8e157) (maxL := 3) (ret := (some .int)) (by decide) rfl ?_
  intro p e9 s m args below meth c s₁ B hml hv
  obtain ⟨rfl, hT, hP⟩ := hv
  have hx := B.exec
  have hb := B.bytes
  have hr := B.returns
  have hts : ∀ w ∈ lw_all, w.before _ s = true := fun w h => atoms_spec (ws := (ws_ yJ3_checkIndex_8e157 cJ3_checkIndex_8e157 3 (some .int))) B.pre w (List.mem_cons_of_mem _ h)
  have hown : s.vm.findClass RJ3 = some m.cls := findClass_of_methodNamed B.named
  have hlocks := B.notSynchronized
  have hS : va_S (fun _ => False) s.heap s.heap [] := va_S.rf
  have hl := lv_entry ([.int i, .int n, .null]) (n := 3) (Nat.le_of_ble_eq_true rfl)
  rw [lg_entry_eq]
  generalize (lg_sl ([.int i, .int n, .null]) ++ List.replicate (3 - (lg_sl ([.int i, .int n, .null])).length) Slot.unset).toArray = ls at hl ⊢
  have hl : lv_has ls 3 [(0, .int i), (1, .int n), (2, .null)] := hl
  unfold f_J3_checkIndex_8e157 at hf
  refine lv_iload_n hx hb dJ3_checkIndex_8e157_0 rfl (lv_at hl 0 rfl) ?_
  refine lv_if_lt (tgt := 9) hx hb dJ3_checkIndex_8e157_1 (by decide) (fun c_1 => ?_) (fun c_1 => ?_)
  · have hf := (if_pos c_1).symm.trans hf
    refine lv_aload_nN hx hb dJ3_checkIndex_8e157_9 rfl (lv_at hl 2 rfl) ?_
    refine lv_iload_n hx hb dJ3_checkIndex_8e157_10 rfl (lv_at hl 0 rfl) ?_
    refine lv_iload_n hx hb dJ3_checkIndex_8e157_11 rfl (lv_at hl 1 rfl) ?_
    cases hf
  · have hf := (if_neg c_1).symm.trans hf
    refine lv_iload_n hx hb dJ3_checkIndex_8e157_4 rfl (lv_at hl 0 rfl) ?_
    refine lv_iload_n hx hb dJ3_checkIndex_8e157_5 rfl (lv_at hl 1 rfl) ?_
    refine lv_icmp_lt (tgt := 16) hx hb dJ3_checkIndex_8e157_6 (by decide) (fun c_2 => ?_) (fun c_2 => ?_)
    · have hf := (if_pos c_2).symm.trans hf
      refine lv_iload_n hx hb dJ3_checkIndex_8e157_16 rfl (lv_at hl 0 rfl) ?_
      exact W.iret (v := i) hx hb hr (fun t ht hW => ⟨⟨i, (), rfl, Option.some.inj hf, trivial⟩, hS.F ht⟩) hS.2.2 dJ3_checkIndex_8e157_17
    · have hf := (if_neg c_2).symm.trans hf
      refine lv_aload_nN hx hb dJ3_checkIndex_8e157_9 rfl (lv_at hl 2 rfl) ?_
      refine lv_iload_n hx hb dJ3_checkIndex_8e157_10 rfl (lv_at hl 0 rfl) ?_
      refine lv_iload_n hx hb dJ3_checkIndex_8e157_11 rfl (lv_at hl 1 rfl) ?_
      cases hf
/-- "java/util/Objects" "checkIndex" "(II)I" -/
def f_J15_checkIndex_7cf53 (g : Geo) (μ : Mem) (i : Int32) (n : Int32) : Option (Int32) := bnO (f_J3_checkIndex_8e157 g μ i n) fun r_1 => some r_1
theorem hd_J15_checkIndex_7cf53 : yJ15_checkIndex_7cf53.cls = RJ15 ∧ yJ15_checkIndex_7cf53.cls ≠ "java/lang/invoke/MethodHandle" ∧ yJ15_checkIndex_7cf53.cls ≠ "java/lang/invoke/VarHandle" ∧ (parseMethodDescriptor yJ15_checkIndex_7cf53.desc).map (fun d => d.parameters.length) = some 2 := by decide +kernel
set_option maxHeartbeats 4000000 in
set_option maxRecDepth 100000 in
theorem c_J15_checkIndex_7cf53 (l : Launch) {g : Geo} (hg : Good g) (μ : Mem) (i : Int32) (n : Int32) {r : Int32} (hf : f_J15_checkIndex_7cf53 g μ i n = some r) : Met l yJ15_checkIndex_7cf53 (ws_ yJ15_checkIndex_7cf53 cJ15_checkIndex_7cf53 2 (some .int)) (rm_ 1 22 0 0) (Pz g [.int i, .int n] (Rg g μ)) (va_Qi (fun (v : Int32) (_ : Unit) => v = r) (fun _ _ => True) (fun _ => False)) 0 0 (fun _ => False) := by
  refine Met.ofW (cc := cJ15_checkIndex_7cf53) (maxL := 2) (ret := (some .int)) (by decide) rfl ?_
  intro p e9 s m args below meth c s₁ B hml hv
  obtain ⟨rfl, hT, hP⟩ := hv
  have hx := B.exec
  have hb := B.bytes
  have hr := B.returns
  have hts : ∀ w ∈ lw_all, w.before _ s = true := fun w h => atoms_spec (ws := (ws_ yJ15_checkIndex_7cf53 cJ15_checkIndex_7cf53 2 (some .int))) B.pre w (List.mem_cons_of_mem _ h)
  have hown : s.vm.findClass RJ15 = some m.cls := findClass_of_methodNamed B.named
  have hlocks := B.notSynchronized
  have hS : va_S (fun _ => False) s.heap s.heap [] := va_S.rf
  have hl := lv_entry ([.int i, .int n]) (n := 2) (Nat.le_of_ble_eq_true rfl)
  rw [lg_entry_eq]
  generalize (lg_sl ([.int i, .int n]) ++ List.replicate (2 - (lg_sl ([.int i, .int n])).length) Slot.unset).toArray = ls at hl ⊢
  have hl : lv_has ls 2 [(0, .int i), (1, .int n)] := hl
  unfold f_J15_checkIndex_7cf53 at hf
  refine lv_iload_n hx hb dJ15_checkIndex_7cf53_0 rfl (lv_at hl 0 rfl) ?_
  refine lv_iload_n hx hb dJ15_checkIndex_7cf53_1 rfl (lv_at hl 1 rfl) ?_
  refine lv_null hx hb dJ15_checkIndex_7cf53_2 ?_
  obtain ⟨r_1, hc_2, hf⟩ := bnO_some hf
  refine va_calli (va_runS (As := [.int i, .int n, .null]) (rest := []) ⟨hx, hb, hml, hown, hts⟩ (c_J3_checkIndex_8e157 l hg μ i n  hc_2) (va_cwS 3 hts (gd_S q336 q337 q57 q338) rfl rfl rfl hd_J3_checkIndex_8e157.2 ⟨Nat.le_of_ble_eq_true rfl, Nat.le_of_ble_eq_true rfl⟩) ⟨Pz.blind, fun U hU hW => ⟨rfl, Tb.warm hW hT, by rw [hU]; exact hP⟩⟩ rfl rfl hl.1 rfl (lv_room (Nat.le_of_ble_eq_true rfl)) dJ15_checkIndex_7cf53_3 ⟨Nat.le_of_ble_eq_true rfl, Nat.le_of_ble_eq_true rfl⟩) hS (fun q _ h => h.elim) (fun q h => h.elim) (fun v9 u9 t9 H locs ht9 hvm9 hw9 hB9 hz9 hk9 hS => ?_)
  have hP := Rg.keep hP (fun q h => hk9 q h id)
  rw [hw9]
  exact W.iret (v := r_1) hx hb hr (fun t ht hW => ⟨⟨r_1, (), rfl, Option.some.inj hf, trivial⟩, hS.F ht⟩) hS.2.2 dJ15_checkIndex_7cf53_6
theorem hd_Jx4a65c_size_8abf5 : yJx4a65c_size_8abf5.cls = RJx4a65c ∧ yJx4a65c_size_8abf5.cls ≠ "java/lang/invoke/MethodHandle" ∧ yJx4a65c_size_8abf5.cls ≠ "java/lang/invoke/VarHandle" ∧ (parseMethodDescriptor yJx4a65c_size_8abf5.desc).map (fun d => d.parameters.length) = some 0 := by decide +kernel
set_option maxHeartbeats 4000000 in
set_option maxRecDepth 100000 in
theorem c_Jx4a65c_size_8abf5 (l : Launch) {g : Geo} (hg : Good g) (μ : Mem) {t e n : Nat} (hk : t ∈ g.idx) (ho : ∀ m, ob g t m = obL e n) : Met l yJx4a65c_size_8abf5 (ws_ yJx4a65c_size_8abf5 cJx4a65c_size_8abf5 1 (some .int)) (rm_ 0 0 0 0) (Pz g [.ref (g.ad t)] (Rg g μ)) (va_Qi (fun (v : Int32) (_ : Unit) => v = nI n) (fun _ _ => True) (fun _ => False)) 0 0 (fun _ => False) := by
  refine Met.ofW (cc := cJx4a65c_size_8abf5) (maxL := 1) (ret := (some .int)) (by decide) rfl ?_
  intro p e9 s m args below meth c s₁ B hml hv
  obtain ⟨rfl, hT, hP⟩ := hv
  have hx := B.exec
  have hb := B.bytes
  have hr := B.returns
  have hts : ∀ w ∈ lw_all, w.before _ s = true := fun w h => atoms_spec (ws := (ws_ yJx4a65c_size_8abf5 cJx4a65c_size_8abf5 1 (some .int))) B.pre w (List.mem_cons_of_mem _ h)
  have hown : s.vm.findClass RJx4a65c = some m.cls := findClass_of_methodNamed B.named
  have hlocks := B.notSynchronized
  have hS : va_S (fun _ => False) s.heap s.heap [] := va_S.rf
  have hl := lv_entry ([.ref (g.ad t)]) (n := 1) (Nat.le_of_ble_eq_true rfl)
  rw [lg_entry_eq]
  generalize (lg_sl ([.ref (g.ad t)]) ++ List.replicate (1 - (lg_sl ([.ref (g.ad t)])).length) Slot.unset).toArray = ls at hl ⊢
  have hl : lv_has ls 1 [(0, .ref (g.ad t))] := hl
  refine lv_aload_n hx hb dJx4a65c_size_8abf5_0 rfl (lv_at hl 0 rfl) ?_
  refine r_get hx hb hts i_Jx4a65c hown hT hP hk (fs := (fun _ => [.int (nI n), .ref e, .int (nI n)])) ho rfl 2 (by decide) q_Jsize (fun _ h9 => h9) rfl dJx4a65c_size_8abf5_1 ?_
  exact W.iret (v := nI n) hx hb hr (fun t ht hW => ⟨⟨nI n, (), rfl, rfl, trivial⟩, hS.F ht⟩) hS.2.2 dJx4a65c_size_8abf5_4
theorem hd_Jx4a65c_elementData_915e3 : yJx4a65c_elementData_915e3.cls = RJx4a65c ∧ yJx4a65c_elementData_915e3.cls ≠ "java/lang/invoke/MethodHandle" ∧ yJx4a65c_elementData_915e3.cls ≠ "java/lang/invoke/VarHandle" ∧ (parseMethodDescriptor yJx4a65c_elementData_915e3.desc).map (fun d => d.parameters.length) = some 1 := by decide +kernel
set_option maxHeartbeats 4000000 in
set_option maxRecDepth 100000 in
theorem c_Jx4a65c_elementData_915e3 (l : Launch) {g : Geo} (hg : Good g) (μ : Mem) {t e n : Nat} {f : Nat → Option Nat} (ht : isLs g t e n f) {i : Int32} {j : Nat} (hi : i = nI j) (hj : j < n) : Met l yJx4a65c_elementData_915e3 (ws_ yJx4a65c_elementData_915e3 cJx4a65c_elementData_915e3 2 (some (.object "java/lang/Object"))) (rm_ 0 0 0 0) (Pz g [.ref (g.ad t), .int i] (Rg g μ)) (va_Qq (fun (v : Option Nat) (_ : Unit) => v = f j) (fun _ _ => True) (fun _ => False)) 0 0 (fun _ => False) := by
  refine Met.ofW (cc := cJx4a65c_elementData_915e3) (maxL := 2) (ret := (some (.object "java/lang/Object"))) (by decide) rfl ?_
  intro p e9 s m args below meth c s₁ B hml hv
  obtain ⟨rfl, hT, hP⟩ := hv
  have hx := B.exec
  have hb := B.bytes
  have hr := B.returns
  have hts : ∀ w ∈ lw_all, w.before _ s = true := fun w h => atoms_spec (ws := (ws_ yJx4a65c_elementData_915e3 cJx4a65c_elementData_915e3 2 (some (.object "java/lang/Object")))) B.pre w (List.mem_cons_of_mem _ h)
  have hown : s.vm.findClass RJx4a65c = some m.cls := findClass_of_methodNamed B.named
  have hlocks := B.notSynchronized
  have hS : va_S (fun _ => False) s.heap s.heap [] := va_S.rf
  have hl := lv_entry ([.ref (g.ad t), .int i]) (n := 2) (Nat.le_of_ble_eq_true rfl)
  rw [lg_entry_eq]
  generalize (lg_sl ([.ref (g.ad t), .int i]) ++ List.replicate (2 - (lg_sl ([.ref (g.ad t), .int i])).length) Slot.unset).toArray = ls at hl ⊢
  have hl : lv_has ls 2 [(0, .ref (g.ad t)), (1, .int i)] := hl
  obtain ⟨h1, h3, h4, h5⟩ := ht
  refine lv_aload_n hx hb dJx4a65c_elementData_915e3_0 rfl (lv_at hl 0 rfl) ?_
  refine r_get hx hb hts i_Jx4a65c hown hT hP h1 (fs := (fun _ => [.int (nI n), .ref e, .int (nI n)])) h4 rfl 1 (by decide) q_Jdata (fun _ h9 => h9) rfl dJx4a65c_elementData_915e3_1 ?_
  refine lv_iload_n hx hb dJx4a65c_elementData_915e3_4 rfl (lv_at hl 1 rfl) ?_
  have hin : ¬ (i < 0 ∨ 10 ≤ i.toNatClampNeg) := by rw [hi]; exact nI_in (by omega) (by decide)
  refine va_aldq hx hb hT.1 (P1 (h5 μ _ hP)) 0 2 rfl rfl hin dJx4a65c_elementData_915e3_5 ?_
  rw [show i.toNatClampNeg = j by rw [hi]; exact nI_clamp (by omega)]
  exact W.aret (v := va_rf (f j)) (rt := .object "java/lang/Object") hx hb hr (Or.inl ⟨_, rfl⟩) (va_rf_or _) (fun t ht hW => ⟨⟨f j, (), rfl, rfl, trivial⟩, hS.F ht⟩) hS.2.2 dJx4a65c_elementData_915e3_6
theorem hd_Jx4a65c_get_915e3 : yJx4a65c_get_915e3.cls = RJx4a65c ∧ yJx4a65c_get_915e3.cls ≠ "java/lang/invoke/MethodHandle" ∧ yJx4a65c_get_915e3.cls ≠ "java/lang/invoke/VarHandle" ∧ (parseMethodDescriptor yJx4a65c_get_915e3.desc).map (fun d => d.parameters.length) = some 1 := by decide +kernel
theorem f_J15 {g : Geo} {μ : Mem} {i : Int32} {j n : Nat} (hi : i = nI j) (hj : j < n) (hn : n ≤ 10) : f_J15_checkIndex_7cf53 g μ i (nI n) = some i := by
  have h1 : ¬ i < 0 := by rw [hi]; exact nI_pos (by omega)
  have h2 : i < nI n := by rw [hi]; exact nI_lt hj (by omega)
  simp [f_J15_checkIndex_7cf53, f_J3_checkIndex_8e157, bnO, h1, h2]
set_option maxHeartbeats 4000000 in
set_option maxRecDepth 100000 in
theorem c_Jx4a65c_get_915e3 (l : Launch) {g : Geo} (hg : Good g) (μ : Mem) {t e n : Nat} {f : Nat → Option Nat} (ht : isLs g t e n f) {i : Int32} {j : Nat} (hi : i = nI j) (hj : j < n) : Met l yJx4a65c_get_915e3 (ws_ yJx4a65c_get_915e3 cJx4a65c_get_915e3 2 (some (.object "java/lang/Object"))) (rm_ 2 43 0 0) (Pz g [.ref (g.ad t), .int i] (Rg g μ)) (va_Qq (fun (v : Option Nat) (_ : Unit) => v = f j) (fun _ _ => True) (fun _ => False)) 0 0 (fun _ => False) := by
  refine Met.ofW (cc := cJx4a65c_get_915e3) (maxL := 2) (ret := (some (.object "java/lang/Object"))) (by decide) rfl ?_
  intro p e9 s m args below meth c s₁ B hml hv
  obtain ⟨rfl, hT, hP⟩ := hv
  have hx := B.exec
  have hb := B.bytes
  have hr := B.returns
  have hts : ∀ w ∈ lw_all, w.before _ s = true := fun w h => atoms_spec (ws := (ws_ yJx4a65c_get_915e3 cJx4a65c_get_915e3 2 (some (.object "java/lang/Object")))) B.pre w (List.mem_cons_of_mem _ h)
  have hown : s.vm.findClass RJx4a65c = some m.cls := findClass_of_methodNamed B.named
  have hlocks := B.notSynchronized
  have hS : va_S (fun _ => False) s.heap s.heap [] := va_S.rf
  have hl := lv_entry ([.ref (g.ad t), .int i]) (n := 2) (Nat.le_of_ble_eq_true rfl)
  rw [lg_entry_eq]
  generalize (lg_sl ([.ref (g.ad t), .int i]) ++ List.replicate (2 - (lg_sl ([.ref (g.ad t), .int i])).length) Slot.unset).toArray = ls at hl ⊢
  have hl : lv_has ls 2 [(0, .ref (g.ad t)), (1, .int i)] := hl
  obtain ⟨h1, h3, h4, h5⟩ := id ht
  refine lv_iload_n hx hb dJx4a65c_get_915e3_0 rfl (lv_at hl 1 rfl) ?_
  refine lv_aload_n hx hb dJx4a65c_get_915e3_1 rfl (lv_at hl 0 rfl) ?_
  refine r_get hx hb hts i_Jx4a65c hown hT hP h1 (fs := (fun _ => [.int (nI n), .ref e, .int (nI n)])) h4 rfl 2 (by decide) q_Jsize (fun _ h9 => h9) rfl dJx4a65c_get_915e3_2 ?_
  refine va_calli (va_runS (As := [.int i, .int (nI n)]) (rest := []) ⟨hx, hb, hml, hown, hts⟩ (c_J15_checkIndex_7cf53 l hg μ i (nI n) (f_J15 hi hj h3)) (va_cwS 2 hts (gd_S q333 q334 q56 q335) rfl rfl rfl hd_J15_checkIndex_7cf53.2 ⟨Nat.le_of_ble_eq_true rfl, Nat.le_of_ble_eq_true rfl⟩) ⟨Pz.blind, fun U hU hW => ⟨rfl, Tb.warm hW hT, by rw [hU]; exact hP⟩⟩ rfl rfl hl.1 rfl (lv_room (Nat.le_of_ble_eq_true rfl)) dJx4a65c_get_915e3_5 ⟨Nat.le_of_ble_eq_true rfl, Nat.le_of_ble_eq_true rfl⟩) hS (fun q _ h => h.elim) (fun q h => h.elim) (fun v9 u9 t9 H locs ht9 hvm9 hw9 hB9 hz9 hk9 hS => ?_)
  have hP := Rg.keep hP (fun q h => hk9 q h id)
  refine lv_pop hx hb dJx4a65c_get_915e3_8 rfl ?_
  refine lv_aload_n hx hb dJx4a65c_get_915e3_9 rfl (lv_at hl 0 rfl) ?_
  refine lv_iload_n hx hb dJx4a65c_get_915e3_10 rfl (lv_at hl 1 rfl) ?_
  refine va_callq (va_runV (As := [.int i]) (rest := []) ⟨hx, hb, hml, hown, hts⟩ (c_Jx4a65c_elementData_915e3 l hg μ ht hi hj) (cwV 1 hts (gd_V q339 q340 q341 q40 q342) rfl rfl rfl hd_Jx4a65c_elementData_915e3 ⟨Nat.le_of_ble_eq_true rfl, Nat.le_of_ble_eq_true rfl⟩) ⟨Pz.blind, r_recv hT hP h1 (fs := (fun _ => [.int (nI n), .ref e, .int (nI n)])) h4 rfl, fun U hU hW => ⟨rfl, Tb.warm hW hT, by rw [hU]; exact hP⟩⟩ rfl rfl hl.1 rfl (lv_room (Nat.le_of_ble_eq_true rfl)) dJx4a65c_get_915e3_11 ⟨Nat.le_of_ble_eq_true rfl, Nat.le_of_ble_eq_true rfl⟩) hS (fun q _ h => h.elim) (fun q h => h.elim) (fun v9 u9 t9 H locs ht9 hvm9 hw9 hB9 hz9 hk9 hS => ?_)
  rw [hw9]
  exact W.aret (v := va_rf (f j)) (rt := .object "java/lang/Object") hx hb hr (Or.inl ⟨_, rfl⟩) (va_rf_or _) (fun t ht hW => ⟨⟨f j, (), rfl, rfl, trivial⟩, hS.F ht⟩) hS.2.2 dJx4a65c_get_915e3_14
theorem nI_self {i : Int32} (h : ¬ i < 0) : i = nI i.toNatClampNeg := by
  obtain ⟨j, hj, e⟩ := nI_of h
  rw [e, nI_clamp hj]
def fnL (g : Geo) (n b : Nat) : Nat → Option Nat := fun i => if i < n then some (g.ad (b + i)) else none
theorem rowIn {g : Geo} {a n : Nat} {f : Nat → Option Nat} (ha : a ∈ g.idx) (ho : ∀ m, ob g a m = .inl (g.cy 2, n, .inr (.inr (.inr (.inr f))))) : ∀ (μ : Mem) (H : Heap), Rg g μ H → va_at g.D vwCl (g.ad a, .inl (g.cy 2, n, .inr (.inr (.inr (.inr f))))) H := fun μ H h => by
  have h1 := h.1 a ha
  rw [ho] at h1
  exact h1
theorem lsT {g : Geo} (hg : Good g) (h0 : 0 < g.tz 0) : isLs g 266 (g.ad 267) (g.tz 0) (fnL g (g.tz 0) 268) := ⟨mem_idx.mpr ⟨by omega, by simp [pres]⟩, by have := hg.2.2.2.2.2.1; omega, fun m => by simp [ob], rowIn (mem_idx.mpr ⟨by omega, by simp [pres]; exact h0⟩) (fun m => by (simp [ob]; rfl))⟩
theorem szT (g : Geo) (m : Nat → Int32) : ob g 266 m = obL (g.ad 267) (g.tz 0) := by simp [ob]
theorem in266 {g : Geo} : 266 ∈ g.idx := mem_idx.mpr ⟨by omega, by simp [pres]⟩
theorem fnL_in {g : Geo} {n b j : Nat} (h : j < n) : fnL g n b j = some (g.ad (b + j)) := if_pos h
theorem szR (g : Geo) (m : Nat → Int32) : ob g 98 m = obL (g.ad 99) (g.sz 0) := by simp [ob]
theorem szS (g : Geo) (m : Nat → Int32) : ob g 100 m = obL (g.ad 101) (g.sz 1) := by simp [ob]
theorem szC (g : Geo) (m : Nat → Int32) : ob g 112 m = obL (g.ad 113) (g.sz 2) := by simp [ob]
theorem szN {g : Geo} {k : Nat} (h : isC g k) (m : Nat → Int32) : ob g (k + 8) m = obL (g.ad (k + 16)) (g.sz (k - 104)) := by
  obtain ⟨h1, -, h2⟩ := h
  unfold ob
  rw [if_neg (by omega), if_neg (by omega), if_neg (by omega), if_neg (by omega), if_neg (by omega), if_neg (by omega), if_neg (by omega), if_neg (by omega), if_neg (by omega), if_neg (by omega), if_neg (by omega), if_neg (by omega), if_neg (by omega), if_neg (by omega), if_pos (by omega), show k + 8 - 112 = k - 104 by omega]
theorem inNL {g : Geo} {k : Nat} (h : isC g k) : k + 8 ∈ g.idx := by
  obtain ⟨h1, h2, h3⟩ := h
  exact mem_idx.mpr ⟨by omega, by unfold pres; rw [if_neg (by omega), if_neg (by omega), if_neg (by omega), if_neg (by omega), if_neg (by omega), if_neg (by omega), if_neg (by omega), if_neg (by omega), if_neg (by omega), if_pos (by omega)]; exact decide_eq_true (by omega)⟩
theorem in112 {g : Geo} : 112 ∈ g.idx := mem_idx.mpr ⟨by omega, by simp [pres]⟩
theorem lsR {g : Geo} (hg : Good g) (h0 : 0 < g.sz 0) : isLs g 98 (g.ad 99) (g.sz 0) (fnL g (g.sz 0) 102) := ⟨inBase (by decide), by have := hg.2.1; omega, szR g, rowIn (mem_idx.mpr ⟨by omega, by simp [pres]; exact h0⟩) (fun m => by (simp [ob]; rfl))⟩
theorem lsS {g : Geo} (hg : Good g) (h0 : 0 < g.sz 1) : isLs g 100 (g.ad 101) (g.sz 1) (fnL g (g.sz 1) 108) := ⟨mem_idx.mpr ⟨by omega, by simp [pres]⟩, by have := hg.2.2.1; omega, szS g, rowIn (mem_idx.mpr ⟨by omega, by simp [pres]; exact h0⟩) (fun m => by (simp [ob]; rfl))⟩
theorem lsC {g : Geo} (hg : Good g) (h0 : 0 < g.sz 2) : isLs g 112 (g.ad 113) (g.sz 2) (fnL g (g.sz 2) 114) := ⟨in112, by have := hg.2.2.2.1; omega, szC g, rowIn (mem_idx.mpr ⟨by omega, by simp [pres]; exact h0⟩) (fun m => by (simp [ob]; rfl))⟩
/-- the chunks -/
def fnK (g : Geo) : Nat → Option Nat := fun i => if i < g.tz 2 then some (g.ta (1 + 2 * i)) else none
theorem fnK_in {g : Geo} {j : Nat} (h : j < g.tz 2) : fnK g j = some (g.ta (1 + 2 * j)) := if_pos h
theorem lsK {g : Geo} (hg : Good g) {k : Nat} (h : isY g k) (h0 : 0 < g.tz 2) : isLs g 274 (g.ta 0) (g.tz 2) (fnK g) := ⟨in274 h, hg.2.2.2.2.2.2.1, szK g, fun μ H h1 => by
  have h2 := h1.2 0 (mem_tdx.mpr ⟨h0, by omega⟩)
  rw [show obT g 0 = .inl (g.cy 2, 10, .inr (.inr (.inr (.inr (fnK g))))) from if_pos rfl] at h2
  exact h2⟩
theorem lsN {g : Geo} (hg : Good g) {k : Nat} (h : isC g k) (h0 : 0 < g.sz (k - 104)) : isLs g (k + 8) (g.ad (k + 16)) (g.sz (k - 104)) (fnL g (g.sz (k - 104)) (138 + 16 * (k - 114))) := by
  refine ⟨inNL h, ?_, szN h, rowIn ?_ ?_⟩
  · have := hg.2.2.2.2.1 (k - 114)
    obtain ⟨h1, -, h2⟩ := h
    rw [show 10 + (k - 114) = k - 104 by omega] at this
    exact this
  · obtain ⟨h1, h2, h3⟩ := h
    exact mem_idx.mpr ⟨by omega, by unfold pres; rw [if_neg (by omega), if_neg (by omega), if_neg (by omega), if_neg (by omega), if_neg (by omega), if_neg (by omega), if_neg (by omega), if_neg (by omega), if_neg (by omega), if_neg (by omega), if_pos (by omega), show k + 16 - 120 = k - 104 by omega]; exact decide_eq_true ⟨by omega, h0⟩⟩
  · intro m
    obtain ⟨h1, -, h2⟩ := h
    unfold ob fnL
    rw [if_neg (by omega), if_neg (by omega), if_neg (by omega), if_neg (by omega), if_neg (by omega), if_neg (by omega), if_neg (by omega), if_neg (by omega), if_neg (by omega), if_neg (by omega), if_neg (by omega), if_neg (by omega), if_neg (by omega), if_neg (by omega), if_neg (by omega), if_pos (by omega), show k + 16 - 120 = k - 104 by omega, show k + 16 - 130 = k - 114 by omega]
theorem in98 {g : Geo} : 98 ∈ g.idx := inBase (by decide)
theorem in100 {g : Geo} : 100 ∈ g.idx := mem_idx.mpr ⟨by omega, by simp [pres]⟩
