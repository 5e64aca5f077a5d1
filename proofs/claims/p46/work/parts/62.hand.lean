/-! setHandler, add: over cells and the kernel -/
theorem Rg.but {g : Geo} {μ : Mem} {H H1 : Heap} {k9 : Nat} {e : va_E} (hg : Good g) (h : Rg g μ H) (hk : k9 ∈ g.idx) (hk9 : ∀ q : Nat, q < H.size → ¬ va_A [(g.ad k9, e)] H.size q → H1[q]? = H[q]?) (h1 : va_at g.D vwCl (g.ad k9, ob g k9 (μ k9)) H1) : Rg g μ H1 := by
  have hne : ∀ q : Nat, q < H.size → ¬ g.ad k9 = q → ¬ va_A [(g.ad k9, e)] H.size q := by
    rintro q hq hn (⟨i, e1, hi⟩ | hi)
    · cases i with
      | zero => exact hn (congrArg Prod.fst (Option.some.inj hi))
      | succ i => simp at hi
    · omega
  refine ⟨fun k hx => ?_, fun k hx => (h.2 k hx).kept (hk9 _ (h.2 k hx).lt (hne _ (h.2 k hx).lt (fun e9 => hg.2.2.2.2.2.2.2.2 k9 k hk hx e9)))⟩
  by_cases h9 : k = k9
  · subst h9; exact h1
  · exact (h.1 k hx).kept (hk9 _ (h.1 k hx).lt (hne _ (h.1 k hx).lt (fun e9 => h9 (hg.1 k9 k hk hx e9).symm)))
theorem hd_X8_setHandler : yX8_setHandler.cls = RX8 ∧ yX8_setHandler.cls ≠ "java/lang/invoke/MethodHandle" ∧ yX8_setHandler.cls ≠ "java/lang/invoke/VarHandle" ∧ (parseMethodDescriptor yX8_setHandler.desc).map (fun d => d.parameters.length) = some 2 := by decide +kernel
set_option maxHeartbeats 8000000 in
set_option maxRecDepth 100000 in
theorem x_X8_setHandler (l : Launch) {g : Geo} {z b : Nat} (hg : Good g) (hX : g.tz 1 = 1) (μ : Mem) (sc : Nat) (v hv : Int32) (hds : f_X8_demandScript g.F μ (nI sc) = some (some (114 + sc))) (g1 : ¬ v < -1) (g2 : ¬ 15 < v) (sz : Nat) : Met l yX8_setHandler (ws_ yX8_setHandler cX8_setHandler 5 (some .int)) (rm_ 5 107 0 0) (Xe g.D g.tys z b (g.cy 2) [.ref (g.ad 272), .int (nI sc), .int v] (fun H9 => H9.size = sz ∧ Rg g μ H9) [((g.ad (114 + sc)), .inr (5, [.ref (g.ad (122 + sc)), .int hv]))]) (va_Qi (fun (v : Int32) (_ : Unit) => v = hv) (fun _ t => va_P g.D vwCl [((g.ad (114 + sc)), .inr (5, [.ref (g.ad (122 + sc)), .int v]))] t.heap ∧ va_D (va_A [((g.ad (114 + sc)), .inr (5, [.ref (g.ad (122 + sc)), .int hv]))] sz) [((g.ad (114 + sc)), .inr (5, [.ref (g.ad (122 + sc)), .int v]))]) (va_A [((g.ad (114 + sc)), .inr (5, [.ref (g.ad (122 + sc)), .int hv]))] sz)) 0 0 (va_A [((g.ad (114 + sc)), .inr (5, [.ref (g.ad (122 + sc)), .int hv]))] sz) := by
  refine Met.ofW (cc := cX8_setHandler) (maxL := 5) (ret := some .int) (by decide) rfl ?_
  intro p e9 s m args below meth c s₁ B hml hv
  obtain ⟨rfl, ⟨hT, hE⟩, ⟨hsz, hR⟩, hP, hD0⟩ := hv
  have hT : Tb g s := hT
  have hx := B.exec
  have hb := B.bytes
  have hr := B.returns
  have hts : ∀ w ∈ lw_all, w.before _ s = true := fun w h => atoms_spec (ws := (ws_ yX8_setHandler cX8_setHandler 5 (some .int))) B.pre w (List.mem_cons_of_mem _ h)
  have hown : s.vm.findClass RX8 = some m.cls := findClass_of_methodNamed B.named
  have hlocks := B.notSynchronized
  have h0 : g.tys[0]? = some (g.cy 0, .int) := rfl
  have h2 : g.tys[2]? = some (g.cy 2, .object "java/lang/Object") := rfl
  subst hsz
  have hD := hD0.self (sz := s.heap.size)
  have hAb : ∀ q, va_A [((g.ad (114 + sc)), .inr (5, [.ref (g.ad (122 + sc)), .int hv]))] s.heap.size q → b ≤ q := fun q h => h.elim (fun ⟨k, e, h⟩ => hD0.2 k _ h) (fun h => Nat.le_trans hE.2.2.1 h)
  generalize hAe : va_A [((g.ad (114 + sc)), .inr (5, [.ref (g.ad (122 + sc)), .int hv]))] s.heap.size = A at hD hAb ⊢
  have hA : ∀ q : Nat, s.heap.size ≤ q → A q := fun q h => by rw [← hAe]; exact Or.inr h
  have hS : va_S A s.heap s.heap [] := va_S.rf
  have hZ := hE.1.narrow hAb
  have hE0 := fun (H9 : Heap) (l9 : List Loc) (h9 : va_S A s.heap H9 l9) => Em.row hE h9 hAb
  obtain ⟨H, hHe⟩ : ∃ H : Heap, H = s.heap := ⟨_, rfl⟩
  have hP : va_P g.D vwCl [((g.ad (114 + sc)), .inr (5, [.ref (g.ad (122 + sc)), .int hv]))] s.heap := hP
  have hl := lv_entry ([.ref (g.ad 272), .int (nI sc), .int v]) (n := 5) (Nat.le_of_ble_eq_true rfl)
  rw [lg_entry_eq]
  generalize (lg_sl ([.ref (g.ad 272), .int (nI sc), .int v]) ++ List.replicate (5 - (lg_sl ([.ref (g.ad 272), .int (nI sc), .int v])).length) Slot.unset).toArray = ls at hl ⊢
  have hl : lv_has ls 5 [(0, .ref (g.ad 272)), (1, .int (nI sc)), (2, .int v)] := hl
  clear hHe H
  refine lv_aload_n hx hb dX8_setHandler_0 rfl (lv_at hl 0 rfl) ?_
  refine lv_iload_n hx hb dX8_setHandler_1 rfl (lv_at hl 1 rfl) ?_
  refine va_callq (va_runV (As := [.int (nI sc)]) (rest := []) ⟨hx, hb, hml, hown, hts⟩ (c_X8_demandScript l hg hX μ (nI sc) hds) (cwV 1 hts (gd_V q317 q319 q1 q37 q320) rfl rfl rfl hd_X8_demandScript ⟨Nat.le_of_ble_eq_true rfl, Nat.le_of_ble_eq_true rfl⟩) ⟨Pz.blind, r_recv hT hR (inX hX) (fs := (fun _ => [.ref (g.ad 112), .ref (g.ad 266), .ref (g.ad 0), .ref (g.ad 273)])) (obX g) rfl, fun U hU hW => ⟨rfl, Tb.warm hW hT, by rw [hU]; exact hR⟩⟩ rfl rfl hl.1 rfl (lv_room (Nat.le_of_ble_eq_true rfl)) dX8_setHandler_2 ⟨Nat.le_of_ble_eq_true rfl, Nat.le_of_ble_eq_true rfl⟩) hS (fun q _ h => h.elim) (fun q h => h.elim) (fun v9 u9 t9 H locs ht9 hvm9 hw9 hB9 hz9 hk9 hS => ?_)
  have hR := Rg.keep hR (fun q h => hk9 q h id)
  have hP := P_keep hP (fun q h => hk9 q h id)
  rw [hw9]
  refine W.eq (g2 := F0 m 5 ls [.ref (g.ad (114 + sc))]) rfl ?_
  refine lv_astore_n (lv' := [(3, .ref (g.ad (114 + sc))), (0, .ref (g.ad 272)), (1, .int (nI sc)), (2, .int v)]) hx hb dX8_setHandler_5 rfl hl (by decide) rfl (fun ls hl => ?_)
  refine lv_iload_n hx hb dX8_setHandler_6 rfl (lv_at hl 3 rfl) ?_
  refine lv_iconst (v := (-1)) hx hb dX8_setHandler_7 (by decide) ?_
  refine lv_bipush (v := 15) hx hb dX8_setHandler_8 (by decide) ?_
  have hPc := Pl [] hP
  have hDc := Dl [] hD
  have hFc := Ff (w1 := []) hD hS hA
  refine va_calli (va_runS (As := [.int v, .int (-1), .int 15]) (rest := []) ⟨hx, hb, hml, hown, hts⟩ (x_X8_isIn l h0 h2 v (-1) 15 g1 g2 H.size) (va_cwS 3 hts (gd_S q242 q243 q37 q244) rfl rfl rfl hd_X8_isIn.2 ⟨Nat.le_of_ble_eq_true rfl, Nat.le_of_ble_eq_true rfl⟩) ⟨Xe.blind, fun U hU hW => ⟨rfl, Xe.warm hW hT hE hS hAb hU, by show U.heap.size = _; rw [hU], by rw [hU]; exact hPc, hDc.weaken (fun k q _ h => hAb _ h)⟩⟩ rfl rfl hl.1 rfl (lv_room (Nat.le_of_ble_eq_true rfl)) dX8_setHandler_10 ⟨Nat.le_of_ble_eq_true rfl, Nat.le_of_ble_eq_true rfl⟩) hS (fun q _ h => hFc q h) hFc (fun v9 u9 t9 H1 locs ht9 hvm9 hw9 hB9 hz9 hk9 hS => ?_)
  obtain ⟨hP1, hD1⟩ := hB9
  rw [ht9] at hP1
  rw [hw9]
  obtain ⟨hP, hD⟩ := Jn (wc := []) hP hD hk9 hFc hP1 hD1
  generalize H1 = H at hP hS ⊢
  have hP : va_P g.D vwCl [((g.ad (114 + sc)), .inr (5, [.ref (g.ad (122 + sc)), .int hv]))] H := hP
  have hD : va_D A [((g.ad (114 + sc)), .inr (5, [.ref (g.ad (122 + sc)), .int hv]))] := hD
  refine lv_if_ne (tgt := 26) hx hb dX8_setHandler_13 (by decide) (fun _ => ?_) (fun h9 => absurd h9 (by decide))
  refine lv_aload_n hx hb dX8_setHandler_26 rfl (lv_at hl 0 rfl) ?_
  refine va_get hx hb hts i_X4 hown hT.1 hP 0 rfl rfl 1 (by decide) (hts _ q1080) (fun _ h9 => h9) rfl dX8_setHandler_27 ?_
  refine lv_istore (lv' := [(4, .int hv), (3, .ref (g.ad (114 + sc))), (0, .ref (g.ad 272)), (1, .int (nI sc)), (2, .int v)]) hx hb dX8_setHandler_30 hl (by decide) rfl (fun ls hl => ?_)
  refine lv_aload_n hx hb dX8_setHandler_32 rfl (lv_at hl 1 rfl) ?_
  refine lv_iload_n hx hb dX8_setHandler_33 rfl (lv_at hl 4 rfl) ?_
  refine va_put (D := g.D) (ci := 5) (v := .int v) (ty := .int) hx hb hts i_X4 tyX4 tyX4_ok nmX4 hown hT.1 hP hD hS 0 rfl rfl 1 (by decide) (hts _ q1080) (fun _ h9 => h9) rfl (by decide +kernel) rfl rfl (Nat.le_of_ble_eq_true rfl) dX8_setHandler_34 (fun H locs hP hD hS => ?_)
  have hP : va_P g.D vwCl [((g.ad (114 + sc)), .inr (5, [.ref (g.ad (122 + sc)), .int v]))] H := hP
  have hD : va_D A [((g.ad (114 + sc)), .inr (5, [.ref (g.ad (122 + sc)), .int v]))] := hD
  refine lv_iload hx hb dX8_setHandler_37 (lv_at hl 0 rfl) ?_
  exact W.iret (v := hv) hx hb hr (fun t9 ht hW => ⟨⟨hv, (), rfl, rfl, by rw [ht]; exact hP, hD⟩, hS.F ht⟩) hS.2.2 dX8_setHandler_39
theorem hd_X8_add : yX8_add.cls = RX8 ∧ yX8_add.cls ≠ "java/lang/invoke/MethodHandle" ∧ yX8_add.cls ≠ "java/lang/invoke/VarHandle" ∧ (parseMethodDescriptor yX8_add.desc).map (fun d => d.parameters.length) = some 4 := by decide +kernel
set_option maxHeartbeats 8000000 in
set_option maxRecDepth 100000 in
theorem x_X8_add0 (l : Launch) {g : Geo} {z b : Nat} (hg : Good g) (hX : g.tz 1 = 1) (μ : Mem) (j : Nat) (co a b9 hv : Int32) (hC : isC g (114 + j)) (hin : 122 + j ∈ g.idx) (hli : ob g (122 + j) (μ (122 + j)) = .inr (0, [.int 0, .ref z, .int 0])) (hds : f_X8_demandScript g.F μ (nI j) = some (some (114 + j))) (his : f_X8_isInstruction g μ co a b9 = some 1) (hhs : f_X7_hasStarted g.F μ (114 + j) = some 0) (sz : Nat) : Met l yX8_add (ws_ yX8_add cX8_add 7 (some .int)) (rm_ 5 109 2 14) (Xe g.D g.tys z b (g.cy 2) [.ref (g.ad 272), .int (nI j), .int co, .int a, .int b9] (fun H9 => H9.size = sz ∧ Rg g μ H9) [((g.ad 272), .inr (9, [.ref (g.ad 112), .ref (g.ad 266), .ref (g.ad 0), .ref (g.ad 273)])), ((g.ad (114 + j)), .inr (5, [.ref (g.ad (122 + j)), .int hv])), ((g.ad (122 + j)), .inr (0, [.int 0, .ref z, .int 0]))]) (va_Qi (fun (v : Int32) (_ : Unit) => v = 0) (fun _ t => ∃ (q1 q2 : Nat), va_P g.D vwCl [((g.ad (122 + j)), .inr (0, [.int (0 + 1), .ref q2, .int (0 + 1)])), (q2, .inl ((g.cy 2), 10, .inr (.inr (.inr (.inr (va_up (fun _ => none) (0 : Int32).toNatClampNeg (some q1))))))), (q1, .inr (2, [.int 0, .int co, .int a, .int b9])), ((g.ad 272), .inr (9, [.ref (g.ad 112), .ref (g.ad 266), .ref (g.ad 0), .ref (g.ad 273)])), ((g.ad (114 + j)), .inr (5, [.ref (g.ad (122 + j)), .int hv]))] t.heap ∧ va_D (va_A [((g.ad 272), .inr (9, [.ref (g.ad 112), .ref (g.ad 266), .ref (g.ad 0), .ref (g.ad 273)])), ((g.ad (114 + j)), .inr (5, [.ref (g.ad (122 + j)), .int hv])), ((g.ad (122 + j)), .inr (0, [.int 0, .ref z, .int 0]))] sz) [((g.ad (122 + j)), .inr (0, [.int (0 + 1), .ref q2, .int (0 + 1)])), (q2, .inl ((g.cy 2), 10, .inr (.inr (.inr (.inr (va_up (fun _ => none) (0 : Int32).toNatClampNeg (some q1))))))), (q1, .inr (2, [.int 0, .int co, .int a, .int b9])), ((g.ad 272), .inr (9, [.ref (g.ad 112), .ref (g.ad 266), .ref (g.ad 0), .ref (g.ad 273)])), ((g.ad (114 + j)), .inr (5, [.ref (g.ad (122 + j)), .int hv]))]) (va_A [((g.ad 272), .inr (9, [.ref (g.ad 112), .ref (g.ad 266), .ref (g.ad 0), .ref (g.ad 273)])), ((g.ad (114 + j)), .inr (5, [.ref (g.ad (122 + j)), .int hv])), ((g.ad (122 + j)), .inr (0, [.int 0, .ref z, .int 0]))] sz)) 2 14 (va_A [((g.ad 272), .inr (9, [.ref (g.ad 112), .ref (g.ad 266), .ref (g.ad 0), .ref (g.ad 273)])), ((g.ad (114 + j)), .inr (5, [.ref (g.ad (122 + j)), .int hv])), ((g.ad (122 + j)), .inr (0, [.int 0, .ref z, .int 0]))] sz) := by
  refine Met.ofW (cc := cX8_add) (maxL := 7) (ret := some .int) (by decide) rfl ?_
  intro p e9 s m args below meth c s₁ B hml hv
  obtain ⟨rfl, ⟨hT, hE⟩, ⟨hsz, hR⟩, hP, hD0⟩ := hv
  have hT : Tb g s := hT
  have hx := B.exec
  have hb := B.bytes
  have hr := B.returns
  have hts : ∀ w ∈ lw_all, w.before _ s = true := fun w h => atoms_spec (ws := (ws_ yX8_add cX8_add 7 (some .int))) B.pre w (List.mem_cons_of_mem _ h)
  have hown : s.vm.findClass RX8 = some m.cls := findClass_of_methodNamed B.named
  have hlocks := B.notSynchronized
  have h0 : g.tys[0]? = some (g.cy 0, .int) := rfl
  have h2 : g.tys[2]? = some (g.cy 2, .object "java/lang/Object") := rfl
  subst hsz
  have hD := hD0.self (sz := s.heap.size)
  have hAb : ∀ q, va_A [((g.ad 272), .inr (9, [.ref (g.ad 112), .ref (g.ad 266), .ref (g.ad 0), .ref (g.ad 273)])), ((g.ad (114 + j)), .inr (5, [.ref (g.ad (122 + j)), .int hv])), ((g.ad (122 + j)), .inr (0, [.int 0, .ref z, .int 0]))] s.heap.size q → b ≤ q := fun q h => h.elim (fun ⟨k, e, h⟩ => hD0.2 k _ h) (fun h => Nat.le_trans hE.2.2.1 h)
  generalize hAe : va_A [((g.ad 272), .inr (9, [.ref (g.ad 112), .ref (g.ad 266), .ref (g.ad 0), .ref (g.ad 273)])), ((g.ad (114 + j)), .inr (5, [.ref (g.ad (122 + j)), .int hv])), ((g.ad (122 + j)), .inr (0, [.int 0, .ref z, .int 0]))] s.heap.size = A at hD hAb ⊢
  have hA : ∀ q : Nat, s.heap.size ≤ q → A q := fun q h => by rw [← hAe]; exact Or.inr h
  have hS : va_S A s.heap s.heap [] := va_S.rf
  have hZ := hE.1.narrow hAb
  have hE0 := fun (H9 : Heap) (l9 : List Loc) (h9 : va_S A s.heap H9 l9) => Em.row hE h9 hAb
  obtain ⟨H, hHe⟩ : ∃ H : Heap, H = s.heap := ⟨_, rfl⟩
  have hP : va_P g.D vwCl [((g.ad 272), .inr (9, [.ref (g.ad 112), .ref (g.ad 266), .ref (g.ad 0), .ref (g.ad 273)])), ((g.ad (114 + j)), .inr (5, [.ref (g.ad (122 + j)), .int hv])), ((g.ad (122 + j)), .inr (0, [.int 0, .ref z, .int 0]))] s.heap := hP
  have hl := lv_entry ([.ref (g.ad 272), .int (nI j), .int co, .int a, .int b9]) (n := 7) (Nat.le_of_ble_eq_true rfl)
  rw [lg_entry_eq]
  generalize (lg_sl ([.ref (g.ad 272), .int (nI j), .int co, .int a, .int b9]) ++ List.replicate (7 - (lg_sl ([.ref (g.ad 272), .int (nI j), .int co, .int a, .int b9])).length) Slot.unset).toArray = ls at hl ⊢
  have hl : lv_has ls 7 [(0, .ref (g.ad 272)), (1, .int (nI j)), (2, .int co), (3, .int a), (4, .int b9)] := hl
  clear hHe H
  refine lv_aload_n hx hb dX8_add_0 rfl (lv_at hl 0 rfl) ?_
  refine lv_iload_n hx hb dX8_add_1 rfl (lv_at hl 1 rfl) ?_
  refine va_callq (va_runV (As := [.int (nI j)]) (rest := []) ⟨hx, hb, hml, hown, hts⟩ (c_X8_demandScript l hg hX μ (nI j) hds) (cwV 1 hts (gd_V q317 q319 q1 q37 q320) rfl rfl rfl hd_X8_demandScript ⟨Nat.le_of_ble_eq_true rfl, Nat.le_of_ble_eq_true rfl⟩) ⟨Pz.blind, r_recv hT hR (inX hX) (fs := (fun _ => [.ref (g.ad 112), .ref (g.ad 266), .ref (g.ad 0), .ref (g.ad 273)])) (obX g) rfl, fun U hU hW => ⟨rfl, Tb.warm hW hT, by rw [hU]; exact hR⟩⟩ rfl rfl hl.1 rfl (lv_room (Nat.le_of_ble_eq_true rfl)) dX8_add_2 ⟨Nat.le_of_ble_eq_true rfl, Nat.le_of_ble_eq_true rfl⟩) hS (fun q _ h => h.elim) (fun q h => h.elim) (fun v9 u9 t9 H locs ht9 hvm9 hw9 hB9 hz9 hk9 hS => ?_)
  have hR := Rg.keep hR (fun q h => hk9 q h id)
  have hP := P_keep hP (fun q h => hk9 q h id)
  rw [hw9]
  refine W.eq (g2 := F0 m 5 ls [.ref (g.ad (114 + j))]) rfl ?_
  refine lv_astore (lv' := [(5, .ref (g.ad (114 + j))), (0, .ref (g.ad 272)), (1, .int (nI j)), (2, .int co), (3, .int a), (4, .int b9)]) hx hb dX8_add_5 hl (by decide) rfl (fun ls hl => ?_)
  refine lv_aload_n hx hb dX8_add_7 rfl (lv_at hl 1 rfl) ?_
  refine lv_iload_n hx hb dX8_add_8 rfl (lv_at hl 3 rfl) ?_
  refine lv_iload_n hx hb dX8_add_9 rfl (lv_at hl 4 rfl) ?_
  refine lv_iload hx hb dX8_add_10 (lv_at hl 5 rfl) ?_
  refine va_calli (va_runV (As := [.int co, .int a, .int b9]) (rest := []) ⟨hx, hb, hml, hown, hts⟩ (c_X8_isInstruction l hg hX μ co a b9 his) (cwV 3 hts (gd_V q1098 q1100 q35 q37 q1101) rfl rfl rfl hd_X8_isInstruction ⟨Nat.le_of_ble_eq_true rfl, Nat.le_of_ble_eq_true rfl⟩) ⟨Pz.blind, r_recv hT hR (inX hX) (fs := (fun _ => [.ref (g.ad 112), .ref (g.ad 266), .ref (g.ad 0), .ref (g.ad 273)])) (obX g) rfl, fun U hU hW => ⟨rfl, Tb.warm hW hT, by rw [hU]; exact hR⟩⟩ rfl rfl hl.1 rfl (lv_room (Nat.le_of_ble_eq_true rfl)) dX8_add_12 ⟨Nat.le_of_ble_eq_true rfl, Nat.le_of_ble_eq_true rfl⟩) hS (fun q _ h => h.elim) (fun q h => h.elim) (fun v9 u9 t9 H locs ht9 hvm9 hw9 hB9 hz9 hk9 hS => ?_)
  have hR := Rg.keep hR (fun q h => hk9 q h id)
  have hP := P_keep hP (fun q h => hk9 q h id)
  rw [hw9]
  refine lv_if_ne (tgt := 28) hx hb dX8_add_15 (by decide) (fun _ => ?_) (fun h9 => absurd h9 (by decide))
  refine lv_aload hx hb dX8_add_28 (lv_at hl 0 rfl) ?_
  refine va_get hx hb hts i_X4 hown hT.1 hP 1 rfl rfl 0 (by decide) (hts _ q1078) (fun _ h9 => h9) rfl dX8_add_30 ?_
  have hP := Pmv [((g.ad 272), .inr (9, [.ref (g.ad 112), .ref (g.ad 266), .ref (g.ad 0), .ref (g.ad 273)])), ((g.ad (114 + j)), .inr (5, [.ref (g.ad (122 + j)), .int hv]))] hP
  have hD := Dmv [((g.ad 272), .inr (9, [.ref (g.ad 112), .ref (g.ad 266), .ref (g.ad 0), .ref (g.ad 273)])), ((g.ad (114 + j)), .inr (5, [.ref (g.ad (122 + j)), .int hv]))] hD
  have hP : va_P g.D vwCl [((g.ad (122 + j)), .inr (0, [.int 0, .ref z, .int 0])), ((g.ad 272), .inr (9, [.ref (g.ad 112), .ref (g.ad 266), .ref (g.ad 0), .ref (g.ad 273)])), ((g.ad (114 + j)), .inr (5, [.ref (g.ad (122 + j)), .int hv]))] H := hP
  have hD : va_D A [((g.ad (122 + j)), .inr (0, [.int 0, .ref z, .int 0])), ((g.ad 272), .inr (9, [.ref (g.ad 112), .ref (g.ad 266), .ref (g.ad 0), .ref (g.ad 273)])), ((g.ad (114 + j)), .inr (5, [.ref (g.ad (122 + j)), .int hv]))] := hD
  have hPc := Pl [((g.ad (122 + j)), .inr (0, [.int 0, .ref z, .int 0]))] hP
  have hDc := Dl [((g.ad (122 + j)), .inr (0, [.int 0, .ref z, .int 0]))] hD
  have hFc := Ff (w1 := [((g.ad (122 + j)), .inr (0, [.int 0, .ref z, .int 0]))]) hD hS hA
  refine va_calli (va_runV (As := []) (rest := []) ⟨hx, hb, hml, hown, hts⟩ (x_Jx4a65c_size_8abf5 l h0 h2 ((g.ad (122 + j))) z 0 0 H.size) (cwV 0 hts (gd_V q843 q326 q327 q40 q328) rfl rfl rfl hd_Jx4a65c_size_8abf5 ⟨Nat.le_of_ble_eq_true rfl, Nat.le_of_ble_eq_true rfl⟩) ⟨Xe.blind, va_recv (q0 := 0) hT.1 hP rfl rfl, fun U hU hW => ⟨rfl, Xe.warm hW hT hE hS hAb hU, by show U.heap.size = _; rw [hU], by rw [hU]; exact hPc, hDc.weaken (fun k q _ h => hAb _ h)⟩⟩ rfl rfl hl.1 rfl (lv_room (Nat.le_of_ble_eq_true rfl)) dX8_add_33 ⟨Nat.le_of_ble_eq_true rfl, Nat.le_of_ble_eq_true rfl⟩) hS (fun q _ h => hFc q h) hFc (fun v9 u9 t9 H1 locs ht9 hvm9 hw9 hB9 hz9 hk9 hS => ?_)
  obtain ⟨hP1, hD1⟩ := hB9
  rw [ht9] at hP1
  rw [hw9]
  obtain ⟨hP, hD⟩ := Jn (wc := [((g.ad (122 + j)), .inr (0, [.int 0, .ref z, .int 0]))]) hP hD hk9 hFc hP1 hD1
  have hR := Rg.but hg hR hin hk9 (by rw [hli]; exact hP 0 _ rfl)
  generalize H1 = H at hP hS hR ⊢
  have hP : va_P g.D vwCl [((g.ad (122 + j)), .inr (0, [.int 0, .ref z, .int 0])), ((g.ad 272), .inr (9, [.ref (g.ad 112), .ref (g.ad 266), .ref (g.ad 0), .ref (g.ad 273)])), ((g.ad (114 + j)), .inr (5, [.ref (g.ad (122 + j)), .int hv]))] H := hP
  have hD : va_D A [((g.ad (122 + j)), .inr (0, [.int 0, .ref z, .int 0])), ((g.ad 272), .inr (9, [.ref (g.ad 112), .ref (g.ad 266), .ref (g.ad 0), .ref (g.ad 273)])), ((g.ad (114 + j)), .inr (5, [.ref (g.ad (122 + j)), .int hv]))] := hD
  refine lv_bipush (v := 16) hx hb dX8_add_36 (by decide) ?_
  refine lv_icmp_lt (tgt := 51) hx hb dX8_add_38 (by decide) (fun _ => ?_) (fun h9 => absurd (by decide) h9)
  refine lv_aload_n hx hb dX8_add_51 rfl (lv_at hl 1 rfl) ?_
  refine va_get hx hb hts i_X8 hown hT.1 hP 1 rfl rfl 2 (by decide) (hts _ q227) (fun _ h9 => h9) rfl dX8_add_52 ?_
  refine lv_aload hx hb dX8_add_55 (lv_at hl 0 rfl) ?_
  refine va_calli (va_runV (As := [.ref (g.ad (114 + j))]) (rest := []) ⟨hx, hb, hml, hown, hts⟩ (c_X7_hasStarted l hg μ (114 + j) hC hhs) (cwV 1 hts (gd_V q1104 q1105 q1106 q41 q1107) rfl rfl rfl hd_X7_hasStarted ⟨Nat.le_of_ble_eq_true rfl, Nat.le_of_ble_eq_true rfl⟩) ⟨Pz.blind, r_recv hT hR inW (fs := (fun n => fsW g n)) (obW g) rfl, fun U hU hW => ⟨rfl, Tb.warm hW hT, by rw [hU]; exact hR⟩⟩ rfl rfl hl.1 rfl (lv_room (Nat.le_of_ble_eq_true rfl)) dX8_add_57 ⟨Nat.le_of_ble_eq_true rfl, Nat.le_of_ble_eq_true rfl⟩) hS (fun q _ h => h.elim) (fun q h => h.elim) (fun v9 u9 t9 H locs ht9 hvm9 hw9 hB9 hz9 hk9 hS => ?_)
  have hR := Rg.keep hR (fun q h => hk9 q h id)
  have hP := P_keep hP (fun q h => hk9 q h id)
  rw [hw9]
  refine lv_if_eq (tgt := 73) hx hb dX8_add_60 (by decide) (fun _ => ?_) (fun h9 => absurd rfl h9)
  refine lv_aload hx hb dX8_add_73 (lv_at hl 0 rfl) ?_
  refine va_get hx hb hts i_X4 hown hT.1 hP 2 rfl rfl 0 (by decide) (hts _ q1078) (fun _ h9 => h9) rfl dX8_add_75 ?_
  have hPc := Pl [((g.ad (122 + j)), .inr (0, [.int 0, .ref z, .int 0]))] hP
  have hDc := Dl [((g.ad (122 + j)), .inr (0, [.int 0, .ref z, .int 0]))] hD
  have hFc := Ff (w1 := [((g.ad (122 + j)), .inr (0, [.int 0, .ref z, .int 0]))]) hD hS hA
  refine va_calli (va_runV (As := []) (rest := []) ⟨hx, hb, hml, hown, hts⟩ (x_Jx4a65c_size_8abf5 l h0 h2 ((g.ad (122 + j))) z 0 0 H.size) (cwV 0 hts (gd_V q843 q326 q327 q40 q328) rfl rfl rfl hd_Jx4a65c_size_8abf5 ⟨Nat.le_of_ble_eq_true rfl, Nat.le_of_ble_eq_true rfl⟩) ⟨Xe.blind, va_recv (q0 := 0) hT.1 hP rfl rfl, fun U hU hW => ⟨rfl, Xe.warm hW hT hE hS hAb hU, by show U.heap.size = _; rw [hU], by rw [hU]; exact hPc, hDc.weaken (fun k q _ h => hAb _ h)⟩⟩ rfl rfl hl.1 rfl (lv_room (Nat.le_of_ble_eq_true rfl)) dX8_add_78 ⟨Nat.le_of_ble_eq_true rfl, Nat.le_of_ble_eq_true rfl⟩) hS (fun q _ h => hFc q h) hFc (fun v9 u9 t9 H1 locs ht9 hvm9 hw9 hB9 hz9 hk9 hS => ?_)
  obtain ⟨hP1, hD1⟩ := hB9
  rw [ht9] at hP1
  rw [hw9]
  obtain ⟨hP, hD⟩ := Jn (wc := [((g.ad (122 + j)), .inr (0, [.int 0, .ref z, .int 0]))]) hP hD hk9 hFc hP1 hD1
  generalize H1 = H at hP hS ⊢
  have hP : va_P g.D vwCl [((g.ad (122 + j)), .inr (0, [.int 0, .ref z, .int 0])), ((g.ad 272), .inr (9, [.ref (g.ad 112), .ref (g.ad 266), .ref (g.ad 0), .ref (g.ad 273)])), ((g.ad (114 + j)), .inr (5, [.ref (g.ad (122 + j)), .int hv]))] H := hP
  have hD : va_D A [((g.ad (122 + j)), .inr (0, [.int 0, .ref z, .int 0])), ((g.ad 272), .inr (9, [.ref (g.ad 112), .ref (g.ad 266), .ref (g.ad 0), .ref (g.ad 273)])), ((g.ad (114 + j)), .inr (5, [.ref (g.ad (122 + j)), .int hv]))] := hD
  refine lv_istore (lv' := [(6, .int 0), (5, .ref (g.ad (114 + j))), (0, .ref (g.ad 272)), (1, .int (nI j)), (2, .int co), (3, .int a), (4, .int b9)]) hx hb dX8_add_81 hl (by decide) rfl (fun ls hl => ?_)
  refine lv_aload hx hb dX8_add_83 (lv_at hl 1 rfl) ?_
  refine va_get hx hb hts i_X4 hown hT.1 hP 2 rfl rfl 0 (by decide) (hts _ q1078) (fun _ h9 => h9) rfl dX8_add_85 ?_
  refine va_new (ci := 2) (fs := [.int 0, .int 0, .int 0, .int 0]) (C := RX1) (T := TX1) (N := 4) hx hb hts i_X1 tyX1 tyX1_ok hown (hts _ q1109) (hts _ q1110) (hts _ q59) hT.1 hP hD hS hA rfl (fun j hj => by rcases (show j = 0 ∨ j = 1 ∨ j = 2 ∨ j = 3 by omega) with rfl | rfl | rfl | rfl <;> rfl) (Nat.le_of_ble_eq_true rfl) (Nat.le_of_ble_eq_true rfl) dX8_add_88 (fun q1 H hP hD hS => ?_)
  have hP := Pnw hP
  have hD := Dnw hD
  have hP : va_P g.D vwCl [(q1, .inr (2, [.int 0, .int 0, .int 0, .int 0])), ((g.ad (122 + j)), .inr (0, [.int 0, .ref z, .int 0])), ((g.ad 272), .inr (9, [.ref (g.ad 112), .ref (g.ad 266), .ref (g.ad 0), .ref (g.ad 273)])), ((g.ad (114 + j)), .inr (5, [.ref (g.ad (122 + j)), .int hv]))] H := hP
  have hD : va_D A [(q1, .inr (2, [.int 0, .int 0, .int 0, .int 0])), ((g.ad (122 + j)), .inr (0, [.int 0, .ref z, .int 0])), ((g.ad 272), .inr (9, [.ref (g.ad 112), .ref (g.ad 266), .ref (g.ad 0), .ref (g.ad 273)])), ((g.ad (114 + j)), .inr (5, [.ref (g.ad (122 + j)), .int hv]))] := hD
  refine lv_dup hx hb dX8_add_91 rfl ?_
  refine lv_iload hx hb dX8_add_92 (lv_at hl 0 rfl) ?_
  refine lv_iload_n hx hb dX8_add_94 rfl (lv_at hl 4 rfl) ?_
  refine lv_iload_n hx hb dX8_add_95 rfl (lv_at hl 5 rfl) ?_
  refine lv_iload hx hb dX8_add_96 (lv_at hl 6 rfl) ?_
  have hPc := Pl [(q1, .inr (2, [.int 0, .int 0, .int 0, .int 0]))] hP
  have hDc := Dl [(q1, .inr (2, [.int 0, .int 0, .int 0, .int 0]))] hD
  have hFc := Ff (w1 := [(q1, .inr (2, [.int 0, .int 0, .int 0, .int 0]))]) hD hS hA
  refine va_callv (va_runI (As := [.int 0, .int co, .int a, .int b9]) (rest := [.ref q1, .ref (g.ad (122 + j))]) ⟨hx, hb, hml, hown, hts⟩ (x_X1_init l h0 h2 q1 0 co a b9 H.size) (cwI 4 hts (gd_code q1113) rfl rfl rfl (hts _ q59) (hts _ q1111) (hts _ q1112) rfl hd_X1_init.2 ⟨Nat.le_of_ble_eq_true rfl, Nat.le_of_ble_eq_true rfl⟩) ⟨Xe.blind, fun U hU hW => ⟨rfl, Xe.warm hW hT hE hS hAb hU, by show U.heap.size = _; rw [hU], by rw [hU]; exact hPc, hDc.weaken (fun k q _ h => hAb _ h)⟩⟩ rfl rfl hl.1 rfl (lv_room (Nat.le_of_ble_eq_true rfl)) dX8_add_98 ⟨Nat.le_of_ble_eq_true rfl, Nat.le_of_ble_eq_true rfl⟩) hS (fun q _ h => hFc q h) hFc (fun u9 t9 H1 locs ht9 hvm9 hw9 hB9 hz9 hk9 hS => ?_)
  obtain ⟨hP1, hD1⟩ := hB9
  rw [ht9] at hP1
  obtain ⟨hP, hD⟩ := Jn (wc := [(q1, .inr (2, [.int 0, .int 0, .int 0, .int 0]))]) hP hD hk9 hFc hP1 hD1
  generalize H1 = H at hP hS ⊢
  have hP : va_P g.D vwCl [(q1, .inr (2, [.int 0, .int co, .int a, .int b9])), ((g.ad (122 + j)), .inr (0, [.int 0, .ref z, .int 0])), ((g.ad 272), .inr (9, [.ref (g.ad 112), .ref (g.ad 266), .ref (g.ad 0), .ref (g.ad 273)])), ((g.ad (114 + j)), .inr (5, [.ref (g.ad (122 + j)), .int hv]))] H := hP
  have hD : va_D A [(q1, .inr (2, [.int 0, .int co, .int a, .int b9])), ((g.ad (122 + j)), .inr (0, [.int 0, .ref z, .int 0])), ((g.ad 272), .inr (9, [.ref (g.ad 112), .ref (g.ad 266), .ref (g.ad 0), .ref (g.ad 273)])), ((g.ad (114 + j)), .inr (5, [.ref (g.ad (122 + j)), .int hv]))] := hD
  have hP := Pmv [(q1, .inr (2, [.int 0, .int co, .int a, .int b9]))] hP
  have hD := Dmv [(q1, .inr (2, [.int 0, .int co, .int a, .int b9]))] hD
  have hP : va_P g.D vwCl [((g.ad (122 + j)), .inr (0, [.int 0, .ref z, .int 0])), (q1, .inr (2, [.int 0, .int co, .int a, .int b9])), ((g.ad 272), .inr (9, [.ref (g.ad 112), .ref (g.ad 266), .ref (g.ad 0), .ref (g.ad 273)])), ((g.ad (114 + j)), .inr (5, [.ref (g.ad (122 + j)), .int hv]))] H := hP
  have hD : va_D A [((g.ad (122 + j)), .inr (0, [.int 0, .ref z, .int 0])), (q1, .inr (2, [.int 0, .int co, .int a, .int b9])), ((g.ad 272), .inr (9, [.ref (g.ad 112), .ref (g.ad 266), .ref (g.ad 0), .ref (g.ad 273)])), ((g.ad (114 + j)), .inr (5, [.ref (g.ad (122 + j)), .int hv]))] := hD
  have hPc := Pl [((g.ad (122 + j)), .inr (0, [.int 0, .ref z, .int 0])), (q1, .inr (2, [.int 0, .int co, .int a, .int b9]))] hP
  have hDc := Dl [((g.ad (122 + j)), .inr (0, [.int 0, .ref z, .int 0])), (q1, .inr (2, [.int 0, .int co, .int a, .int b9]))] hD
  have hFc := Ff (w1 := [((g.ad (122 + j)), .inr (0, [.int 0, .ref z, .int 0])), (q1, .inr (2, [.int 0, .int co, .int a, .int b9]))]) hD hS hA
  refine va_calli (va_runV (As := [.ref q1]) (rest := []) ⟨hx, hb, hml, hown, hts⟩ (x_Jx4a65c_add_9ea2d0 l h0 h2 ((g.ad (122 + j))) q1 0 2 [.int 0, .int co, .int a, .int b9] _ rfl xc_X1 H.size) (cwV 1 hts (gd_V q981 q564 q565 q40 q566) rfl rfl rfl hd_Jx4a65c_add_9ea2d ⟨Nat.le_of_ble_eq_true rfl, Nat.le_of_ble_eq_true rfl⟩) ⟨Xe.blind, va_recv (q0 := 0) hT.1 hP rfl rfl, fun U hU hW => ⟨rfl, Xe.warm hW hT hE hS hAb hU, by show U.heap.size = _; rw [hU], by rw [hU]; exact hPc, hDc.weaken (fun k q _ h => hAb _ h)⟩⟩ rfl rfl hl.1 rfl (lv_room (Nat.le_of_ble_eq_true rfl)) dX8_add_101 ⟨Nat.le_of_ble_eq_true rfl, Nat.le_of_ble_eq_true rfl⟩) hS (fun q _ h => hFc q h) hFc (fun v9 u9 t9 H1 locs ht9 hvm9 hw9 hB9 hz9 hk9 hS => ?_)
  obtain ⟨q2, hP1, hD1⟩ := hB9
  rw [ht9] at hP1
  rw [hw9]
  obtain ⟨hP, hD⟩ := Jn (wc := [((g.ad (122 + j)), .inr (0, [.int 0, .ref z, .int 0])), (q1, .inr (2, [.int 0, .int co, .int a, .int b9]))]) hP hD hk9 hFc hP1 hD1
  generalize H1 = H at hP hS ⊢
  have hP : va_P g.D vwCl [((g.ad (122 + j)), .inr (0, [.int (0 + 1), .ref q2, .int (0 + 1)])), (q2, .inl ((g.cy 2), 10, .inr (.inr (.inr (.inr (va_up (fun _ => none) (0 : Int32).toNatClampNeg (some q1))))))), (q1, .inr (2, [.int 0, .int co, .int a, .int b9])), ((g.ad 272), .inr (9, [.ref (g.ad 112), .ref (g.ad 266), .ref (g.ad 0), .ref (g.ad 273)])), ((g.ad (114 + j)), .inr (5, [.ref (g.ad (122 + j)), .int hv]))] H := hP
  have hD : va_D A [((g.ad (122 + j)), .inr (0, [.int (0 + 1), .ref q2, .int (0 + 1)])), (q2, .inl ((g.cy 2), 10, .inr (.inr (.inr (.inr (va_up (fun _ => none) (0 : Int32).toNatClampNeg (some q1))))))), (q1, .inr (2, [.int 0, .int co, .int a, .int b9])), ((g.ad 272), .inr (9, [.ref (g.ad 112), .ref (g.ad 266), .ref (g.ad 0), .ref (g.ad 273)])), ((g.ad (114 + j)), .inr (5, [.ref (g.ad (122 + j)), .int hv]))] := hD
  refine lv_pop hx hb dX8_add_104 rfl ?_
  refine lv_iload hx hb dX8_add_105 (lv_at hl 0 rfl) ?_
  have hP := Pmv [((g.ad (122 + j)), .inr (0, [.int (0 + 1), .ref q2, .int (0 + 1)])), (q2, .inl ((g.cy 2), 10, .inr (.inr (.inr (.inr (va_up (fun _ => none) (0 : Int32).toNatClampNeg (some q1))))))), (q1, .inr (2, [.int 0, .int co, .int a, .int b9])), ((g.ad 272), .inr (9, [.ref (g.ad 112), .ref (g.ad 266), .ref (g.ad 0), .ref (g.ad 273)]))] hP
  have hD := Dmv [((g.ad (122 + j)), .inr (0, [.int (0 + 1), .ref q2, .int (0 + 1)])), (q2, .inl ((g.cy 2), 10, .inr (.inr (.inr (.inr (va_up (fun _ => none) (0 : Int32).toNatClampNeg (some q1))))))), (q1, .inr (2, [.int 0, .int co, .int a, .int b9])), ((g.ad 272), .inr (9, [.ref (g.ad 112), .ref (g.ad 266), .ref (g.ad 0), .ref (g.ad 273)]))] hD
  have hP : va_P g.D vwCl [((g.ad (114 + j)), .inr (5, [.ref (g.ad (122 + j)), .int hv])), ((g.ad (122 + j)), .inr (0, [.int (0 + 1), .ref q2, .int (0 + 1)])), (q2, .inl ((g.cy 2), 10, .inr (.inr (.inr (.inr (va_up (fun _ => none) (0 : Int32).toNatClampNeg (some q1))))))), (q1, .inr (2, [.int 0, .int co, .int a, .int b9])), ((g.ad 272), .inr (9, [.ref (g.ad 112), .ref (g.ad 266), .ref (g.ad 0), .ref (g.ad 273)]))] H := hP
  have hD : va_D A [((g.ad (114 + j)), .inr (5, [.ref (g.ad (122 + j)), .int hv])), ((g.ad (122 + j)), .inr (0, [.int (0 + 1), .ref q2, .int (0 + 1)])), (q2, .inl ((g.cy 2), 10, .inr (.inr (.inr (.inr (va_up (fun _ => none) (0 : Int32).toNatClampNeg (some q1))))))), (q1, .inr (2, [.int 0, .int co, .int a, .int b9])), ((g.ad 272), .inr (9, [.ref (g.ad 112), .ref (g.ad 266), .ref (g.ad 0), .ref (g.ad 273)]))] := hD
  have hP := Pmv [((g.ad (114 + j)), .inr (5, [.ref (g.ad (122 + j)), .int hv])), ((g.ad (122 + j)), .inr (0, [.int (0 + 1), .ref q2, .int (0 + 1)])), (q2, .inl ((g.cy 2), 10, .inr (.inr (.inr (.inr (va_up (fun _ => none) (0 : Int32).toNatClampNeg (some q1))))))), (q1, .inr (2, [.int 0, .int co, .int a, .int b9]))] hP
  have hD := Dmv [((g.ad (114 + j)), .inr (5, [.ref (g.ad (122 + j)), .int hv])), ((g.ad (122 + j)), .inr (0, [.int (0 + 1), .ref q2, .int (0 + 1)])), (q2, .inl ((g.cy 2), 10, .inr (.inr (.inr (.inr (va_up (fun _ => none) (0 : Int32).toNatClampNeg (some q1))))))), (q1, .inr (2, [.int 0, .int co, .int a, .int b9]))] hD
  have hP : va_P g.D vwCl [((g.ad 272), .inr (9, [.ref (g.ad 112), .ref (g.ad 266), .ref (g.ad 0), .ref (g.ad 273)])), ((g.ad (114 + j)), .inr (5, [.ref (g.ad (122 + j)), .int hv])), ((g.ad (122 + j)), .inr (0, [.int (0 + 1), .ref q2, .int (0 + 1)])), (q2, .inl ((g.cy 2), 10, .inr (.inr (.inr (.inr (va_up (fun _ => none) (0 : Int32).toNatClampNeg (some q1))))))), (q1, .inr (2, [.int 0, .int co, .int a, .int b9]))] H := hP
  have hD : va_D A [((g.ad 272), .inr (9, [.ref (g.ad 112), .ref (g.ad 266), .ref (g.ad 0), .ref (g.ad 273)])), ((g.ad (114 + j)), .inr (5, [.ref (g.ad (122 + j)), .int hv])), ((g.ad (122 + j)), .inr (0, [.int (0 + 1), .ref q2, .int (0 + 1)])), (q2, .inl ((g.cy 2), 10, .inr (.inr (.inr (.inr (va_up (fun _ => none) (0 : Int32).toNatClampNeg (some q1))))))), (q1, .inr (2, [.int 0, .int co, .int a, .int b9]))] := hD
  have hP := Pmv [((g.ad 272), .inr (9, [.ref (g.ad 112), .ref (g.ad 266), .ref (g.ad 0), .ref (g.ad 273)])), ((g.ad (114 + j)), .inr (5, [.ref (g.ad (122 + j)), .int hv])), ((g.ad (122 + j)), .inr (0, [.int (0 + 1), .ref q2, .int (0 + 1)])), (q2, .inl ((g.cy 2), 10, .inr (.inr (.inr (.inr (va_up (fun _ => none) (0 : Int32).toNatClampNeg (some q1)))))))] hP
  have hD := Dmv [((g.ad 272), .inr (9, [.ref (g.ad 112), .ref (g.ad 266), .ref (g.ad 0), .ref (g.ad 273)])), ((g.ad (114 + j)), .inr (5, [.ref (g.ad (122 + j)), .int hv])), ((g.ad (122 + j)), .inr (0, [.int (0 + 1), .ref q2, .int (0 + 1)])), (q2, .inl ((g.cy 2), 10, .inr (.inr (.inr (.inr (va_up (fun _ => none) (0 : Int32).toNatClampNeg (some q1)))))))] hD
  have hP : va_P g.D vwCl [(q1, .inr (2, [.int 0, .int co, .int a, .int b9])), ((g.ad 272), .inr (9, [.ref (g.ad 112), .ref (g.ad 266), .ref (g.ad 0), .ref (g.ad 273)])), ((g.ad (114 + j)), .inr (5, [.ref (g.ad (122 + j)), .int hv])), ((g.ad (122 + j)), .inr (0, [.int (0 + 1), .ref q2, .int (0 + 1)])), (q2, .inl ((g.cy 2), 10, .inr (.inr (.inr (.inr (va_up (fun _ => none) (0 : Int32).toNatClampNeg (some q1)))))))] H := hP
  have hD : va_D A [(q1, .inr (2, [.int 0, .int co, .int a, .int b9])), ((g.ad 272), .inr (9, [.ref (g.ad 112), .ref (g.ad 266), .ref (g.ad 0), .ref (g.ad 273)])), ((g.ad (114 + j)), .inr (5, [.ref (g.ad (122 + j)), .int hv])), ((g.ad (122 + j)), .inr (0, [.int (0 + 1), .ref q2, .int (0 + 1)])), (q2, .inl ((g.cy 2), 10, .inr (.inr (.inr (.inr (va_up (fun _ => none) (0 : Int32).toNatClampNeg (some q1)))))))] := hD
  have hP := Pmv [(q1, .inr (2, [.int 0, .int co, .int a, .int b9])), ((g.ad 272), .inr (9, [.ref (g.ad 112), .ref (g.ad 266), .ref (g.ad 0), .ref (g.ad 273)])), ((g.ad (114 + j)), .inr (5, [.ref (g.ad (122 + j)), .int hv])), ((g.ad (122 + j)), .inr (0, [.int (0 + 1), .ref q2, .int (0 + 1)]))] hP
  have hD := Dmv [(q1, .inr (2, [.int 0, .int co, .int a, .int b9])), ((g.ad 272), .inr (9, [.ref (g.ad 112), .ref (g.ad 266), .ref (g.ad 0), .ref (g.ad 273)])), ((g.ad (114 + j)), .inr (5, [.ref (g.ad (122 + j)), .int hv])), ((g.ad (122 + j)), .inr (0, [.int (0 + 1), .ref q2, .int (0 + 1)]))] hD
  have hP : va_P g.D vwCl [(q2, .inl ((g.cy 2), 10, .inr (.inr (.inr (.inr (va_up (fun _ => none) (0 : Int32).toNatClampNeg (some q1))))))), (q1, .inr (2, [.int 0, .int co, .int a, .int b9])), ((g.ad 272), .inr (9, [.ref (g.ad 112), .ref (g.ad 266), .ref (g.ad 0), .ref (g.ad 273)])), ((g.ad (114 + j)), .inr (5, [.ref (g.ad (122 + j)), .int hv])), ((g.ad (122 + j)), .inr (0, [.int (0 + 1), .ref q2, .int (0 + 1)]))] H := hP
  have hD : va_D A [(q2, .inl ((g.cy 2), 10, .inr (.inr (.inr (.inr (va_up (fun _ => none) (0 : Int32).toNatClampNeg (some q1))))))), (q1, .inr (2, [.int 0, .int co, .int a, .int b9])), ((g.ad 272), .inr (9, [.ref (g.ad 112), .ref (g.ad 266), .ref (g.ad 0), .ref (g.ad 273)])), ((g.ad (114 + j)), .inr (5, [.ref (g.ad (122 + j)), .int hv])), ((g.ad (122 + j)), .inr (0, [.int (0 + 1), .ref q2, .int (0 + 1)]))] := hD
  have hP := Pmv [(q2, .inl ((g.cy 2), 10, .inr (.inr (.inr (.inr (va_up (fun _ => none) (0 : Int32).toNatClampNeg (some q1))))))), (q1, .inr (2, [.int 0, .int co, .int a, .int b9])), ((g.ad 272), .inr (9, [.ref (g.ad 112), .ref (g.ad 266), .ref (g.ad 0), .ref (g.ad 273)])), ((g.ad (114 + j)), .inr (5, [.ref (g.ad (122 + j)), .int hv]))] hP
  have hD := Dmv [(q2, .inl ((g.cy 2), 10, .inr (.inr (.inr (.inr (va_up (fun _ => none) (0 : Int32).toNatClampNeg (some q1))))))), (q1, .inr (2, [.int 0, .int co, .int a, .int b9])), ((g.ad 272), .inr (9, [.ref (g.ad 112), .ref (g.ad 266), .ref (g.ad 0), .ref (g.ad 273)])), ((g.ad (114 + j)), .inr (5, [.ref (g.ad (122 + j)), .int hv]))] hD
  have hP : va_P g.D vwCl [((g.ad (122 + j)), .inr (0, [.int (0 + 1), .ref q2, .int (0 + 1)])), (q2, .inl ((g.cy 2), 10, .inr (.inr (.inr (.inr (va_up (fun _ => none) (0 : Int32).toNatClampNeg (some q1))))))), (q1, .inr (2, [.int 0, .int co, .int a, .int b9])), ((g.ad 272), .inr (9, [.ref (g.ad 112), .ref (g.ad 266), .ref (g.ad 0), .ref (g.ad 273)])), ((g.ad (114 + j)), .inr (5, [.ref (g.ad (122 + j)), .int hv]))] H := hP
  have hD : va_D A [((g.ad (122 + j)), .inr (0, [.int (0 + 1), .ref q2, .int (0 + 1)])), (q2, .inl ((g.cy 2), 10, .inr (.inr (.inr (.inr (va_up (fun _ => none) (0 : Int32).toNatClampNeg (some q1))))))), (q1, .inr (2, [.int 0, .int co, .int a, .int b9])), ((g.ad 272), .inr (9, [.ref (g.ad 112), .ref (g.ad 266), .ref (g.ad 0), .ref (g.ad 273)])), ((g.ad (114 + j)), .inr (5, [.ref (g.ad (122 + j)), .int hv]))] := hD
  exact W.iret (v := 0) hx hb hr (fun t9 ht hW => ⟨⟨0, (), rfl, rfl, q1, q2, by rw [ht]; exact hP, hD⟩, hS.F ht⟩) hS.2.2 dX8_add_107
set_option maxHeartbeats 8000000 in
set_option maxRecDepth 100000 in
theorem x_X8_add1 (l : Launch) {g : Geo} {z b : Nat} (hg : Good g) (hX : g.tz 1 = 1) (μ : Mem) (j : Nat) (co a b9 hv : Int32) (e n : Nat) (f : Nat → Option Nat) (hn : n < 10) (hnl : nI n < 16) (hC : isC g (114 + j)) (hin : 122 + j ∈ g.idx) (hli : ob g (122 + j) (μ (122 + j)) = .inr (0, [.int (nI n), .ref e, .int (nI n)])) (hds : f_X8_demandScript g.F μ (nI j) = some (some (114 + j))) (his : f_X8_isInstruction g μ co a b9 = some 1) (hhs : f_X7_hasStarted g.F μ (114 + j) = some 0) (sz : Nat) : Met l yX8_add (ws_ yX8_add cX8_add 7 (some .int)) (rm_ 5 109 2 14) (Xe g.D g.tys z b (g.cy 2) [.ref (g.ad 272), .int (nI j), .int co, .int a, .int b9] (fun H9 => H9.size = sz ∧ Rg g μ H9) [((g.ad 272), .inr (9, [.ref (g.ad 112), .ref (g.ad 266), .ref (g.ad 0), .ref (g.ad 273)])), ((g.ad (114 + j)), .inr (5, [.ref (g.ad (122 + j)), .int hv])), ((g.ad (122 + j)), .inr (0, [.int (nI n), .ref e, .int (nI n)])), (e, .inl ((g.cy 2), 10, .inr (.inr (.inr (.inr f)))))]) (va_Qi (fun (v : Int32) (_ : Unit) => v = (nI n)) (fun _ t => ∃ (q1 : Nat), va_P g.D vwCl [((g.ad (122 + j)), .inr (0, [.int (((nI n)) + 1), .ref e, .int (nI n + 1)])), (e, .inl ((g.cy 2), 10, .inr (.inr (.inr (.inr (va_up f (nI n).toNatClampNeg (some q1))))))), (q1, .inr (2, [.int (nI n), .int co, .int a, .int b9])), ((g.ad 272), .inr (9, [.ref (g.ad 112), .ref (g.ad 266), .ref (g.ad 0), .ref (g.ad 273)])), ((g.ad (114 + j)), .inr (5, [.ref (g.ad (122 + j)), .int hv]))] t.heap ∧ va_D (va_A [((g.ad 272), .inr (9, [.ref (g.ad 112), .ref (g.ad 266), .ref (g.ad 0), .ref (g.ad 273)])), ((g.ad (114 + j)), .inr (5, [.ref (g.ad (122 + j)), .int hv])), ((g.ad (122 + j)), .inr (0, [.int (nI n), .ref e, .int (nI n)])), (e, .inl ((g.cy 2), 10, .inr (.inr (.inr (.inr f)))))] sz) [((g.ad (122 + j)), .inr (0, [.int (((nI n)) + 1), .ref e, .int (nI n + 1)])), (e, .inl ((g.cy 2), 10, .inr (.inr (.inr (.inr (va_up f (nI n).toNatClampNeg (some q1))))))), (q1, .inr (2, [.int (nI n), .int co, .int a, .int b9])), ((g.ad 272), .inr (9, [.ref (g.ad 112), .ref (g.ad 266), .ref (g.ad 0), .ref (g.ad 273)])), ((g.ad (114 + j)), .inr (5, [.ref (g.ad (122 + j)), .int hv]))]) (va_A [((g.ad 272), .inr (9, [.ref (g.ad 112), .ref (g.ad 266), .ref (g.ad 0), .ref (g.ad 273)])), ((g.ad (114 + j)), .inr (5, [.ref (g.ad (122 + j)), .int hv])), ((g.ad (122 + j)), .inr (0, [.int (nI n), .ref e, .int (nI n)])), (e, .inl ((g.cy 2), 10, .inr (.inr (.inr (.inr f)))))] sz)) 2 14 (va_A [((g.ad 272), .inr (9, [.ref (g.ad 112), .ref (g.ad 266), .ref (g.ad 0), .ref (g.ad 273)])), ((g.ad (114 + j)), .inr (5, [.ref (g.ad (122 + j)), .int hv])), ((g.ad (122 + j)), .inr (0, [.int (nI n), .ref e, .int (nI n)])), (e, .inl ((g.cy 2), 10, .inr (.inr (.inr (.inr f)))))] sz) := by
  refine Met.ofW (cc := cX8_add) (maxL := 7) (ret := some .int) (by decide) rfl ?_
  intro p e9 s m args below meth c s₁ B hml hv
  obtain ⟨rfl, ⟨hT, hE⟩, ⟨hsz, hR⟩, hP, hD0⟩ := hv
  have hT : Tb g s := hT
  have hx := B.exec
  have hb := B.bytes
  have hr := B.returns
  have hts : ∀ w ∈ lw_all, w.before _ s = true := fun w h => atoms_spec (ws := (ws_ yX8_add cX8_add 7 (some .int))) B.pre w (List.mem_cons_of_mem _ h)
  have hown : s.vm.findClass RX8 = some m.cls := findClass_of_methodNamed B.named
  have hlocks := B.notSynchronized
  have h0 : g.tys[0]? = some (g.cy 0, .int) := rfl
  have h2 : g.tys[2]? = some (g.cy 2, .object "java/lang/Object") := rfl
  subst hsz
  have hD := hD0.self (sz := s.heap.size)
  have hAb : ∀ q, va_A [((g.ad 272), .inr (9, [.ref (g.ad 112), .ref (g.ad 266), .ref (g.ad 0), .ref (g.ad 273)])), ((g.ad (114 + j)), .inr (5, [.ref (g.ad (122 + j)), .int hv])), ((g.ad (122 + j)), .inr (0, [.int (nI n), .ref e, .int (nI n)])), (e, .inl ((g.cy 2), 10, .inr (.inr (.inr (.inr f)))))] s.heap.size q → b ≤ q := fun q h => h.elim (fun ⟨k, e, h⟩ => hD0.2 k _ h) (fun h => Nat.le_trans hE.2.2.1 h)
  generalize hAe : va_A [((g.ad 272), .inr (9, [.ref (g.ad 112), .ref (g.ad 266), .ref (g.ad 0), .ref (g.ad 273)])), ((g.ad (114 + j)), .inr (5, [.ref (g.ad (122 + j)), .int hv])), ((g.ad (122 + j)), .inr (0, [.int (nI n), .ref e, .int (nI n)])), (e, .inl ((g.cy 2), 10, .inr (.inr (.inr (.inr f)))))] s.heap.size = A at hD hAb ⊢
  have hA : ∀ q : Nat, s.heap.size ≤ q → A q := fun q h => by rw [← hAe]; exact Or.inr h
  have hS : va_S A s.heap s.heap [] := va_S.rf
  have hZ := hE.1.narrow hAb
  have hE0 := fun (H9 : Heap) (l9 : List Loc) (h9 : va_S A s.heap H9 l9) => Em.row hE h9 hAb
  obtain ⟨H, hHe⟩ : ∃ H : Heap, H = s.heap := ⟨_, rfl⟩
  have hP : va_P g.D vwCl [((g.ad 272), .inr (9, [.ref (g.ad 112), .ref (g.ad 266), .ref (g.ad 0), .ref (g.ad 273)])), ((g.ad (114 + j)), .inr (5, [.ref (g.ad (122 + j)), .int hv])), ((g.ad (122 + j)), .inr (0, [.int (nI n), .ref e, .int (nI n)])), (e, .inl ((g.cy 2), 10, .inr (.inr (.inr (.inr f)))))] s.heap := hP
  have hl := lv_entry ([.ref (g.ad 272), .int (nI j), .int co, .int a, .int b9]) (n := 7) (Nat.le_of_ble_eq_true rfl)
  rw [lg_entry_eq]
  generalize (lg_sl ([.ref (g.ad 272), .int (nI j), .int co, .int a, .int b9]) ++ List.replicate (7 - (lg_sl ([.ref (g.ad 272), .int (nI j), .int co, .int a, .int b9])).length) Slot.unset).toArray = ls at hl ⊢
  have hl : lv_has ls 7 [(0, .ref (g.ad 272)), (1, .int (nI j)), (2, .int co), (3, .int a), (4, .int b9)] := hl
  clear hHe H
  refine lv_aload_n hx hb dX8_add_0 rfl (lv_at hl 0 rfl) ?_
  refine lv_iload_n hx hb dX8_add_1 rfl (lv_at hl 1 rfl) ?_
  refine va_callq (va_runV (As := [.int (nI j)]) (rest := []) ⟨hx, hb, hml, hown, hts⟩ (c_X8_demandScript l hg hX μ (nI j) hds) (cwV 1 hts (gd_V q317 q319 q1 q37 q320) rfl rfl rfl hd_X8_demandScript ⟨Nat.le_of_ble_eq_true rfl, Nat.le_of_ble_eq_true rfl⟩) ⟨Pz.blind, r_recv hT hR (inX hX) (fs := (fun _ => [.ref (g.ad 112), .ref (g.ad 266), .ref (g.ad 0), .ref (g.ad 273)])) (obX g) rfl, fun U hU hW => ⟨rfl, Tb.warm hW hT, by rw [hU]; exact hR⟩⟩ rfl rfl hl.1 rfl (lv_room (Nat.le_of_ble_eq_true rfl)) dX8_add_2 ⟨Nat.le_of_ble_eq_true rfl, Nat.le_of_ble_eq_true rfl⟩) hS (fun q _ h => h.elim) (fun q h => h.elim) (fun v9 u9 t9 H locs ht9 hvm9 hw9 hB9 hz9 hk9 hS => ?_)
  have hR := Rg.keep hR (fun q h => hk9 q h id)
  have hP := P_keep hP (fun q h => hk9 q h id)
  rw [hw9]
  refine W.eq (g2 := F0 m 5 ls [.ref (g.ad (114 + j))]) rfl ?_
  refine lv_astore (lv' := [(5, .ref (g.ad (114 + j))), (0, .ref (g.ad 272)), (1, .int (nI j)), (2, .int co), (3, .int a), (4, .int b9)]) hx hb dX8_add_5 hl (by decide) rfl (fun ls hl => ?_)
  refine lv_aload_n hx hb dX8_add_7 rfl (lv_at hl 1 rfl) ?_
  refine lv_iload_n hx hb dX8_add_8 rfl (lv_at hl 3 rfl) ?_
  refine lv_iload_n hx hb dX8_add_9 rfl (lv_at hl 4 rfl) ?_
  refine lv_iload hx hb dX8_add_10 (lv_at hl 5 rfl) ?_
  refine va_calli (va_runV (As := [.int co, .int a, .int b9]) (rest := []) ⟨hx, hb, hml, hown, hts⟩ (c_X8_isInstruction l hg hX μ co a b9 his) (cwV 3 hts (gd_V q1098 q1100 q35 q37 q1101) rfl rfl rfl hd_X8_isInstruction ⟨Nat.le_of_ble_eq_true rfl, Nat.le_of_ble_eq_true rfl⟩) ⟨Pz.blind, r_recv hT hR (inX hX) (fs := (fun _ => [.ref (g.ad 112), .ref (g.ad 266), .ref (g.ad 0), .ref (g.ad 273)])) (obX g) rfl, fun U hU hW => ⟨rfl, Tb.warm hW hT, by rw [hU]; exact hR⟩⟩ rfl rfl hl.1 rfl (lv_room (Nat.le_of_ble_eq_true rfl)) dX8_add_12 ⟨Nat.le_of_ble_eq_true rfl, Nat.le_of_ble_eq_true rfl⟩) hS (fun q _ h => h.elim) (fun q h => h.elim) (fun v9 u9 t9 H locs ht9 hvm9 hw9 hB9 hz9 hk9 hS => ?_)
  have hR := Rg.keep hR (fun q h => hk9 q h id)
  have hP := P_keep hP (fun q h => hk9 q h id)
  rw [hw9]
  refine lv_if_ne (tgt := 28) hx hb dX8_add_15 (by decide) (fun _ => ?_) (fun h9 => absurd h9 (by decide))
  refine lv_aload hx hb dX8_add_28 (lv_at hl 0 rfl) ?_
  refine va_get hx hb hts i_X4 hown hT.1 hP 1 rfl rfl 0 (by decide) (hts _ q1078) (fun _ h9 => h9) rfl dX8_add_30 ?_
  have hP := Pmv [((g.ad 272), .inr (9, [.ref (g.ad 112), .ref (g.ad 266), .ref (g.ad 0), .ref (g.ad 273)])), ((g.ad (114 + j)), .inr (5, [.ref (g.ad (122 + j)), .int hv]))] hP
  have hD := Dmv [((g.ad 272), .inr (9, [.ref (g.ad 112), .ref (g.ad 266), .ref (g.ad 0), .ref (g.ad 273)])), ((g.ad (114 + j)), .inr (5, [.ref (g.ad (122 + j)), .int hv]))] hD
  have hP : va_P g.D vwCl [((g.ad (122 + j)), .inr (0, [.int (nI n), .ref e, .int (nI n)])), ((g.ad 272), .inr (9, [.ref (g.ad 112), .ref (g.ad 266), .ref (g.ad 0), .ref (g.ad 273)])), ((g.ad (114 + j)), .inr (5, [.ref (g.ad (122 + j)), .int hv])), (e, .inl ((g.cy 2), 10, .inr (.inr (.inr (.inr f)))))] H := hP
  have hD : va_D A [((g.ad (122 + j)), .inr (0, [.int (nI n), .ref e, .int (nI n)])), ((g.ad 272), .inr (9, [.ref (g.ad 112), .ref (g.ad 266), .ref (g.ad 0), .ref (g.ad 273)])), ((g.ad (114 + j)), .inr (5, [.ref (g.ad (122 + j)), .int hv])), (e, .inl ((g.cy 2), 10, .inr (.inr (.inr (.inr f)))))] := hD
  have hPc := Pl [((g.ad (122 + j)), .inr (0, [.int (nI n), .ref e, .int (nI n)]))] hP
  have hDc := Dl [((g.ad (122 + j)), .inr (0, [.int (nI n), .ref e, .int (nI n)]))] hD
  have hFc := Ff (w1 := [((g.ad (122 + j)), .inr (0, [.int (nI n), .ref e, .int (nI n)]))]) hD hS hA
  refine va_calli (va_runV (As := []) (rest := []) ⟨hx, hb, hml, hown, hts⟩ (x_Jx4a65c_size_8abf5 l h0 h2 ((g.ad (122 + j))) e ((nI n)) ((nI n)) H.size) (cwV 0 hts (gd_V q843 q326 q327 q40 q328) rfl rfl rfl hd_Jx4a65c_size_8abf5 ⟨Nat.le_of_ble_eq_true rfl, Nat.le_of_ble_eq_true rfl⟩) ⟨Xe.blind, va_recv (q0 := 0) hT.1 hP rfl rfl, fun U hU hW => ⟨rfl, Xe.warm hW hT hE hS hAb hU, by show U.heap.size = _; rw [hU], by rw [hU]; exact hPc, hDc.weaken (fun k q _ h => hAb _ h)⟩⟩ rfl rfl hl.1 rfl (lv_room (Nat.le_of_ble_eq_true rfl)) dX8_add_33 ⟨Nat.le_of_ble_eq_true rfl, Nat.le_of_ble_eq_true rfl⟩) hS (fun q _ h => hFc q h) hFc (fun v9 u9 t9 H1 locs ht9 hvm9 hw9 hB9 hz9 hk9 hS => ?_)
  obtain ⟨hP1, hD1⟩ := hB9
  rw [ht9] at hP1
  rw [hw9]
  obtain ⟨hP, hD⟩ := Jn (wc := [((g.ad (122 + j)), .inr (0, [.int (nI n), .ref e, .int (nI n)]))]) hP hD hk9 hFc hP1 hD1
  have hR := Rg.but hg hR hin hk9 (by rw [hli]; exact hP 0 _ rfl)
  generalize H1 = H at hP hS hR ⊢
  have hP : va_P g.D vwCl [((g.ad (122 + j)), .inr (0, [.int (nI n), .ref e, .int (nI n)])), ((g.ad 272), .inr (9, [.ref (g.ad 112), .ref (g.ad 266), .ref (g.ad 0), .ref (g.ad 273)])), ((g.ad (114 + j)), .inr (5, [.ref (g.ad (122 + j)), .int hv])), (e, .inl ((g.cy 2), 10, .inr (.inr (.inr (.inr f)))))] H := hP
  have hD : va_D A [((g.ad (122 + j)), .inr (0, [.int (nI n), .ref e, .int (nI n)])), ((g.ad 272), .inr (9, [.ref (g.ad 112), .ref (g.ad 266), .ref (g.ad 0), .ref (g.ad 273)])), ((g.ad (114 + j)), .inr (5, [.ref (g.ad (122 + j)), .int hv])), (e, .inl ((g.cy 2), 10, .inr (.inr (.inr (.inr f)))))] := hD
  refine lv_bipush (v := 16) hx hb dX8_add_36 (by decide) ?_
  refine lv_icmp_lt (tgt := 51) hx hb dX8_add_38 (by decide) (fun _ => ?_) (fun h9 => absurd hnl h9)
  refine lv_aload_n hx hb dX8_add_51 rfl (lv_at hl 1 rfl) ?_
  refine va_get hx hb hts i_X8 hown hT.1 hP 1 rfl rfl 2 (by decide) (hts _ q227) (fun _ h9 => h9) rfl dX8_add_52 ?_
  refine lv_aload hx hb dX8_add_55 (lv_at hl 0 rfl) ?_
  refine va_calli (va_runV (As := [.ref (g.ad (114 + j))]) (rest := []) ⟨hx, hb, hml, hown, hts⟩ (c_X7_hasStarted l hg μ (114 + j) hC hhs) (cwV 1 hts (gd_V q1104 q1105 q1106 q41 q1107) rfl rfl rfl hd_X7_hasStarted ⟨Nat.le_of_ble_eq_true rfl, Nat.le_of_ble_eq_true rfl⟩) ⟨Pz.blind, r_recv hT hR inW (fs := (fun n => fsW g n)) (obW g) rfl, fun U hU hW => ⟨rfl, Tb.warm hW hT, by rw [hU]; exact hR⟩⟩ rfl rfl hl.1 rfl (lv_room (Nat.le_of_ble_eq_true rfl)) dX8_add_57 ⟨Nat.le_of_ble_eq_true rfl, Nat.le_of_ble_eq_true rfl⟩) hS (fun q _ h => h.elim) (fun q h => h.elim) (fun v9 u9 t9 H locs ht9 hvm9 hw9 hB9 hz9 hk9 hS => ?_)
  have hR := Rg.keep hR (fun q h => hk9 q h id)
  have hP := P_keep hP (fun q h => hk9 q h id)
  rw [hw9]
  refine lv_if_eq (tgt := 73) hx hb dX8_add_60 (by decide) (fun _ => ?_) (fun h9 => absurd rfl h9)
  refine lv_aload hx hb dX8_add_73 (lv_at hl 0 rfl) ?_
  refine va_get hx hb hts i_X4 hown hT.1 hP 2 rfl rfl 0 (by decide) (hts _ q1078) (fun _ h9 => h9) rfl dX8_add_75 ?_
  have hPc := Pl [((g.ad (122 + j)), .inr (0, [.int (nI n), .ref e, .int (nI n)]))] hP
  have hDc := Dl [((g.ad (122 + j)), .inr (0, [.int (nI n), .ref e, .int (nI n)]))] hD
  have hFc := Ff (w1 := [((g.ad (122 + j)), .inr (0, [.int (nI n), .ref e, .int (nI n)]))]) hD hS hA
  refine va_calli (va_runV (As := []) (rest := []) ⟨hx, hb, hml, hown, hts⟩ (x_Jx4a65c_size_8abf5 l h0 h2 ((g.ad (122 + j))) e ((nI n)) ((nI n)) H.size) (cwV 0 hts (gd_V q843 q326 q327 q40 q328) rfl rfl rfl hd_Jx4a65c_size_8abf5 ⟨Nat.le_of_ble_eq_true rfl, Nat.le_of_ble_eq_true rfl⟩) ⟨Xe.blind, va_recv (q0 := 0) hT.1 hP rfl rfl, fun U hU hW => ⟨rfl, Xe.warm hW hT hE hS hAb hU, by show U.heap.size = _; rw [hU], by rw [hU]; exact hPc, hDc.weaken (fun k q _ h => hAb _ h)⟩⟩ rfl rfl hl.1 rfl (lv_room (Nat.le_of_ble_eq_true rfl)) dX8_add_78 ⟨Nat.le_of_ble_eq_true rfl, Nat.le_of_ble_eq_true rfl⟩) hS (fun q _ h => hFc q h) hFc (fun v9 u9 t9 H1 locs ht9 hvm9 hw9 hB9 hz9 hk9 hS => ?_)
  obtain ⟨hP1, hD1⟩ := hB9
  rw [ht9] at hP1
  rw [hw9]
  obtain ⟨hP, hD⟩ := Jn (wc := [((g.ad (122 + j)), .inr (0, [.int (nI n), .ref e, .int (nI n)]))]) hP hD hk9 hFc hP1 hD1
  generalize H1 = H at hP hS ⊢
  have hP : va_P g.D vwCl [((g.ad (122 + j)), .inr (0, [.int (nI n), .ref e, .int (nI n)])), ((g.ad 272), .inr (9, [.ref (g.ad 112), .ref (g.ad 266), .ref (g.ad 0), .ref (g.ad 273)])), ((g.ad (114 + j)), .inr (5, [.ref (g.ad (122 + j)), .int hv])), (e, .inl ((g.cy 2), 10, .inr (.inr (.inr (.inr f)))))] H := hP
  have hD : va_D A [((g.ad (122 + j)), .inr (0, [.int (nI n), .ref e, .int (nI n)])), ((g.ad 272), .inr (9, [.ref (g.ad 112), .ref (g.ad 266), .ref (g.ad 0), .ref (g.ad 273)])), ((g.ad (114 + j)), .inr (5, [.ref (g.ad (122 + j)), .int hv])), (e, .inl ((g.cy 2), 10, .inr (.inr (.inr (.inr f)))))] := hD
  refine lv_istore (lv' := [(6, .int (nI n)), (5, .ref (g.ad (114 + j))), (0, .ref (g.ad 272)), (1, .int (nI j)), (2, .int co), (3, .int a), (4, .int b9)]) hx hb dX8_add_81 hl (by decide) rfl (fun ls hl => ?_)
  refine lv_aload hx hb dX8_add_83 (lv_at hl 1 rfl) ?_
  refine va_get hx hb hts i_X4 hown hT.1 hP 2 rfl rfl 0 (by decide) (hts _ q1078) (fun _ h9 => h9) rfl dX8_add_85 ?_
  refine va_new (ci := 2) (fs := [.int 0, .int 0, .int 0, .int 0]) (C := RX1) (T := TX1) (N := 4) hx hb hts i_X1 tyX1 tyX1_ok hown (hts _ q1109) (hts _ q1110) (hts _ q59) hT.1 hP hD hS hA rfl (fun j hj => by rcases (show j = 0 ∨ j = 1 ∨ j = 2 ∨ j = 3 by omega) with rfl | rfl | rfl | rfl <;> rfl) (Nat.le_of_ble_eq_true rfl) (Nat.le_of_ble_eq_true rfl) dX8_add_88 (fun q1 H hP hD hS => ?_)
  have hP := Pnw hP
  have hD := Dnw hD
  have hP : va_P g.D vwCl [(q1, .inr (2, [.int 0, .int 0, .int 0, .int 0])), ((g.ad (122 + j)), .inr (0, [.int (nI n), .ref e, .int (nI n)])), ((g.ad 272), .inr (9, [.ref (g.ad 112), .ref (g.ad 266), .ref (g.ad 0), .ref (g.ad 273)])), ((g.ad (114 + j)), .inr (5, [.ref (g.ad (122 + j)), .int hv])), (e, .inl ((g.cy 2), 10, .inr (.inr (.inr (.inr f)))))] H := hP
  have hD : va_D A [(q1, .inr (2, [.int 0, .int 0, .int 0, .int 0])), ((g.ad (122 + j)), .inr (0, [.int (nI n), .ref e, .int (nI n)])), ((g.ad 272), .inr (9, [.ref (g.ad 112), .ref (g.ad 266), .ref (g.ad 0), .ref (g.ad 273)])), ((g.ad (114 + j)), .inr (5, [.ref (g.ad (122 + j)), .int hv])), (e, .inl ((g.cy 2), 10, .inr (.inr (.inr (.inr f)))))] := hD
  refine lv_dup hx hb dX8_add_91 rfl ?_
  refine lv_iload hx hb dX8_add_92 (lv_at hl 0 rfl) ?_
  refine lv_iload_n hx hb dX8_add_94 rfl (lv_at hl 4 rfl) ?_
  refine lv_iload_n hx hb dX8_add_95 rfl (lv_at hl 5 rfl) ?_
  refine lv_iload hx hb dX8_add_96 (lv_at hl 6 rfl) ?_
  have hPc := Pl [(q1, .inr (2, [.int 0, .int 0, .int 0, .int 0]))] hP
  have hDc := Dl [(q1, .inr (2, [.int 0, .int 0, .int 0, .int 0]))] hD
  have hFc := Ff (w1 := [(q1, .inr (2, [.int 0, .int 0, .int 0, .int 0]))]) hD hS hA
  refine va_callv (va_runI (As := [.int (nI n), .int co, .int a, .int b9]) (rest := [.ref q1, .ref (g.ad (122 + j))]) ⟨hx, hb, hml, hown, hts⟩ (x_X1_init l h0 h2 q1 ((nI n)) co a b9 H.size) (cwI 4 hts (gd_code q1113) rfl rfl rfl (hts _ q59) (hts _ q1111) (hts _ q1112) rfl hd_X1_init.2 ⟨Nat.le_of_ble_eq_true rfl, Nat.le_of_ble_eq_true rfl⟩) ⟨Xe.blind, fun U hU hW => ⟨rfl, Xe.warm hW hT hE hS hAb hU, by show U.heap.size = _; rw [hU], by rw [hU]; exact hPc, hDc.weaken (fun k q _ h => hAb _ h)⟩⟩ rfl rfl hl.1 rfl (lv_room (Nat.le_of_ble_eq_true rfl)) dX8_add_98 ⟨Nat.le_of_ble_eq_true rfl, Nat.le_of_ble_eq_true rfl⟩) hS (fun q _ h => hFc q h) hFc (fun u9 t9 H1 locs ht9 hvm9 hw9 hB9 hz9 hk9 hS => ?_)
  obtain ⟨hP1, hD1⟩ := hB9
  rw [ht9] at hP1
  obtain ⟨hP, hD⟩ := Jn (wc := [(q1, .inr (2, [.int 0, .int 0, .int 0, .int 0]))]) hP hD hk9 hFc hP1 hD1
  generalize H1 = H at hP hS ⊢
  have hP : va_P g.D vwCl [(q1, .inr (2, [.int (nI n), .int co, .int a, .int b9])), ((g.ad (122 + j)), .inr (0, [.int (nI n), .ref e, .int (nI n)])), ((g.ad 272), .inr (9, [.ref (g.ad 112), .ref (g.ad 266), .ref (g.ad 0), .ref (g.ad 273)])), ((g.ad (114 + j)), .inr (5, [.ref (g.ad (122 + j)), .int hv])), (e, .inl ((g.cy 2), 10, .inr (.inr (.inr (.inr f)))))] H := hP
  have hD : va_D A [(q1, .inr (2, [.int (nI n), .int co, .int a, .int b9])), ((g.ad (122 + j)), .inr (0, [.int (nI n), .ref e, .int (nI n)])), ((g.ad 272), .inr (9, [.ref (g.ad 112), .ref (g.ad 266), .ref (g.ad 0), .ref (g.ad 273)])), ((g.ad (114 + j)), .inr (5, [.ref (g.ad (122 + j)), .int hv])), (e, .inl ((g.cy 2), 10, .inr (.inr (.inr (.inr f)))))] := hD
  have hP := Pmv [(q1, .inr (2, [.int (nI n), .int co, .int a, .int b9])), ((g.ad (122 + j)), .inr (0, [.int (nI n), .ref e, .int (nI n)])), ((g.ad 272), .inr (9, [.ref (g.ad 112), .ref (g.ad 266), .ref (g.ad 0), .ref (g.ad 273)])), ((g.ad (114 + j)), .inr (5, [.ref (g.ad (122 + j)), .int hv]))] hP
  have hD := Dmv [(q1, .inr (2, [.int (nI n), .int co, .int a, .int b9])), ((g.ad (122 + j)), .inr (0, [.int (nI n), .ref e, .int (nI n)])), ((g.ad 272), .inr (9, [.ref (g.ad 112), .ref (g.ad 266), .ref (g.ad 0), .ref (g.ad 273)])), ((g.ad (114 + j)), .inr (5, [.ref (g.ad (122 + j)), .int hv]))] hD
  have hP : va_P g.D vwCl [(e, .inl ((g.cy 2), 10, .inr (.inr (.inr (.inr f))))), (q1, .inr (2, [.int (nI n), .int co, .int a, .int b9])), ((g.ad (122 + j)), .inr (0, [.int (nI n), .ref e, .int (nI n)])), ((g.ad 272), .inr (9, [.ref (g.ad 112), .ref (g.ad 266), .ref (g.ad 0), .ref (g.ad 273)])), ((g.ad (114 + j)), .inr (5, [.ref (g.ad (122 + j)), .int hv]))] H := hP
  have hD : va_D A [(e, .inl ((g.cy 2), 10, .inr (.inr (.inr (.inr f))))), (q1, .inr (2, [.int (nI n), .int co, .int a, .int b9])), ((g.ad (122 + j)), .inr (0, [.int (nI n), .ref e, .int (nI n)])), ((g.ad 272), .inr (9, [.ref (g.ad 112), .ref (g.ad 266), .ref (g.ad 0), .ref (g.ad 273)])), ((g.ad (114 + j)), .inr (5, [.ref (g.ad (122 + j)), .int hv]))] := hD
  have hP := Pmv [(e, .inl ((g.cy 2), 10, .inr (.inr (.inr (.inr f))))), (q1, .inr (2, [.int (nI n), .int co, .int a, .int b9]))] hP
  have hD := Dmv [(e, .inl ((g.cy 2), 10, .inr (.inr (.inr (.inr f))))), (q1, .inr (2, [.int (nI n), .int co, .int a, .int b9]))] hD
  have hP : va_P g.D vwCl [((g.ad (122 + j)), .inr (0, [.int (nI n), .ref e, .int (nI n)])), (e, .inl ((g.cy 2), 10, .inr (.inr (.inr (.inr f))))), (q1, .inr (2, [.int (nI n), .int co, .int a, .int b9])), ((g.ad 272), .inr (9, [.ref (g.ad 112), .ref (g.ad 266), .ref (g.ad 0), .ref (g.ad 273)])), ((g.ad (114 + j)), .inr (5, [.ref (g.ad (122 + j)), .int hv]))] H := hP
  have hD : va_D A [((g.ad (122 + j)), .inr (0, [.int (nI n), .ref e, .int (nI n)])), (e, .inl ((g.cy 2), 10, .inr (.inr (.inr (.inr f))))), (q1, .inr (2, [.int (nI n), .int co, .int a, .int b9])), ((g.ad 272), .inr (9, [.ref (g.ad 112), .ref (g.ad 266), .ref (g.ad 0), .ref (g.ad 273)])), ((g.ad (114 + j)), .inr (5, [.ref (g.ad (122 + j)), .int hv]))] := hD
  have hPc := Pl [((g.ad (122 + j)), .inr (0, [.int (nI n), .ref e, .int (nI n)])), (e, .inl ((g.cy 2), 10, .inr (.inr (.inr (.inr f))))), (q1, .inr (2, [.int (nI n), .int co, .int a, .int b9]))] hP
  have hDc := Dl [((g.ad (122 + j)), .inr (0, [.int (nI n), .ref e, .int (nI n)])), (e, .inl ((g.cy 2), 10, .inr (.inr (.inr (.inr f))))), (q1, .inr (2, [.int (nI n), .int co, .int a, .int b9]))] hD
  have hFc := Ff (w1 := [((g.ad (122 + j)), .inr (0, [.int (nI n), .ref e, .int (nI n)])), (e, .inl ((g.cy 2), 10, .inr (.inr (.inr (.inr f))))), (q1, .inr (2, [.int (nI n), .int co, .int a, .int b9]))]) hD hS hA
  refine va_calli (va_runV (As := [.ref q1]) (rest := []) ⟨hx, hb, hml, hown, hts⟩ (x_Jx4a65c_add_9ea2d1 l h0 h2 ((g.ad (122 + j))) e q1 n ((nI n)) f 2 [.int (nI n), .int co, .int a, .int b9] _ rfl xc_X1 hn H.size) (cwV 1 hts (gd_V q981 q564 q565 q40 q566) rfl rfl rfl hd_Jx4a65c_add_9ea2d ⟨Nat.le_of_ble_eq_true rfl, Nat.le_of_ble_eq_true rfl⟩) ⟨Xe.blind, va_recv (q0 := 0) hT.1 hP rfl rfl, fun U hU hW => ⟨rfl, Xe.warm hW hT hE hS hAb hU, by show U.heap.size = _; rw [hU], by rw [hU]; exact hPc, hDc.weaken (fun k q _ h => hAb _ h)⟩⟩ rfl rfl hl.1 rfl (lv_room (Nat.le_of_ble_eq_true rfl)) dX8_add_101 ⟨Nat.le_of_ble_eq_true rfl, Nat.le_of_ble_eq_true rfl⟩) hS (fun q _ h => hFc q h) hFc (fun v9 u9 t9 H1 locs ht9 hvm9 hw9 hB9 hz9 hk9 hS => ?_)
  obtain ⟨hP1, hD1⟩ := hB9
  rw [ht9] at hP1
  rw [hw9]
  obtain ⟨hP, hD⟩ := Jn (wc := [((g.ad (122 + j)), .inr (0, [.int (nI n), .ref e, .int (nI n)])), (e, .inl ((g.cy 2), 10, .inr (.inr (.inr (.inr f))))), (q1, .inr (2, [.int (nI n), .int co, .int a, .int b9]))]) hP hD hk9 hFc hP1 hD1
  generalize H1 = H at hP hS ⊢
  have hP : va_P g.D vwCl [((g.ad (122 + j)), .inr (0, [.int (((nI n)) + 1), .ref e, .int (nI n + 1)])), (e, .inl ((g.cy 2), 10, .inr (.inr (.inr (.inr (va_up f (nI n).toNatClampNeg (some q1))))))), (q1, .inr (2, [.int (nI n), .int co, .int a, .int b9])), ((g.ad 272), .inr (9, [.ref (g.ad 112), .ref (g.ad 266), .ref (g.ad 0), .ref (g.ad 273)])), ((g.ad (114 + j)), .inr (5, [.ref (g.ad (122 + j)), .int hv]))] H := hP
  have hD : va_D A [((g.ad (122 + j)), .inr (0, [.int (((nI n)) + 1), .ref e, .int (nI n + 1)])), (e, .inl ((g.cy 2), 10, .inr (.inr (.inr (.inr (va_up f (nI n).toNatClampNeg (some q1))))))), (q1, .inr (2, [.int (nI n), .int co, .int a, .int b9])), ((g.ad 272), .inr (9, [.ref (g.ad 112), .ref (g.ad 266), .ref (g.ad 0), .ref (g.ad 273)])), ((g.ad (114 + j)), .inr (5, [.ref (g.ad (122 + j)), .int hv]))] := hD
  refine lv_pop hx hb dX8_add_104 rfl ?_
  refine lv_iload hx hb dX8_add_105 (lv_at hl 0 rfl) ?_
  have hP := Pmv [((g.ad (122 + j)), .inr (0, [.int (((nI n)) + 1), .ref e, .int (nI n + 1)])), (e, .inl ((g.cy 2), 10, .inr (.inr (.inr (.inr (va_up f (nI n).toNatClampNeg (some q1))))))), (q1, .inr (2, [.int (nI n), .int co, .int a, .int b9])), ((g.ad 272), .inr (9, [.ref (g.ad 112), .ref (g.ad 266), .ref (g.ad 0), .ref (g.ad 273)]))] hP
  have hD := Dmv [((g.ad (122 + j)), .inr (0, [.int (((nI n)) + 1), .ref e, .int (nI n + 1)])), (e, .inl ((g.cy 2), 10, .inr (.inr (.inr (.inr (va_up f (nI n).toNatClampNeg (some q1))))))), (q1, .inr (2, [.int (nI n), .int co, .int a, .int b9])), ((g.ad 272), .inr (9, [.ref (g.ad 112), .ref (g.ad 266), .ref (g.ad 0), .ref (g.ad 273)]))] hD
  have hP : va_P g.D vwCl [((g.ad (114 + j)), .inr (5, [.ref (g.ad (122 + j)), .int hv])), ((g.ad (122 + j)), .inr (0, [.int (((nI n)) + 1), .ref e, .int (nI n + 1)])), (e, .inl ((g.cy 2), 10, .inr (.inr (.inr (.inr (va_up f (nI n).toNatClampNeg (some q1))))))), (q1, .inr (2, [.int (nI n), .int co, .int a, .int b9])), ((g.ad 272), .inr (9, [.ref (g.ad 112), .ref (g.ad 266), .ref (g.ad 0), .ref (g.ad 273)]))] H := hP
  have hD : va_D A [((g.ad (114 + j)), .inr (5, [.ref (g.ad (122 + j)), .int hv])), ((g.ad (122 + j)), .inr (0, [.int (((nI n)) + 1), .ref e, .int (nI n + 1)])), (e, .inl ((g.cy 2), 10, .inr (.inr (.inr (.inr (va_up f (nI n).toNatClampNeg (some q1))))))), (q1, .inr (2, [.int (nI n), .int co, .int a, .int b9])), ((g.ad 272), .inr (9, [.ref (g.ad 112), .ref (g.ad 266), .ref (g.ad 0), .ref (g.ad 273)]))] := hD
  have hP := Pmv [((g.ad (114 + j)), .inr (5, [.ref (g.ad (122 + j)), .int hv])), ((g.ad (122 + j)), .inr (0, [.int (((nI n)) + 1), .ref e, .int (nI n + 1)])), (e, .inl ((g.cy 2), 10, .inr (.inr (.inr (.inr (va_up f (nI n).toNatClampNeg (some q1))))))), (q1, .inr (2, [.int (nI n), .int co, .int a, .int b9]))] hP
  have hD := Dmv [((g.ad (114 + j)), .inr (5, [.ref (g.ad (122 + j)), .int hv])), ((g.ad (122 + j)), .inr (0, [.int (((nI n)) + 1), .ref e, .int (nI n + 1)])), (e, .inl ((g.cy 2), 10, .inr (.inr (.inr (.inr (va_up f (nI n).toNatClampNeg (some q1))))))), (q1, .inr (2, [.int (nI n), .int co, .int a, .int b9]))] hD
  have hP : va_P g.D vwCl [((g.ad 272), .inr (9, [.ref (g.ad 112), .ref (g.ad 266), .ref (g.ad 0), .ref (g.ad 273)])), ((g.ad (114 + j)), .inr (5, [.ref (g.ad (122 + j)), .int hv])), ((g.ad (122 + j)), .inr (0, [.int (((nI n)) + 1), .ref e, .int (nI n + 1)])), (e, .inl ((g.cy 2), 10, .inr (.inr (.inr (.inr (va_up f (nI n).toNatClampNeg (some q1))))))), (q1, .inr (2, [.int (nI n), .int co, .int a, .int b9]))] H := hP
  have hD : va_D A [((g.ad 272), .inr (9, [.ref (g.ad 112), .ref (g.ad 266), .ref (g.ad 0), .ref (g.ad 273)])), ((g.ad (114 + j)), .inr (5, [.ref (g.ad (122 + j)), .int hv])), ((g.ad (122 + j)), .inr (0, [.int (((nI n)) + 1), .ref e, .int (nI n + 1)])), (e, .inl ((g.cy 2), 10, .inr (.inr (.inr (.inr (va_up f (nI n).toNatClampNeg (some q1))))))), (q1, .inr (2, [.int (nI n), .int co, .int a, .int b9]))] := hD
  have hP := Pmv [((g.ad 272), .inr (9, [.ref (g.ad 112), .ref (g.ad 266), .ref (g.ad 0), .ref (g.ad 273)])), ((g.ad (114 + j)), .inr (5, [.ref (g.ad (122 + j)), .int hv])), ((g.ad (122 + j)), .inr (0, [.int (((nI n)) + 1), .ref e, .int (nI n + 1)])), (e, .inl ((g.cy 2), 10, .inr (.inr (.inr (.inr (va_up f (nI n).toNatClampNeg (some q1)))))))] hP
  have hD := Dmv [((g.ad 272), .inr (9, [.ref (g.ad 112), .ref (g.ad 266), .ref (g.ad 0), .ref (g.ad 273)])), ((g.ad (114 + j)), .inr (5, [.ref (g.ad (122 + j)), .int hv])), ((g.ad (122 + j)), .inr (0, [.int (((nI n)) + 1), .ref e, .int (nI n + 1)])), (e, .inl ((g.cy 2), 10, .inr (.inr (.inr (.inr (va_up f (nI n).toNatClampNeg (some q1)))))))] hD
  have hP : va_P g.D vwCl [(q1, .inr (2, [.int (nI n), .int co, .int a, .int b9])), ((g.ad 272), .inr (9, [.ref (g.ad 112), .ref (g.ad 266), .ref (g.ad 0), .ref (g.ad 273)])), ((g.ad (114 + j)), .inr (5, [.ref (g.ad (122 + j)), .int hv])), ((g.ad (122 + j)), .inr (0, [.int (((nI n)) + 1), .ref e, .int (nI n + 1)])), (e, .inl ((g.cy 2), 10, .inr (.inr (.inr (.inr (va_up f (nI n).toNatClampNeg (some q1)))))))] H := hP
  have hD : va_D A [(q1, .inr (2, [.int (nI n), .int co, .int a, .int b9])), ((g.ad 272), .inr (9, [.ref (g.ad 112), .ref (g.ad 266), .ref (g.ad 0), .ref (g.ad 273)])), ((g.ad (114 + j)), .inr (5, [.ref (g.ad (122 + j)), .int hv])), ((g.ad (122 + j)), .inr (0, [.int (((nI n)) + 1), .ref e, .int (nI n + 1)])), (e, .inl ((g.cy 2), 10, .inr (.inr (.inr (.inr (va_up f (nI n).toNatClampNeg (some q1)))))))] := hD
  have hP := Pmv [(q1, .inr (2, [.int (nI n), .int co, .int a, .int b9])), ((g.ad 272), .inr (9, [.ref (g.ad 112), .ref (g.ad 266), .ref (g.ad 0), .ref (g.ad 273)])), ((g.ad (114 + j)), .inr (5, [.ref (g.ad (122 + j)), .int hv])), ((g.ad (122 + j)), .inr (0, [.int (((nI n)) + 1), .ref e, .int (nI n + 1)]))] hP
  have hD := Dmv [(q1, .inr (2, [.int (nI n), .int co, .int a, .int b9])), ((g.ad 272), .inr (9, [.ref (g.ad 112), .ref (g.ad 266), .ref (g.ad 0), .ref (g.ad 273)])), ((g.ad (114 + j)), .inr (5, [.ref (g.ad (122 + j)), .int hv])), ((g.ad (122 + j)), .inr (0, [.int (((nI n)) + 1), .ref e, .int (nI n + 1)]))] hD
  have hP : va_P g.D vwCl [(e, .inl ((g.cy 2), 10, .inr (.inr (.inr (.inr (va_up f (nI n).toNatClampNeg (some q1))))))), (q1, .inr (2, [.int (nI n), .int co, .int a, .int b9])), ((g.ad 272), .inr (9, [.ref (g.ad 112), .ref (g.ad 266), .ref (g.ad 0), .ref (g.ad 273)])), ((g.ad (114 + j)), .inr (5, [.ref (g.ad (122 + j)), .int hv])), ((g.ad (122 + j)), .inr (0, [.int (((nI n)) + 1), .ref e, .int (nI n + 1)]))] H := hP
  have hD : va_D A [(e, .inl ((g.cy 2), 10, .inr (.inr (.inr (.inr (va_up f (nI n).toNatClampNeg (some q1))))))), (q1, .inr (2, [.int (nI n), .int co, .int a, .int b9])), ((g.ad 272), .inr (9, [.ref (g.ad 112), .ref (g.ad 266), .ref (g.ad 0), .ref (g.ad 273)])), ((g.ad (114 + j)), .inr (5, [.ref (g.ad (122 + j)), .int hv])), ((g.ad (122 + j)), .inr (0, [.int (((nI n)) + 1), .ref e, .int (nI n + 1)]))] := hD
  have hP := Pmv [(e, .inl ((g.cy 2), 10, .inr (.inr (.inr (.inr (va_up f (nI n).toNatClampNeg (some q1))))))), (q1, .inr (2, [.int (nI n), .int co, .int a, .int b9])), ((g.ad 272), .inr (9, [.ref (g.ad 112), .ref (g.ad 266), .ref (g.ad 0), .ref (g.ad 273)])), ((g.ad (114 + j)), .inr (5, [.ref (g.ad (122 + j)), .int hv]))] hP
  have hD := Dmv [(e, .inl ((g.cy 2), 10, .inr (.inr (.inr (.inr (va_up f (nI n).toNatClampNeg (some q1))))))), (q1, .inr (2, [.int (nI n), .int co, .int a, .int b9])), ((g.ad 272), .inr (9, [.ref (g.ad 112), .ref (g.ad 266), .ref (g.ad 0), .ref (g.ad 273)])), ((g.ad (114 + j)), .inr (5, [.ref (g.ad (122 + j)), .int hv]))] hD
  have hP : va_P g.D vwCl [((g.ad (122 + j)), .inr (0, [.int (((nI n)) + 1), .ref e, .int (nI n + 1)])), (e, .inl ((g.cy 2), 10, .inr (.inr (.inr (.inr (va_up f (nI n).toNatClampNeg (some q1))))))), (q1, .inr (2, [.int (nI n), .int co, .int a, .int b9])), ((g.ad 272), .inr (9, [.ref (g.ad 112), .ref (g.ad 266), .ref (g.ad 0), .ref (g.ad 273)])), ((g.ad (114 + j)), .inr (5, [.ref (g.ad (122 + j)), .int hv]))] H := hP
  have hD : va_D A [((g.ad (122 + j)), .inr (0, [.int (((nI n)) + 1), .ref e, .int (nI n + 1)])), (e, .inl ((g.cy 2), 10, .inr (.inr (.inr (.inr (va_up f (nI n).toNatClampNeg (some q1))))))), (q1, .inr (2, [.int (nI n), .int co, .int a, .int b9])), ((g.ad 272), .inr (9, [.ref (g.ad 112), .ref (g.ad 266), .ref (g.ad 0), .ref (g.ad 273)])), ((g.ad (114 + j)), .inr (5, [.ref (g.ad (122 + j)), .int hv]))] := hD
  refine W.widen (k := 2) (n := 14) (Nat.le_of_ble_eq_true rfl) (Nat.le_of_ble_eq_true rfl) ?_
  exact W.iret (v := (nI n)) hx hb hr (fun t9 ht hW => ⟨⟨(nI n), (), rfl, rfl, q1, by rw [ht]; exact hP, hD⟩, hS.F ht⟩) hS.2.2 dX8_add_107
