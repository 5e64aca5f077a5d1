/-! step over a kernel with its tally -/
theorem hd_X8_step : yX8_step.cls = RX8 ∧ yX8_step.cls ≠ "java/lang/invoke/MethodHandle" ∧ yX8_step.cls ≠ "java/lang/invoke/VarHandle" ∧ (parseMethodDescriptor yX8_step.desc).map (fun d => d.parameters.length) = some 0 := by decide +kernel
set_option maxHeartbeats 4000000 in
set_option maxRecDepth 100000 in
theorem h_X8_step (l : Launch) {g : Geo} {z b : Nat} (hg : Good g) (hAb : Ab g b) (hX : g.tz 1 = 1) (n : Nat) (hTI : TI z g.T n) (hn : n + 40 ≤ 1300) (μ : Mem) (lg : Log) (sz : Nat) {r : Mem × Log × Option Nat} (hf : f_X7_happen g.F μ lg = some r) {k : Nat} (hk : isP k) (hr2 : r.2.2 = some k) : Met l yX8_step (ws_ yX8_step cX8_step 2 (some .int)) (rm_ 10 221 120 20920) (Pe g z b [.ref (g.ad 272)] (fun H9 => H9.size = sz ∧ Rg g μ H9)) (va_Qi (fun (v : Int32) (_ : Unit) => v = r.1 k 0) (fun _ t => hQ g z b r.1 n 40 sz t) (At g sz)) 120 20920 (At g sz) := by
  refine Met.ofW (cc := cX8_step) (maxL := 2) (ret := (some .int)) (by decide) rfl ?_
  intro p e s m args below meth c s₁ B hml hv
  obtain ⟨rfl, ⟨hT, hE⟩, hsz, hP⟩ := hv
  have hx := B.exec
  have hb := B.bytes
  have hr := B.returns
  have hts : ∀ w ∈ lw_all, w.before _ s = true := fun w h => atoms_spec (ws := (ws_ yX8_step cX8_step 2 (some .int))) B.pre w (List.mem_cons_of_mem _ h)
  have hown : s.vm.findClass RX8 = some m.cls := findClass_of_methodNamed B.named
  have hlocks := B.notSynchronized
  subst hsz
  have hY : g.tz 0 = 1 := hTI.1
  have hAtb := At.b hAb hY hE.2.2.1
  have hS : va_S (At g s.heap.size) s.heap s.heap [] := va_S.rf
  have hl := lv_entry ([.ref (g.ad 272)]) (n := 2) (Nat.le_of_ble_eq_true rfl)
  rw [lg_entry_eq]
  generalize (lg_sl ([.ref (g.ad 272)]) ++ List.replicate (2 - (lg_sl ([.ref (g.ad 272)])).length) Slot.unset).toArray = ls at hl ⊢
  have hl : lv_has ls 2 [(0, .ref (g.ad 272))] := hl
  refine lv_aload_n hx hb dX8_step_0 rfl (lv_at hl 0 rfl) ?_
  refine r_get hx hb hts i_X8 hown hT hP (inX hX) (fs := (fun _ => [.ref (g.ad 112), .ref (g.ad 266), .ref (g.ad 0), .ref (g.ad 273)])) (obX g) rfl 2 (by decide) q227 (fun _ h9 => h9) rfl dX8_step_1 ?_
  refine va_callq (va_runV (As := []) (rest := []) ⟨hx, hb, hml, hown, hts⟩ (h_X7_happen l hg hAb n hTI hn μ lg s.heap.size hf) (cwV 0 hts (gd_V q389 q390 q391 q41 q392) rfl rfl rfl hd_X7_happen ⟨Nat.le_of_ble_eq_true rfl, Nat.le_of_ble_eq_true rfl⟩) ⟨Pe.blind, r_recv hT hP inW (fs := (fsW g)) (obW g) rfl, fun U hU hW => ⟨rfl, ⟨Tb.warm hW hT, Em.on hW hE (by rw [hU]; exact hS) hAtb⟩, by rw [hU], by rw [hU]; exact hP⟩⟩ rfl rfl hl.1 rfl (lv_room (Nat.le_of_ble_eq_true rfl)) dX8_step_4 ⟨Nat.le_of_ble_eq_true rfl, Nat.le_of_ble_eq_true rfl⟩) hS (fun q _ h => h) (fun q h => h) (fun v9 u9 t9 H locs ht9 hvm9 hw9 hB9 hz9 hk9 hS => ?_)
  rw [hr2] at hw9
  rw [hw9]
  refine W.eq (g2 := F0 m 7 ls [.ref (g.ad k)]) rfl ?_
  obtain ⟨X', a1, a2, a3, a4, a5, a6⟩ := hB9
  have hP : Rg (g.tw X') r.1 H := by rw [← ht9]; exact a5
  refine lv_astore_n (lv' := [(1, .ref (g.ad k)), (0, .ref (g.ad 272))]) hx hb dX8_step_7 rfl hl (by decide) rfl (fun ls hl => ?_)
  refine lv_aload_n hx hb dX8_step_8 rfl (lv_at hl 0 rfl) ?_
  refine lv_ifnonnull (tgt := 22) hx hb dX8_step_9 (by decide) ?_
  refine lv_aload_n hx hb dX8_step_22 rfl (lv_at hl 0 rfl) ?_
  refine r_get (g := g.tw X') hx hb hts i_X2 hown hT hP (inP hk) (fs := (fsP (g.tw X') k)) (obP hk) rfl 0 (by decide) q112 (fun _ h9 => h9) rfl dX8_step_23 ?_
  exact W.iret (v := r.1 k 0) hx hb hr (fun t9 ht hW => ⟨⟨r.1 k 0, (), rfl, rfl, X', a1, a2, a3, a4, by rw [ht]; exact hP, a6⟩, hS.F ht⟩) hS.2.2 dX8_step_26
