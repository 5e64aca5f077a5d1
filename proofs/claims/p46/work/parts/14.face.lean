/-- "Sandglass" "demandResource" "(I)LSandglass$Resource;" -/
def f_X8_demandResource (g : Fg) (μ : Mem) (nu : Int32) : Option ((Option Nat)) := bnO (f_X7_resource g μ nu) fun r_1 => csQ r_1 (none) (fun o_3 => grd (102 ≤ o_3 ∧ o_3 < 102 + g.sz 0 ∧ o_3 < 108) (some (some o_3)))
theorem hd_X8_demandResource : yX8_demandResource.cls = RX8 ∧ yX8_demandResource.cls ≠ "java/lang/invoke/MethodHandle" ∧ yX8_demandResource.cls ≠ "java/lang/invoke/VarHandle" ∧ (parseMethodDescriptor yX8_demandResource.desc).map (fun d => d.parameters.length) = some 1 := by decide +kernel
set_option maxHeartbeats 4000000 in
set_option maxRecDepth 100000 in
theorem c_X8_demandResource (l : Launch) {g : Geo} (hg : Good g) (hX : g.tz 1 = 1) (μ : Mem) (nu : Int32) {r : (Option Nat)} (hf : f_X8_demandResource g.F μ nu = some r) : Met l yX8_demandResource (ws_ yX8_demandResource cX8_demandResource 3 (some (.object "Sandglass$Resource"))) (rm_ 4 85 0 0) (Pz g [.ref (g.ad 272), .int nu] (Rg g μ)) (va_Qq (fun (v : Option Nat) (_ : Unit) => v = r.map g.ad) (fun _ _ => True) (fun _ => False)) 0 0 (fun _ => False) := by
  refine Met.ofW (cc := cX8_demandResource) (maxL := 3) (ret := (some (.object "Sandglass$Resource"))) (by decide) rfl ?_
  intro p e s m args below meth c s₁ B hml hv
  obtain ⟨rfl, hT, hP⟩ := hv
  have hx := B.exec
  have hb := B.bytes
  have hr := B.returns
  have hts : ∀ w ∈ lw_all, w.before _ s = true := fun w h => atoms_spec (ws := (ws_ yX8_demandResource cX8_demandResource 3 (some (.object "Sandglass$Resource")))) B.pre w (List.mem_cons_of_mem _ h)
  have hown : s.vm.findClass RX8 = some m.cls := findClass_of_methodNamed B.named
  have hlocks := B.notSynchronized
  have hS : va_S (fun _ => False) s.heap s.heap [] := va_S.rf
  have hl := lv_entry ([.ref (g.ad 272), .int nu]) (n := 3) (Nat.le_of_ble_eq_true rfl)
  rw [lg_entry_eq]
  generalize (lg_sl ([.ref (g.ad 272), .int nu]) ++ List.replicate (3 - (lg_sl ([.ref (g.ad 272), .int nu])).length) Slot.unset).toArray = ls at hl ⊢
  have hl : lv_has ls 3 [(0, .ref (g.ad 272)), (1, .int nu)] := hl
  unfold f_X8_demandResource at hf
  refine lv_aload_n hx hb dX8_demandResource_0 rfl (lv_at hl 0 rfl) ?_
  refine r_get hx hb hts i_X8 hown hT hP (inX hX) (fs := (fun _ => [.ref (g.ad 112), .ref (g.ad 266), .ref (g.ad 0), .ref (g.ad 273)])) (obX g) rfl 2 (by decide) q227 (fun _ h9 => h9) rfl dX8_demandResource_1 ?_
  refine lv_iload_n hx hb dX8_demandResource_4 rfl (lv_at hl 1 rfl) ?_
  obtain ⟨r_1, hc_2, hf⟩ := bnO_some hf
  refine va_callq (va_runV (As := [.int nu]) (rest := []) ⟨hx, hb, hml, hown, hts⟩ (c_X7_resource l hg μ nu  hc_2) (cwV 1 hts (gd_V q713 q431 q432 q41 q433) rfl rfl rfl hd_X7_resource ⟨Nat.le_of_ble_eq_true rfl, Nat.le_of_ble_eq_true rfl⟩) ⟨Pz.blind, r_recv hT hP inW (fs := (fsW g)) (obW g) rfl, fun U hU hW => ⟨rfl, Tb.warm hW hT, by rw [hU]; exact hP⟩⟩ rfl rfl hl.1 rfl (lv_room (Nat.le_of_ble_eq_true rfl)) dX8_demandResource_5 ⟨Nat.le_of_ble_eq_true rfl, Nat.le_of_ble_eq_true rfl⟩) hS (fun q _ h => h.elim) (fun q h => h.elim) (fun v9 u9 t9 H locs ht9 hvm9 hw9 hB9 hz9 hk9 hS => ?_)
  have hP := Rg.keep hP (fun q h => hk9 q h id)
  rw [hw9]
  cases r_1 with
  | none =>
    dsimp only [csQ] at hf
    refine W.eq (g2 := F0 m 8 ls [.null]) rfl ?_
    refine lv_astore_nN (lv' := [(2, .null), (0, .ref (g.ad 272)), (1, .int nu)]) hx hb dX8_demandResource_8 rfl hl (by decide) rfl (fun ls hl => ?_)
    refine lv_aload_nN hx hb dX8_demandResource_9 rfl (lv_at hl 0 rfl) ?_
    refine lv_ifnonnullN hx hb dX8_demandResource_10 ?_
    cases hf
  | some o_3 =>
    dsimp only [csQ] at hf
    obtain ⟨ho_3, hf⟩ := grd_some hf
    refine W.eq (g2 := F0 m 8 ls [.ref (g.ad o_3)]) rfl ?_
    refine lv_astore_n (lv' := [(2, .ref (g.ad o_3)), (0, .ref (g.ad 272)), (1, .int nu)]) hx hb dX8_demandResource_8 rfl hl (by decide) rfl (fun ls hl => ?_)
    refine lv_aload_n hx hb dX8_demandResource_9 rfl (lv_at hl 0 rfl) ?_
    refine lv_ifnonnull (tgt := 24) hx hb dX8_demandResource_10 (by decide) ?_
    refine lv_aload_n hx hb dX8_demandResource_24 rfl (lv_at hl 0 rfl) ?_
    exact W.aret (v := .ref (g.ad o_3)) (rt := .object "Sandglass$Resource") hx hb hr (Or.inl ⟨_, rfl⟩) (Or.inr ⟨_, rfl⟩) (fun t9 ht hW => ⟨⟨(some (g.ad o_3)), (), rfl, by rw [← Option.some.inj hf]; rfl, trivial⟩, hS.F ht⟩) hS.2.2 dX8_demandResource_25
/-- "Sandglass" "demandStore" "(I)LSandglass$Store;" -/
def f_X8_demandStore (g : Fg) (μ : Mem) (nu : Int32) : Option ((Option Nat)) := bnO (f_X7_store g μ nu) fun r_1 => csQ r_1 (none) (fun o_3 => grd (108 ≤ o_3 ∧ o_3 < 108 + g.sz 1 ∧ o_3 < 112) (some (some o_3)))
theorem hd_X8_demandStore : yX8_demandStore.cls = RX8 ∧ yX8_demandStore.cls ≠ "java/lang/invoke/MethodHandle" ∧ yX8_demandStore.cls ≠ "java/lang/invoke/VarHandle" ∧ (parseMethodDescriptor yX8_demandStore.desc).map (fun d => d.parameters.length) = some 1 := by decide +kernel
set_option maxHeartbeats 4000000 in
set_option maxRecDepth 100000 in
theorem c_X8_demandStore (l : Launch) {g : Geo} (hg : Good g) (hX : g.tz 1 = 1) (μ : Mem) (nu : Int32) {r : (Option Nat)} (hf : f_X8_demandStore g.F μ nu = some r) : Met l yX8_demandStore (ws_ yX8_demandStore cX8_demandStore 3 (some (.object "Sandglass$Store"))) (rm_ 4 85 0 0) (Pz g [.ref (g.ad 272), .int nu] (Rg g μ)) (va_Qq (fun (v : Option Nat) (_ : Unit) => v = r.map g.ad) (fun _ _ => True) (fun _ => False)) 0 0 (fun _ => False) := by
  refine Met.ofW (cc := cX8_demandStore) (maxL := 3) (ret := (some (.object "Sandglass$Store"))) (by decide) rfl ?_
  intro p e s m args below meth c s₁ B hml hv
  obtain ⟨rfl, hT, hP⟩ := hv
  have hx := B.exec
  have hb := B.bytes
  have hr := B.returns
  have hts : ∀ w ∈ lw_all, w.before _ s = true := fun w h => atoms_spec (ws := (ws_ yX8_demandStore cX8_demandStore 3 (some (.object "Sandglass$Store")))) B.pre w (List.mem_cons_of_mem _ h)
  have hown : s.vm.findClass RX8 = some m.cls := findClass_of_methodNamed B.named
  have hlocks := B.notSynchronized
  have hS : va_S (fun _ => False) s.heap s.heap [] := va_S.rf
  have hl := lv_entry ([.ref (g.ad 272), .int nu]) (n := 3) (Nat.le_of_ble_eq_true rfl)
  rw [lg_entry_eq]
  generalize (lg_sl ([.ref (g.ad 272), .int nu]) ++ List.replicate (3 - (lg_sl ([.ref (g.ad 272), .int nu])).length) Slot.unset).toArray = ls at hl ⊢
  have hl : lv_has ls 3 [(0, .ref (g.ad 272)), (1, .int nu)] := hl
  unfold f_X8_demandStore at hf
  refine lv_aload_n hx hb dX8_demandStore_0 rfl (lv_at hl 0 rfl) ?_
  refine r_get hx hb hts i_X8 hown hT hP (inX hX) (fs := (fun _ => [.ref (g.ad 112), .ref (g.ad 266), .ref (g.ad 0), .ref (g.ad 273)])) (obX g) rfl 2 (by decide) q227 (fun _ h9 => h9) rfl dX8_demandStore_1 ?_
  refine lv_iload_n hx hb dX8_demandStore_4 rfl (lv_at hl 1 rfl) ?_
  obtain ⟨r_1, hc_2, hf⟩ := bnO_some hf
  refine va_callq (va_runV (As := [.int nu]) (rest := []) ⟨hx, hb, hml, hown, hts⟩ (c_X7_store l hg μ nu  hc_2) (cwV 1 hts (gd_V q892 q500 q501 q41 q502) rfl rfl rfl hd_X7_store ⟨Nat.le_of_ble_eq_true rfl, Nat.le_of_ble_eq_true rfl⟩) ⟨Pz.blind, r_recv hT hP inW (fs := (fsW g)) (obW g) rfl, fun U hU hW => ⟨rfl, Tb.warm hW hT, by rw [hU]; exact hP⟩⟩ rfl rfl hl.1 rfl (lv_room (Nat.le_of_ble_eq_true rfl)) dX8_demandStore_5 ⟨Nat.le_of_ble_eq_true rfl, Nat.le_of_ble_eq_true rfl⟩) hS (fun q _ h => h.elim) (fun q h => h.elim) (fun v9 u9 t9 H locs ht9 hvm9 hw9 hB9 hz9 hk9 hS => ?_)
  have hP := Rg.keep hP (fun q h => hk9 q h id)
  rw [hw9]
  cases r_1 with
  | none =>
    dsimp only [csQ] at hf
    refine W.eq (g2 := F0 m 8 ls [.null]) rfl ?_
    refine lv_astore_nN (lv' := [(2, .null), (0, .ref (g.ad 272)), (1, .int nu)]) hx hb dX8_demandStore_8 rfl hl (by decide) rfl (fun ls hl => ?_)
    refine lv_aload_nN hx hb dX8_demandStore_9 rfl (lv_at hl 0 rfl) ?_
    refine lv_ifnonnullN hx hb dX8_demandStore_10 ?_
    cases hf
  | some o_3 =>
    dsimp only [csQ] at hf
    obtain ⟨ho_3, hf⟩ := grd_some hf
    refine W.eq (g2 := F0 m 8 ls [.ref (g.ad o_3)]) rfl ?_
    refine lv_astore_n (lv' := [(2, .ref (g.ad o_3)), (0, .ref (g.ad 272)), (1, .int nu)]) hx hb dX8_demandStore_8 rfl hl (by decide) rfl (fun ls hl => ?_)
    refine lv_aload_n hx hb dX8_demandStore_9 rfl (lv_at hl 0 rfl) ?_
    refine lv_ifnonnull (tgt := 24) hx hb dX8_demandStore_10 (by decide) ?_
    refine lv_aload_n hx hb dX8_demandStore_24 rfl (lv_at hl 0 rfl) ?_
    exact W.aret (v := .ref (g.ad o_3)) (rt := .object "Sandglass$Store") hx hb hr (Or.inl ⟨_, rfl⟩) (Or.inr ⟨_, rfl⟩) (fun t9 ht hW => ⟨⟨(some (g.ad o_3)), (), rfl, by rw [← Option.some.inj hf]; rfl, trivial⟩, hS.F ht⟩) hS.2.2 dX8_demandStore_25
/-- "Sandglass" "demandScript" "(I)LSandglass$Script;" -/
def f_X8_demandScript (g : Fg) (μ : Mem) (nu : Int32) : Option ((Option Nat)) := bnO (f_X7_script g μ nu) fun r_1 => csQ r_1 (none) (fun o_3 => grd (114 ≤ o_3 ∧ o_3 < 114 + g.sz 2 ∧ o_3 < 122) (some (some o_3)))
theorem hd_X8_demandScript : yX8_demandScript.cls = RX8 ∧ yX8_demandScript.cls ≠ "java/lang/invoke/MethodHandle" ∧ yX8_demandScript.cls ≠ "java/lang/invoke/VarHandle" ∧ (parseMethodDescriptor yX8_demandScript.desc).map (fun d => d.parameters.length) = some 1 := by decide +kernel
set_option maxHeartbeats 4000000 in
set_option maxRecDepth 100000 in
theorem c_X8_demandScript (l : Launch) {g : Geo} (hg : Good g) (hX : g.tz 1 = 1) (μ : Mem) (nu : Int32) {r : (Option Nat)} (hf : f_X8_demandScript g.F μ nu = some r) : Met l yX8_demandScript (ws_ yX8_demandScript cX8_demandScript 3 (some (.object "Sandglass$Script"))) (rm_ 4 85 0 0) (Pz g [.ref (g.ad 272), .int nu] (Rg g μ)) (va_Qq (fun (v : Option Nat) (_ : Unit) => v = r.map g.ad) (fun _ _ => True) (fun _ => False)) 0 0 (fun _ => False) := by
  refine Met.ofW (cc := cX8_demandScript) (maxL := 3) (ret := (some (.object "Sandglass$Script"))) (by decide) rfl ?_
  intro p e s m args below meth c s₁ B hml hv
  obtain ⟨rfl, hT, hP⟩ := hv
  have hx := B.exec
  have hb := B.bytes
  have hr := B.returns
  have hts : ∀ w ∈ lw_all, w.before _ s = true := fun w h => atoms_spec (ws := (ws_ yX8_demandScript cX8_demandScript 3 (some (.object "Sandglass$Script")))) B.pre w (List.mem_cons_of_mem _ h)
  have hown : s.vm.findClass RX8 = some m.cls := findClass_of_methodNamed B.named
  have hlocks := B.notSynchronized
  have hS : va_S (fun _ => False) s.heap s.heap [] := va_S.rf
  have hl := lv_entry ([.ref (g.ad 272), .int nu]) (n := 3) (Nat.le_of_ble_eq_true rfl)
  rw [lg_entry_eq]
  generalize (lg_sl ([.ref (g.ad 272), .int nu]) ++ List.replicate (3 - (lg_sl ([.ref (g.ad 272), .int nu])).length) Slot.unset).toArray = ls at hl ⊢
  have hl : lv_has ls 3 [(0, .ref (g.ad 272)), (1, .int nu)] := hl
  unfold f_X8_demandScript at hf
  refine lv_aload_n hx hb dX8_demandScript_0 rfl (lv_at hl 0 rfl) ?_
  refine r_get hx hb hts i_X8 hown hT hP (inX hX) (fs := (fun _ => [.ref (g.ad 112), .ref (g.ad 266), .ref (g.ad 0), .ref (g.ad 273)])) (obX g) rfl 2 (by decide) q227 (fun _ h9 => h9) rfl dX8_demandScript_1 ?_
  refine lv_iload_n hx hb dX8_demandScript_4 rfl (lv_at hl 1 rfl) ?_
  obtain ⟨r_1, hc_2, hf⟩ := bnO_some hf
  refine va_callq (va_runV (As := [.int nu]) (rest := []) ⟨hx, hb, hml, hown, hts⟩ (c_X7_script l hg μ nu  hc_2) (cwV 1 hts (gd_V q321 q322 q323 q41 q324) rfl rfl rfl hd_X7_script ⟨Nat.le_of_ble_eq_true rfl, Nat.le_of_ble_eq_true rfl⟩) ⟨Pz.blind, r_recv hT hP inW (fs := (fsW g)) (obW g) rfl, fun U hU hW => ⟨rfl, Tb.warm hW hT, by rw [hU]; exact hP⟩⟩ rfl rfl hl.1 rfl (lv_room (Nat.le_of_ble_eq_true rfl)) dX8_demandScript_5 ⟨Nat.le_of_ble_eq_true rfl, Nat.le_of_ble_eq_true rfl⟩) hS (fun q _ h => h.elim) (fun q h => h.elim) (fun v9 u9 t9 H locs ht9 hvm9 hw9 hB9 hz9 hk9 hS => ?_)
  have hP := Rg.keep hP (fun q h => hk9 q h id)
  rw [hw9]
  cases r_1 with
  | none =>
    dsimp only [csQ] at hf
    refine W.eq (g2 := F0 m 8 ls [.null]) rfl ?_
    refine lv_astore_nN (lv' := [(2, .null), (0, .ref (g.ad 272)), (1, .int nu)]) hx hb dX8_demandScript_8 rfl hl (by decide) rfl (fun ls hl => ?_)
    refine lv_aload_nN hx hb dX8_demandScript_9 rfl (lv_at hl 0 rfl) ?_
    refine lv_ifnonnullN hx hb dX8_demandScript_10 ?_
    cases hf
  | some o_3 =>
    dsimp only [csQ] at hf
    obtain ⟨ho_3, hf⟩ := grd_some hf
    refine W.eq (g2 := F0 m 8 ls [.ref (g.ad o_3)]) rfl ?_
    refine lv_astore_n (lv' := [(2, .ref (g.ad o_3)), (0, .ref (g.ad 272)), (1, .int nu)]) hx hb dX8_demandScript_8 rfl hl (by decide) rfl (fun ls hl => ?_)
    refine lv_aload_n hx hb dX8_demandScript_9 rfl (lv_at hl 0 rfl) ?_
    refine lv_ifnonnull (tgt := 24) hx hb dX8_demandScript_10 (by decide) ?_
    refine lv_aload_n hx hb dX8_demandScript_24 rfl (lv_at hl 0 rfl) ?_
    exact W.aret (v := .ref (g.ad o_3)) (rt := .object "Sandglass$Script") hx hb hr (Or.inl ⟨_, rfl⟩) (Or.inr ⟨_, rfl⟩) (fun t9 ht hW => ⟨⟨(some (g.ad o_3)), (), rfl, by rw [← Option.some.inj hf]; rfl, trivial⟩, hS.F ht⟩) hS.2.2 dX8_demandScript_25
/-- "Sandglass" "demandProcess" "(I)LSandglass$Proc;" -/
def f_X8_demandProcess (g : Fg) (μ : Mem) (nu : Int32) : Option ((Option Nat)) := bnO (f_X7_process g μ nu) fun r_1 => csQ r_1 (none) (fun o_3 => grd (1 ≤ o_3 ∧ o_3 < 25) (some (some o_3)))
theorem hd_X8_demandProcess : yX8_demandProcess.cls = RX8 ∧ yX8_demandProcess.cls ≠ "java/lang/invoke/MethodHandle" ∧ yX8_demandProcess.cls ≠ "java/lang/invoke/VarHandle" ∧ (parseMethodDescriptor yX8_demandProcess.desc).map (fun d => d.parameters.length) = some 1 := by decide +kernel
set_option maxHeartbeats 4000000 in
set_option maxRecDepth 100000 in
theorem c_X8_demandProcess (l : Launch) {g : Geo} (hg : Good g) (hX : g.tz 1 = 1) (μ : Mem) (nu : Int32) {r : (Option Nat)} (hf : f_X8_demandProcess g.F μ nu = some r) : Met l yX8_demandProcess (ws_ yX8_demandProcess cX8_demandProcess 3 (some (.object "Sandglass$Proc"))) (rm_ 1 21 0 0) (Pz g [.ref (g.ad 272), .int nu] (Rg g μ)) (va_Qq (fun (v : Option Nat) (_ : Unit) => v = r.map g.ad) (fun _ _ => True) (fun _ => False)) 0 0 (fun _ => False) := by
  refine Met.ofW (cc := cX8_demandProcess) (maxL := 3) (ret := (some (.object "Sandglass$Proc"))) (by decide) rfl ?_
  intro p e s m args below meth c s₁ B hml hv
  obtain ⟨rfl, hT, hP⟩ := hv
  have hx := B.exec
  have hb := B.bytes
  have hr := B.returns
  have hts : ∀ w ∈ lw_all, w.before _ s = true := fun w h => atoms_spec (ws := (ws_ yX8_demandProcess cX8_demandProcess 3 (some (.object "Sandglass$Proc")))) B.pre w (List.mem_cons_of_mem _ h)
  have hown : s.vm.findClass RX8 = some m.cls := findClass_of_methodNamed B.named
  have hlocks := B.notSynchronized
  have hS : va_S (fun _ => False) s.heap s.heap [] := va_S.rf
  have hl := lv_entry ([.ref (g.ad 272), .int nu]) (n := 3) (Nat.le_of_ble_eq_true rfl)
  rw [lg_entry_eq]
  generalize (lg_sl ([.ref (g.ad 272), .int nu]) ++ List.replicate (3 - (lg_sl ([.ref (g.ad 272), .int nu])).length) Slot.unset).toArray = ls at hl ⊢
  have hl : lv_has ls 3 [(0, .ref (g.ad 272)), (1, .int nu)] := hl
  unfold f_X8_demandProcess at hf
  refine lv_aload_n hx hb dX8_demandProcess_0 rfl (lv_at hl 0 rfl) ?_
  refine r_get hx hb hts i_X8 hown hT hP (inX hX) (fs := (fun _ => [.ref (g.ad 112), .ref (g.ad 266), .ref (g.ad 0), .ref (g.ad 273)])) (obX g) rfl 2 (by decide) q227 (fun _ h9 => h9) rfl dX8_demandProcess_1 ?_
  refine lv_iload_n hx hb dX8_demandProcess_4 rfl (lv_at hl 1 rfl) ?_
  obtain ⟨r_1, hc_2, hf⟩ := bnO_some hf
  refine va_callq (va_runV (As := [.int nu]) (rest := []) ⟨hx, hb, hml, hown, hts⟩ (c_X7_process l hg μ nu  hc_2) (cwV 1 hts (gd_V q651 q652 q653 q41 q654) rfl rfl rfl hd_X7_process ⟨Nat.le_of_ble_eq_true rfl, Nat.le_of_ble_eq_true rfl⟩) ⟨Pz.blind, r_recv hT hP inW (fs := (fsW g)) (obW g) rfl, fun U hU hW => ⟨rfl, Tb.warm hW hT, by rw [hU]; exact hP⟩⟩ rfl rfl hl.1 rfl (lv_room (Nat.le_of_ble_eq_true rfl)) dX8_demandProcess_5 ⟨Nat.le_of_ble_eq_true rfl, Nat.le_of_ble_eq_true rfl⟩) hS (fun q _ h => h.elim) (fun q h => h.elim) (fun v9 u9 t9 H locs ht9 hvm9 hw9 hB9 hz9 hk9 hS => ?_)
  have hP := Rg.keep hP (fun q h => hk9 q h id)
  rw [hw9]
  cases r_1 with
  | none =>
    dsimp only [csQ] at hf
    refine W.eq (g2 := F0 m 8 ls [.null]) rfl ?_
    refine lv_astore_nN (lv' := [(2, .null), (0, .ref (g.ad 272)), (1, .int nu)]) hx hb dX8_demandProcess_8 rfl hl (by decide) rfl (fun ls hl => ?_)
    refine lv_aload_nN hx hb dX8_demandProcess_9 rfl (lv_at hl 0 rfl) ?_
    refine lv_ifnonnullN hx hb dX8_demandProcess_10 ?_
    cases hf
  | some o_3 =>
    dsimp only [csQ] at hf
    obtain ⟨ho_3, hf⟩ := grd_some hf
    refine W.eq (g2 := F0 m 8 ls [.ref (g.ad o_3)]) rfl ?_
    refine lv_astore_n (lv' := [(2, .ref (g.ad o_3)), (0, .ref (g.ad 272)), (1, .int nu)]) hx hb dX8_demandProcess_8 rfl hl (by decide) rfl (fun ls hl => ?_)
    refine lv_aload_n hx hb dX8_demandProcess_9 rfl (lv_at hl 0 rfl) ?_
    refine lv_ifnonnull (tgt := 24) hx hb dX8_demandProcess_10 (by decide) ?_
    refine lv_aload_n hx hb dX8_demandProcess_24 rfl (lv_at hl 0 rfl) ?_
    exact W.aret (v := .ref (g.ad o_3)) (rt := .object "Sandglass$Proc") hx hb hr (Or.inl ⟨_, rfl⟩) (Or.inr ⟨_, rfl⟩) (fun t9 ht hW => ⟨⟨(some (g.ad o_3)), (), rfl, by rw [← Option.some.inj hf]; rfl, trivial⟩, hS.F ht⟩) hS.2.2 dX8_demandProcess_25
/-- "Sandglass" "time" "()I" -/
def f_X8_time (g : Fg) (μ : Mem) : Option (Int32) := some (μ 0 6)
theorem hd_X8_time : yX8_time.cls = RX8 ∧ yX8_time.cls ≠ "java/lang/invoke/MethodHandle" ∧ yX8_time.cls ≠ "java/lang/invoke/VarHandle" ∧ (parseMethodDescriptor yX8_time.desc).map (fun d => d.parameters.length) = some 0 := by decide +kernel
set_option maxHeartbeats 4000000 in
set_option maxRecDepth 100000 in
theorem c_X8_time (l : Launch) {g : Geo} (hg : Good g) (hX : g.tz 1 = 1) (μ : Mem) {r : Int32} (hf : f_X8_time g.F μ  = some r) : Met l yX8_time (ws_ yX8_time cX8_time 1 (some .int)) (rm_ 0 0 0 0) (Pz g [.ref (g.ad 272)] (Rg g μ)) (va_Qi (fun (v : Int32) (_ : Unit) => v = r) (fun _ _ => True) (fun _ => False)) 0 0 (fun _ => False) := by
  refine Met.ofW (cc := cX8_time) (maxL := 1) (ret := (some .int)) (by decide) rfl ?_
  intro p e s m args below meth c s₁ B hml hv
  obtain ⟨rfl, hT, hP⟩ := hv
  have hx := B.exec
  have hb := B.bytes
  have hr := B.returns
  have hts : ∀ w ∈ lw_all, w.before _ s = true := fun w h => atoms_spec (ws := (ws_ yX8_time cX8_time 1 (some .int))) B.pre w (List.mem_cons_of_mem _ h)
  have hown : s.vm.findClass RX8 = some m.cls := findClass_of_methodNamed B.named
  have hlocks := B.notSynchronized
  have hS : va_S (fun _ => False) s.heap s.heap [] := va_S.rf
  have hl := lv_entry ([.ref (g.ad 272)]) (n := 1) (Nat.le_of_ble_eq_true rfl)
  rw [lg_entry_eq]
  generalize (lg_sl ([.ref (g.ad 272)]) ++ List.replicate (1 - (lg_sl ([.ref (g.ad 272)])).length) Slot.unset).toArray = ls at hl ⊢
  have hl : lv_has ls 1 [(0, .ref (g.ad 272))] := hl
  unfold f_X8_time at hf
  refine lv_aload_n hx hb dX8_time_0 rfl (lv_at hl 0 rfl) ?_
  refine r_get hx hb hts i_X8 hown hT hP (inX hX) (fs := (fun _ => [.ref (g.ad 112), .ref (g.ad 266), .ref (g.ad 0), .ref (g.ad 273)])) (obX g) rfl 2 (by decide) q227 (fun _ h9 => h9) rfl dX8_time_1 ?_
  refine r_get hx hb hts i_X7 hown hT hP inW (fs := (fsW g)) (obW g) rfl 6 (by decide) q198 (fun _ h9 => h9) rfl dX8_time_4 ?_
  exact W.iret (v := μ 0 6) hx hb hr (fun t9 ht hW => ⟨⟨μ 0 6, (), rfl, Option.some.inj hf, trivial⟩, hS.F ht⟩) hS.2.2 dX8_time_7
/-- "Sandglass" "luck" "()I" -/
def f_X8_luck (g : Fg) (μ : Mem) : Option (Int32) := some (μ 0 7)
theorem hd_X8_luck : yX8_luck.cls = RX8 ∧ yX8_luck.cls ≠ "java/lang/invoke/MethodHandle" ∧ yX8_luck.cls ≠ "java/lang/invoke/VarHandle" ∧ (parseMethodDescriptor yX8_luck.desc).map (fun d => d.parameters.length) = some 0 := by decide +kernel
set_option maxHeartbeats 4000000 in
set_option maxRecDepth 100000 in
theorem c_X8_luck (l : Launch) {g : Geo} (hg : Good g) (hX : g.tz 1 = 1) (μ : Mem) {r : Int32} (hf : f_X8_luck g.F μ  = some r) : Met l yX8_luck (ws_ yX8_luck cX8_luck 1 (some .int)) (rm_ 0 0 0 0) (Pz g [.ref (g.ad 272)] (Rg g μ)) (va_Qi (fun (v : Int32) (_ : Unit) => v = r) (fun _ _ => True) (fun _ => False)) 0 0 (fun _ => False) := by
  refine Met.ofW (cc := cX8_luck) (maxL := 1) (ret := (some .int)) (by decide) rfl ?_
  intro p e s m args below meth c s₁ B hml hv
  obtain ⟨rfl, hT, hP⟩ := hv
  have hx := B.exec
  have hb := B.bytes
  have hr := B.returns
  have hts : ∀ w ∈ lw_all, w.before _ s = true := fun w h => atoms_spec (ws := (ws_ yX8_luck cX8_luck 1 (some .int))) B.pre w (List.mem_cons_of_mem _ h)
  have hown : s.vm.findClass RX8 = some m.cls := findClass_of_methodNamed B.named
  have hlocks := B.notSynchronized
  have hS : va_S (fun _ => False) s.heap s.heap [] := va_S.rf
  have hl := lv_entry ([.ref (g.ad 272)]) (n := 1) (Nat.le_of_ble_eq_true rfl)
  rw [lg_entry_eq]
  generalize (lg_sl ([.ref (g.ad 272)]) ++ List.replicate (1 - (lg_sl ([.ref (g.ad 272)])).length) Slot.unset).toArray = ls at hl ⊢
  have hl : lv_has ls 1 [(0, .ref (g.ad 272))] := hl
  unfold f_X8_luck at hf
  refine lv_aload_n hx hb dX8_luck_0 rfl (lv_at hl 0 rfl) ?_
  refine r_get hx hb hts i_X8 hown hT hP (inX hX) (fs := (fun _ => [.ref (g.ad 112), .ref (g.ad 266), .ref (g.ad 0), .ref (g.ad 273)])) (obX g) rfl 2 (by decide) q227 (fun _ h9 => h9) rfl dX8_luck_1 ?_
  refine r_get hx hb hts i_X7 hown hT hP inW (fs := (fsW g)) (obW g) rfl 7 (by decide) q200 (fun _ h9 => h9) rfl dX8_luck_4 ?_
  exact W.iret (v := μ 0 7) hx hb hr (fun t9 ht hW => ⟨⟨μ 0 7, (), rfl, Option.some.inj hf, trivial⟩, hS.F ht⟩) hS.2.2 dX8_luck_7
/-- "Sandglass" "events" "()I" -/
def f_X8_events (g : Fg) (μ : Mem) : Option (Int32) := bnO (f_X7_countEvents g μ ) fun r_1 => some r_1
theorem hd_X8_events : yX8_events.cls = RX8 ∧ yX8_events.cls ≠ "java/lang/invoke/MethodHandle" ∧ yX8_events.cls ≠ "java/lang/invoke/VarHandle" ∧ (parseMethodDescriptor yX8_events.desc).map (fun d => d.parameters.length) = some 0 := by decide +kernel
set_option maxHeartbeats 4000000 in
set_option maxRecDepth 100000 in
theorem c_X8_events (l : Launch) {g : Geo} (hg : Good g) (hX : g.tz 1 = 1) (μ : Mem) {r : Int32} (hf : f_X8_events g.F μ  = some r) : Met l yX8_events (ws_ yX8_events cX8_events 1 (some .int)) (rm_ 1 25 0 0) (Pz g [.ref (g.ad 272)] (Rg g μ)) (va_Qi (fun (v : Int32) (_ : Unit) => v = r) (fun _ _ => True) (fun _ => False)) 0 0 (fun _ => False) := by
  refine Met.ofW (cc := cX8_events) (maxL := 1) (ret := (some .int)) (by decide) rfl ?_
  intro p e s m args below meth c s₁ B hml hv
  obtain ⟨rfl, hT, hP⟩ := hv
  have hx := B.exec
  have hb := B.bytes
  have hr := B.returns
  have hts : ∀ w ∈ lw_all, w.before _ s = true := fun w h => atoms_spec (ws := (ws_ yX8_events cX8_events 1 (some .int))) B.pre w (List.mem_cons_of_mem _ h)
  have hown : s.vm.findClass RX8 = some m.cls := findClass_of_methodNamed B.named
  have hlocks := B.notSynchronized
  have hS : va_S (fun _ => False) s.heap s.heap [] := va_S.rf
  have hl := lv_entry ([.ref (g.ad 272)]) (n := 1) (Nat.le_of_ble_eq_true rfl)
  rw [lg_entry_eq]
  generalize (lg_sl ([.ref (g.ad 272)]) ++ List.replicate (1 - (lg_sl ([.ref (g.ad 272)])).length) Slot.unset).toArray = ls at hl ⊢
  have hl : lv_has ls 1 [(0, .ref (g.ad 272))] := hl
  unfold f_X8_events at hf
  refine lv_aload_n hx hb dX8_events_0 rfl (lv_at hl 0 rfl) ?_
  refine r_get hx hb hts i_X8 hown hT hP (inX hX) (fs := (fun _ => [.ref (g.ad 112), .ref (g.ad 266), .ref (g.ad 0), .ref (g.ad 273)])) (obX g) rfl 2 (by decide) q227 (fun _ h9 => h9) rfl dX8_events_1 ?_
  obtain ⟨r_1, hc_2, hf⟩ := bnO_some hf
  refine va_calli (va_runV (As := []) (rest := []) ⟨hx, hb, hml, hown, hts⟩ (c_X7_countEvents l hg μ   hc_2) (cwV 0 hts (gd_V q680 q681 q682 q41 q683) rfl rfl rfl hd_X7_countEvents ⟨Nat.le_of_ble_eq_true rfl, Nat.le_of_ble_eq_true rfl⟩) ⟨Pz.blind, r_recv hT hP inW (fs := (fsW g)) (obW g) rfl, fun U hU hW => ⟨rfl, Tb.warm hW hT, by rw [hU]; exact hP⟩⟩ rfl rfl hl.1 rfl (lv_room (Nat.le_of_ble_eq_true rfl)) dX8_events_4 ⟨Nat.le_of_ble_eq_true rfl, Nat.le_of_ble_eq_true rfl⟩) hS (fun q _ h => h.elim) (fun q h => h.elim) (fun v9 u9 t9 H locs ht9 hvm9 hw9 hB9 hz9 hk9 hS => ?_)
  have hP := Rg.keep hP (fun q h => hk9 q h id)
  rw [hw9]
  exact W.iret (v := r_1) hx hb hr (fun t9 ht hW => ⟨⟨r_1, (), rfl, Option.some.inj hf, trivial⟩, hS.F ht⟩) hS.2.2 dX8_events_7
/-- "Sandglass" "nextTime" "()I" -/
def f_X8_nextTime (g : Fg) (μ : Mem) : Option (Int32) := bnO (f_X7_nextToGo g μ ) fun r_1 => csQ r_1 (some (-1)) (fun o_3 => grd (1 ≤ o_3 ∧ o_3 < 25) (some (μ o_3 7)))
theorem hd_X8_nextTime : yX8_nextTime.cls = RX8 ∧ yX8_nextTime.cls ≠ "java/lang/invoke/MethodHandle" ∧ yX8_nextTime.cls ≠ "java/lang/invoke/VarHandle" ∧ (parseMethodDescriptor yX8_nextTime.desc).map (fun d => d.parameters.length) = some 0 := by decide +kernel
set_option maxHeartbeats 4000000 in
set_option maxRecDepth 100000 in
theorem c_X8_nextTime (l : Launch) {g : Geo} (hg : Good g) (hX : g.tz 1 = 1) (μ : Mem) {r : Int32} (hf : f_X8_nextTime g.F μ  = some r) : Met l yX8_nextTime (ws_ yX8_nextTime cX8_nextTime 2 (some .int)) (rm_ 2 46 0 0) (Pz g [.ref (g.ad 272)] (Rg g μ)) (va_Qi (fun (v : Int32) (_ : Unit) => v = r) (fun _ _ => True) (fun _ => False)) 0 0 (fun _ => False) := by
  refine Met.ofW (cc := cX8_nextTime) (maxL := 2) (ret := (some .int)) (by decide) rfl ?_
  intro p e s m args below meth c s₁ B hml hv
  obtain ⟨rfl, hT, hP⟩ := hv
  have hx := B.exec
  have hb := B.bytes
  have hr := B.returns
  have hts : ∀ w ∈ lw_all, w.before _ s = true := fun w h => atoms_spec (ws := (ws_ yX8_nextTime cX8_nextTime 2 (some .int))) B.pre w (List.mem_cons_of_mem _ h)
  have hown : s.vm.findClass RX8 = some m.cls := findClass_of_methodNamed B.named
  have hlocks := B.notSynchronized
  have hS : va_S (fun _ => False) s.heap s.heap [] := va_S.rf
  have hl := lv_entry ([.ref (g.ad 272)]) (n := 2) (Nat.le_of_ble_eq_true rfl)
  rw [lg_entry_eq]
  generalize (lg_sl ([.ref (g.ad 272)]) ++ List.replicate (2 - (lg_sl ([.ref (g.ad 272)])).length) Slot.unset).toArray = ls at hl ⊢
  have hl : lv_has ls 2 [(0, .ref (g.ad 272))] := hl
  unfold f_X8_nextTime at hf
  refine lv_aload_n hx hb dX8_nextTime_0 rfl (lv_at hl 0 rfl) ?_
  refine r_get hx hb hts i_X8 hown hT hP (inX hX) (fs := (fun _ => [.ref (g.ad 112), .ref (g.ad 266), .ref (g.ad 0), .ref (g.ad 273)])) (obX g) rfl 2 (by decide) q227 (fun _ h9 => h9) rfl dX8_nextTime_1 ?_
  obtain ⟨r_1, hc_2, hf⟩ := bnO_some hf
  refine va_callq (va_runV (As := []) (rest := []) ⟨hx, hb, hml, hown, hts⟩ (c_X7_nextToGo l hg μ   hc_2) (cwV 0 hts (gd_V q688 q394 q395 q41 q396) rfl rfl rfl hd_X7_nextToGo ⟨Nat.le_of_ble_eq_true rfl, Nat.le_of_ble_eq_true rfl⟩) ⟨Pz.blind, r_recv hT hP inW (fs := (fsW g)) (obW g) rfl, fun U hU hW => ⟨rfl, Tb.warm hW hT, by rw [hU]; exact hP⟩⟩ rfl rfl hl.1 rfl (lv_room (Nat.le_of_ble_eq_true rfl)) dX8_nextTime_4 ⟨Nat.le_of_ble_eq_true rfl, Nat.le_of_ble_eq_true rfl⟩) hS (fun q _ h => h.elim) (fun q h => h.elim) (fun v9 u9 t9 H locs ht9 hvm9 hw9 hB9 hz9 hk9 hS => ?_)
  have hP := Rg.keep hP (fun q h => hk9 q h id)
  rw [hw9]
  cases r_1 with
  | none =>
    dsimp only [csQ] at hf
    refine W.eq (g2 := F0 m 7 ls [.null]) rfl ?_
    refine lv_astore_nN (lv' := [(1, .null), (0, .ref (g.ad 272))]) hx hb dX8_nextTime_7 rfl hl (by decide) rfl (fun ls hl => ?_)
    refine lv_aload_nN hx hb dX8_nextTime_8 rfl (lv_at hl 0 rfl) ?_
    refine lv_ifnonnullN hx hb dX8_nextTime_9 ?_
    refine lv_iconst (v := (-1)) hx hb dX8_nextTime_12 (by decide) ?_
    refine lv_goto (tgt := 20) hx hb dX8_nextTime_13 (by decide) ?_
    exact W.iret (v := (-1)) hx hb hr (fun t9 ht hW => ⟨⟨(-1), (), rfl, Option.some.inj hf, trivial⟩, hS.F ht⟩) hS.2.2 dX8_nextTime_20
  | some o_3 =>
    dsimp only [csQ] at hf
    obtain ⟨ho_3, hf⟩ := grd_some hf
    refine W.eq (g2 := F0 m 7 ls [.ref (g.ad o_3)]) rfl ?_
    refine lv_astore_n (lv' := [(1, .ref (g.ad o_3)), (0, .ref (g.ad 272))]) hx hb dX8_nextTime_7 rfl hl (by decide) rfl (fun ls hl => ?_)
    refine lv_aload_n hx hb dX8_nextTime_8 rfl (lv_at hl 0 rfl) ?_
    refine lv_ifnonnull (tgt := 16) hx hb dX8_nextTime_9 (by decide) ?_
    refine lv_aload_n hx hb dX8_nextTime_16 rfl (lv_at hl 0 rfl) ?_
    refine r_get hx hb hts i_X2 hown hT hP (inP ho_3) (fs := (fsP g o_3)) (obP ho_3) rfl 7 (by decide) q132 (fun _ h9 => h9) rfl dX8_nextTime_17 ?_
    exact W.iret (v := μ o_3 7) hx hb hr (fun t9 ht hW => ⟨⟨μ o_3 7, (), rfl, Option.some.inj hf, trivial⟩, hS.F ht⟩) hS.2.2 dX8_nextTime_20
/-- "Sandglass" "processes" "()I" -/
def f_X8_processes (g : Fg) (μ : Mem) : Option (Int32) := some (μ 0 5)
theorem hd_X8_processes : yX8_processes.cls = RX8 ∧ yX8_processes.cls ≠ "java/lang/invoke/MethodHandle" ∧ yX8_processes.cls ≠ "java/lang/invoke/VarHandle" ∧ (parseMethodDescriptor yX8_processes.desc).map (fun d => d.parameters.length) = some 0 := by decide +kernel
set_option maxHeartbeats 4000000 in
set_option maxRecDepth 100000 in
theorem c_X8_processes (l : Launch) {g : Geo} (hg : Good g) (hX : g.tz 1 = 1) (μ : Mem) {r : Int32} (hf : f_X8_processes g.F μ  = some r) : Met l yX8_processes (ws_ yX8_processes cX8_processes 1 (some .int)) (rm_ 0 0 0 0) (Pz g [.ref (g.ad 272)] (Rg g μ)) (va_Qi (fun (v : Int32) (_ : Unit) => v = r) (fun _ _ => True) (fun _ => False)) 0 0 (fun _ => False) := by
  refine Met.ofW (cc := cX8_processes) (maxL := 1) (ret := (some .int)) (by decide) rfl ?_
  intro p e s m args below meth c s₁ B hml hv
  obtain ⟨rfl, hT, hP⟩ := hv
  have hx := B.exec
  have hb := B.bytes
  have hr := B.returns
  have hts : ∀ w ∈ lw_all, w.before _ s = true := fun w h => atoms_spec (ws := (ws_ yX8_processes cX8_processes 1 (some .int))) B.pre w (List.mem_cons_of_mem _ h)
  have hown : s.vm.findClass RX8 = some m.cls := findClass_of_methodNamed B.named
  have hlocks := B.notSynchronized
  have hS : va_S (fun _ => False) s.heap s.heap [] := va_S.rf
  have hl := lv_entry ([.ref (g.ad 272)]) (n := 1) (Nat.le_of_ble_eq_true rfl)
  rw [lg_entry_eq]
  generalize (lg_sl ([.ref (g.ad 272)]) ++ List.replicate (1 - (lg_sl ([.ref (g.ad 272)])).length) Slot.unset).toArray = ls at hl ⊢
  have hl : lv_has ls 1 [(0, .ref (g.ad 272))] := hl
  unfold f_X8_processes at hf
  refine lv_aload_n hx hb dX8_processes_0 rfl (lv_at hl 0 rfl) ?_
  refine r_get hx hb hts i_X8 hown hT hP (inX hX) (fs := (fun _ => [.ref (g.ad 112), .ref (g.ad 266), .ref (g.ad 0), .ref (g.ad 273)])) (obX g) rfl 2 (by decide) q227 (fun _ h9 => h9) rfl dX8_processes_1 ?_
  refine r_get hx hb hts i_X7 hown hT hP inW (fs := (fsW g)) (obW g) rfl 5 (by decide) q196 (fun _ h9 => h9) rfl dX8_processes_4 ?_
  exact W.iret (v := μ 0 5) hx hb hr (fun t9 ht hW => ⟨⟨μ 0 5, (), rfl, Option.some.inj hf, trivial⟩, hS.F ht⟩) hS.2.2 dX8_processes_7
/-- "Sandglass" "done" "()I" -/
def f_X8_done (g : Fg) (μ : Mem) : Option (Int32) := some (μ 0 8)
theorem hd_X8_done : yX8_done.cls = RX8 ∧ yX8_done.cls ≠ "java/lang/invoke/MethodHandle" ∧ yX8_done.cls ≠ "java/lang/invoke/VarHandle" ∧ (parseMethodDescriptor yX8_done.desc).map (fun d => d.parameters.length) = some 0 := by decide +kernel
set_option maxHeartbeats 4000000 in
set_option maxRecDepth 100000 in
theorem c_X8_done (l : Launch) {g : Geo} (hg : Good g) (hX : g.tz 1 = 1) (μ : Mem) {r : Int32} (hf : f_X8_done g.F μ  = some r) : Met l yX8_done (ws_ yX8_done cX8_done 1 (some .int)) (rm_ 0 0 0 0) (Pz g [.ref (g.ad 272)] (Rg g μ)) (va_Qi (fun (v : Int32) (_ : Unit) => v = r) (fun _ _ => True) (fun _ => False)) 0 0 (fun _ => False) := by
  refine Met.ofW (cc := cX8_done) (maxL := 1) (ret := (some .int)) (by decide) rfl ?_
  intro p e s m args below meth c s₁ B hml hv
  obtain ⟨rfl, hT, hP⟩ := hv
  have hx := B.exec
  have hb := B.bytes
  have hr := B.returns
  have hts : ∀ w ∈ lw_all, w.before _ s = true := fun w h => atoms_spec (ws := (ws_ yX8_done cX8_done 1 (some .int))) B.pre w (List.mem_cons_of_mem _ h)
  have hown : s.vm.findClass RX8 = some m.cls := findClass_of_methodNamed B.named
  have hlocks := B.notSynchronized
  have hS : va_S (fun _ => False) s.heap s.heap [] := va_S.rf
  have hl := lv_entry ([.ref (g.ad 272)]) (n := 1) (Nat.le_of_ble_eq_true rfl)
  rw [lg_entry_eq]
  generalize (lg_sl ([.ref (g.ad 272)]) ++ List.replicate (1 - (lg_sl ([.ref (g.ad 272)])).length) Slot.unset).toArray = ls at hl ⊢
  have hl : lv_has ls 1 [(0, .ref (g.ad 272))] := hl
  unfold f_X8_done at hf
  refine lv_aload_n hx hb dX8_done_0 rfl (lv_at hl 0 rfl) ?_
  refine r_get hx hb hts i_X8 hown hT hP (inX hX) (fs := (fun _ => [.ref (g.ad 112), .ref (g.ad 266), .ref (g.ad 0), .ref (g.ad 273)])) (obX g) rfl 2 (by decide) q227 (fun _ h9 => h9) rfl dX8_done_1 ?_
  refine r_get hx hb hts i_X7 hown hT hP inW (fs := (fsW g)) (obW g) rfl 8 (by decide) q202 (fun _ h9 => h9) rfl dX8_done_4 ?_
  exact W.iret (v := μ 0 8) hx hb hr (fun t9 ht hW => ⟨⟨μ 0 8, (), rfl, Option.some.inj hf, trivial⟩, hS.F ht⟩) hS.2.2 dX8_done_7
/-- "Sandglass" "stateOf" "(I)I" -/
def f_X8_stateOf (g : Fg) (μ : Mem) (nu : Int32) : Option (Int32) := bnO (f_X8_demandProcess g μ nu) fun r_1 => csQ r_1 (none) (fun o_3 => grd (1 ≤ o_3 ∧ o_3 < 25) (some (μ o_3 6)))
theorem hd_X8_stateOf : yX8_stateOf.cls = RX8 ∧ yX8_stateOf.cls ≠ "java/lang/invoke/MethodHandle" ∧ yX8_stateOf.cls ≠ "java/lang/invoke/VarHandle" ∧ (parseMethodDescriptor yX8_stateOf.desc).map (fun d => d.parameters.length) = some 1 := by decide +kernel
set_option maxHeartbeats 4000000 in
set_option maxRecDepth 100000 in
theorem c_X8_stateOf (l : Launch) {g : Geo} (hg : Good g) (hX : g.tz 1 = 1) (μ : Mem) (nu : Int32) {r : Int32} (hf : f_X8_stateOf g.F μ nu = some r) : Met l yX8_stateOf (ws_ yX8_stateOf cX8_stateOf 2 (some .int)) (rm_ 2 43 0 0) (Pz g [.ref (g.ad 272), .int nu] (Rg g μ)) (va_Qi (fun (v : Int32) (_ : Unit) => v = r) (fun _ _ => True) (fun _ => False)) 0 0 (fun _ => False) := by
  refine Met.ofW (cc := cX8_stateOf) (maxL := 2) (ret := (some .int)) (by decide) rfl ?_
  intro p e s m args below meth c s₁ B hml hv
  obtain ⟨rfl, hT, hP⟩ := hv
  have hx := B.exec
  have hb := B.bytes
  have hr := B.returns
  have hts : ∀ w ∈ lw_all, w.before _ s = true := fun w h => atoms_spec (ws := (ws_ yX8_stateOf cX8_stateOf 2 (some .int))) B.pre w (List.mem_cons_of_mem _ h)
  have hown : s.vm.findClass RX8 = some m.cls := findClass_of_methodNamed B.named
  have hlocks := B.notSynchronized
  have hS : va_S (fun _ => False) s.heap s.heap [] := va_S.rf
  have hl := lv_entry ([.ref (g.ad 272), .int nu]) (n := 2) (Nat.le_of_ble_eq_true rfl)
  rw [lg_entry_eq]
  generalize (lg_sl ([.ref (g.ad 272), .int nu]) ++ List.replicate (2 - (lg_sl ([.ref (g.ad 272), .int nu])).length) Slot.unset).toArray = ls at hl ⊢
  have hl : lv_has ls 2 [(0, .ref (g.ad 272)), (1, .int nu)] := hl
  unfold f_X8_stateOf at hf
  refine lv_aload_n hx hb dX8_stateOf_0 rfl (lv_at hl 0 rfl) ?_
  refine lv_iload_n hx hb dX8_stateOf_1 rfl (lv_at hl 1 rfl) ?_
  obtain ⟨r_1, hc_2, hf⟩ := bnO_some hf
  refine va_callq (va_runV (As := [.int nu]) (rest := []) ⟨hx, hb, hml, hown, hts⟩ (c_X8_demandProcess l hg hX μ nu  hc_2) (cwV 1 hts (gd_V q647 q649 q26 q37 q650) rfl rfl rfl hd_X8_demandProcess ⟨Nat.le_of_ble_eq_true rfl, Nat.le_of_ble_eq_true rfl⟩) ⟨Pz.blind, r_recv hT hP (inX hX) (fs := (fun _ => [.ref (g.ad 112), .ref (g.ad 266), .ref (g.ad 0), .ref (g.ad 273)])) (obX g) rfl, fun U hU hW => ⟨rfl, Tb.warm hW hT, by rw [hU]; exact hP⟩⟩ rfl rfl hl.1 rfl (lv_room (Nat.le_of_ble_eq_true rfl)) dX8_stateOf_2 ⟨Nat.le_of_ble_eq_true rfl, Nat.le_of_ble_eq_true rfl⟩) hS (fun q _ h => h.elim) (fun q h => h.elim) (fun v9 u9 t9 H locs ht9 hvm9 hw9 hB9 hz9 hk9 hS => ?_)
  have hP := Rg.keep hP (fun q h => hk9 q h id)
  rw [hw9]
  cases r_1 with
  | none =>
    dsimp only [csQ] at hf
    refine W.eq (g2 := F0 m 5 ls [.null]) rfl ?_
    cases hf
  | some o_3 =>
    dsimp only [csQ] at hf
    obtain ⟨ho_3, hf⟩ := grd_some hf
    refine W.eq (g2 := F0 m 5 ls [.ref (g.ad o_3)]) rfl ?_
    refine r_get hx hb hts i_X2 hown hT hP (inP ho_3) (fs := (fsP g o_3)) (obP ho_3) rfl 6 (by decide) q129 (fun _ h9 => h9) rfl dX8_stateOf_5 ?_
    exact W.iret (v := μ o_3 6) hx hb hr (fun t9 ht hW => ⟨⟨μ o_3 6, (), rfl, Option.some.inj hf, trivial⟩, hS.F ht⟩) hS.2.2 dX8_stateOf_8
/-- "Sandglass" "placeOf" "(I)I" -/
def f_X8_placeOf (g : Fg) (μ : Mem) (nu : Int32) : Option (Int32) := bnO (f_X8_demandProcess g μ nu) fun r_1 => csQ r_1 (none) (fun o_3 => grd (1 ≤ o_3 ∧ o_3 < 25) (some (μ o_3 3)))
theorem hd_X8_placeOf : yX8_placeOf.cls = RX8 ∧ yX8_placeOf.cls ≠ "java/lang/invoke/MethodHandle" ∧ yX8_placeOf.cls ≠ "java/lang/invoke/VarHandle" ∧ (parseMethodDescriptor yX8_placeOf.desc).map (fun d => d.parameters.length) = some 1 := by decide +kernel
set_option maxHeartbeats 4000000 in
set_option maxRecDepth 100000 in
theorem c_X8_placeOf (l : Launch) {g : Geo} (hg : Good g) (hX : g.tz 1 = 1) (μ : Mem) (nu : Int32) {r : Int32} (hf : f_X8_placeOf g.F μ nu = some r) : Met l yX8_placeOf (ws_ yX8_placeOf cX8_placeOf 2 (some .int)) (rm_ 2 43 0 0) (Pz g [.ref (g.ad 272), .int nu] (Rg g μ)) (va_Qi (fun (v : Int32) (_ : Unit) => v = r) (fun _ _ => True) (fun _ => False)) 0 0 (fun _ => False) := by
  refine Met.ofW (cc := cX8_placeOf) (maxL := 2) (ret := (some .int)) (by decide) rfl ?_
  intro p e s m args below meth c s₁ B hml hv
  obtain ⟨rfl, hT, hP⟩ := hv
  have hx := B.exec
  have hb := B.bytes
  have hr := B.returns
  have hts : ∀ w ∈ lw_all, w.before _ s = true := fun w h => atoms_spec (ws := (ws_ yX8_placeOf cX8_placeOf 2 (some .int))) B.pre w (List.mem_cons_of_mem _ h)
  have hown : s.vm.findClass RX8 = some m.cls := findClass_of_methodNamed B.named
  have hlocks := B.notSynchronized
  have hS : va_S (fun _ => False) s.heap s.heap [] := va_S.rf
  have hl := lv_entry ([.ref (g.ad 272), .int nu]) (n := 2) (Nat.le_of_ble_eq_true rfl)
  rw [lg_entry_eq]
  generalize (lg_sl ([.ref (g.ad 272), .int nu]) ++ List.replicate (2 - (lg_sl ([.ref (g.ad 272), .int nu])).length) Slot.unset).toArray = ls at hl ⊢
  have hl : lv_has ls 2 [(0, .ref (g.ad 272)), (1, .int nu)] := hl
  unfold f_X8_placeOf at hf
  refine lv_aload_n hx hb dX8_placeOf_0 rfl (lv_at hl 0 rfl) ?_
  refine lv_iload_n hx hb dX8_placeOf_1 rfl (lv_at hl 1 rfl) ?_
  obtain ⟨r_1, hc_2, hf⟩ := bnO_some hf
  refine va_callq (va_runV (As := [.int nu]) (rest := []) ⟨hx, hb, hml, hown, hts⟩ (c_X8_demandProcess l hg hX μ nu  hc_2) (cwV 1 hts (gd_V q647 q649 q26 q37 q650) rfl rfl rfl hd_X8_demandProcess ⟨Nat.le_of_ble_eq_true rfl, Nat.le_of_ble_eq_true rfl⟩) ⟨Pz.blind, r_recv hT hP (inX hX) (fs := (fun _ => [.ref (g.ad 112), .ref (g.ad 266), .ref (g.ad 0), .ref (g.ad 273)])) (obX g) rfl, fun U hU hW => ⟨rfl, Tb.warm hW hT, by rw [hU]; exact hP⟩⟩ rfl rfl hl.1 rfl (lv_room (Nat.le_of_ble_eq_true rfl)) dX8_placeOf_2 ⟨Nat.le_of_ble_eq_true rfl, Nat.le_of_ble_eq_true rfl⟩) hS (fun q _ h => h.elim) (fun q h => h.elim) (fun v9 u9 t9 H locs ht9 hvm9 hw9 hB9 hz9 hk9 hS => ?_)
  have hP := Rg.keep hP (fun q h => hk9 q h id)
  rw [hw9]
  cases r_1 with
  | none =>
    dsimp only [csQ] at hf
    refine W.eq (g2 := F0 m 5 ls [.null]) rfl ?_
    cases hf
  | some o_3 =>
    dsimp only [csQ] at hf
    obtain ⟨ho_3, hf⟩ := grd_some hf
    refine W.eq (g2 := F0 m 5 ls [.ref (g.ad o_3)]) rfl ?_
    refine r_get hx hb hts i_X2 hown hT hP (inP ho_3) (fs := (fsP g o_3)) (obP ho_3) rfl 3 (by decide) q120 (fun _ h9 => h9) rfl dX8_placeOf_5 ?_
    exact W.iret (v := μ o_3 3) hx hb hr (fun t9 ht hW => ⟨⟨μ o_3 3, (), rfl, Option.some.inj hf, trivial⟩, hS.F ht⟩) hS.2.2 dX8_placeOf_8
/-- "Sandglass" "rankOf" "(I)I" -/
def f_X8_rankOf (g : Fg) (μ : Mem) (nu : Int32) : Option (Int32) := bnO (f_X8_demandProcess g μ nu) fun r_1 => csQ r_1 (none) (fun o_3 => grd (1 ≤ o_3 ∧ o_3 < 25) (some (μ o_3 2)))
theorem hd_X8_rankOf : yX8_rankOf.cls = RX8 ∧ yX8_rankOf.cls ≠ "java/lang/invoke/MethodHandle" ∧ yX8_rankOf.cls ≠ "java/lang/invoke/VarHandle" ∧ (parseMethodDescriptor yX8_rankOf.desc).map (fun d => d.parameters.length) = some 1 := by decide +kernel
set_option maxHeartbeats 4000000 in
set_option maxRecDepth 100000 in
theorem c_X8_rankOf (l : Launch) {g : Geo} (hg : Good g) (hX : g.tz 1 = 1) (μ : Mem) (nu : Int32) {r : Int32} (hf : f_X8_rankOf g.F μ nu = some r) : Met l yX8_rankOf (ws_ yX8_rankOf cX8_rankOf 2 (some .int)) (rm_ 2 43 0 0) (Pz g [.ref (g.ad 272), .int nu] (Rg g μ)) (va_Qi (fun (v : Int32) (_ : Unit) => v = r) (fun _ _ => True) (fun _ => False)) 0 0 (fun _ => False) := by
  refine Met.ofW (cc := cX8_rankOf) (maxL := 2) (ret := (some .int)) (by decide) rfl ?_
  intro p e s m args below meth c s₁ B hml hv
  obtain ⟨rfl, hT, hP⟩ := hv
  have hx := B.exec
  have hb := B.bytes
  have hr := B.returns
  have hts : ∀ w ∈ lw_all, w.before _ s = true := fun w h => atoms_spec (ws := (ws_ yX8_rankOf cX8_rankOf 2 (some .int))) B.pre w (List.mem_cons_of_mem _ h)
  have hown : s.vm.findClass RX8 = some m.cls := findClass_of_methodNamed B.named
  have hlocks := B.notSynchronized
  have hS : va_S (fun _ => False) s.heap s.heap [] := va_S.rf
  have hl := lv_entry ([.ref (g.ad 272), .int nu]) (n := 2) (Nat.le_of_ble_eq_true rfl)
  rw [lg_entry_eq]
  generalize (lg_sl ([.ref (g.ad 272), .int nu]) ++ List.replicate (2 - (lg_sl ([.ref (g.ad 272), .int nu])).length) Slot.unset).toArray = ls at hl ⊢
  have hl : lv_has ls 2 [(0, .ref (g.ad 272)), (1, .int nu)] := hl
  unfold f_X8_rankOf at hf
  refine lv_aload_n hx hb dX8_rankOf_0 rfl (lv_at hl 0 rfl) ?_
  refine lv_iload_n hx hb dX8_rankOf_1 rfl (lv_at hl 1 rfl) ?_
  obtain ⟨r_1, hc_2, hf⟩ := bnO_some hf
  refine va_callq (va_runV (As := [.int nu]) (rest := []) ⟨hx, hb, hml, hown, hts⟩ (c_X8_demandProcess l hg hX μ nu  hc_2) (cwV 1 hts (gd_V q647 q649 q26 q37 q650) rfl rfl rfl hd_X8_demandProcess ⟨Nat.le_of_ble_eq_true rfl, Nat.le_of_ble_eq_true rfl⟩) ⟨Pz.blind, r_recv hT hP (inX hX) (fs := (fun _ => [.ref (g.ad 112), .ref (g.ad 266), .ref (g.ad 0), .ref (g.ad 273)])) (obX g) rfl, fun U hU hW => ⟨rfl, Tb.warm hW hT, by rw [hU]; exact hP⟩⟩ rfl rfl hl.1 rfl (lv_room (Nat.le_of_ble_eq_true rfl)) dX8_rankOf_2 ⟨Nat.le_of_ble_eq_true rfl, Nat.le_of_ble_eq_true rfl⟩) hS (fun q _ h => h.elim) (fun q h => h.elim) (fun v9 u9 t9 H locs ht9 hvm9 hw9 hB9 hz9 hk9 hS => ?_)
  have hP := Rg.keep hP (fun q h => hk9 q h id)
  rw [hw9]
  cases r_1 with
  | none =>
    dsimp only [csQ] at hf
    refine W.eq (g2 := F0 m 5 ls [.null]) rfl ?_
    cases hf
  | some o_3 =>
    dsimp only [csQ] at hf
    obtain ⟨ho_3, hf⟩ := grd_some hf
    refine W.eq (g2 := F0 m 5 ls [.ref (g.ad o_3)]) rfl ?_
    refine r_get hx hb hts i_X2 hown hT hP (inP ho_3) (fs := (fsP g o_3)) (obP ho_3) rfl 2 (by decide) q117 (fun _ h9 => h9) rfl dX8_rankOf_5 ?_
    exact W.iret (v := μ o_3 2) hx hb hr (fun t9 ht hW => ⟨⟨μ o_3 2, (), rfl, Option.some.inj hf, trivial⟩, hS.F ht⟩) hS.2.2 dX8_rankOf_8
/-- "Sandglass" "restOf" "(I)I" -/
def f_X8_restOf (g : Fg) (μ : Mem) (nu : Int32) : Option (Int32) := bnO (f_X8_demandProcess g μ nu) fun r_1 => csQ r_1 (none) (fun o_3 => grd (1 ≤ o_3 ∧ o_3 < 25) (some (μ o_3 5)))
theorem hd_X8_restOf : yX8_restOf.cls = RX8 ∧ yX8_restOf.cls ≠ "java/lang/invoke/MethodHandle" ∧ yX8_restOf.cls ≠ "java/lang/invoke/VarHandle" ∧ (parseMethodDescriptor yX8_restOf.desc).map (fun d => d.parameters.length) = some 1 := by decide +kernel
set_option maxHeartbeats 4000000 in
set_option maxRecDepth 100000 in
theorem c_X8_restOf (l : Launch) {g : Geo} (hg : Good g) (hX : g.tz 1 = 1) (μ : Mem) (nu : Int32) {r : Int32} (hf : f_X8_restOf g.F μ nu = some r) : Met l yX8_restOf (ws_ yX8_restOf cX8_restOf 2 (some .int)) (rm_ 2 43 0 0) (Pz g [.ref (g.ad 272), .int nu] (Rg g μ)) (va_Qi (fun (v : Int32) (_ : Unit) => v = r) (fun _ _ => True) (fun _ => False)) 0 0 (fun _ => False) := by
  refine Met.ofW (cc := cX8_restOf) (maxL := 2) (ret := (some .int)) (by decide) rfl ?_
  intro p e s m args below meth c s₁ B hml hv
  obtain ⟨rfl, hT, hP⟩ := hv
  have hx := B.exec
  have hb := B.bytes
  have hr := B.returns
  have hts : ∀ w ∈ lw_all, w.before _ s = true := fun w h => atoms_spec (ws := (ws_ yX8_restOf cX8_restOf 2 (some .int))) B.pre w (List.mem_cons_of_mem _ h)
  have hown : s.vm.findClass RX8 = some m.cls := findClass_of_methodNamed B.named
  have hlocks := B.notSynchronized
  have hS : va_S (fun _ => False) s.heap s.heap [] := va_S.rf
  have hl := lv_entry ([.ref (g.ad 272), .int nu]) (n := 2) (Nat.le_of_ble_eq_true rfl)
  rw [lg_entry_eq]
  generalize (lg_sl ([.ref (g.ad 272), .int nu]) ++ List.replicate (2 - (lg_sl ([.ref (g.ad 272), .int nu])).length) Slot.unset).toArray = ls at hl ⊢
  have hl : lv_has ls 2 [(0, .ref (g.ad 272)), (1, .int nu)] := hl
  unfold f_X8_restOf at hf
  refine lv_aload_n hx hb dX8_restOf_0 rfl (lv_at hl 0 rfl) ?_
  refine lv_iload_n hx hb dX8_restOf_1 rfl (lv_at hl 1 rfl) ?_
  obtain ⟨r_1, hc_2, hf⟩ := bnO_some hf
  refine va_callq (va_runV (As := [.int nu]) (rest := []) ⟨hx, hb, hml, hown, hts⟩ (c_X8_demandProcess l hg hX μ nu  hc_2) (cwV 1 hts (gd_V q647 q649 q26 q37 q650) rfl rfl rfl hd_X8_demandProcess ⟨Nat.le_of_ble_eq_true rfl, Nat.le_of_ble_eq_true rfl⟩) ⟨Pz.blind, r_recv hT hP (inX hX) (fs := (fun _ => [.ref (g.ad 112), .ref (g.ad 266), .ref (g.ad 0), .ref (g.ad 273)])) (obX g) rfl, fun U hU hW => ⟨rfl, Tb.warm hW hT, by rw [hU]; exact hP⟩⟩ rfl rfl hl.1 rfl (lv_room (Nat.le_of_ble_eq_true rfl)) dX8_restOf_2 ⟨Nat.le_of_ble_eq_true rfl, Nat.le_of_ble_eq_true rfl⟩) hS (fun q _ h => h.elim) (fun q h => h.elim) (fun v9 u9 t9 H locs ht9 hvm9 hw9 hB9 hz9 hk9 hS => ?_)
  have hP := Rg.keep hP (fun q h => hk9 q h id)
  rw [hw9]
  cases r_1 with
  | none =>
    dsimp only [csQ] at hf
    refine W.eq (g2 := F0 m 5 ls [.null]) rfl ?_
    cases hf
  | some o_3 =>
    dsimp only [csQ] at hf
    obtain ⟨ho_3, hf⟩ := grd_some hf
    refine W.eq (g2 := F0 m 5 ls [.ref (g.ad o_3)]) rfl ?_
    refine r_get hx hb hts i_X2 hown hT hP (inP ho_3) (fs := (fsP g o_3)) (obP ho_3) rfl 5 (by decide) q126 (fun _ h9 => h9) rfl dX8_restOf_5 ?_
    exact W.iret (v := μ o_3 5) hx hb hr (fun t9 ht hW => ⟨⟨μ o_3 5, (), rfl, Option.some.inj hf, trivial⟩, hS.F ht⟩) hS.2.2 dX8_restOf_8
/-- "Sandglass" "markOf" "(I)I" -/
def f_X8_markOf (g : Fg) (μ : Mem) (nu : Int32) : Option (Int32) := bnO (f_X8_demandProcess g μ nu) fun r_1 => csQ r_1 (none) (fun o_3 => grd (1 ≤ o_3 ∧ o_3 < 25) (some (μ o_3 4)))
theorem hd_X8_markOf : yX8_markOf.cls = RX8 ∧ yX8_markOf.cls ≠ "java/lang/invoke/MethodHandle" ∧ yX8_markOf.cls ≠ "java/lang/invoke/VarHandle" ∧ (parseMethodDescriptor yX8_markOf.desc).map (fun d => d.parameters.length) = some 1 := by decide +kernel
set_option maxHeartbeats 4000000 in
set_option maxRecDepth 100000 in
theorem c_X8_markOf (l : Launch) {g : Geo} (hg : Good g) (hX : g.tz 1 = 1) (μ : Mem) (nu : Int32) {r : Int32} (hf : f_X8_markOf g.F μ nu = some r) : Met l yX8_markOf (ws_ yX8_markOf cX8_markOf 2 (some .int)) (rm_ 2 43 0 0) (Pz g [.ref (g.ad 272), .int nu] (Rg g μ)) (va_Qi (fun (v : Int32) (_ : Unit) => v = r) (fun _ _ => True) (fun _ => False)) 0 0 (fun _ => False) := by
  refine Met.ofW (cc := cX8_markOf) (maxL := 2) (ret := (some .int)) (by decide) rfl ?_
  intro p e s m args below meth c s₁ B hml hv
  obtain ⟨rfl, hT, hP⟩ := hv
  have hx := B.exec
  have hb := B.bytes
  have hr := B.returns
  have hts : ∀ w ∈ lw_all, w.before _ s = true := fun w h => atoms_spec (ws := (ws_ yX8_markOf cX8_markOf 2 (some .int))) B.pre w (List.mem_cons_of_mem _ h)
  have hown : s.vm.findClass RX8 = some m.cls := findClass_of_methodNamed B.named
  have hlocks := B.notSynchronized
  have hS : va_S (fun _ => False) s.heap s.heap [] := va_S.rf
  have hl := lv_entry ([.ref (g.ad 272), .int nu]) (n := 2) (Nat.le_of_ble_eq_true rfl)
  rw [lg_entry_eq]
  generalize (lg_sl ([.ref (g.ad 272), .int nu]) ++ List.replicate (2 - (lg_sl ([.ref (g.ad 272), .int nu])).length) Slot.unset).toArray = ls at hl ⊢
  have hl : lv_has ls 2 [(0, .ref (g.ad 272)), (1, .int nu)] := hl
  unfold f_X8_markOf at hf
  refine lv_aload_n hx hb dX8_markOf_0 rfl (lv_at hl 0 rfl) ?_
  refine lv_iload_n hx hb dX8_markOf_1 rfl (lv_at hl 1 rfl) ?_
  obtain ⟨r_1, hc_2, hf⟩ := bnO_some hf
  refine va_callq (va_runV (As := [.int nu]) (rest := []) ⟨hx, hb, hml, hown, hts⟩ (c_X8_demandProcess l hg hX μ nu  hc_2) (cwV 1 hts (gd_V q647 q649 q26 q37 q650) rfl rfl rfl hd_X8_demandProcess ⟨Nat.le_of_ble_eq_true rfl, Nat.le_of_ble_eq_true rfl⟩) ⟨Pz.blind, r_recv hT hP (inX hX) (fs := (fun _ => [.ref (g.ad 112), .ref (g.ad 266), .ref (g.ad 0), .ref (g.ad 273)])) (obX g) rfl, fun U hU hW => ⟨rfl, Tb.warm hW hT, by rw [hU]; exact hP⟩⟩ rfl rfl hl.1 rfl (lv_room (Nat.le_of_ble_eq_true rfl)) dX8_markOf_2 ⟨Nat.le_of_ble_eq_true rfl, Nat.le_of_ble_eq_true rfl⟩) hS (fun q _ h => h.elim) (fun q h => h.elim) (fun v9 u9 t9 H locs ht9 hvm9 hw9 hB9 hz9 hk9 hS => ?_)
  have hP := Rg.keep hP (fun q h => hk9 q h id)
  rw [hw9]
  cases r_1 with
  | none =>
    dsimp only [csQ] at hf
    refine W.eq (g2 := F0 m 5 ls [.null]) rfl ?_
    cases hf
  | some o_3 =>
    dsimp only [csQ] at hf
    obtain ⟨ho_3, hf⟩ := grd_some hf
    refine W.eq (g2 := F0 m 5 ls [.ref (g.ad o_3)]) rfl ?_
    refine r_get hx hb hts i_X2 hown hT hP (inP ho_3) (fs := (fsP g o_3)) (obP ho_3) rfl 4 (by decide) q123 (fun _ h9 => h9) rfl dX8_markOf_5 ?_
    exact W.iret (v := μ o_3 4) hx hb hr (fun t9 ht hW => ⟨⟨μ o_3 4, (), rfl, Option.some.inj hf, trivial⟩, hS.F ht⟩) hS.2.2 dX8_markOf_8
/-- "Sandglass" "eventOf" "(I)I" -/
def f_X8_eventOf (g : Fg) (μ : Mem) (nu : Int32) : Option (Int32) := bnO (f_X8_demandProcess g μ nu) fun r_1 => csQ r_1 (none) (fun o_3 => grd (1 ≤ o_3 ∧ o_3 < 25) (some (μ o_3 7)))
theorem hd_X8_eventOf : yX8_eventOf.cls = RX8 ∧ yX8_eventOf.cls ≠ "java/lang/invoke/MethodHandle" ∧ yX8_eventOf.cls ≠ "java/lang/invoke/VarHandle" ∧ (parseMethodDescriptor yX8_eventOf.desc).map (fun d => d.parameters.length) = some 1 := by decide +kernel
set_option maxHeartbeats 4000000 in
set_option maxRecDepth 100000 in
theorem c_X8_eventOf (l : Launch) {g : Geo} (hg : Good g) (hX : g.tz 1 = 1) (μ : Mem) (nu : Int32) {r : Int32} (hf : f_X8_eventOf g.F μ nu = some r) : Met l yX8_eventOf (ws_ yX8_eventOf cX8_eventOf 2 (some .int)) (rm_ 2 43 0 0) (Pz g [.ref (g.ad 272), .int nu] (Rg g μ)) (va_Qi (fun (v : Int32) (_ : Unit) => v = r) (fun _ _ => True) (fun _ => False)) 0 0 (fun _ => False) := by
  refine Met.ofW (cc := cX8_eventOf) (maxL := 2) (ret := (some .int)) (by decide) rfl ?_
  intro p e s m args below meth c s₁ B hml hv
  obtain ⟨rfl, hT, hP⟩ := hv
  have hx := B.exec
  have hb := B.bytes
  have hr := B.returns
  have hts : ∀ w ∈ lw_all, w.before _ s = true := fun w h => atoms_spec (ws := (ws_ yX8_eventOf cX8_eventOf 2 (some .int))) B.pre w (List.mem_cons_of_mem _ h)
  have hown : s.vm.findClass RX8 = some m.cls := findClass_of_methodNamed B.named
  have hlocks := B.notSynchronized
  have hS : va_S (fun _ => False) s.heap s.heap [] := va_S.rf
  have hl := lv_entry ([.ref (g.ad 272), .int nu]) (n := 2) (Nat.le_of_ble_eq_true rfl)
  rw [lg_entry_eq]
  generalize (lg_sl ([.ref (g.ad 272), .int nu]) ++ List.replicate (2 - (lg_sl ([.ref (g.ad 272), .int nu])).length) Slot.unset).toArray = ls at hl ⊢
  have hl : lv_has ls 2 [(0, .ref (g.ad 272)), (1, .int nu)] := hl
  unfold f_X8_eventOf at hf
  refine lv_aload_n hx hb dX8_eventOf_0 rfl (lv_at hl 0 rfl) ?_
  refine lv_iload_n hx hb dX8_eventOf_1 rfl (lv_at hl 1 rfl) ?_
  obtain ⟨r_1, hc_2, hf⟩ := bnO_some hf
  refine va_callq (va_runV (As := [.int nu]) (rest := []) ⟨hx, hb, hml, hown, hts⟩ (c_X8_demandProcess l hg hX μ nu  hc_2) (cwV 1 hts (gd_V q647 q649 q26 q37 q650) rfl rfl rfl hd_X8_demandProcess ⟨Nat.le_of_ble_eq_true rfl, Nat.le_of_ble_eq_true rfl⟩) ⟨Pz.blind, r_recv hT hP (inX hX) (fs := (fun _ => [.ref (g.ad 112), .ref (g.ad 266), .ref (g.ad 0), .ref (g.ad 273)])) (obX g) rfl, fun U hU hW => ⟨rfl, Tb.warm hW hT, by rw [hU]; exact hP⟩⟩ rfl rfl hl.1 rfl (lv_room (Nat.le_of_ble_eq_true rfl)) dX8_eventOf_2 ⟨Nat.le_of_ble_eq_true rfl, Nat.le_of_ble_eq_true rfl⟩) hS (fun q _ h => h.elim) (fun q h => h.elim) (fun v9 u9 t9 H locs ht9 hvm9 hw9 hB9 hz9 hk9 hS => ?_)
  have hP := Rg.keep hP (fun q h => hk9 q h id)
  rw [hw9]
  cases r_1 with
  | none =>
    dsimp only [csQ] at hf
    refine W.eq (g2 := F0 m 5 ls [.null]) rfl ?_
    cases hf
  | some o_3 =>
    dsimp only [csQ] at hf
    obtain ⟨ho_3, hf⟩ := grd_some hf
    refine W.eq (g2 := F0 m 5 ls [.ref (g.ad o_3)]) rfl ?_
    refine r_get hx hb hts i_X2 hown hT hP (inP ho_3) (fs := (fsP g o_3)) (obP ho_3) rfl 7 (by decide) q132 (fun _ h9 => h9) rfl dX8_eventOf_5 ?_
    exact W.iret (v := μ o_3 7) hx hb hr (fun t9 ht hW => ⟨⟨μ o_3 7, (), rfl, Option.some.inj hf, trivial⟩, hS.F ht⟩) hS.2.2 dX8_eventOf_8
/-- "Sandglass" "free" "(I)I" -/
def f_X8_free (g : Fg) (μ : Mem) (nu : Int32) : Option (Int32) := bnO (f_X8_demandResource g μ nu) fun r_1 => csQ r_1 (none) (fun o_3 => grd (102 ≤ o_3 ∧ o_3 < 102 + g.sz 0 ∧ o_3 < 108) (some (μ o_3 3)))
theorem hd_X8_free : yX8_free.cls = RX8 ∧ yX8_free.cls ≠ "java/lang/invoke/MethodHandle" ∧ yX8_free.cls ≠ "java/lang/invoke/VarHandle" ∧ (parseMethodDescriptor yX8_free.desc).map (fun d => d.parameters.length) = some 1 := by decide +kernel
set_option maxHeartbeats 4000000 in
set_option maxRecDepth 100000 in
theorem c_X8_free (l : Launch) {g : Geo} (hg : Good g) (hX : g.tz 1 = 1) (μ : Mem) (nu : Int32) {r : Int32} (hf : f_X8_free g.F μ nu = some r) : Met l yX8_free (ws_ yX8_free cX8_free 2 (some .int)) (rm_ 5 107 0 0) (Pz g [.ref (g.ad 272), .int nu] (Rg g μ)) (va_Qi (fun (v : Int32) (_ : Unit) => v = r) (fun _ _ => True) (fun _ => False)) 0 0 (fun _ => False) := by
  refine Met.ofW (cc := cX8_free) (maxL := 2) (ret := (some .int)) (by decide) rfl ?_
  intro p e s m args below meth c s₁ B hml hv
  obtain ⟨rfl, hT, hP⟩ := hv
  have hx := B.exec
  have hb := B.bytes
  have hr := B.returns
  have hts : ∀ w ∈ lw_all, w.before _ s = true := fun w h => atoms_spec (ws := (ws_ yX8_free cX8_free 2 (some .int))) B.pre w (List.mem_cons_of_mem _ h)
  have hown : s.vm.findClass RX8 = some m.cls := findClass_of_methodNamed B.named
  have hlocks := B.notSynchronized
  have hS : va_S (fun _ => False) s.heap s.heap [] := va_S.rf
  have hl := lv_entry ([.ref (g.ad 272), .int nu]) (n := 2) (Nat.le_of_ble_eq_true rfl)
  rw [lg_entry_eq]
  generalize (lg_sl ([.ref (g.ad 272), .int nu]) ++ List.replicate (2 - (lg_sl ([.ref (g.ad 272), .int nu])).length) Slot.unset).toArray = ls at hl ⊢
  have hl : lv_has ls 2 [(0, .ref (g.ad 272)), (1, .int nu)] := hl
  unfold f_X8_free at hf
  refine lv_aload_n hx hb dX8_free_0 rfl (lv_at hl 0 rfl) ?_
  refine lv_iload_n hx hb dX8_free_1 rfl (lv_at hl 1 rfl) ?_
  obtain ⟨r_1, hc_2, hf⟩ := bnO_some hf
  refine va_callq (va_runV (As := [.int nu]) (rest := []) ⟨hx, hb, hml, hown, hts⟩ (c_X8_demandResource l hg hX μ nu  hc_2) (cwV 1 hts (gd_V q709 q711 q27 q37 q712) rfl rfl rfl hd_X8_demandResource ⟨Nat.le_of_ble_eq_true rfl, Nat.le_of_ble_eq_true rfl⟩) ⟨Pz.blind, r_recv hT hP (inX hX) (fs := (fun _ => [.ref (g.ad 112), .ref (g.ad 266), .ref (g.ad 0), .ref (g.ad 273)])) (obX g) rfl, fun U hU hW => ⟨rfl, Tb.warm hW hT, by rw [hU]; exact hP⟩⟩ rfl rfl hl.1 rfl (lv_room (Nat.le_of_ble_eq_true rfl)) dX8_free_2 ⟨Nat.le_of_ble_eq_true rfl, Nat.le_of_ble_eq_true rfl⟩) hS (fun q _ h => h.elim) (fun q h => h.elim) (fun v9 u9 t9 H locs ht9 hvm9 hw9 hB9 hz9 hk9 hS => ?_)
  have hP := Rg.keep hP (fun q h => hk9 q h id)
  rw [hw9]
  cases r_1 with
  | none =>
    dsimp only [csQ] at hf
    refine W.eq (g2 := F0 m 5 ls [.null]) rfl ?_
    cases hf
  | some o_3 =>
    dsimp only [csQ] at hf
    obtain ⟨ho_3, hf⟩ := grd_some hf
    refine W.eq (g2 := F0 m 5 ls [.ref (g.ad o_3)]) rfl ?_
    refine r_get hx hb hts i_X3 hown hT hP (inR ho_3) (fs := fsR) (obR ho_3) rfl 3 (by decide) q956 (fun _ h9 => h9) rfl dX8_free_5 ?_
    exact W.iret (v := μ o_3 3) hx hb hr (fun t9 ht hW => ⟨⟨μ o_3 3, (), rfl, Option.some.inj hf, trivial⟩, hS.F ht⟩) hS.2.2 dX8_free_8
/-- "Sandglass" "queued" "(I)I" -/
def f_X8_queued (g : Fg) (μ : Mem) (nu : Int32) : Option (Int32) := bnO (f_X8_demandResource g μ nu) fun r_1 => csQ r_1 (none) (fun o_3 => grd (102 ≤ o_3 ∧ o_3 < 102 + g.sz 0 ∧ o_3 < 108) (bnO (f_X7_countIn g μ (μ o_3 0)) fun r_4 => some r_4))
theorem hd_X8_queued : yX8_queued.cls = RX8 ∧ yX8_queued.cls ≠ "java/lang/invoke/MethodHandle" ∧ yX8_queued.cls ≠ "java/lang/invoke/VarHandle" ∧ (parseMethodDescriptor yX8_queued.desc).map (fun d => d.parameters.length) = some 1 := by decide +kernel
set_option maxHeartbeats 4000000 in
set_option maxRecDepth 100000 in
theorem c_X8_queued (l : Launch) {g : Geo} (hg : Good g) (hX : g.tz 1 = 1) (μ : Mem) (nu : Int32) {r : Int32} (hf : f_X8_queued g.F μ nu = some r) : Met l yX8_queued (ws_ yX8_queued cX8_queued 2 (some .int)) (rm_ 5 107 0 0) (Pz g [.ref (g.ad 272), .int nu] (Rg g μ)) (va_Qi (fun (v : Int32) (_ : Unit) => v = r) (fun _ _ => True) (fun _ => False)) 0 0 (fun _ => False) := by
  refine Met.ofW (cc := cX8_queued) (maxL := 2) (ret := (some .int)) (by decide) rfl ?_
  intro p e s m args below meth c s₁ B hml hv
  obtain ⟨rfl, hT, hP⟩ := hv
  have hx := B.exec
  have hb := B.bytes
  have hr := B.returns
  have hts : ∀ w ∈ lw_all, w.before _ s = true := fun w h => atoms_spec (ws := (ws_ yX8_queued cX8_queued 2 (some .int))) B.pre w (List.mem_cons_of_mem _ h)
  have hown : s.vm.findClass RX8 = some m.cls := findClass_of_methodNamed B.named
  have hlocks := B.notSynchronized
  have hS : va_S (fun _ => False) s.heap s.heap [] := va_S.rf
  have hl := lv_entry ([.ref (g.ad 272), .int nu]) (n := 2) (Nat.le_of_ble_eq_true rfl)
  rw [lg_entry_eq]
  generalize (lg_sl ([.ref (g.ad 272), .int nu]) ++ List.replicate (2 - (lg_sl ([.ref (g.ad 272), .int nu])).length) Slot.unset).toArray = ls at hl ⊢
  have hl : lv_has ls 2 [(0, .ref (g.ad 272)), (1, .int nu)] := hl
  unfold f_X8_queued at hf
  refine lv_aload_n hx hb dX8_queued_0 rfl (lv_at hl 0 rfl) ?_
  refine r_get hx hb hts i_X8 hown hT hP (inX hX) (fs := (fun _ => [.ref (g.ad 112), .ref (g.ad 266), .ref (g.ad 0), .ref (g.ad 273)])) (obX g) rfl 2 (by decide) q227 (fun _ h9 => h9) rfl dX8_queued_1 ?_
  refine lv_aload_n hx hb dX8_queued_4 rfl (lv_at hl 0 rfl) ?_
  refine lv_iload_n hx hb dX8_queued_5 rfl (lv_at hl 1 rfl) ?_
  obtain ⟨r_1, hc_2, hf⟩ := bnO_some hf
  refine va_callq (va_runV (As := [.int nu]) (rest := [.ref (g.ad 0)]) ⟨hx, hb, hml, hown, hts⟩ (c_X8_demandResource l hg hX μ nu  hc_2) (cwV 1 hts (gd_V q709 q711 q27 q37 q712) rfl rfl rfl hd_X8_demandResource ⟨Nat.le_of_ble_eq_true rfl, Nat.le_of_ble_eq_true rfl⟩) ⟨Pz.blind, r_recv hT hP (inX hX) (fs := (fun _ => [.ref (g.ad 112), .ref (g.ad 266), .ref (g.ad 0), .ref (g.ad 273)])) (obX g) rfl, fun U hU hW => ⟨rfl, Tb.warm hW hT, by rw [hU]; exact hP⟩⟩ rfl rfl hl.1 rfl (lv_room (Nat.le_of_ble_eq_true rfl)) dX8_queued_6 ⟨Nat.le_of_ble_eq_true rfl, Nat.le_of_ble_eq_true rfl⟩) hS (fun q _ h => h.elim) (fun q h => h.elim) (fun v9 u9 t9 H locs ht9 hvm9 hw9 hB9 hz9 hk9 hS => ?_)
  have hP := Rg.keep hP (fun q h => hk9 q h id)
  rw [hw9]
  cases r_1 with
  | none =>
    dsimp only [csQ] at hf
    refine W.eq (g2 := F0 m 9 ls [.null, .ref (g.ad 0)]) rfl ?_
    cases hf
  | some o_3 =>
    dsimp only [csQ] at hf
    obtain ⟨ho_3, hf⟩ := grd_some hf
    refine W.eq (g2 := F0 m 9 ls [.ref (g.ad o_3), .ref (g.ad 0)]) rfl ?_
    refine r_get hx hb hts i_X3 hown hT hP (inR ho_3) (fs := fsR) (obR ho_3) rfl 0 (by decide) q949 (fun _ h9 => h9) rfl dX8_queued_9 ?_
    obtain ⟨r_4, hc_5, hf⟩ := bnO_some hf
    refine va_calli (va_runV (As := [.int (μ o_3 0)]) (rest := []) ⟨hx, hb, hml, hown, hts⟩ (c_X7_countIn l hg μ (μ o_3 0)  hc_5) (cwV 1 hts (gd_V q853 q407 q408 q41 q409) rfl rfl rfl hd_X7_countIn ⟨Nat.le_of_ble_eq_true rfl, Nat.le_of_ble_eq_true rfl⟩) ⟨Pz.blind, r_recv hT hP inW (fs := (fsW g)) (obW g) rfl, fun U hU hW => ⟨rfl, Tb.warm hW hT, by rw [hU]; exact hP⟩⟩ rfl rfl hl.1 rfl (lv_room (Nat.le_of_ble_eq_true rfl)) dX8_queued_12 ⟨Nat.le_of_ble_eq_true rfl, Nat.le_of_ble_eq_true rfl⟩) hS (fun q _ h => h.elim) (fun q h => h.elim) (fun v9 u9 t9 H locs ht9 hvm9 hw9 hB9 hz9 hk9 hS => ?_)
    have hP := Rg.keep hP (fun q h => hk9 q h id)
    rw [hw9]
    exact W.iret (v := r_4) hx hb hr (fun t9 ht hW => ⟨⟨r_4, (), rfl, Option.some.inj hf, trivial⟩, hS.F ht⟩) hS.2.2 dX8_queued_15
/-- "Sandglass" "busy" "(I)I" -/
def f_X8_busy (g : Fg) (μ : Mem) (nu : Int32) : Option (Int32) := bnO (f_X8_demandResource g μ nu) fun r_1 => csQ r_1 (none) (fun o_3 => grd (102 ≤ o_3 ∧ o_3 < 102 + g.sz 0 ∧ o_3 < 108) (some (μ o_3 4)))
theorem hd_X8_busy : yX8_busy.cls = RX8 ∧ yX8_busy.cls ≠ "java/lang/invoke/MethodHandle" ∧ yX8_busy.cls ≠ "java/lang/invoke/VarHandle" ∧ (parseMethodDescriptor yX8_busy.desc).map (fun d => d.parameters.length) = some 1 := by decide +kernel
set_option maxHeartbeats 4000000 in
set_option maxRecDepth 100000 in
theorem c_X8_busy (l : Launch) {g : Geo} (hg : Good g) (hX : g.tz 1 = 1) (μ : Mem) (nu : Int32) {r : Int32} (hf : f_X8_busy g.F μ nu = some r) : Met l yX8_busy (ws_ yX8_busy cX8_busy 2 (some .int)) (rm_ 5 107 0 0) (Pz g [.ref (g.ad 272), .int nu] (Rg g μ)) (va_Qi (fun (v : Int32) (_ : Unit) => v = r) (fun _ _ => True) (fun _ => False)) 0 0 (fun _ => False) := by
  refine Met.ofW (cc := cX8_busy) (maxL := 2) (ret := (some .int)) (by decide) rfl ?_
  intro p e s m args below meth c s₁ B hml hv
  obtain ⟨rfl, hT, hP⟩ := hv
  have hx := B.exec
  have hb := B.bytes
  have hr := B.returns
  have hts : ∀ w ∈ lw_all, w.before _ s = true := fun w h => atoms_spec (ws := (ws_ yX8_busy cX8_busy 2 (some .int))) B.pre w (List.mem_cons_of_mem _ h)
  have hown : s.vm.findClass RX8 = some m.cls := findClass_of_methodNamed B.named
  have hlocks := B.notSynchronized
  have hS : va_S (fun _ => False) s.heap s.heap [] := va_S.rf
  have hl := lv_entry ([.ref (g.ad 272), .int nu]) (n := 2) (Nat.le_of_ble_eq_true rfl)
  rw [lg_entry_eq]
  generalize (lg_sl ([.ref (g.ad 272), .int nu]) ++ List.replicate (2 - (lg_sl ([.ref (g.ad 272), .int nu])).length) Slot.unset).toArray = ls at hl ⊢
  have hl : lv_has ls 2 [(0, .ref (g.ad 272)), (1, .int nu)] := hl
  unfold f_X8_busy at hf
  refine lv_aload_n hx hb dX8_busy_0 rfl (lv_at hl 0 rfl) ?_
  refine lv_iload_n hx hb dX8_busy_1 rfl (lv_at hl 1 rfl) ?_
  obtain ⟨r_1, hc_2, hf⟩ := bnO_some hf
  refine va_callq (va_runV (As := [.int nu]) (rest := []) ⟨hx, hb, hml, hown, hts⟩ (c_X8_demandResource l hg hX μ nu  hc_2) (cwV 1 hts (gd_V q709 q711 q27 q37 q712) rfl rfl rfl hd_X8_demandResource ⟨Nat.le_of_ble_eq_true rfl, Nat.le_of_ble_eq_true rfl⟩) ⟨Pz.blind, r_recv hT hP (inX hX) (fs := (fun _ => [.ref (g.ad 112), .ref (g.ad 266), .ref (g.ad 0), .ref (g.ad 273)])) (obX g) rfl, fun U hU hW => ⟨rfl, Tb.warm hW hT, by rw [hU]; exact hP⟩⟩ rfl rfl hl.1 rfl (lv_room (Nat.le_of_ble_eq_true rfl)) dX8_busy_2 ⟨Nat.le_of_ble_eq_true rfl, Nat.le_of_ble_eq_true rfl⟩) hS (fun q _ h => h.elim) (fun q h => h.elim) (fun v9 u9 t9 H locs ht9 hvm9 hw9 hB9 hz9 hk9 hS => ?_)
  have hP := Rg.keep hP (fun q h => hk9 q h id)
  rw [hw9]
  cases r_1 with
  | none =>
    dsimp only [csQ] at hf
    refine W.eq (g2 := F0 m 5 ls [.null]) rfl ?_
    cases hf
  | some o_3 =>
    dsimp only [csQ] at hf
    obtain ⟨ho_3, hf⟩ := grd_some hf
    refine W.eq (g2 := F0 m 5 ls [.ref (g.ad o_3)]) rfl ?_
    refine r_get hx hb hts i_X3 hown hT hP (inR ho_3) (fs := fsR) (obR ho_3) rfl 4 (by decide) q959 (fun _ h9 => h9) rfl dX8_busy_5 ?_
    exact W.iret (v := μ o_3 4) hx hb hr (fun t9 ht hW => ⟨⟨μ o_3 4, (), rfl, Option.some.inj hf, trivial⟩, hS.F ht⟩) hS.2.2 dX8_busy_8
/-- "Sandglass" "queueing" "(I)I" -/
def f_X8_queueing (g : Fg) (μ : Mem) (nu : Int32) : Option (Int32) := bnO (f_X8_demandResource g μ nu) fun r_1 => csQ r_1 (none) (fun o_3 => grd (102 ≤ o_3 ∧ o_3 < 102 + g.sz 0 ∧ o_3 < 108) (some (μ o_3 5)))
theorem hd_X8_queueing : yX8_queueing.cls = RX8 ∧ yX8_queueing.cls ≠ "java/lang/invoke/MethodHandle" ∧ yX8_queueing.cls ≠ "java/lang/invoke/VarHandle" ∧ (parseMethodDescriptor yX8_queueing.desc).map (fun d => d.parameters.length) = some 1 := by decide +kernel
set_option maxHeartbeats 4000000 in
set_option maxRecDepth 100000 in
theorem c_X8_queueing (l : Launch) {g : Geo} (hg : Good g) (hX : g.tz 1 = 1) (μ : Mem) (nu : Int32) {r : Int32} (hf : f_X8_queueing g.F μ nu = some r) : Met l yX8_queueing (ws_ yX8_queueing cX8_queueing 2 (some .int)) (rm_ 5 107 0 0) (Pz g [.ref (g.ad 272), .int nu] (Rg g μ)) (va_Qi (fun (v : Int32) (_ : Unit) => v = r) (fun _ _ => True) (fun _ => False)) 0 0 (fun _ => False) := by
  refine Met.ofW (cc := cX8_queueing) (maxL := 2) (ret := (some .int)) (by decide) rfl ?_
  intro p e s m args below meth c s₁ B hml hv
  obtain ⟨rfl, hT, hP⟩ := hv
  have hx := B.exec
  have hb := B.bytes
  have hr := B.returns
  have hts : ∀ w ∈ lw_all, w.before _ s = true := fun w h => atoms_spec (ws := (ws_ yX8_queueing cX8_queueing 2 (some .int))) B.pre w (List.mem_cons_of_mem _ h)
  have hown : s.vm.findClass RX8 = some m.cls := findClass_of_methodNamed B.named
  have hlocks := B.notSynchronized
  have hS : va_S (fun _ => False) s.heap s.heap [] := va_S.rf
  have hl := lv_entry ([.ref (g.ad 272), .int nu]) (n := 2) (Nat.le_of_ble_eq_true rfl)
  rw [lg_entry_eq]
  generalize (lg_sl ([.ref (g.ad 272), .int nu]) ++ List.replicate (2 - (lg_sl ([.ref (g.ad 272), .int nu])).length) Slot.unset).toArray = ls at hl ⊢
  have hl : lv_has ls 2 [(0, .ref (g.ad 272)), (1, .int nu)] := hl
  unfold f_X8_queueing at hf
  refine lv_aload_n hx hb dX8_queueing_0 rfl (lv_at hl 0 rfl) ?_
  refine lv_iload_n hx hb dX8_queueing_1 rfl (lv_at hl 1 rfl) ?_
  obtain ⟨r_1, hc_2, hf⟩ := bnO_some hf
  refine va_callq (va_runV (As := [.int nu]) (rest := []) ⟨hx, hb, hml, hown, hts⟩ (c_X8_demandResource l hg hX μ nu  hc_2) (cwV 1 hts (gd_V q709 q711 q27 q37 q712) rfl rfl rfl hd_X8_demandResource ⟨Nat.le_of_ble_eq_true rfl, Nat.le_of_ble_eq_true rfl⟩) ⟨Pz.blind, r_recv hT hP (inX hX) (fs := (fun _ => [.ref (g.ad 112), .ref (g.ad 266), .ref (g.ad 0), .ref (g.ad 273)])) (obX g) rfl, fun U hU hW => ⟨rfl, Tb.warm hW hT, by rw [hU]; exact hP⟩⟩ rfl rfl hl.1 rfl (lv_room (Nat.le_of_ble_eq_true rfl)) dX8_queueing_2 ⟨Nat.le_of_ble_eq_true rfl, Nat.le_of_ble_eq_true rfl⟩) hS (fun q _ h => h.elim) (fun q h => h.elim) (fun v9 u9 t9 H locs ht9 hvm9 hw9 hB9 hz9 hk9 hS => ?_)
  have hP := Rg.keep hP (fun q h => hk9 q h id)
  rw [hw9]
  cases r_1 with
  | none =>
    dsimp only [csQ] at hf
    refine W.eq (g2 := F0 m 5 ls [.null]) rfl ?_
    cases hf
  | some o_3 =>
    dsimp only [csQ] at hf
    obtain ⟨ho_3, hf⟩ := grd_some hf
    refine W.eq (g2 := F0 m 5 ls [.ref (g.ad o_3)]) rfl ?_
    refine r_get hx hb hts i_X3 hown hT hP (inR ho_3) (fs := fsR) (obR ho_3) rfl 5 (by decide) q962 (fun _ h9 => h9) rfl dX8_queueing_5 ?_
    exact W.iret (v := μ o_3 5) hx hb hr (fun t9 ht hW => ⟨⟨μ o_3 5, (), rfl, Option.some.inj hf, trivial⟩, hS.F ht⟩) hS.2.2 dX8_queueing_8
/-- "Sandglass" "longest" "(I)I" -/
def f_X8_longest (g : Fg) (μ : Mem) (nu : Int32) : Option (Int32) := bnO (f_X8_demandResource g μ nu) fun r_1 => csQ r_1 (none) (fun o_3 => grd (102 ≤ o_3 ∧ o_3 < 102 + g.sz 0 ∧ o_3 < 108) (some (μ o_3 6)))
theorem hd_X8_longest : yX8_longest.cls = RX8 ∧ yX8_longest.cls ≠ "java/lang/invoke/MethodHandle" ∧ yX8_longest.cls ≠ "java/lang/invoke/VarHandle" ∧ (parseMethodDescriptor yX8_longest.desc).map (fun d => d.parameters.length) = some 1 := by decide +kernel
set_option maxHeartbeats 4000000 in
set_option maxRecDepth 100000 in
theorem c_X8_longest (l : Launch) {g : Geo} (hg : Good g) (hX : g.tz 1 = 1) (μ : Mem) (nu : Int32) {r : Int32} (hf : f_X8_longest g.F μ nu = some r) : Met l yX8_longest (ws_ yX8_longest cX8_longest 2 (some .int)) (rm_ 5 107 0 0) (Pz g [.ref (g.ad 272), .int nu] (Rg g μ)) (va_Qi (fun (v : Int32) (_ : Unit) => v = r) (fun _ _ => True) (fun _ => False)) 0 0 (fun _ => False) := by
  refine Met.ofW (cc := cX8_longest) (maxL := 2) (ret := (some .int)) (by decide) rfl ?_
  intro p e s m args below meth c s₁ B hml hv
  obtain ⟨rfl, hT, hP⟩ := hv
  have hx := B.exec
  have hb := B.bytes
  have hr := B.returns
  have hts : ∀ w ∈ lw_all, w.before _ s = true := fun w h => atoms_spec (ws := (ws_ yX8_longest cX8_longest 2 (some .int))) B.pre w (List.mem_cons_of_mem _ h)
  have hown : s.vm.findClass RX8 = some m.cls := findClass_of_methodNamed B.named
  have hlocks := B.notSynchronized
  have hS : va_S (fun _ => False) s.heap s.heap [] := va_S.rf
  have hl := lv_entry ([.ref (g.ad 272), .int nu]) (n := 2) (Nat.le_of_ble_eq_true rfl)
  rw [lg_entry_eq]
  generalize (lg_sl ([.ref (g.ad 272), .int nu]) ++ List.replicate (2 - (lg_sl ([.ref (g.ad 272), .int nu])).length) Slot.unset).toArray = ls at hl ⊢
  have hl : lv_has ls 2 [(0, .ref (g.ad 272)), (1, .int nu)] := hl
  unfold f_X8_longest at hf
  refine lv_aload_n hx hb dX8_longest_0 rfl (lv_at hl 0 rfl) ?_
  refine lv_iload_n hx hb dX8_longest_1 rfl (lv_at hl 1 rfl) ?_
  obtain ⟨r_1, hc_2, hf⟩ := bnO_some hf
  refine va_callq (va_runV (As := [.int nu]) (rest := []) ⟨hx, hb, hml, hown, hts⟩ (c_X8_demandResource l hg hX μ nu  hc_2) (cwV 1 hts (gd_V q709 q711 q27 q37 q712) rfl rfl rfl hd_X8_demandResource ⟨Nat.le_of_ble_eq_true rfl, Nat.le_of_ble_eq_true rfl⟩) ⟨Pz.blind, r_recv hT hP (inX hX) (fs := (fun _ => [.ref (g.ad 112), .ref (g.ad 266), .ref (g.ad 0), .ref (g.ad 273)])) (obX g) rfl, fun U hU hW => ⟨rfl, Tb.warm hW hT, by rw [hU]; exact hP⟩⟩ rfl rfl hl.1 rfl (lv_room (Nat.le_of_ble_eq_true rfl)) dX8_longest_2 ⟨Nat.le_of_ble_eq_true rfl, Nat.le_of_ble_eq_true rfl⟩) hS (fun q _ h => h.elim) (fun q h => h.elim) (fun v9 u9 t9 H locs ht9 hvm9 hw9 hB9 hz9 hk9 hS => ?_)
  have hP := Rg.keep hP (fun q h => hk9 q h id)
  rw [hw9]
  cases r_1 with
  | none =>
    dsimp only [csQ] at hf
    refine W.eq (g2 := F0 m 5 ls [.null]) rfl ?_
    cases hf
  | some o_3 =>
    dsimp only [csQ] at hf
    obtain ⟨ho_3, hf⟩ := grd_some hf
    refine W.eq (g2 := F0 m 5 ls [.ref (g.ad o_3)]) rfl ?_
    refine r_get hx hb hts i_X3 hown hT hP (inR ho_3) (fs := fsR) (obR ho_3) rfl 6 (by decide) q964 (fun _ h9 => h9) rfl dX8_longest_5 ?_
    exact W.iret (v := μ o_3 6) hx hb hr (fun t9 ht hW => ⟨⟨μ o_3 6, (), rfl, Option.some.inj hf, trivial⟩, hS.F ht⟩) hS.2.2 dX8_longest_8
/-- "Sandglass" "level" "(I)I" -/
def f_X8_level (g : Fg) (μ : Mem) (nu : Int32) : Option (Int32) := bnO (f_X8_demandStore g μ nu) fun r_1 => csQ r_1 (none) (fun o_3 => grd (108 ≤ o_3 ∧ o_3 < 108 + g.sz 1 ∧ o_3 < 112) (some (μ o_3 2)))
theorem hd_X8_level : yX8_level.cls = RX8 ∧ yX8_level.cls ≠ "java/lang/invoke/MethodHandle" ∧ yX8_level.cls ≠ "java/lang/invoke/VarHandle" ∧ (parseMethodDescriptor yX8_level.desc).map (fun d => d.parameters.length) = some 1 := by decide +kernel
set_option maxHeartbeats 4000000 in
set_option maxRecDepth 100000 in
theorem c_X8_level (l : Launch) {g : Geo} (hg : Good g) (hX : g.tz 1 = 1) (μ : Mem) (nu : Int32) {r : Int32} (hf : f_X8_level g.F μ nu = some r) : Met l yX8_level (ws_ yX8_level cX8_level 2 (some .int)) (rm_ 5 107 0 0) (Pz g [.ref (g.ad 272), .int nu] (Rg g μ)) (va_Qi (fun (v : Int32) (_ : Unit) => v = r) (fun _ _ => True) (fun _ => False)) 0 0 (fun _ => False) := by
  refine Met.ofW (cc := cX8_level) (maxL := 2) (ret := (some .int)) (by decide) rfl ?_
  intro p e s m args below meth c s₁ B hml hv
  obtain ⟨rfl, hT, hP⟩ := hv
  have hx := B.exec
  have hb := B.bytes
  have hr := B.returns
  have hts : ∀ w ∈ lw_all, w.before _ s = true := fun w h => atoms_spec (ws := (ws_ yX8_level cX8_level 2 (some .int))) B.pre w (List.mem_cons_of_mem _ h)
  have hown : s.vm.findClass RX8 = some m.cls := findClass_of_methodNamed B.named
  have hlocks := B.notSynchronized
  have hS : va_S (fun _ => False) s.heap s.heap [] := va_S.rf
  have hl := lv_entry ([.ref (g.ad 272), .int nu]) (n := 2) (Nat.le_of_ble_eq_true rfl)
  rw [lg_entry_eq]
  generalize (lg_sl ([.ref (g.ad 272), .int nu]) ++ List.replicate (2 - (lg_sl ([.ref (g.ad 272), .int nu])).length) Slot.unset).toArray = ls at hl ⊢
  have hl : lv_has ls 2 [(0, .ref (g.ad 272)), (1, .int nu)] := hl
  unfold f_X8_level at hf
  refine lv_aload_n hx hb dX8_level_0 rfl (lv_at hl 0 rfl) ?_
  refine lv_iload_n hx hb dX8_level_1 rfl (lv_at hl 1 rfl) ?_
  obtain ⟨r_1, hc_2, hf⟩ := bnO_some hf
  refine va_callq (va_runV (As := [.int nu]) (rest := []) ⟨hx, hb, hml, hown, hts⟩ (c_X8_demandStore l hg hX μ nu  hc_2) (cwV 1 hts (gd_V q888 q890 q33 q37 q891) rfl rfl rfl hd_X8_demandStore ⟨Nat.le_of_ble_eq_true rfl, Nat.le_of_ble_eq_true rfl⟩) ⟨Pz.blind, r_recv hT hP (inX hX) (fs := (fun _ => [.ref (g.ad 112), .ref (g.ad 266), .ref (g.ad 0), .ref (g.ad 273)])) (obX g) rfl, fun U hU hW => ⟨rfl, Tb.warm hW hT, by rw [hU]; exact hP⟩⟩ rfl rfl hl.1 rfl (lv_room (Nat.le_of_ble_eq_true rfl)) dX8_level_2 ⟨Nat.le_of_ble_eq_true rfl, Nat.le_of_ble_eq_true rfl⟩) hS (fun q _ h => h.elim) (fun q h => h.elim) (fun v9 u9 t9 H locs ht9 hvm9 hw9 hB9 hz9 hk9 hS => ?_)
  have hP := Rg.keep hP (fun q h => hk9 q h id)
  rw [hw9]
  cases r_1 with
  | none =>
    dsimp only [csQ] at hf
    refine W.eq (g2 := F0 m 5 ls [.null]) rfl ?_
    cases hf
  | some o_3 =>
    dsimp only [csQ] at hf
    obtain ⟨ho_3, hf⟩ := grd_some hf
    refine W.eq (g2 := F0 m 5 ls [.ref (g.ad o_3)]) rfl ?_
    refine r_get hx hb hts i_X5 hown hT hP (inS ho_3) (fs := fsS) (obS ho_3) rfl 2 (by decide) q999 (fun _ h9 => h9) rfl dX8_level_5 ?_
    exact W.iret (v := μ o_3 2) hx hb hr (fun t9 ht hW => ⟨⟨μ o_3 2, (), rfl, Option.some.inj hf, trivial⟩, hS.F ht⟩) hS.2.2 dX8_level_8
/-- "Sandglass" "area" "(I)I" -/
def f_X8_area (g : Fg) (μ : Mem) (nu : Int32) : Option (Int32) := bnO (f_X8_demandStore g μ nu) fun r_1 => csQ r_1 (none) (fun o_3 => grd (108 ≤ o_3 ∧ o_3 < 108 + g.sz 1 ∧ o_3 < 112) (some (μ o_3 3)))
theorem hd_X8_area : yX8_area.cls = RX8 ∧ yX8_area.cls ≠ "java/lang/invoke/MethodHandle" ∧ yX8_area.cls ≠ "java/lang/invoke/VarHandle" ∧ (parseMethodDescriptor yX8_area.desc).map (fun d => d.parameters.length) = some 1 := by decide +kernel
set_option maxHeartbeats 4000000 in
set_option maxRecDepth 100000 in
theorem c_X8_area (l : Launch) {g : Geo} (hg : Good g) (hX : g.tz 1 = 1) (μ : Mem) (nu : Int32) {r : Int32} (hf : f_X8_area g.F μ nu = some r) : Met l yX8_area (ws_ yX8_area cX8_area 2 (some .int)) (rm_ 5 107 0 0) (Pz g [.ref (g.ad 272), .int nu] (Rg g μ)) (va_Qi (fun (v : Int32) (_ : Unit) => v = r) (fun _ _ => True) (fun _ => False)) 0 0 (fun _ => False) := by
  refine Met.ofW (cc := cX8_area) (maxL := 2) (ret := (some .int)) (by decide) rfl ?_
  intro p e s m args below meth c s₁ B hml hv
  obtain ⟨rfl, hT, hP⟩ := hv
  have hx := B.exec
  have hb := B.bytes
  have hr := B.returns
  have hts : ∀ w ∈ lw_all, w.before _ s = true := fun w h => atoms_spec (ws := (ws_ yX8_area cX8_area 2 (some .int))) B.pre w (List.mem_cons_of_mem _ h)
  have hown : s.vm.findClass RX8 = some m.cls := findClass_of_methodNamed B.named
  have hlocks := B.notSynchronized
  have hS : va_S (fun _ => False) s.heap s.heap [] := va_S.rf
  have hl := lv_entry ([.ref (g.ad 272), .int nu]) (n := 2) (Nat.le_of_ble_eq_true rfl)
  rw [lg_entry_eq]
  generalize (lg_sl ([.ref (g.ad 272), .int nu]) ++ List.replicate (2 - (lg_sl ([.ref (g.ad 272), .int nu])).length) Slot.unset).toArray = ls at hl ⊢
  have hl : lv_has ls 2 [(0, .ref (g.ad 272)), (1, .int nu)] := hl
  unfold f_X8_area at hf
  refine lv_aload_n hx hb dX8_area_0 rfl (lv_at hl 0 rfl) ?_
  refine lv_iload_n hx hb dX8_area_1 rfl (lv_at hl 1 rfl) ?_
  obtain ⟨r_1, hc_2, hf⟩ := bnO_some hf
  refine va_callq (va_runV (As := [.int nu]) (rest := []) ⟨hx, hb, hml, hown, hts⟩ (c_X8_demandStore l hg hX μ nu  hc_2) (cwV 1 hts (gd_V q888 q890 q33 q37 q891) rfl rfl rfl hd_X8_demandStore ⟨Nat.le_of_ble_eq_true rfl, Nat.le_of_ble_eq_true rfl⟩) ⟨Pz.blind, r_recv hT hP (inX hX) (fs := (fun _ => [.ref (g.ad 112), .ref (g.ad 266), .ref (g.ad 0), .ref (g.ad 273)])) (obX g) rfl, fun U hU hW => ⟨rfl, Tb.warm hW hT, by rw [hU]; exact hP⟩⟩ rfl rfl hl.1 rfl (lv_room (Nat.le_of_ble_eq_true rfl)) dX8_area_2 ⟨Nat.le_of_ble_eq_true rfl, Nat.le_of_ble_eq_true rfl⟩) hS (fun q _ h => h.elim) (fun q h => h.elim) (fun v9 u9 t9 H locs ht9 hvm9 hw9 hB9 hz9 hk9 hS => ?_)
  have hP := Rg.keep hP (fun q h => hk9 q h id)
  rw [hw9]
  cases r_1 with
  | none =>
    dsimp only [csQ] at hf
    refine W.eq (g2 := F0 m 5 ls [.null]) rfl ?_
    cases hf
  | some o_3 =>
    dsimp only [csQ] at hf
    obtain ⟨ho_3, hf⟩ := grd_some hf
    refine W.eq (g2 := F0 m 5 ls [.ref (g.ad o_3)]) rfl ?_
    refine r_get hx hb hts i_X5 hown hT hP (inS ho_3) (fs := fsS) (obS ho_3) rfl 3 (by decide) q1002 (fun _ h9 => h9) rfl dX8_area_5 ?_
    exact W.iret (v := μ o_3 3) hx hb hr (fun t9 ht hW => ⟨⟨μ o_3 3, (), rfl, Option.some.inj hf, trivial⟩, hS.F ht⟩) hS.2.2 dX8_area_8
/-- "Sandglass" "holds" "(II)I" -/
def f_X8_holds (g : Fg) (μ : Mem) (pn : Int32) (rn : Int32) : Option (Int32) := bnO (f_X8_demandProcess g μ pn) fun r_1 => csQ r_1 (bnO (f_X8_demandResource g μ rn) fun r_4 => csQ r_4 (none) (fun o_6 => grd (102 ≤ o_6 ∧ o_6 < 102 + g.sz 0 ∧ o_6 < 108) (none))) (fun o_3 => grd (1 ≤ o_3 ∧ o_3 < 25) (bnO (f_X8_demandResource g μ rn) fun r_7 => csQ r_7 (none) (fun o_9 => grd (102 ≤ o_9 ∧ o_9 < 102 + g.sz 0 ∧ o_9 < 108) (bnO (f_X8_at g μ (o_3 + 48) (μ o_9 0)) fun r_10 => some r_10))))
theorem hd_X8_holds : yX8_holds.cls = RX8 ∧ yX8_holds.cls ≠ "java/lang/invoke/MethodHandle" ∧ yX8_holds.cls ≠ "java/lang/invoke/VarHandle" ∧ (parseMethodDescriptor yX8_holds.desc).map (fun d => d.parameters.length) = some 2 := by decide +kernel
set_option maxHeartbeats 4000000 in
set_option maxRecDepth 100000 in
theorem c_X8_holds (l : Launch) {g : Geo} (hg : Good g) (hX : g.tz 1 = 1) (μ : Mem) (pn : Int32) (rn : Int32) {r : Int32} (hf : f_X8_holds g.F μ pn rn = some r) : Met l yX8_holds (ws_ yX8_holds cX8_holds 5 (some .int)) (rm_ 5 107 0 0) (Pz g [.ref (g.ad 272), .int pn, .int rn] (Rg g μ)) (va_Qi (fun (v : Int32) (_ : Unit) => v = r) (fun _ _ => True) (fun _ => False)) 0 0 (fun _ => False) := by
  refine Met.ofW (cc := cX8_holds) (maxL := 5) (ret := (some .int)) (by decide) rfl ?_
  intro p e s m args below meth c s₁ B hml hv
  obtain ⟨rfl, hT, hP⟩ := hv
  have hx := B.exec
  have hb := B.bytes
  have hr := B.returns
  have hts : ∀ w ∈ lw_all, w.before _ s = true := fun w h => atoms_spec (ws := (ws_ yX8_holds cX8_holds 5 (some .int))) B.pre w (List.mem_cons_of_mem _ h)
  have hown : s.vm.findClass RX8 = some m.cls := findClass_of_methodNamed B.named
  have hlocks := B.notSynchronized
  have hS : va_S (fun _ => False) s.heap s.heap [] := va_S.rf
  have hl := lv_entry ([.ref (g.ad 272), .int pn, .int rn]) (n := 5) (Nat.le_of_ble_eq_true rfl)
  rw [lg_entry_eq]
  generalize (lg_sl ([.ref (g.ad 272), .int pn, .int rn]) ++ List.replicate (5 - (lg_sl ([.ref (g.ad 272), .int pn, .int rn])).length) Slot.unset).toArray = ls at hl ⊢
  have hl : lv_has ls 5 [(0, .ref (g.ad 272)), (1, .int pn), (2, .int rn)] := hl
  unfold f_X8_holds at hf
  refine lv_aload_n hx hb dX8_holds_0 rfl (lv_at hl 0 rfl) ?_
  refine lv_iload_n hx hb dX8_holds_1 rfl (lv_at hl 1 rfl) ?_
  obtain ⟨r_1, hc_2, hf⟩ := bnO_some hf
  refine va_callq (va_runV (As := [.int pn]) (rest := []) ⟨hx, hb, hml, hown, hts⟩ (c_X8_demandProcess l hg hX μ pn  hc_2) (cwV 1 hts (gd_V q647 q649 q26 q37 q650) rfl rfl rfl hd_X8_demandProcess ⟨Nat.le_of_ble_eq_true rfl, Nat.le_of_ble_eq_true rfl⟩) ⟨Pz.blind, r_recv hT hP (inX hX) (fs := (fun _ => [.ref (g.ad 112), .ref (g.ad 266), .ref (g.ad 0), .ref (g.ad 273)])) (obX g) rfl, fun U hU hW => ⟨rfl, Tb.warm hW hT, by rw [hU]; exact hP⟩⟩ rfl rfl hl.1 rfl (lv_room (Nat.le_of_ble_eq_true rfl)) dX8_holds_2 ⟨Nat.le_of_ble_eq_true rfl, Nat.le_of_ble_eq_true rfl⟩) hS (fun q _ h => h.elim) (fun q h => h.elim) (fun v9 u9 t9 H locs ht9 hvm9 hw9 hB9 hz9 hk9 hS => ?_)
  have hP := Rg.keep hP (fun q h => hk9 q h id)
  rw [hw9]
  cases r_1 with
  | none =>
    dsimp only [csQ] at hf
    refine W.eq (g2 := F0 m 5 ls [.null]) rfl ?_
    refine lv_astore_nN (lv' := [(3, .null), (0, .ref (g.ad 272)), (1, .int pn), (2, .int rn)]) hx hb dX8_holds_5 rfl hl (by decide) rfl (fun ls hl => ?_)
    refine lv_aload_n hx hb dX8_holds_6 rfl (lv_at hl 1 rfl) ?_
    refine lv_iload_n hx hb dX8_holds_7 rfl (lv_at hl 3 rfl) ?_
    obtain ⟨r_4, hc_5, hf⟩ := bnO_some hf
    refine va_callq (va_runV (As := [.int rn]) (rest := []) ⟨hx, hb, hml, hown, hts⟩ (c_X8_demandResource l hg hX μ rn  hc_5) (cwV 1 hts (gd_V q709 q711 q27 q37 q712) rfl rfl rfl hd_X8_demandResource ⟨Nat.le_of_ble_eq_true rfl, Nat.le_of_ble_eq_true rfl⟩) ⟨Pz.blind, r_recv hT hP (inX hX) (fs := (fun _ => [.ref (g.ad 112), .ref (g.ad 266), .ref (g.ad 0), .ref (g.ad 273)])) (obX g) rfl, fun U hU hW => ⟨rfl, Tb.warm hW hT, by rw [hU]; exact hP⟩⟩ rfl rfl hl.1 rfl (lv_room (Nat.le_of_ble_eq_true rfl)) dX8_holds_8 ⟨Nat.le_of_ble_eq_true rfl, Nat.le_of_ble_eq_true rfl⟩) hS (fun q _ h => h.elim) (fun q h => h.elim) (fun v9 u9 t9 H locs ht9 hvm9 hw9 hB9 hz9 hk9 hS => ?_)
    have hP := Rg.keep hP (fun q h => hk9 q h id)
    rw [hw9]
    cases r_4 with
    | none =>
      dsimp only [csQ] at hf
      refine W.eq (g2 := F0 m 11 ls [.null]) rfl ?_
      refine lv_astoreN (lv' := [(4, .null), (3, .null), (0, .ref (g.ad 272)), (1, .int pn), (2, .int rn)]) hx hb dX8_holds_11 hl (by decide) rfl (fun ls hl => ?_)
      refine lv_aload_nN hx hb dX8_holds_13 rfl (lv_at hl 1 rfl) ?_
      cases hf
    | some o_6 =>
      dsimp only [csQ] at hf
      obtain ⟨ho_6, hf⟩ := grd_some hf
      refine W.eq (g2 := F0 m 11 ls [.ref (g.ad o_6)]) rfl ?_
      refine lv_astore (lv' := [(4, .ref (g.ad o_6)), (3, .null), (0, .ref (g.ad 272)), (1, .int pn), (2, .int rn)]) hx hb dX8_holds_11 hl (by decide) rfl (fun ls hl => ?_)
      refine lv_aload_nN hx hb dX8_holds_13 rfl (lv_at hl 1 rfl) ?_
      cases hf
  | some o_3 =>
    dsimp only [csQ] at hf
    obtain ⟨ho_3, hf⟩ := grd_some hf
    refine W.eq (g2 := F0 m 5 ls [.ref (g.ad o_3)]) rfl ?_
    refine lv_astore_n (lv' := [(3, .ref (g.ad o_3)), (0, .ref (g.ad 272)), (1, .int pn), (2, .int rn)]) hx hb dX8_holds_5 rfl hl (by decide) rfl (fun ls hl => ?_)
    refine lv_aload_n hx hb dX8_holds_6 rfl (lv_at hl 1 rfl) ?_
    refine lv_iload_n hx hb dX8_holds_7 rfl (lv_at hl 3 rfl) ?_
    obtain ⟨r_7, hc_8, hf⟩ := bnO_some hf
    refine va_callq (va_runV (As := [.int rn]) (rest := []) ⟨hx, hb, hml, hown, hts⟩ (c_X8_demandResource l hg hX μ rn  hc_8) (cwV 1 hts (gd_V q709 q711 q27 q37 q712) rfl rfl rfl hd_X8_demandResource ⟨Nat.le_of_ble_eq_true rfl, Nat.le_of_ble_eq_true rfl⟩) ⟨Pz.blind, r_recv hT hP (inX hX) (fs := (fun _ => [.ref (g.ad 112), .ref (g.ad 266), .ref (g.ad 0), .ref (g.ad 273)])) (obX g) rfl, fun U hU hW => ⟨rfl, Tb.warm hW hT, by rw [hU]; exact hP⟩⟩ rfl rfl hl.1 rfl (lv_room (Nat.le_of_ble_eq_true rfl)) dX8_holds_8 ⟨Nat.le_of_ble_eq_true rfl, Nat.le_of_ble_eq_true rfl⟩) hS (fun q _ h => h.elim) (fun q h => h.elim) (fun v9 u9 t9 H locs ht9 hvm9 hw9 hB9 hz9 hk9 hS => ?_)
    have hP := Rg.keep hP (fun q h => hk9 q h id)
    rw [hw9]
    cases r_7 with
    | none =>
      dsimp only [csQ] at hf
      refine W.eq (g2 := F0 m 11 ls [.null]) rfl ?_
      refine lv_astoreN (lv' := [(4, .null), (3, .ref (g.ad o_3)), (0, .ref (g.ad 272)), (1, .int pn), (2, .int rn)]) hx hb dX8_holds_11 hl (by decide) rfl (fun ls hl => ?_)
      refine lv_aload_n hx hb dX8_holds_13 rfl (lv_at hl 1 rfl) ?_
      refine r_get hx hb hts i_X2 hown hT hP (inP ho_3) (fs := (fsP g o_3)) (obP ho_3) rfl 15 (by decide) q148 (fun _ h9 => h9) rfl dX8_holds_14 ?_
      refine lv_aloadN hx hb dX8_holds_17 (lv_at hl 0 rfl) ?_
      cases hf
    | some o_9 =>
      dsimp only [csQ] at hf
      obtain ⟨ho_9, hf⟩ := grd_some hf
      refine W.eq (g2 := F0 m 11 ls [.ref (g.ad o_9)]) rfl ?_
      refine lv_astore (lv' := [(4, .ref (g.ad o_9)), (3, .ref (g.ad o_3)), (0, .ref (g.ad 272)), (1, .int pn), (2, .int rn)]) hx hb dX8_holds_11 hl (by decide) rfl (fun ls hl => ?_)
      refine lv_aload_n hx hb dX8_holds_13 rfl (lv_at hl 1 rfl) ?_
      refine r_get hx hb hts i_X2 hown hT hP (inP ho_3) (fs := (fsP g o_3)) (obP ho_3) rfl 15 (by decide) q148 (fun _ h9 => h9) rfl dX8_holds_14 ?_
      refine lv_aload hx hb dX8_holds_17 (lv_at hl 0 rfl) ?_
      refine r_get hx hb hts i_X3 hown hT hP (inR ho_9) (fs := fsR) (obR ho_9) rfl 0 (by decide) q949 (fun _ h9 => h9) rfl dX8_holds_19 ?_
      obtain ⟨r_10, hc_11, hf⟩ := bnO_some hf
      refine va_calli (va_runS (As := [.ref (g.ad (o_3 + 48)), .int (μ o_9 0)]) (rest := []) ⟨hx, hb, hml, hown, hts⟩ (c_X8_at l hg μ (o_3 + 48) (μ o_9 0) (show isP _ from ho_3).hld hc_11) (va_cwS 2 hts (gd_S q715 q463 q37 q464) rfl rfl rfl hd_X8_at.2 ⟨Nat.le_of_ble_eq_true rfl, Nat.le_of_ble_eq_true rfl⟩) ⟨Pz.blind, fun U hU hW => ⟨rfl, Tb.warm hW hT, by rw [hU]; exact hP⟩⟩ rfl rfl hl.1 rfl (lv_room (Nat.le_of_ble_eq_true rfl)) dX8_holds_22 ⟨Nat.le_of_ble_eq_true rfl, Nat.le_of_ble_eq_true rfl⟩) hS (fun q _ h => h.elim) (fun q h => h.elim) (fun v9 u9 t9 H locs ht9 hvm9 hw9 hB9 hz9 hk9 hS => ?_)
      have hP := Rg.keep hP (fun q h => hk9 q h id)
      rw [hw9]
      exact W.iret (v := r_10) hx hb hr (fun t9 ht hW => ⟨⟨r_10, (), rfl, Option.some.inj hf, trivial⟩, hS.F ht⟩) hS.2.2 dX8_holds_25
/-- "Sandglass" "queuedAt" "(II)I" -/
def f_X8_queuedAt (g : Fg) (μ : Mem) (rn : Int32) (pl : Int32) : Option (Int32) := bnO (f_X8_demandResource g μ rn) fun r_1 => csQ r_1 (none) (fun o_3 => grd (102 ≤ o_3 ∧ o_3 < 102 + g.sz 0 ∧ o_3 < 108) (bnO (f_X7_inRowAt g μ (μ o_3 0) pl) fun r_4 => csQ r_4 (none) (fun o_6 => grd (1 ≤ o_6 ∧ o_6 < 25) (some (μ o_6 0)))))
theorem hd_X8_queuedAt : yX8_queuedAt.cls = RX8 ∧ yX8_queuedAt.cls ≠ "java/lang/invoke/MethodHandle" ∧ yX8_queuedAt.cls ≠ "java/lang/invoke/VarHandle" ∧ (parseMethodDescriptor yX8_queuedAt.desc).map (fun d => d.parameters.length) = some 2 := by decide +kernel
set_option maxHeartbeats 4000000 in
set_option maxRecDepth 100000 in
theorem c_X8_queuedAt (l : Launch) {g : Geo} (hg : Good g) (hX : g.tz 1 = 1) (μ : Mem) (rn : Int32) (pl : Int32) {r : Int32} (hf : f_X8_queuedAt g.F μ rn pl = some r) : Met l yX8_queuedAt (ws_ yX8_queuedAt cX8_queuedAt 4 (some .int)) (rm_ 5 107 0 0) (Pz g [.ref (g.ad 272), .int rn, .int pl] (Rg g μ)) (va_Qi (fun (v : Int32) (_ : Unit) => v = r) (fun _ _ => True) (fun _ => False)) 0 0 (fun _ => False) := by
  refine Met.ofW (cc := cX8_queuedAt) (maxL := 4) (ret := (some .int)) (by decide) rfl ?_
  intro p e s m args below meth c s₁ B hml hv
  obtain ⟨rfl, hT, hP⟩ := hv
  have hx := B.exec
  have hb := B.bytes
  have hr := B.returns
  have hts : ∀ w ∈ lw_all, w.before _ s = true := fun w h => atoms_spec (ws := (ws_ yX8_queuedAt cX8_queuedAt 4 (some .int))) B.pre w (List.mem_cons_of_mem _ h)
  have hown : s.vm.findClass RX8 = some m.cls := findClass_of_methodNamed B.named
  have hlocks := B.notSynchronized
  have hS : va_S (fun _ => False) s.heap s.heap [] := va_S.rf
  have hl := lv_entry ([.ref (g.ad 272), .int rn, .int pl]) (n := 4) (Nat.le_of_ble_eq_true rfl)
  rw [lg_entry_eq]
  generalize (lg_sl ([.ref (g.ad 272), .int rn, .int pl]) ++ List.replicate (4 - (lg_sl ([.ref (g.ad 272), .int rn, .int pl])).length) Slot.unset).toArray = ls at hl ⊢
  have hl : lv_has ls 4 [(0, .ref (g.ad 272)), (1, .int rn), (2, .int pl)] := hl
  unfold f_X8_queuedAt at hf
  refine lv_aload_n hx hb dX8_queuedAt_0 rfl (lv_at hl 0 rfl) ?_
  refine r_get hx hb hts i_X8 hown hT hP (inX hX) (fs := (fun _ => [.ref (g.ad 112), .ref (g.ad 266), .ref (g.ad 0), .ref (g.ad 273)])) (obX g) rfl 2 (by decide) q227 (fun _ h9 => h9) rfl dX8_queuedAt_1 ?_
  refine lv_aload_n hx hb dX8_queuedAt_4 rfl (lv_at hl 0 rfl) ?_
  refine lv_iload_n hx hb dX8_queuedAt_5 rfl (lv_at hl 1 rfl) ?_
  obtain ⟨r_1, hc_2, hf⟩ := bnO_some hf
  refine va_callq (va_runV (As := [.int rn]) (rest := [.ref (g.ad 0)]) ⟨hx, hb, hml, hown, hts⟩ (c_X8_demandResource l hg hX μ rn  hc_2) (cwV 1 hts (gd_V q709 q711 q27 q37 q712) rfl rfl rfl hd_X8_demandResource ⟨Nat.le_of_ble_eq_true rfl, Nat.le_of_ble_eq_true rfl⟩) ⟨Pz.blind, r_recv hT hP (inX hX) (fs := (fun _ => [.ref (g.ad 112), .ref (g.ad 266), .ref (g.ad 0), .ref (g.ad 273)])) (obX g) rfl, fun U hU hW => ⟨rfl, Tb.warm hW hT, by rw [hU]; exact hP⟩⟩ rfl rfl hl.1 rfl (lv_room (Nat.le_of_ble_eq_true rfl)) dX8_queuedAt_6 ⟨Nat.le_of_ble_eq_true rfl, Nat.le_of_ble_eq_true rfl⟩) hS (fun q _ h => h.elim) (fun q h => h.elim) (fun v9 u9 t9 H locs ht9 hvm9 hw9 hB9 hz9 hk9 hS => ?_)
  have hP := Rg.keep hP (fun q h => hk9 q h id)
  rw [hw9]
  cases r_1 with
  | none =>
    dsimp only [csQ] at hf
    refine W.eq (g2 := F0 m 9 ls [.null, .ref (g.ad 0)]) rfl ?_
    cases hf
  | some o_3 =>
    dsimp only [csQ] at hf
    obtain ⟨ho_3, hf⟩ := grd_some hf
    refine W.eq (g2 := F0 m 9 ls [.ref (g.ad o_3), .ref (g.ad 0)]) rfl ?_
    refine r_get hx hb hts i_X3 hown hT hP (inR ho_3) (fs := fsR) (obR ho_3) rfl 0 (by decide) q949 (fun _ h9 => h9) rfl dX8_queuedAt_9 ?_
    refine lv_iload_n hx hb dX8_queuedAt_12 rfl (lv_at hl 2 rfl) ?_
    obtain ⟨r_4, hc_5, hf⟩ := bnO_some hf
    refine va_callq (va_runV (As := [.int (μ o_3 0), .int pl]) (rest := []) ⟨hx, hb, hml, hown, hts⟩ (c_X7_inRowAt l hg μ (μ o_3 0) pl  hc_5) (cwV 2 hts (gd_V q862 q863 q864 q41 q865) rfl rfl rfl hd_X7_inRowAt ⟨Nat.le_of_ble_eq_true rfl, Nat.le_of_ble_eq_true rfl⟩) ⟨Pz.blind, r_recv hT hP inW (fs := (fsW g)) (obW g) rfl, fun U hU hW => ⟨rfl, Tb.warm hW hT, by rw [hU]; exact hP⟩⟩ rfl rfl hl.1 rfl (lv_room (Nat.le_of_ble_eq_true rfl)) dX8_queuedAt_13 ⟨Nat.le_of_ble_eq_true rfl, Nat.le_of_ble_eq_true rfl⟩) hS (fun q _ h => h.elim) (fun q h => h.elim) (fun v9 u9 t9 H locs ht9 hvm9 hw9 hB9 hz9 hk9 hS => ?_)
    have hP := Rg.keep hP (fun q h => hk9 q h id)
    rw [hw9]
    cases r_4 with
    | none =>
      dsimp only [csQ] at hf
      refine W.eq (g2 := F0 m 16 ls [.null]) rfl ?_
      refine lv_astore_nN (lv' := [(3, .null), (0, .ref (g.ad 272)), (1, .int rn), (2, .int pl)]) hx hb dX8_queuedAt_16 rfl hl (by decide) rfl (fun ls hl => ?_)
      refine lv_aload_nN hx hb dX8_queuedAt_17 rfl (lv_at hl 0 rfl) ?_
      refine lv_ifnonnullN hx hb dX8_queuedAt_18 ?_
      cases hf
    | some o_6 =>
      dsimp only [csQ] at hf
      obtain ⟨ho_6, hf⟩ := grd_some hf
      refine W.eq (g2 := F0 m 16 ls [.ref (g.ad o_6)]) rfl ?_
      refine lv_astore_n (lv' := [(3, .ref (g.ad o_6)), (0, .ref (g.ad 272)), (1, .int rn), (2, .int pl)]) hx hb dX8_queuedAt_16 rfl hl (by decide) rfl (fun ls hl => ?_)
      refine lv_aload_n hx hb dX8_queuedAt_17 rfl (lv_at hl 0 rfl) ?_
      refine lv_ifnonnull (tgt := 31) hx hb dX8_queuedAt_18 (by decide) ?_
      refine lv_aload_n hx hb dX8_queuedAt_31 rfl (lv_at hl 0 rfl) ?_
      refine r_get hx hb hts i_X2 hown hT hP (inP ho_6) (fs := (fsP g o_6)) (obP ho_6) rfl 0 (by decide) q112 (fun _ h9 => h9) rfl dX8_queuedAt_32 ?_
      exact W.iret (v := μ o_6 0) hx hb hr (fun t9 ht hW => ⟨⟨μ o_6 0, (), rfl, Option.some.inj hf, trivial⟩, hS.F ht⟩) hS.2.2 dX8_queuedAt_35
/-- "Sandglass" "blocked" "(IZ)I" -/
def f_X8_blocked (g : Fg) (μ : Mem) (sn : Int32) (ig : Int32) : Option (Int32) := bnO (f_X8_demandStore g μ sn) fun r_1 => csQ r_1 (none) (fun o_3 => grd (108 ≤ o_3 ∧ o_3 < 108 + g.sz 1 ∧ o_3 < 112) (bnO (f_X5_row g μ o_3 ig) fun r_4 => bnO (f_X7_countIn g μ r_4) fun r_6 => some r_6))
theorem hd_X8_blocked : yX8_blocked.cls = RX8 ∧ yX8_blocked.cls ≠ "java/lang/invoke/MethodHandle" ∧ yX8_blocked.cls ≠ "java/lang/invoke/VarHandle" ∧ (parseMethodDescriptor yX8_blocked.desc).map (fun d => d.parameters.length) = some 2 := by decide +kernel
set_option maxHeartbeats 4000000 in
set_option maxRecDepth 100000 in
theorem c_X8_blocked (l : Launch) {g : Geo} (hg : Good g) (hX : g.tz 1 = 1) (μ : Mem) (sn : Int32) (ig : Int32) {r : Int32} (hf : f_X8_blocked g.F μ sn ig = some r) : Met l yX8_blocked (ws_ yX8_blocked cX8_blocked 3 (some .int)) (rm_ 5 107 0 0) (Pz g [.ref (g.ad 272), .int sn, .int ig] (Rg g μ)) (va_Qi (fun (v : Int32) (_ : Unit) => v = r) (fun _ _ => True) (fun _ => False)) 0 0 (fun _ => False) := by
  refine Met.ofW (cc := cX8_blocked) (maxL := 3) (ret := (some .int)) (by decide) rfl ?_
  intro p e s m args below meth c s₁ B hml hv
  obtain ⟨rfl, hT, hP⟩ := hv
  have hx := B.exec
  have hb := B.bytes
  have hr := B.returns
  have hts : ∀ w ∈ lw_all, w.before _ s = true := fun w h => atoms_spec (ws := (ws_ yX8_blocked cX8_blocked 3 (some .int))) B.pre w (List.mem_cons_of_mem _ h)
  have hown : s.vm.findClass RX8 = some m.cls := findClass_of_methodNamed B.named
  have hlocks := B.notSynchronized
  have hS : va_S (fun _ => False) s.heap s.heap [] := va_S.rf
  have hl := lv_entry ([.ref (g.ad 272), .int sn, .int ig]) (n := 3) (Nat.le_of_ble_eq_true rfl)
  rw [lg_entry_eq]
  generalize (lg_sl ([.ref (g.ad 272), .int sn, .int ig]) ++ List.replicate (3 - (lg_sl ([.ref (g.ad 272), .int sn, .int ig])).length) Slot.unset).toArray = ls at hl ⊢
  have hl : lv_has ls 3 [(0, .ref (g.ad 272)), (1, .int sn), (2, .int ig)] := hl
  unfold f_X8_blocked at hf
  refine lv_aload_n hx hb dX8_blocked_0 rfl (lv_at hl 0 rfl) ?_
  refine r_get hx hb hts i_X8 hown hT hP (inX hX) (fs := (fun _ => [.ref (g.ad 112), .ref (g.ad 266), .ref (g.ad 0), .ref (g.ad 273)])) (obX g) rfl 2 (by decide) q227 (fun _ h9 => h9) rfl dX8_blocked_1 ?_
  refine lv_aload_n hx hb dX8_blocked_4 rfl (lv_at hl 0 rfl) ?_
  refine lv_iload_n hx hb dX8_blocked_5 rfl (lv_at hl 1 rfl) ?_
  obtain ⟨r_1, hc_2, hf⟩ := bnO_some hf
  refine va_callq (va_runV (As := [.int sn]) (rest := [.ref (g.ad 0)]) ⟨hx, hb, hml, hown, hts⟩ (c_X8_demandStore l hg hX μ sn  hc_2) (cwV 1 hts (gd_V q888 q890 q33 q37 q891) rfl rfl rfl hd_X8_demandStore ⟨Nat.le_of_ble_eq_true rfl, Nat.le_of_ble_eq_true rfl⟩) ⟨Pz.blind, r_recv hT hP (inX hX) (fs := (fun _ => [.ref (g.ad 112), .ref (g.ad 266), .ref (g.ad 0), .ref (g.ad 273)])) (obX g) rfl, fun U hU hW => ⟨rfl, Tb.warm hW hT, by rw [hU]; exact hP⟩⟩ rfl rfl hl.1 rfl (lv_room (Nat.le_of_ble_eq_true rfl)) dX8_blocked_6 ⟨Nat.le_of_ble_eq_true rfl, Nat.le_of_ble_eq_true rfl⟩) hS (fun q _ h => h.elim) (fun q h => h.elim) (fun v9 u9 t9 H locs ht9 hvm9 hw9 hB9 hz9 hk9 hS => ?_)
  have hP := Rg.keep hP (fun q h => hk9 q h id)
  rw [hw9]
  cases r_1 with
  | none =>
    dsimp only [csQ] at hf
    refine W.eq (g2 := F0 m 9 ls [.null, .ref (g.ad 0)]) rfl ?_
    refine lv_iload_n hx hb dX8_blocked_9 rfl (lv_at hl 2 rfl) ?_
    cases hf
  | some o_3 =>
    dsimp only [csQ] at hf
    obtain ⟨ho_3, hf⟩ := grd_some hf
    refine W.eq (g2 := F0 m 9 ls [.ref (g.ad o_3), .ref (g.ad 0)]) rfl ?_
    refine lv_iload_n hx hb dX8_blocked_9 rfl (lv_at hl 2 rfl) ?_
    obtain ⟨r_4, hc_5, hf⟩ := bnO_some hf
    refine va_calli (va_runV (As := [.int ig]) (rest := [.ref (g.ad 0)]) ⟨hx, hb, hml, hown, hts⟩ (c_X5_row l hg μ o_3 ig ho_3 hc_5) (cwV 1 hts (gd_V q898 q508 q509 q53 q510) rfl rfl rfl hd_X5_row ⟨Nat.le_of_ble_eq_true rfl, Nat.le_of_ble_eq_true rfl⟩) ⟨Pz.blind, r_recv hT hP (inS ho_3) (fs := fsS) (obS ho_3) rfl, fun U hU hW => ⟨rfl, Tb.warm hW hT, by rw [hU]; exact hP⟩⟩ rfl rfl hl.1 rfl (lv_room (Nat.le_of_ble_eq_true rfl)) dX8_blocked_10 ⟨Nat.le_of_ble_eq_true rfl, Nat.le_of_ble_eq_true rfl⟩) hS (fun q _ h => h.elim) (fun q h => h.elim) (fun v9 u9 t9 H locs ht9 hvm9 hw9 hB9 hz9 hk9 hS => ?_)
    have hP := Rg.keep hP (fun q h => hk9 q h id)
    rw [hw9]
    obtain ⟨r_6, hc_7, hf⟩ := bnO_some hf
    refine va_calli (va_runV (As := [.int r_4]) (rest := []) ⟨hx, hb, hml, hown, hts⟩ (c_X7_countIn l hg μ r_4  hc_7) (cwV 1 hts (gd_V q853 q407 q408 q41 q409) rfl rfl rfl hd_X7_countIn ⟨Nat.le_of_ble_eq_true rfl, Nat.le_of_ble_eq_true rfl⟩) ⟨Pz.blind, r_recv hT hP inW (fs := (fsW g)) (obW g) rfl, fun U hU hW => ⟨rfl, Tb.warm hW hT, by rw [hU]; exact hP⟩⟩ rfl rfl hl.1 rfl (lv_room (Nat.le_of_ble_eq_true rfl)) dX8_blocked_13 ⟨Nat.le_of_ble_eq_true rfl, Nat.le_of_ble_eq_true rfl⟩) hS (fun q _ h => h.elim) (fun q h => h.elim) (fun v9 u9 t9 H locs ht9 hvm9 hw9 hB9 hz9 hk9 hS => ?_)
    have hP := Rg.keep hP (fun q h => hk9 q h id)
    rw [hw9]
    exact W.iret (v := r_6) hx hb hr (fun t9 ht hW => ⟨⟨r_6, (), rfl, Option.some.inj hf, trivial⟩, hS.F ht⟩) hS.2.2 dX8_blocked_16
/-- "Sandglass" "isSignal" "(I)Z" -/
def f_X8_isSignal (g : Fg) (μ : Mem) (sg : Int32) : Option (Int32) := bnO (f_X8_isIn g μ sg 0 3) fun r_1 => grd (r_1 = 0 ∨ r_1 = 1) (some r_1)
theorem hd_X8_isSignal : yX8_isSignal.cls = RX8 ∧ yX8_isSignal.cls ≠ "java/lang/invoke/MethodHandle" ∧ yX8_isSignal.cls ≠ "java/lang/invoke/VarHandle" ∧ (parseMethodDescriptor yX8_isSignal.desc).map (fun d => d.parameters.length) = some 1 := by decide +kernel
set_option maxHeartbeats 4000000 in
set_option maxRecDepth 100000 in
theorem c_X8_isSignal (l : Launch) {g : Geo} (hg : Good g) (μ : Mem) (sg : Int32) {r : Int32} (hf : f_X8_isSignal g.F μ sg = some r) : Met l yX8_isSignal (ws_ yX8_isSignal cX8_isSignal 1 (some .boolean)) (rm_ 1 22 0 0) (Pz g [.int sg] (Rg g μ)) (va_Qi (fun (v : Int32) (_ : Unit) => v = r) (fun _ _ => True) (fun _ => False)) 0 0 (fun _ => False) := by
  refine Met.ofW (cc := cX8_isSignal) (maxL := 1) (ret := (some .boolean)) (by decide) rfl ?_
  intro p e s m args below meth c s₁ B hml hv
  obtain ⟨rfl, hT, hP⟩ := hv
  have hx := B.exec
  have hb := B.bytes
  have hr := B.returns
  have hts : ∀ w ∈ lw_all, w.before _ s = true := fun w h => atoms_spec (ws := (ws_ yX8_isSignal cX8_isSignal 1 (some .boolean))) B.pre w (List.mem_cons_of_mem _ h)
  have hown : s.vm.findClass RX8 = some m.cls := findClass_of_methodNamed B.named
  have hlocks := B.notSynchronized
  have hS : va_S (fun _ => False) s.heap s.heap [] := va_S.rf
  have hl := lv_entry ([.int sg]) (n := 1) (Nat.le_of_ble_eq_true rfl)
  rw [lg_entry_eq]
  generalize (lg_sl ([.int sg]) ++ List.replicate (1 - (lg_sl ([.int sg])).length) Slot.unset).toArray = ls at hl ⊢
  have hl : lv_has ls 1 [(0, .int sg)] := hl
  unfold f_X8_isSignal at hf
  refine lv_iload_n hx hb dX8_isSignal_0 rfl (lv_at hl 0 rfl) ?_
  refine lv_iconst (v := 0) hx hb dX8_isSignal_1 (by decide) ?_
  refine lv_iconst (v := 3) hx hb dX8_isSignal_2 (by decide) ?_
  obtain ⟨r_1, hc_2, hf⟩ := bnO_some hf
  refine va_calli (va_runS (As := [.int sg, .int 0, .int 3]) (rest := []) ⟨hx, hb, hml, hown, hts⟩ (c_X8_isIn l hg μ sg 0 3  hc_2) (va_cwS 3 hts (gd_S q242 q243 q37 q244) rfl rfl rfl hd_X8_isIn.2 ⟨Nat.le_of_ble_eq_true rfl, Nat.le_of_ble_eq_true rfl⟩) ⟨Pz.blind, fun U hU hW => ⟨rfl, Tb.warm hW hT, by rw [hU]; exact hP⟩⟩ rfl rfl hl.1 rfl (lv_room (Nat.le_of_ble_eq_true rfl)) dX8_isSignal_3 ⟨Nat.le_of_ble_eq_true rfl, Nat.le_of_ble_eq_true rfl⟩) hS (fun q _ h => h.elim) (fun q h => h.elim) (fun v9 u9 t9 H locs ht9 hvm9 hw9 hB9 hz9 hk9 hS => ?_)
  have hP := Rg.keep hP (fun q h => hk9 q h id)
  rw [hw9]
  obtain ⟨hb_3, hf⟩ := grd_some hf
  exact W.zret (v := r_1) (ty := .boolean) hx hb hr (nar01 hb_3) (fun t9 ht hW => ⟨⟨r_1, (), rfl, Option.some.inj hf, trivial⟩, hS.F ht⟩) hS.2.2 dX8_isSignal_6
/-- "Sandglass" "awaiting" "(I)I" -/
def f_X8_awaiting (g : Fg) (μ : Mem) (sg : Int32) : Option (Int32) := bnO (f_X8_isSignal g μ sg) fun r_1 => if r_1 = 0 then none else (bnO (f_X7_countIn g μ (14 + sg)) fun r_4 => some r_4)
theorem hd_X8_awaiting : yX8_awaiting.cls = RX8 ∧ yX8_awaiting.cls ≠ "java/lang/invoke/MethodHandle" ∧ yX8_awaiting.cls ≠ "java/lang/invoke/VarHandle" ∧ (parseMethodDescriptor yX8_awaiting.desc).map (fun d => d.parameters.length) = some 1 := by decide +kernel
set_option maxHeartbeats 4000000 in
set_option maxRecDepth 100000 in
theorem c_X8_awaiting (l : Launch) {g : Geo} (hg : Good g) (hX : g.tz 1 = 1) (μ : Mem) (sg : Int32) {r : Int32} (hf : f_X8_awaiting g.F μ sg = some r) : Met l yX8_awaiting (ws_ yX8_awaiting cX8_awaiting 2 (some .int)) (rm_ 2 42 0 0) (Pz g [.ref (g.ad 272), .int sg] (Rg g μ)) (va_Qi (fun (v : Int32) (_ : Unit) => v = r) (fun _ _ => True) (fun _ => False)) 0 0 (fun _ => False) := by
  refine Met.ofW (cc := cX8_awaiting) (maxL := 2) (ret := (some .int)) (by decide) rfl ?_
  intro p e s m args below meth c s₁ B hml hv
  obtain ⟨rfl, hT, hP⟩ := hv
  have hx := B.exec
  have hb := B.bytes
  have hr := B.returns
  have hts : ∀ w ∈ lw_all, w.before _ s = true := fun w h => atoms_spec (ws := (ws_ yX8_awaiting cX8_awaiting 2 (some .int))) B.pre w (List.mem_cons_of_mem _ h)
  have hown : s.vm.findClass RX8 = some m.cls := findClass_of_methodNamed B.named
  have hlocks := B.notSynchronized
  have hS : va_S (fun _ => False) s.heap s.heap [] := va_S.rf
  have hl := lv_entry ([.ref (g.ad 272), .int sg]) (n := 2) (Nat.le_of_ble_eq_true rfl)
  rw [lg_entry_eq]
  generalize (lg_sl ([.ref (g.ad 272), .int sg]) ++ List.replicate (2 - (lg_sl ([.ref (g.ad 272), .int sg])).length) Slot.unset).toArray = ls at hl ⊢
  have hl : lv_has ls 2 [(0, .ref (g.ad 272)), (1, .int sg)] := hl
  unfold f_X8_awaiting at hf
  refine lv_iload_n hx hb dX8_awaiting_0 rfl (lv_at hl 1 rfl) ?_
  obtain ⟨r_1, hc_2, hf⟩ := bnO_some hf
  refine va_calli (va_runS (As := [.int sg]) (rest := []) ⟨hx, hb, hml, hown, hts⟩ (c_X8_isSignal l hg μ sg  hc_2) (va_cwS 1 hts (gd_S q907 q908 q37 q909) rfl rfl rfl hd_X8_isSignal.2 ⟨Nat.le_of_ble_eq_true rfl, Nat.le_of_ble_eq_true rfl⟩) ⟨Pz.blind, fun U hU hW => ⟨rfl, Tb.warm hW hT, by rw [hU]; exact hP⟩⟩ rfl rfl hl.1 rfl (lv_room (Nat.le_of_ble_eq_true rfl)) dX8_awaiting_1 ⟨Nat.le_of_ble_eq_true rfl, Nat.le_of_ble_eq_true rfl⟩) hS (fun q _ h => h.elim) (fun q h => h.elim) (fun v9 u9 t9 H locs ht9 hvm9 hw9 hB9 hz9 hk9 hS => ?_)
  have hP := Rg.keep hP (fun q h => hk9 q h id)
  rw [hw9]
  refine lv_if_ne (tgt := 18) hx hb dX8_awaiting_4 (by decide) (fun c_3 => ?_) (fun c_3 => ?_)
  · have hf := (if_neg c_3).symm.trans hf
    refine lv_aload_n hx hb dX8_awaiting_18 rfl (lv_at hl 0 rfl) ?_
    refine r_get hx hb hts i_X8 hown hT hP (inX hX) (fs := (fun _ => [.ref (g.ad 112), .ref (g.ad 266), .ref (g.ad 0), .ref (g.ad 273)])) (obX g) rfl 2 (by decide) q227 (fun _ h9 => h9) rfl dX8_awaiting_19 ?_
    refine lv_bipush (v := 14) hx hb dX8_awaiting_22 (by decide) ?_
    refine lv_iload_n hx hb dX8_awaiting_24 rfl (lv_at hl 1 rfl) ?_
    refine lv_iadd hx hb dX8_awaiting_25 ?_
    obtain ⟨r_4, hc_5, hf⟩ := bnO_some hf
    refine va_calli (va_runV (As := [.int (14 + sg)]) (rest := []) ⟨hx, hb, hml, hown, hts⟩ (c_X7_countIn l hg μ (14 + sg)  hc_5) (cwV 1 hts (gd_V q853 q407 q408 q41 q409) rfl rfl rfl hd_X7_countIn ⟨Nat.le_of_ble_eq_true rfl, Nat.le_of_ble_eq_true rfl⟩) ⟨Pz.blind, r_recv hT hP inW (fs := (fsW g)) (obW g) rfl, fun U hU hW => ⟨rfl, Tb.warm hW hT, by rw [hU]; exact hP⟩⟩ rfl rfl hl.1 rfl (lv_room (Nat.le_of_ble_eq_true rfl)) dX8_awaiting_26 ⟨Nat.le_of_ble_eq_true rfl, Nat.le_of_ble_eq_true rfl⟩) hS (fun q _ h => h.elim) (fun q h => h.elim) (fun v9 u9 t9 H locs ht9 hvm9 hw9 hB9 hz9 hk9 hS => ?_)
    have hP := Rg.keep hP (fun q h => hk9 q h id)
    rw [hw9]
    exact W.iret (v := r_4) hx hb hr (fun t9 ht hW => ⟨⟨r_4, (), rfl, Option.some.inj hf, trivial⟩, hS.F ht⟩) hS.2.2 dX8_awaiting_29
  · have hf := (if_pos c_3).symm.trans hf
    cases hf
/-- "Sandglass" "mix" "(JI)J" -/
def f_X8_mix (g : Fg) (μ : Mem) (d : Int64) (x : Int32) : Option (Int64) := some ((d * 31) + x.toInt64)
theorem hd_X8_mix : yX8_mix.cls = RX8 ∧ yX8_mix.cls ≠ "java/lang/invoke/MethodHandle" ∧ yX8_mix.cls ≠ "java/lang/invoke/VarHandle" ∧ (parseMethodDescriptor yX8_mix.desc).map (fun d => d.parameters.length) = some 2 := by decide +kernel
set_option maxHeartbeats 4000000 in
set_option maxRecDepth 100000 in
theorem c_X8_mix (l : Launch) {g : Geo} (hg : Good g) (μ : Mem) (d : Int64) (x : Int32) {r : Int64} (hf : f_X8_mix g.F μ d x = some r) : Met l yX8_mix (ws_ yX8_mix cX8_mix 3 (some .long)) (rm_ 0 0 0 0) (Pz g [.long d, .int x] (Rg g μ)) (va_Ql (fun (v : Int64) (_ : Unit) => v = r) (fun _ _ => True) (fun _ => False)) 0 0 (fun _ => False) := by
  refine Met.ofW (cc := cX8_mix) (maxL := 3) (ret := (some .long)) (by decide) rfl ?_
  intro p e s m args below meth c s₁ B hml hv
  obtain ⟨rfl, hT, hP⟩ := hv
  have hx := B.exec
  have hb := B.bytes
  have hr := B.returns
  have hts : ∀ w ∈ lw_all, w.before _ s = true := fun w h => atoms_spec (ws := (ws_ yX8_mix cX8_mix 3 (some .long))) B.pre w (List.mem_cons_of_mem _ h)
  have hown : s.vm.findClass RX8 = some m.cls := findClass_of_methodNamed B.named
  have hlocks := B.notSynchronized
  have hS : va_S (fun _ => False) s.heap s.heap [] := va_S.rf
  have hl := lv_entry ([.long d, .int x]) (n := 3) (Nat.le_of_ble_eq_true rfl)
  rw [lg_entry_eq]
  generalize (lg_sl ([.long d, .int x]) ++ List.replicate (3 - (lg_sl ([.long d, .int x])).length) Slot.unset).toArray = ls at hl ⊢
  have hl : lv_has ls 3 [(0, .long d), (2, .int x)] := hl
  unfold f_X8_mix at hf
  refine lv_lload_n hx hb dX8_mix_0 rfl (lv_at hl 0 rfl) ?_
  refine lv_ldc2 hx hb hown (v := 31) (hts _ q812) dX8_mix_1 ?_
  refine lv_lmul hx hb dX8_mix_4 ?_
  refine lv_iload_n hx hb dX8_mix_5 rfl (lv_at hl 1 rfl) ?_
  refine lv_i2l (v := x.toInt64) hx hb dX8_mix_6 rfl ?_
  refine lv_ladd hx hb dX8_mix_7 ?_
  exact W.lret (v := (d * 31) + x.toInt64) hx hb hr (fun t9 ht hW => ⟨⟨(d * 31) + x.toInt64, (), rfl, Option.some.inj hf, trivial⟩, hS.F ht⟩) hS.2.2 dX8_mix_8
/-- "Sandglass" "mixProcesses" "(J)J" -/
def b_X8_mixProcesses_76 (g : Fg) (k9 : Mem → Int64 → Int32 → Option (Int64)) : Nat → Mem → Int64 → Int32 → Int32 → Option (Int64)
  | 0, _, _, _, _ => none
  | n + 1, μ, x1, x3, x4 => if (nI (g.sz 0)) ≤ x4 then (k9 μ x1 (x3 + 1)) else (bnO (f_X8_holds g μ x3 x4) fun r_27 => bnO (f_X8_mix g μ x1 r_27) fun r_29 => b_X8_mixProcesses_76 g k9 n μ r_29 x3 (x4 + 1))
def b_X8_mixProcesses_2 (g : Fg) : Nat → Mem → Int64 → Int32 → Option (Int64)
  | 0, _, _, _ => none
  | n + 1, μ, x1, x3 => if (μ 0 5) ≤ x3 then (some x1) else (bnO (f_X8_stateOf g μ x3) fun r_2 => bnO (f_X8_mix g μ x1 r_2) fun r_4 => bnO (f_X8_placeOf g μ x3) fun r_6 => bnO (f_X8_mix g μ r_4 r_6) fun r_8 => bnO (f_X8_rankOf g μ x3) fun r_10 => bnO (f_X8_mix g μ r_8 r_10) fun r_12 => bnO (f_X8_restOf g μ x3) fun r_14 => bnO (f_X8_mix g μ r_12 r_14) fun r_16 => bnO (f_X8_markOf g μ x3) fun r_18 => bnO (f_X8_mix g μ r_16 r_18) fun r_20 => bnO (f_X8_eventOf g μ x3) fun r_22 => bnO (f_X8_mix g μ r_20 r_22) fun r_24 => b_X8_mixProcesses_76 g (fun m9 y1 y3 => b_X8_mixProcesses_2 g n m9 y1 y3) fu μ r_24 x3 0)
def f_X8_mixProcesses (g : Fg) (μ : Mem) (d : Int64) : Option (Int64) := b_X8_mixProcesses_2 g fu μ d 0
theorem hd_X8_mixProcesses : yX8_mixProcesses.cls = RX8 ∧ yX8_mixProcesses.cls ≠ "java/lang/invoke/MethodHandle" ∧ yX8_mixProcesses.cls ≠ "java/lang/invoke/VarHandle" ∧ (parseMethodDescriptor yX8_mixProcesses.desc).map (fun d => d.parameters.length) = some 1 := by decide +kernel
set_option maxHeartbeats 4000000 in
set_option maxRecDepth 100000 in
theorem c_X8_mixProcesses (l : Launch) {g : Geo} (hg : Good g) (hX : g.tz 1 = 1) (μ : Mem) (d : Int64) {r : Int64} (hf : f_X8_mixProcesses g.F μ d = some r) : Met l yX8_mixProcesses (ws_ yX8_mixProcesses cX8_mixProcesses 5 (some .long)) (rm_ 6 131 0 0) (Pz g [.ref (g.ad 272), .long d] (Rg g μ)) (va_Ql (fun (v : Int64) (_ : Unit) => v = r) (fun _ _ => True) (fun _ => False)) 0 0 (fun _ => False) := by
  refine Met.ofW (cc := cX8_mixProcesses) (maxL := 5) (ret := (some .long)) (by decide) rfl ?_
  intro p e s m args below meth c s₁ B hml hv
  obtain ⟨rfl, hT, hP⟩ := hv
  have hx := B.exec
  have hb := B.bytes
  have hr := B.returns
  have hts : ∀ w ∈ lw_all, w.before _ s = true := fun w h => atoms_spec (ws := (ws_ yX8_mixProcesses cX8_mixProcesses 5 (some .long))) B.pre w (List.mem_cons_of_mem _ h)
  have hown : s.vm.findClass RX8 = some m.cls := findClass_of_methodNamed B.named
  have hlocks := B.notSynchronized
  have hS : va_S (fun _ => False) s.heap s.heap [] := va_S.rf
  have L76 : ∀ (k9 : Mem → Int64 → Int32 → Option (Int64)) (hkont : ∀ (μ : Mem) (x1 : Int64) (x3 : Int32) (H : Heap) (locs : List Loc) (ls : Array Slot), Rg g μ H → va_S (fun _ => False) s.heap H locs → lv_has ls 5 [(0, .ref (g.ad 272)), (1, .long x1), (3, .int x3)] → k9 μ x1 x3 = some r → W p l e (headSpec (ws_ yX8_mixProcesses cX8_mixProcesses 5 (some .long)) (rm_ 6 131 0 0)).room s m ([.ref (g.ad 272), .long d] : List Value).toArray below meth c H locs 0 0 (MQ below (va_Ql (fun (v : Int64) (_ : Unit) => v = r) (fun _ _ => True) (fun _ => False)) ([.ref (g.ad 272), .long d] : List Value).toArray s 0 0 (fun _ => False)) (F0 m 2 ls [])) (n : Nat) (μ : Mem) (x1 : Int64) (x3 : Int32) (x4 : Int32) (H : Heap) (locs : List Loc) (ls : Array Slot), Rg g μ H → va_S (fun _ => False) s.heap H locs → lv_has ls 5 [(0, .ref (g.ad 272)), (1, .long x1), (3, .int x3), (4, .int x4)] → b_X8_mixProcesses_76 g.F k9 n μ x1 x3 x4 = some r → W p l e (headSpec (ws_ yX8_mixProcesses cX8_mixProcesses 5 (some .long)) (rm_ 6 131 0 0)).room s m ([.ref (g.ad 272), .long d] : List Value).toArray below meth c H locs 0 0 (MQ below (va_Ql (fun (v : Int64) (_ : Unit) => v = r) (fun _ _ => True) (fun _ => False)) ([.ref (g.ad 272), .long d] : List Value).toArray s 0 0 (fun _ => False)) (F0 m 76 ls []) := by
    intro k9 hkont n
    induction n with
    | zero => intro μ x1 x3 x4 H locs ls hP hS hl  hf; cases hf
    | succ n ih =>
      intro μ x1 x3 x4 H locs ls hP hS hl  hf
      rw [b_X8_mixProcesses_76] at hf
      refine lv_iload hx hb dX8_mixProcesses_76 (lv_at hl 3 rfl) ?_
      refine lv_aload_n hx hb dX8_mixProcesses_78 rfl (lv_at hl 0 rfl) ?_
      refine r_get hx hb hts i_X8 hown hT hP (inX hX) (fs := (fun _ => [.ref (g.ad 112), .ref (g.ad 266), .ref (g.ad 0), .ref (g.ad 273)])) (obX g) rfl 2 (by decide) q227 (fun _ h9 => h9) rfl dX8_mixProcesses_79 ?_
      refine r_get hx hb hts i_X7 hown hT hP inW (fs := (fsW g)) (obW g) rfl 2 (by decide) q191 (fun _ h9 => h9) rfl dX8_mixProcesses_82 ?_
      refine va_calli (va_runV (As := []) (rest := [.int x4]) ⟨hx, hb, hml, hown, hts⟩ (c_Jx4a65c_size_8abf5 l hg μ in98 (szR g)) (cwV 0 hts (gd_V q843 q326 q327 q40 q328) rfl rfl rfl hd_Jx4a65c_size_8abf5 ⟨Nat.le_of_ble_eq_true rfl, Nat.le_of_ble_eq_true rfl⟩) ⟨Pz.blind, r_recv hT hP in98 (fs := fun _ => [.int (nI (g.sz 0)), .ref (g.ad 99), .int (nI (g.sz 0))]) (szR g) rfl, fun U hU hW => ⟨rfl, Tb.warm hW hT, by rw [hU]; exact hP⟩⟩ rfl rfl hl.1 rfl (lv_room (Nat.le_of_ble_eq_true rfl)) dX8_mixProcesses_85 ⟨Nat.le_of_ble_eq_true rfl, Nat.le_of_ble_eq_true rfl⟩) hS (fun q _ h => h.elim) (fun q h => h.elim) (fun v9 u9 t9 H locs ht9 hvm9 hw9 hB9 hz9 hk9 hS => ?_)
      have hP := Rg.keep hP (fun q h => hk9 q h id)
      rw [hw9]
      refine lv_icmp_ge (tgt := 109) hx hb dX8_mixProcesses_88 (by decide) (fun c_26 => ?_) (fun c_26 => ?_)
      · have hf := (if_pos c_26).symm.trans hf
        refine lv_iinc (v := x3 + 1) (lv' := [(3, .int (x3 + 1)), (0, .ref (g.ad 272)), (1, .long x1), (4, .int x4)]) hx hb dX8_mixProcesses_109 hl (k := 2) rfl rfl (by decide) rfl (fun ls hl => ?_)
        refine lv_goto (tgt := 2) hx hb dX8_mixProcesses_112 (by decide) ?_
        exact hkont μ x1 (x3 + 1) _ _ _ hP hS (lv_sub hl [1, 2, 0] rfl)  hf
      · have hf := (if_neg c_26).symm.trans hf
        refine lv_lload_n hx hb dX8_mixProcesses_91 rfl (lv_at hl 1 rfl) ?_
        refine lv_aload_n hx hb dX8_mixProcesses_92 rfl (lv_at hl 0 rfl) ?_
        refine lv_iload_n hx hb dX8_mixProcesses_93 rfl (lv_at hl 2 rfl) ?_
        refine lv_iload hx hb dX8_mixProcesses_94 (lv_at hl 3 rfl) ?_
        obtain ⟨r_27, hc_28, hf⟩ := bnO_some hf
        refine va_calli (va_runV (As := [.int x3, .int x4]) (rest := [.long x1]) ⟨hx, hb, hml, hown, hts⟩ (c_X8_holds l hg hX μ x3 x4  hc_28) (cwV 2 hts (gd_V q844 q706 q707 q37 q708) rfl rfl rfl hd_X8_holds ⟨Nat.le_of_ble_eq_true rfl, Nat.le_of_ble_eq_true rfl⟩) ⟨Pz.blind, r_recv hT hP (inX hX) (fs := (fun _ => [.ref (g.ad 112), .ref (g.ad 266), .ref (g.ad 0), .ref (g.ad 273)])) (obX g) rfl, fun U hU hW => ⟨rfl, Tb.warm hW hT, by rw [hU]; exact hP⟩⟩ rfl rfl hl.1 rfl (lv_room (Nat.le_of_ble_eq_true rfl)) dX8_mixProcesses_96 ⟨Nat.le_of_ble_eq_true rfl, Nat.le_of_ble_eq_true rfl⟩) hS (fun q _ h => h.elim) (fun q h => h.elim) (fun v9 u9 t9 H locs ht9 hvm9 hw9 hB9 hz9 hk9 hS => ?_)
        have hP := Rg.keep hP (fun q h => hk9 q h id)
        rw [hw9]
        obtain ⟨r_29, hc_30, hf⟩ := bnO_some hf
        refine va_calll (va_runS (As := [.long x1, .int r_27]) (rest := []) ⟨hx, hb, hml, hown, hts⟩ (c_X8_mix l hg μ x1 r_27  hc_30) (va_cwS 2 hts (gd_S q809 q810 q37 q811) rfl rfl rfl hd_X8_mix.2 ⟨Nat.le_of_ble_eq_true rfl, Nat.le_of_ble_eq_true rfl⟩) ⟨Pz.blind, fun U hU hW => ⟨rfl, Tb.warm hW hT, by rw [hU]; exact hP⟩⟩ rfl rfl hl.1 rfl (lv_room (Nat.le_of_ble_eq_true rfl)) dX8_mixProcesses_99 ⟨Nat.le_of_ble_eq_true rfl, Nat.le_of_ble_eq_true rfl⟩) hS (fun q _ h => h.elim) (fun q h => h.elim) (fun v9 u9 t9 H locs ht9 hvm9 hw9 hB9 hz9 hk9 hS => ?_)
        have hP := Rg.keep hP (fun q h => hk9 q h id)
        rw [hw9]
        refine lv_lstore_n (lv' := [(1, .long r_29), (0, .ref (g.ad 272)), (3, .int x3), (4, .int x4)]) hx hb dX8_mixProcesses_102 rfl hl (by decide) rfl (fun ls hl => ?_)
        refine lv_iinc (v := x4 + 1) (lv' := [(4, .int (x4 + 1)), (1, .long r_29), (0, .ref (g.ad 272)), (3, .int x3)]) hx hb dX8_mixProcesses_103 hl (k := 3) rfl rfl (by decide) rfl (fun ls hl => ?_)
        refine lv_goto (tgt := 76) hx hb dX8_mixProcesses_106 (by decide) ?_
        exact ih μ r_29 x3 (x4 + 1) _ _ _ hP hS (lv_sub hl [2, 1, 3, 0] rfl)  hf
  have L2 : ∀ (n : Nat) (μ : Mem) (x1 : Int64) (x3 : Int32) (H : Heap) (locs : List Loc) (ls : Array Slot), Rg g μ H → va_S (fun _ => False) s.heap H locs → lv_has ls 5 [(0, .ref (g.ad 272)), (1, .long x1), (3, .int x3)] → b_X8_mixProcesses_2 g.F n μ x1 x3 = some r → W p l e (headSpec (ws_ yX8_mixProcesses cX8_mixProcesses 5 (some .long)) (rm_ 6 131 0 0)).room s m ([.ref (g.ad 272), .long d] : List Value).toArray below meth c H locs 0 0 (MQ below (va_Ql (fun (v : Int64) (_ : Unit) => v = r) (fun _ _ => True) (fun _ => False)) ([.ref (g.ad 272), .long d] : List Value).toArray s 0 0 (fun _ => False)) (F0 m 2 ls []) := by
    intro n
    induction n with
    | zero => intro μ x1 x3 H locs ls hP hS hl  hf; cases hf
    | succ n ih =>
      intro μ x1 x3 H locs ls hP hS hl  hf
      rw [b_X8_mixProcesses_2] at hf
      refine lv_iload_n hx hb dX8_mixProcesses_2 rfl (lv_at hl 2 rfl) ?_
      refine lv_aload_n hx hb dX8_mixProcesses_3 rfl (lv_at hl 0 rfl) ?_
      refine r_get hx hb hts i_X8 hown hT hP (inX hX) (fs := (fun _ => [.ref (g.ad 112), .ref (g.ad 266), .ref (g.ad 0), .ref (g.ad 273)])) (obX g) rfl 2 (by decide) q227 (fun _ h9 => h9) rfl dX8_mixProcesses_4 ?_
      refine r_get hx hb hts i_X7 hown hT hP inW (fs := (fsW g)) (obW g) rfl 5 (by decide) q196 (fun _ h9 => h9) rfl dX8_mixProcesses_7 ?_
      refine lv_icmp_ge (tgt := 115) hx hb dX8_mixProcesses_10 (by decide) (fun c_1 => ?_) (fun c_1 => ?_)
      · have hf := (if_pos c_1).symm.trans hf
        refine lv_lload_n hx hb dX8_mixProcesses_115 rfl (lv_at hl 1 rfl) ?_
        exact W.lret (v := x1) hx hb hr (fun t9 ht hW => ⟨⟨x1, (), rfl, Option.some.inj hf, trivial⟩, hS.F ht⟩) hS.2.2 dX8_mixProcesses_116
      · have hf := (if_neg c_1).symm.trans hf
        refine lv_lload_n hx hb dX8_mixProcesses_13 rfl (lv_at hl 1 rfl) ?_
        refine lv_aload_n hx hb dX8_mixProcesses_14 rfl (lv_at hl 0 rfl) ?_
        refine lv_iload_n hx hb dX8_mixProcesses_15 rfl (lv_at hl 2 rfl) ?_
        obtain ⟨r_2, hc_3, hf⟩ := bnO_some hf
        refine va_calli (va_runV (As := [.int x3]) (rest := [.long x1]) ⟨hx, hb, hml, hown, hts⟩ (c_X8_stateOf l hg hX μ x3  hc_3) (cwV 1 hts (gd_V q825 q698 q699 q37 q700) rfl rfl rfl hd_X8_stateOf ⟨Nat.le_of_ble_eq_true rfl, Nat.le_of_ble_eq_true rfl⟩) ⟨Pz.blind, r_recv hT hP (inX hX) (fs := (fun _ => [.ref (g.ad 112), .ref (g.ad 266), .ref (g.ad 0), .ref (g.ad 273)])) (obX g) rfl, fun U hU hW => ⟨rfl, Tb.warm hW hT, by rw [hU]; exact hP⟩⟩ rfl rfl hl.1 rfl (lv_room (Nat.le_of_ble_eq_true rfl)) dX8_mixProcesses_16 ⟨Nat.le_of_ble_eq_true rfl, Nat.le_of_ble_eq_true rfl⟩) hS (fun q _ h => h.elim) (fun q h => h.elim) (fun v9 u9 t9 H locs ht9 hvm9 hw9 hB9 hz9 hk9 hS => ?_)
        have hP := Rg.keep hP (fun q h => hk9 q h id)
        rw [hw9]
        obtain ⟨r_4, hc_5, hf⟩ := bnO_some hf
        refine va_calll (va_runS (As := [.long x1, .int r_2]) (rest := []) ⟨hx, hb, hml, hown, hts⟩ (c_X8_mix l hg μ x1 r_2  hc_5) (va_cwS 2 hts (gd_S q809 q810 q37 q811) rfl rfl rfl hd_X8_mix.2 ⟨Nat.le_of_ble_eq_true rfl, Nat.le_of_ble_eq_true rfl⟩) ⟨Pz.blind, fun U hU hW => ⟨rfl, Tb.warm hW hT, by rw [hU]; exact hP⟩⟩ rfl rfl hl.1 rfl (lv_room (Nat.le_of_ble_eq_true rfl)) dX8_mixProcesses_19 ⟨Nat.le_of_ble_eq_true rfl, Nat.le_of_ble_eq_true rfl⟩) hS (fun q _ h => h.elim) (fun q h => h.elim) (fun v9 u9 t9 H locs ht9 hvm9 hw9 hB9 hz9 hk9 hS => ?_)
        have hP := Rg.keep hP (fun q h => hk9 q h id)
        rw [hw9]
        refine lv_lstore_n (lv' := [(1, .long r_4), (0, .ref (g.ad 272)), (3, .int x3)]) hx hb dX8_mixProcesses_22 rfl hl (by decide) rfl (fun ls hl => ?_)
        refine lv_lload_n hx hb dX8_mixProcesses_23 rfl (lv_at hl 0 rfl) ?_
        refine lv_aload_n hx hb dX8_mixProcesses_24 rfl (lv_at hl 1 rfl) ?_
        refine lv_iload_n hx hb dX8_mixProcesses_25 rfl (lv_at hl 2 rfl) ?_
        obtain ⟨r_6, hc_7, hf⟩ := bnO_some hf
        refine va_calli (va_runV (As := [.int x3]) (rest := [.long r_4]) ⟨hx, hb, hml, hown, hts⟩ (c_X8_placeOf l hg hX μ x3  hc_7) (cwV 1 hts (gd_V q826 q827 q828 q37 q829) rfl rfl rfl hd_X8_placeOf ⟨Nat.le_of_ble_eq_true rfl, Nat.le_of_ble_eq_true rfl⟩) ⟨Pz.blind, r_recv hT hP (inX hX) (fs := (fun _ => [.ref (g.ad 112), .ref (g.ad 266), .ref (g.ad 0), .ref (g.ad 273)])) (obX g) rfl, fun U hU hW => ⟨rfl, Tb.warm hW hT, by rw [hU]; exact hP⟩⟩ rfl rfl hl.1 rfl (lv_room (Nat.le_of_ble_eq_true rfl)) dX8_mixProcesses_26 ⟨Nat.le_of_ble_eq_true rfl, Nat.le_of_ble_eq_true rfl⟩) hS (fun q _ h => h.elim) (fun q h => h.elim) (fun v9 u9 t9 H locs ht9 hvm9 hw9 hB9 hz9 hk9 hS => ?_)
        have hP := Rg.keep hP (fun q h => hk9 q h id)
        rw [hw9]
        obtain ⟨r_8, hc_9, hf⟩ := bnO_some hf
        refine va_calll (va_runS (As := [.long r_4, .int r_6]) (rest := []) ⟨hx, hb, hml, hown, hts⟩ (c_X8_mix l hg μ r_4 r_6  hc_9) (va_cwS 2 hts (gd_S q809 q810 q37 q811) rfl rfl rfl hd_X8_mix.2 ⟨Nat.le_of_ble_eq_true rfl, Nat.le_of_ble_eq_true rfl⟩) ⟨Pz.blind, fun U hU hW => ⟨rfl, Tb.warm hW hT, by rw [hU]; exact hP⟩⟩ rfl rfl hl.1 rfl (lv_room (Nat.le_of_ble_eq_true rfl)) dX8_mixProcesses_29 ⟨Nat.le_of_ble_eq_true rfl, Nat.le_of_ble_eq_true rfl⟩) hS (fun q _ h => h.elim) (fun q h => h.elim) (fun v9 u9 t9 H locs ht9 hvm9 hw9 hB9 hz9 hk9 hS => ?_)
        have hP := Rg.keep hP (fun q h => hk9 q h id)
        rw [hw9]
        refine lv_lstore_n (lv' := [(1, .long r_8), (0, .ref (g.ad 272)), (3, .int x3)]) hx hb dX8_mixProcesses_32 rfl hl (by decide) rfl (fun ls hl => ?_)
        refine lv_lload_n hx hb dX8_mixProcesses_33 rfl (lv_at hl 0 rfl) ?_
        refine lv_aload_n hx hb dX8_mixProcesses_34 rfl (lv_at hl 1 rfl) ?_
        refine lv_iload_n hx hb dX8_mixProcesses_35 rfl (lv_at hl 2 rfl) ?_
        obtain ⟨r_10, hc_11, hf⟩ := bnO_some hf
        refine va_calli (va_runV (As := [.int x3]) (rest := [.long r_8]) ⟨hx, hb, hml, hown, hts⟩ (c_X8_rankOf l hg hX μ x3  hc_11) (cwV 1 hts (gd_V q830 q831 q832 q37 q833) rfl rfl rfl hd_X8_rankOf ⟨Nat.le_of_ble_eq_true rfl, Nat.le_of_ble_eq_true rfl⟩) ⟨Pz.blind, r_recv hT hP (inX hX) (fs := (fun _ => [.ref (g.ad 112), .ref (g.ad 266), .ref (g.ad 0), .ref (g.ad 273)])) (obX g) rfl, fun U hU hW => ⟨rfl, Tb.warm hW hT, by rw [hU]; exact hP⟩⟩ rfl rfl hl.1 rfl (lv_room (Nat.le_of_ble_eq_true rfl)) dX8_mixProcesses_36 ⟨Nat.le_of_ble_eq_true rfl, Nat.le_of_ble_eq_true rfl⟩) hS (fun q _ h => h.elim) (fun q h => h.elim) (fun v9 u9 t9 H locs ht9 hvm9 hw9 hB9 hz9 hk9 hS => ?_)
        have hP := Rg.keep hP (fun q h => hk9 q h id)
        rw [hw9]
        obtain ⟨r_12, hc_13, hf⟩ := bnO_some hf
        refine va_calll (va_runS (As := [.long r_8, .int r_10]) (rest := []) ⟨hx, hb, hml, hown, hts⟩ (c_X8_mix l hg μ r_8 r_10  hc_13) (va_cwS 2 hts (gd_S q809 q810 q37 q811) rfl rfl rfl hd_X8_mix.2 ⟨Nat.le_of_ble_eq_true rfl, Nat.le_of_ble_eq_true rfl⟩) ⟨Pz.blind, fun U hU hW => ⟨rfl, Tb.warm hW hT, by rw [hU]; exact hP⟩⟩ rfl rfl hl.1 rfl (lv_room (Nat.le_of_ble_eq_true rfl)) dX8_mixProcesses_39 ⟨Nat.le_of_ble_eq_true rfl, Nat.le_of_ble_eq_true rfl⟩) hS (fun q _ h => h.elim) (fun q h => h.elim) (fun v9 u9 t9 H locs ht9 hvm9 hw9 hB9 hz9 hk9 hS => ?_)
        have hP := Rg.keep hP (fun q h => hk9 q h id)
        rw [hw9]
        refine lv_lstore_n (lv' := [(1, .long r_12), (0, .ref (g.ad 272)), (3, .int x3)]) hx hb dX8_mixProcesses_42 rfl hl (by decide) rfl (fun ls hl => ?_)
        refine lv_lload_n hx hb dX8_mixProcesses_43 rfl (lv_at hl 0 rfl) ?_
        refine lv_aload_n hx hb dX8_mixProcesses_44 rfl (lv_at hl 1 rfl) ?_
        refine lv_iload_n hx hb dX8_mixProcesses_45 rfl (lv_at hl 2 rfl) ?_
        obtain ⟨r_14, hc_15, hf⟩ := bnO_some hf
        refine va_calli (va_runV (As := [.int x3]) (rest := [.long r_12]) ⟨hx, hb, hml, hown, hts⟩ (c_X8_restOf l hg hX μ x3  hc_15) (cwV 1 hts (gd_V q834 q835 q836 q37 q837) rfl rfl rfl hd_X8_restOf ⟨Nat.le_of_ble_eq_true rfl, Nat.le_of_ble_eq_true rfl⟩) ⟨Pz.blind, r_recv hT hP (inX hX) (fs := (fun _ => [.ref (g.ad 112), .ref (g.ad 266), .ref (g.ad 0), .ref (g.ad 273)])) (obX g) rfl, fun U hU hW => ⟨rfl, Tb.warm hW hT, by rw [hU]; exact hP⟩⟩ rfl rfl hl.1 rfl (lv_room (Nat.le_of_ble_eq_true rfl)) dX8_mixProcesses_46 ⟨Nat.le_of_ble_eq_true rfl, Nat.le_of_ble_eq_true rfl⟩) hS (fun q _ h => h.elim) (fun q h => h.elim) (fun v9 u9 t9 H locs ht9 hvm9 hw9 hB9 hz9 hk9 hS => ?_)
        have hP := Rg.keep hP (fun q h => hk9 q h id)
        rw [hw9]
        obtain ⟨r_16, hc_17, hf⟩ := bnO_some hf
        refine va_calll (va_runS (As := [.long r_12, .int r_14]) (rest := []) ⟨hx, hb, hml, hown, hts⟩ (c_X8_mix l hg μ r_12 r_14  hc_17) (va_cwS 2 hts (gd_S q809 q810 q37 q811) rfl rfl rfl hd_X8_mix.2 ⟨Nat.le_of_ble_eq_true rfl, Nat.le_of_ble_eq_true rfl⟩) ⟨Pz.blind, fun U hU hW => ⟨rfl, Tb.warm hW hT, by rw [hU]; exact hP⟩⟩ rfl rfl hl.1 rfl (lv_room (Nat.le_of_ble_eq_true rfl)) dX8_mixProcesses_49 ⟨Nat.le_of_ble_eq_true rfl, Nat.le_of_ble_eq_true rfl⟩) hS (fun q _ h => h.elim) (fun q h => h.elim) (fun v9 u9 t9 H locs ht9 hvm9 hw9 hB9 hz9 hk9 hS => ?_)
        have hP := Rg.keep hP (fun q h => hk9 q h id)
        rw [hw9]
        refine lv_lstore_n (lv' := [(1, .long r_16), (0, .ref (g.ad 272)), (3, .int x3)]) hx hb dX8_mixProcesses_52 rfl hl (by decide) rfl (fun ls hl => ?_)
        refine lv_lload_n hx hb dX8_mixProcesses_53 rfl (lv_at hl 0 rfl) ?_
        refine lv_aload_n hx hb dX8_mixProcesses_54 rfl (lv_at hl 1 rfl) ?_
        refine lv_iload_n hx hb dX8_mixProcesses_55 rfl (lv_at hl 2 rfl) ?_
        obtain ⟨r_18, hc_19, hf⟩ := bnO_some hf
        refine va_calli (va_runV (As := [.int x3]) (rest := [.long r_16]) ⟨hx, hb, hml, hown, hts⟩ (c_X8_markOf l hg hX μ x3  hc_19) (cwV 1 hts (gd_V q838 q839 q840 q37 q841) rfl rfl rfl hd_X8_markOf ⟨Nat.le_of_ble_eq_true rfl, Nat.le_of_ble_eq_true rfl⟩) ⟨Pz.blind, r_recv hT hP (inX hX) (fs := (fun _ => [.ref (g.ad 112), .ref (g.ad 266), .ref (g.ad 0), .ref (g.ad 273)])) (obX g) rfl, fun U hU hW => ⟨rfl, Tb.warm hW hT, by rw [hU]; exact hP⟩⟩ rfl rfl hl.1 rfl (lv_room (Nat.le_of_ble_eq_true rfl)) dX8_mixProcesses_56 ⟨Nat.le_of_ble_eq_true rfl, Nat.le_of_ble_eq_true rfl⟩) hS (fun q _ h => h.elim) (fun q h => h.elim) (fun v9 u9 t9 H locs ht9 hvm9 hw9 hB9 hz9 hk9 hS => ?_)
        have hP := Rg.keep hP (fun q h => hk9 q h id)
        rw [hw9]
        obtain ⟨r_20, hc_21, hf⟩ := bnO_some hf
        refine va_calll (va_runS (As := [.long r_16, .int r_18]) (rest := []) ⟨hx, hb, hml, hown, hts⟩ (c_X8_mix l hg μ r_16 r_18  hc_21) (va_cwS 2 hts (gd_S q809 q810 q37 q811) rfl rfl rfl hd_X8_mix.2 ⟨Nat.le_of_ble_eq_true rfl, Nat.le_of_ble_eq_true rfl⟩) ⟨Pz.blind, fun U hU hW => ⟨rfl, Tb.warm hW hT, by rw [hU]; exact hP⟩⟩ rfl rfl hl.1 rfl (lv_room (Nat.le_of_ble_eq_true rfl)) dX8_mixProcesses_59 ⟨Nat.le_of_ble_eq_true rfl, Nat.le_of_ble_eq_true rfl⟩) hS (fun q _ h => h.elim) (fun q h => h.elim) (fun v9 u9 t9 H locs ht9 hvm9 hw9 hB9 hz9 hk9 hS => ?_)
        have hP := Rg.keep hP (fun q h => hk9 q h id)
        rw [hw9]
        refine lv_lstore_n (lv' := [(1, .long r_20), (0, .ref (g.ad 272)), (3, .int x3)]) hx hb dX8_mixProcesses_62 rfl hl (by decide) rfl (fun ls hl => ?_)
        refine lv_lload_n hx hb dX8_mixProcesses_63 rfl (lv_at hl 0 rfl) ?_
        refine lv_aload_n hx hb dX8_mixProcesses_64 rfl (lv_at hl 1 rfl) ?_
        refine lv_iload_n hx hb dX8_mixProcesses_65 rfl (lv_at hl 2 rfl) ?_
        obtain ⟨r_22, hc_23, hf⟩ := bnO_some hf
        refine va_calli (va_runV (As := [.int x3]) (rest := [.long r_20]) ⟨hx, hb, hml, hown, hts⟩ (c_X8_eventOf l hg hX μ x3  hc_23) (cwV 1 hts (gd_V q842 q702 q703 q37 q704) rfl rfl rfl hd_X8_eventOf ⟨Nat.le_of_ble_eq_true rfl, Nat.le_of_ble_eq_true rfl⟩) ⟨Pz.blind, r_recv hT hP (inX hX) (fs := (fun _ => [.ref (g.ad 112), .ref (g.ad 266), .ref (g.ad 0), .ref (g.ad 273)])) (obX g) rfl, fun U hU hW => ⟨rfl, Tb.warm hW hT, by rw [hU]; exact hP⟩⟩ rfl rfl hl.1 rfl (lv_room (Nat.le_of_ble_eq_true rfl)) dX8_mixProcesses_66 ⟨Nat.le_of_ble_eq_true rfl, Nat.le_of_ble_eq_true rfl⟩) hS (fun q _ h => h.elim) (fun q h => h.elim) (fun v9 u9 t9 H locs ht9 hvm9 hw9 hB9 hz9 hk9 hS => ?_)
        have hP := Rg.keep hP (fun q h => hk9 q h id)
        rw [hw9]
        obtain ⟨r_24, hc_25, hf⟩ := bnO_some hf
        refine va_calll (va_runS (As := [.long r_20, .int r_22]) (rest := []) ⟨hx, hb, hml, hown, hts⟩ (c_X8_mix l hg μ r_20 r_22  hc_25) (va_cwS 2 hts (gd_S q809 q810 q37 q811) rfl rfl rfl hd_X8_mix.2 ⟨Nat.le_of_ble_eq_true rfl, Nat.le_of_ble_eq_true rfl⟩) ⟨Pz.blind, fun U hU hW => ⟨rfl, Tb.warm hW hT, by rw [hU]; exact hP⟩⟩ rfl rfl hl.1 rfl (lv_room (Nat.le_of_ble_eq_true rfl)) dX8_mixProcesses_69 ⟨Nat.le_of_ble_eq_true rfl, Nat.le_of_ble_eq_true rfl⟩) hS (fun q _ h => h.elim) (fun q h => h.elim) (fun v9 u9 t9 H locs ht9 hvm9 hw9 hB9 hz9 hk9 hS => ?_)
        have hP := Rg.keep hP (fun q h => hk9 q h id)
        rw [hw9]
        refine lv_lstore_n (lv' := [(1, .long r_24), (0, .ref (g.ad 272)), (3, .int x3)]) hx hb dX8_mixProcesses_72 rfl hl (by decide) rfl (fun ls hl => ?_)
        refine lv_iconst (v := 0) hx hb dX8_mixProcesses_73 (by decide) ?_
        refine lv_istore (lv' := [(4, .int 0), (1, .long r_24), (0, .ref (g.ad 272)), (3, .int x3)]) hx hb dX8_mixProcesses_74 hl (by decide) rfl (fun ls hl => ?_)
        exact L76 _ (fun m9 y1 y3 H locs ls hP hS hl  hf => ih m9 y1 y3 H locs ls hP hS hl  hf) fu μ r_24 x3 0 _ _ _ hP hS (lv_sub hl [2, 1, 3, 0] rfl)  hf
  have hl := lv_entry ([.ref (g.ad 272), .long d]) (n := 5) (Nat.le_of_ble_eq_true rfl)
  rw [lg_entry_eq]
  generalize (lg_sl ([.ref (g.ad 272), .long d]) ++ List.replicate (5 - (lg_sl ([.ref (g.ad 272), .long d])).length) Slot.unset).toArray = ls at hl ⊢
  have hl : lv_has ls 5 [(0, .ref (g.ad 272)), (1, .long d)] := hl
  unfold f_X8_mixProcesses at hf
  refine lv_iconst (v := 0) hx hb dX8_mixProcesses_0 (by decide) ?_
  refine lv_istore_n (lv' := [(3, .int 0), (0, .ref (g.ad 272)), (1, .long d)]) hx hb dX8_mixProcesses_1 rfl hl (by decide) rfl (fun ls hl => ?_)
  exact L2 fu μ d 0 _ _ _ hP hS (lv_sub hl [1, 2, 0] rfl)  hf
/-- "Sandglass" "mixResources" "(J)J" -/
def b_X8_mixResources_43 (g : Fg) (k9 : Mem → Int64 → Int32 → Option (Int64)) : Nat → Mem → Int64 → Int32 → Int32 → Int32 → Option (Int64)
  | 0, _, _, _, _, _ => none
  | n + 1, μ, x1, x3, x4, x5 => if x4 ≤ x5 then (bnO (f_X8_busy g μ x3) fun r_11 => bnO (f_X8_mix g μ x1 r_11) fun r_13 => bnO (f_X8_queueing g μ x3) fun r_15 => bnO (f_X8_mix g μ r_13 r_15) fun r_17 => bnO (f_X8_longest g μ x3) fun r_19 => bnO (f_X8_mix g μ r_17 r_19) fun r_21 => k9 μ r_21 (x3 + 1)) else (bnO (f_X8_queuedAt g μ x3 x5) fun r_23 => bnO (f_X8_mix g μ x1 r_23) fun r_25 => b_X8_mixResources_43 g k9 n μ r_25 x3 x4 (x5 + 1))
def b_X8_mixResources_2 (g : Fg) : Nat → Mem → Int64 → Int32 → Option (Int64)
  | 0, _, _, _ => none
  | n + 1, μ, x1, x3 => if (nI (g.sz 0)) ≤ x3 then (some x1) else (bnO (f_X8_queued g μ x3) fun r_2 => bnO (f_X8_free g μ x3) fun r_4 => bnO (f_X8_mix g μ x1 r_4) fun r_6 => bnO (f_X8_mix g μ r_6 r_2) fun r_8 => b_X8_mixResources_43 g (fun m9 y1 y3 => b_X8_mixResources_2 g n m9 y1 y3) fu μ r_8 x3 r_2 0)
def f_X8_mixResources (g : Fg) (μ : Mem) (d : Int64) : Option (Int64) := b_X8_mixResources_2 g fu μ d 0
theorem hd_X8_mixResources : yX8_mixResources.cls = RX8 ∧ yX8_mixResources.cls ≠ "java/lang/invoke/MethodHandle" ∧ yX8_mixResources.cls ≠ "java/lang/invoke/VarHandle" ∧ (parseMethodDescriptor yX8_mixResources.desc).map (fun d => d.parameters.length) = some 1 := by decide +kernel
set_option maxHeartbeats 4000000 in
set_option maxRecDepth 100000 in
theorem c_X8_mixResources (l : Launch) {g : Geo} (hg : Good g) (hX : g.tz 1 = 1) (μ : Mem) (d : Int64) {r : Int64} (hf : f_X8_mixResources g.F μ d = some r) : Met l yX8_mixResources (ws_ yX8_mixResources cX8_mixResources 6 (some .long)) (rm_ 6 130 0 0) (Pz g [.ref (g.ad 272), .long d] (Rg g μ)) (va_Ql (fun (v : Int64) (_ : Unit) => v = r) (fun _ _ => True) (fun _ => False)) 0 0 (fun _ => False) := by
  refine Met.ofW (cc := cX8_mixResources) (maxL := 6) (ret := (some .long)) (by decide) rfl ?_
  intro p e s m args below meth c s₁ B hml hv
  obtain ⟨rfl, hT, hP⟩ := hv
  have hx := B.exec
  have hb := B.bytes
  have hr := B.returns
  have hts : ∀ w ∈ lw_all, w.before _ s = true := fun w h => atoms_spec (ws := (ws_ yX8_mixResources cX8_mixResources 6 (some .long))) B.pre w (List.mem_cons_of_mem _ h)
  have hown : s.vm.findClass RX8 = some m.cls := findClass_of_methodNamed B.named
  have hlocks := B.notSynchronized
  have hS : va_S (fun _ => False) s.heap s.heap [] := va_S.rf
  have L43 : ∀ (k9 : Mem → Int64 → Int32 → Option (Int64)) (hkont : ∀ (μ : Mem) (x1 : Int64) (x3 : Int32) (H : Heap) (locs : List Loc) (ls : Array Slot), Rg g μ H → va_S (fun _ => False) s.heap H locs → lv_has ls 6 [(0, .ref (g.ad 272)), (1, .long x1), (3, .int x3)] → k9 μ x1 x3 = some r → W p l e (headSpec (ws_ yX8_mixResources cX8_mixResources 6 (some .long)) (rm_ 6 130 0 0)).room s m ([.ref (g.ad 272), .long d] : List Value).toArray below meth c H locs 0 0 (MQ below (va_Ql (fun (v : Int64) (_ : Unit) => v = r) (fun _ _ => True) (fun _ => False)) ([.ref (g.ad 272), .long d] : List Value).toArray s 0 0 (fun _ => False)) (F0 m 2 ls [])) (n : Nat) (μ : Mem) (x1 : Int64) (x3 : Int32) (x4 : Int32) (x5 : Int32) (H : Heap) (locs : List Loc) (ls : Array Slot), Rg g μ H → va_S (fun _ => False) s.heap H locs → lv_has ls 6 [(0, .ref (g.ad 272)), (1, .long x1), (3, .int x3), (4, .int x4), (5, .int x5)] → b_X8_mixResources_43 g.F k9 n μ x1 x3 x4 x5 = some r → W p l e (headSpec (ws_ yX8_mixResources cX8_mixResources 6 (some .long)) (rm_ 6 130 0 0)).room s m ([.ref (g.ad 272), .long d] : List Value).toArray below meth c H locs 0 0 (MQ below (va_Ql (fun (v : Int64) (_ : Unit) => v = r) (fun _ _ => True) (fun _ => False)) ([.ref (g.ad 272), .long d] : List Value).toArray s 0 0 (fun _ => False)) (F0 m 43 ls []) := by
    intro k9 hkont n
    induction n with
    | zero => intro μ x1 x3 x4 x5 H locs ls hP hS hl  hf; cases hf
    | succ n ih =>
      intro μ x1 x3 x4 x5 H locs ls hP hS hl  hf
      rw [b_X8_mixResources_43] at hf
      refine lv_iload hx hb dX8_mixResources_43 (lv_at hl 4 rfl) ?_
      refine lv_iload hx hb dX8_mixResources_45 (lv_at hl 3 rfl) ?_
      refine lv_icmp_ge (tgt := 68) hx hb dX8_mixResources_47 (by decide) (fun c_10 => ?_) (fun c_10 => ?_)
      · have hf := (if_pos c_10).symm.trans hf
        refine lv_lload_n hx hb dX8_mixResources_68 rfl (lv_at hl 1 rfl) ?_
        refine lv_aload_n hx hb dX8_mixResources_69 rfl (lv_at hl 0 rfl) ?_
        refine lv_iload_n hx hb dX8_mixResources_70 rfl (lv_at hl 2 rfl) ?_
        obtain ⟨r_11, hc_12, hf⟩ := bnO_some hf
        refine va_calli (va_runV (As := [.int x3]) (rest := [.long x1]) ⟨hx, hb, hml, hown, hts⟩ (c_X8_busy l hg hX μ x3  hc_12) (cwV 1 hts (gd_V q871 q717 q718 q37 q719) rfl rfl rfl hd_X8_busy ⟨Nat.le_of_ble_eq_true rfl, Nat.le_of_ble_eq_true rfl⟩) ⟨Pz.blind, r_recv hT hP (inX hX) (fs := (fun _ => [.ref (g.ad 112), .ref (g.ad 266), .ref (g.ad 0), .ref (g.ad 273)])) (obX g) rfl, fun U hU hW => ⟨rfl, Tb.warm hW hT, by rw [hU]; exact hP⟩⟩ rfl rfl hl.1 rfl (lv_room (Nat.le_of_ble_eq_true rfl)) dX8_mixResources_71 ⟨Nat.le_of_ble_eq_true rfl, Nat.le_of_ble_eq_true rfl⟩) hS (fun q _ h => h.elim) (fun q h => h.elim) (fun v9 u9 t9 H locs ht9 hvm9 hw9 hB9 hz9 hk9 hS => ?_)
        have hP := Rg.keep hP (fun q h => hk9 q h id)
        rw [hw9]
        obtain ⟨r_13, hc_14, hf⟩ := bnO_some hf
        refine va_calll (va_runS (As := [.long x1, .int r_11]) (rest := []) ⟨hx, hb, hml, hown, hts⟩ (c_X8_mix l hg μ x1 r_11  hc_14) (va_cwS 2 hts (gd_S q809 q810 q37 q811) rfl rfl rfl hd_X8_mix.2 ⟨Nat.le_of_ble_eq_true rfl, Nat.le_of_ble_eq_true rfl⟩) ⟨Pz.blind, fun U hU hW => ⟨rfl, Tb.warm hW hT, by rw [hU]; exact hP⟩⟩ rfl rfl hl.1 rfl (lv_room (Nat.le_of_ble_eq_true rfl)) dX8_mixResources_74 ⟨Nat.le_of_ble_eq_true rfl, Nat.le_of_ble_eq_true rfl⟩) hS (fun q _ h => h.elim) (fun q h => h.elim) (fun v9 u9 t9 H locs ht9 hvm9 hw9 hB9 hz9 hk9 hS => ?_)
        have hP := Rg.keep hP (fun q h => hk9 q h id)
        rw [hw9]
        refine lv_lstore_n (lv' := [(1, .long r_13), (0, .ref (g.ad 272)), (3, .int x3), (4, .int x4), (5, .int x5)]) hx hb dX8_mixResources_77 rfl hl (by decide) rfl (fun ls hl => ?_)
        refine lv_lload_n hx hb dX8_mixResources_78 rfl (lv_at hl 0 rfl) ?_
        refine lv_aload_n hx hb dX8_mixResources_79 rfl (lv_at hl 1 rfl) ?_
        refine lv_iload_n hx hb dX8_mixResources_80 rfl (lv_at hl 2 rfl) ?_
        obtain ⟨r_15, hc_16, hf⟩ := bnO_some hf
        refine va_calli (va_runV (As := [.int x3]) (rest := [.long r_13]) ⟨hx, hb, hml, hown, hts⟩ (c_X8_queueing l hg hX μ x3  hc_16) (cwV 1 hts (gd_V q872 q873 q874 q37 q875) rfl rfl rfl hd_X8_queueing ⟨Nat.le_of_ble_eq_true rfl, Nat.le_of_ble_eq_true rfl⟩) ⟨Pz.blind, r_recv hT hP (inX hX) (fs := (fun _ => [.ref (g.ad 112), .ref (g.ad 266), .ref (g.ad 0), .ref (g.ad 273)])) (obX g) rfl, fun U hU hW => ⟨rfl, Tb.warm hW hT, by rw [hU]; exact hP⟩⟩ rfl rfl hl.1 rfl (lv_room (Nat.le_of_ble_eq_true rfl)) dX8_mixResources_81 ⟨Nat.le_of_ble_eq_true rfl, Nat.le_of_ble_eq_true rfl⟩) hS (fun q _ h => h.elim) (fun q h => h.elim) (fun v9 u9 t9 H locs ht9 hvm9 hw9 hB9 hz9 hk9 hS => ?_)
        have hP := Rg.keep hP (fun q h => hk9 q h id)
        rw [hw9]
        obtain ⟨r_17, hc_18, hf⟩ := bnO_some hf
        refine va_calll (va_runS (As := [.long r_13, .int r_15]) (rest := []) ⟨hx, hb, hml, hown, hts⟩ (c_X8_mix l hg μ r_13 r_15  hc_18) (va_cwS 2 hts (gd_S q809 q810 q37 q811) rfl rfl rfl hd_X8_mix.2 ⟨Nat.le_of_ble_eq_true rfl, Nat.le_of_ble_eq_true rfl⟩) ⟨Pz.blind, fun U hU hW => ⟨rfl, Tb.warm hW hT, by rw [hU]; exact hP⟩⟩ rfl rfl hl.1 rfl (lv_room (Nat.le_of_ble_eq_true rfl)) dX8_mixResources_84 ⟨Nat.le_of_ble_eq_true rfl, Nat.le_of_ble_eq_true rfl⟩) hS (fun q _ h => h.elim) (fun q h => h.elim) (fun v9 u9 t9 H locs ht9 hvm9 hw9 hB9 hz9 hk9 hS => ?_)
        have hP := Rg.keep hP (fun q h => hk9 q h id)
        rw [hw9]
        refine lv_lstore_n (lv' := [(1, .long r_17), (0, .ref (g.ad 272)), (3, .int x3), (4, .int x4), (5, .int x5)]) hx hb dX8_mixResources_87 rfl hl (by decide) rfl (fun ls hl => ?_)
        refine lv_lload_n hx hb dX8_mixResources_88 rfl (lv_at hl 0 rfl) ?_
        refine lv_aload_n hx hb dX8_mixResources_89 rfl (lv_at hl 1 rfl) ?_
        refine lv_iload_n hx hb dX8_mixResources_90 rfl (lv_at hl 2 rfl) ?_
        obtain ⟨r_19, hc_20, hf⟩ := bnO_some hf
        refine va_calli (va_runV (As := [.int x3]) (rest := [.long r_17]) ⟨hx, hb, hml, hown, hts⟩ (c_X8_longest l hg hX μ x3  hc_20) (cwV 1 hts (gd_V q876 q877 q878 q37 q879) rfl rfl rfl hd_X8_longest ⟨Nat.le_of_ble_eq_true rfl, Nat.le_of_ble_eq_true rfl⟩) ⟨Pz.blind, r_recv hT hP (inX hX) (fs := (fun _ => [.ref (g.ad 112), .ref (g.ad 266), .ref (g.ad 0), .ref (g.ad 273)])) (obX g) rfl, fun U hU hW => ⟨rfl, Tb.warm hW hT, by rw [hU]; exact hP⟩⟩ rfl rfl hl.1 rfl (lv_room (Nat.le_of_ble_eq_true rfl)) dX8_mixResources_91 ⟨Nat.le_of_ble_eq_true rfl, Nat.le_of_ble_eq_true rfl⟩) hS (fun q _ h => h.elim) (fun q h => h.elim) (fun v9 u9 t9 H locs ht9 hvm9 hw9 hB9 hz9 hk9 hS => ?_)
        have hP := Rg.keep hP (fun q h => hk9 q h id)
        rw [hw9]
        obtain ⟨r_21, hc_22, hf⟩ := bnO_some hf
        refine va_calll (va_runS (As := [.long r_17, .int r_19]) (rest := []) ⟨hx, hb, hml, hown, hts⟩ (c_X8_mix l hg μ r_17 r_19  hc_22) (va_cwS 2 hts (gd_S q809 q810 q37 q811) rfl rfl rfl hd_X8_mix.2 ⟨Nat.le_of_ble_eq_true rfl, Nat.le_of_ble_eq_true rfl⟩) ⟨Pz.blind, fun U hU hW => ⟨rfl, Tb.warm hW hT, by rw [hU]; exact hP⟩⟩ rfl rfl hl.1 rfl (lv_room (Nat.le_of_ble_eq_true rfl)) dX8_mixResources_94 ⟨Nat.le_of_ble_eq_true rfl, Nat.le_of_ble_eq_true rfl⟩) hS (fun q _ h => h.elim) (fun q h => h.elim) (fun v9 u9 t9 H locs ht9 hvm9 hw9 hB9 hz9 hk9 hS => ?_)
        have hP := Rg.keep hP (fun q h => hk9 q h id)
        rw [hw9]
        refine lv_lstore_n (lv' := [(1, .long r_21), (0, .ref (g.ad 272)), (3, .int x3), (4, .int x4), (5, .int x5)]) hx hb dX8_mixResources_97 rfl hl (by decide) rfl (fun ls hl => ?_)
        refine lv_iinc (v := x3 + 1) (lv' := [(3, .int (x3 + 1)), (1, .long r_21), (0, .ref (g.ad 272)), (4, .int x4), (5, .int x5)]) hx hb dX8_mixResources_98 hl (k := 2) rfl rfl (by decide) rfl (fun ls hl => ?_)
        refine lv_goto (tgt := 2) hx hb dX8_mixResources_101 (by decide) ?_
        exact hkont μ r_21 (x3 + 1) _ _ _ hP hS (lv_sub hl [2, 1, 0] rfl)  hf
      · have hf := (if_neg c_10).symm.trans hf
        refine lv_lload_n hx hb dX8_mixResources_50 rfl (lv_at hl 1 rfl) ?_
        refine lv_aload_n hx hb dX8_mixResources_51 rfl (lv_at hl 0 rfl) ?_
        refine lv_iload_n hx hb dX8_mixResources_52 rfl (lv_at hl 2 rfl) ?_
        refine lv_iload hx hb dX8_mixResources_53 (lv_at hl 4 rfl) ?_
        obtain ⟨r_23, hc_24, hf⟩ := bnO_some hf
        refine va_calli (va_runV (As := [.int x3, .int x5]) (rest := [.long x1]) ⟨hx, hb, hml, hown, hts⟩ (c_X8_queuedAt l hg hX μ x3 x5  hc_24) (cwV 2 hts (gd_V q858 q859 q860 q37 q861) rfl rfl rfl hd_X8_queuedAt ⟨Nat.le_of_ble_eq_true rfl, Nat.le_of_ble_eq_true rfl⟩) ⟨Pz.blind, r_recv hT hP (inX hX) (fs := (fun _ => [.ref (g.ad 112), .ref (g.ad 266), .ref (g.ad 0), .ref (g.ad 273)])) (obX g) rfl, fun U hU hW => ⟨rfl, Tb.warm hW hT, by rw [hU]; exact hP⟩⟩ rfl rfl hl.1 rfl (lv_room (Nat.le_of_ble_eq_true rfl)) dX8_mixResources_55 ⟨Nat.le_of_ble_eq_true rfl, Nat.le_of_ble_eq_true rfl⟩) hS (fun q _ h => h.elim) (fun q h => h.elim) (fun v9 u9 t9 H locs ht9 hvm9 hw9 hB9 hz9 hk9 hS => ?_)
        have hP := Rg.keep hP (fun q h => hk9 q h id)
        rw [hw9]
        obtain ⟨r_25, hc_26, hf⟩ := bnO_some hf
        refine va_calll (va_runS (As := [.long x1, .int r_23]) (rest := []) ⟨hx, hb, hml, hown, hts⟩ (c_X8_mix l hg μ x1 r_23  hc_26) (va_cwS 2 hts (gd_S q809 q810 q37 q811) rfl rfl rfl hd_X8_mix.2 ⟨Nat.le_of_ble_eq_true rfl, Nat.le_of_ble_eq_true rfl⟩) ⟨Pz.blind, fun U hU hW => ⟨rfl, Tb.warm hW hT, by rw [hU]; exact hP⟩⟩ rfl rfl hl.1 rfl (lv_room (Nat.le_of_ble_eq_true rfl)) dX8_mixResources_58 ⟨Nat.le_of_ble_eq_true rfl, Nat.le_of_ble_eq_true rfl⟩) hS (fun q _ h => h.elim) (fun q h => h.elim) (fun v9 u9 t9 H locs ht9 hvm9 hw9 hB9 hz9 hk9 hS => ?_)
        have hP := Rg.keep hP (fun q h => hk9 q h id)
        rw [hw9]
        refine lv_lstore_n (lv' := [(1, .long r_25), (0, .ref (g.ad 272)), (3, .int x3), (4, .int x4), (5, .int x5)]) hx hb dX8_mixResources_61 rfl hl (by decide) rfl (fun ls hl => ?_)
        refine lv_iinc (v := x5 + 1) (lv' := [(5, .int (x5 + 1)), (1, .long r_25), (0, .ref (g.ad 272)), (3, .int x3), (4, .int x4)]) hx hb dX8_mixResources_62 hl (k := 4) rfl rfl (by decide) rfl (fun ls hl => ?_)
        refine lv_goto (tgt := 43) hx hb dX8_mixResources_65 (by decide) ?_
        exact ih μ r_25 x3 x4 (x5 + 1) _ _ _ hP hS (lv_sub hl [2, 1, 3, 4, 0] rfl)  hf
  have L2 : ∀ (n : Nat) (μ : Mem) (x1 : Int64) (x3 : Int32) (H : Heap) (locs : List Loc) (ls : Array Slot), Rg g μ H → va_S (fun _ => False) s.heap H locs → lv_has ls 6 [(0, .ref (g.ad 272)), (1, .long x1), (3, .int x3)] → b_X8_mixResources_2 g.F n μ x1 x3 = some r → W p l e (headSpec (ws_ yX8_mixResources cX8_mixResources 6 (some .long)) (rm_ 6 130 0 0)).room s m ([.ref (g.ad 272), .long d] : List Value).toArray below meth c H locs 0 0 (MQ below (va_Ql (fun (v : Int64) (_ : Unit) => v = r) (fun _ _ => True) (fun _ => False)) ([.ref (g.ad 272), .long d] : List Value).toArray s 0 0 (fun _ => False)) (F0 m 2 ls []) := by
    intro n
    induction n with
    | zero => intro μ x1 x3 H locs ls hP hS hl  hf; cases hf
    | succ n ih =>
      intro μ x1 x3 H locs ls hP hS hl  hf
      rw [b_X8_mixResources_2] at hf
      refine lv_iload_n hx hb dX8_mixResources_2 rfl (lv_at hl 2 rfl) ?_
      refine lv_aload_n hx hb dX8_mixResources_3 rfl (lv_at hl 0 rfl) ?_
      refine r_get hx hb hts i_X8 hown hT hP (inX hX) (fs := (fun _ => [.ref (g.ad 112), .ref (g.ad 266), .ref (g.ad 0), .ref (g.ad 273)])) (obX g) rfl 2 (by decide) q227 (fun _ h9 => h9) rfl dX8_mixResources_4 ?_
      refine r_get hx hb hts i_X7 hown hT hP inW (fs := (fsW g)) (obW g) rfl 2 (by decide) q191 (fun _ h9 => h9) rfl dX8_mixResources_7 ?_
      refine va_calli (va_runV (As := []) (rest := [.int x3]) ⟨hx, hb, hml, hown, hts⟩ (c_Jx4a65c_size_8abf5 l hg μ in98 (szR g)) (cwV 0 hts (gd_V q843 q326 q327 q40 q328) rfl rfl rfl hd_Jx4a65c_size_8abf5 ⟨Nat.le_of_ble_eq_true rfl, Nat.le_of_ble_eq_true rfl⟩) ⟨Pz.blind, r_recv hT hP in98 (fs := fun _ => [.int (nI (g.sz 0)), .ref (g.ad 99), .int (nI (g.sz 0))]) (szR g) rfl, fun U hU hW => ⟨rfl, Tb.warm hW hT, by rw [hU]; exact hP⟩⟩ rfl rfl hl.1 rfl (lv_room (Nat.le_of_ble_eq_true rfl)) dX8_mixResources_10 ⟨Nat.le_of_ble_eq_true rfl, Nat.le_of_ble_eq_true rfl⟩) hS (fun q _ h => h.elim) (fun q h => h.elim) (fun v9 u9 t9 H locs ht9 hvm9 hw9 hB9 hz9 hk9 hS => ?_)
      have hP := Rg.keep hP (fun q h => hk9 q h id)
      rw [hw9]
      refine lv_icmp_ge (tgt := 104) hx hb dX8_mixResources_13 (by decide) (fun c_1 => ?_) (fun c_1 => ?_)
      · have hf := (if_pos c_1).symm.trans hf
        refine lv_lload_n hx hb dX8_mixResources_104 rfl (lv_at hl 1 rfl) ?_
        exact W.lret (v := x1) hx hb hr (fun t9 ht hW => ⟨⟨x1, (), rfl, Option.some.inj hf, trivial⟩, hS.F ht⟩) hS.2.2 dX8_mixResources_105
      · have hf := (if_neg c_1).symm.trans hf
        refine lv_aload_n hx hb dX8_mixResources_16 rfl (lv_at hl 0 rfl) ?_
        refine lv_iload_n hx hb dX8_mixResources_17 rfl (lv_at hl 2 rfl) ?_
        obtain ⟨r_2, hc_3, hf⟩ := bnO_some hf
        refine va_calli (va_runV (As := [.int x3]) (rest := []) ⟨hx, hb, hml, hown, hts⟩ (c_X8_queued l hg hX μ x3  hc_3) (cwV 1 hts (gd_V q849 q850 q851 q37 q852) rfl rfl rfl hd_X8_queued ⟨Nat.le_of_ble_eq_true rfl, Nat.le_of_ble_eq_true rfl⟩) ⟨Pz.blind, r_recv hT hP (inX hX) (fs := (fun _ => [.ref (g.ad 112), .ref (g.ad 266), .ref (g.ad 0), .ref (g.ad 273)])) (obX g) rfl, fun U hU hW => ⟨rfl, Tb.warm hW hT, by rw [hU]; exact hP⟩⟩ rfl rfl hl.1 rfl (lv_room (Nat.le_of_ble_eq_true rfl)) dX8_mixResources_18 ⟨Nat.le_of_ble_eq_true rfl, Nat.le_of_ble_eq_true rfl⟩) hS (fun q _ h => h.elim) (fun q h => h.elim) (fun v9 u9 t9 H locs ht9 hvm9 hw9 hB9 hz9 hk9 hS => ?_)
        have hP := Rg.keep hP (fun q h => hk9 q h id)
        rw [hw9]
        refine lv_istore (lv' := [(4, .int r_2), (0, .ref (g.ad 272)), (1, .long x1), (3, .int x3)]) hx hb dX8_mixResources_21 hl (by decide) rfl (fun ls hl => ?_)
        refine lv_lload_n hx hb dX8_mixResources_23 rfl (lv_at hl 2 rfl) ?_
        refine lv_aload_n hx hb dX8_mixResources_24 rfl (lv_at hl 1 rfl) ?_
        refine lv_iload_n hx hb dX8_mixResources_25 rfl (lv_at hl 3 rfl) ?_
        obtain ⟨r_4, hc_5, hf⟩ := bnO_some hf
        refine va_calli (va_runV (As := [.int x3]) (rest := [.long x1]) ⟨hx, hb, hml, hown, hts⟩ (c_X8_free l hg hX μ x3  hc_5) (cwV 1 hts (gd_V q854 q855 q856 q37 q857) rfl rfl rfl hd_X8_free ⟨Nat.le_of_ble_eq_true rfl, Nat.le_of_ble_eq_true rfl⟩) ⟨Pz.blind, r_recv hT hP (inX hX) (fs := (fun _ => [.ref (g.ad 112), .ref (g.ad 266), .ref (g.ad 0), .ref (g.ad 273)])) (obX g) rfl, fun U hU hW => ⟨rfl, Tb.warm hW hT, by rw [hU]; exact hP⟩⟩ rfl rfl hl.1 rfl (lv_room (Nat.le_of_ble_eq_true rfl)) dX8_mixResources_26 ⟨Nat.le_of_ble_eq_true rfl, Nat.le_of_ble_eq_true rfl⟩) hS (fun q _ h => h.elim) (fun q h => h.elim) (fun v9 u9 t9 H locs ht9 hvm9 hw9 hB9 hz9 hk9 hS => ?_)
        have hP := Rg.keep hP (fun q h => hk9 q h id)
        rw [hw9]
        obtain ⟨r_6, hc_7, hf⟩ := bnO_some hf
        refine va_calll (va_runS (As := [.long x1, .int r_4]) (rest := []) ⟨hx, hb, hml, hown, hts⟩ (c_X8_mix l hg μ x1 r_4  hc_7) (va_cwS 2 hts (gd_S q809 q810 q37 q811) rfl rfl rfl hd_X8_mix.2 ⟨Nat.le_of_ble_eq_true rfl, Nat.le_of_ble_eq_true rfl⟩) ⟨Pz.blind, fun U hU hW => ⟨rfl, Tb.warm hW hT, by rw [hU]; exact hP⟩⟩ rfl rfl hl.1 rfl (lv_room (Nat.le_of_ble_eq_true rfl)) dX8_mixResources_29 ⟨Nat.le_of_ble_eq_true rfl, Nat.le_of_ble_eq_true rfl⟩) hS (fun q _ h => h.elim) (fun q h => h.elim) (fun v9 u9 t9 H locs ht9 hvm9 hw9 hB9 hz9 hk9 hS => ?_)
        have hP := Rg.keep hP (fun q h => hk9 q h id)
        rw [hw9]
        refine lv_lstore_n (lv' := [(1, .long r_6), (4, .int r_2), (0, .ref (g.ad 272)), (3, .int x3)]) hx hb dX8_mixResources_32 rfl hl (by decide) rfl (fun ls hl => ?_)
        refine lv_lload_n hx hb dX8_mixResources_33 rfl (lv_at hl 0 rfl) ?_
        refine lv_iload hx hb dX8_mixResources_34 (lv_at hl 1 rfl) ?_
        obtain ⟨r_8, hc_9, hf⟩ := bnO_some hf
        refine va_calll (va_runS (As := [.long r_6, .int r_2]) (rest := []) ⟨hx, hb, hml, hown, hts⟩ (c_X8_mix l hg μ r_6 r_2  hc_9) (va_cwS 2 hts (gd_S q809 q810 q37 q811) rfl rfl rfl hd_X8_mix.2 ⟨Nat.le_of_ble_eq_true rfl, Nat.le_of_ble_eq_true rfl⟩) ⟨Pz.blind, fun U hU hW => ⟨rfl, Tb.warm hW hT, by rw [hU]; exact hP⟩⟩ rfl rfl hl.1 rfl (lv_room (Nat.le_of_ble_eq_true rfl)) dX8_mixResources_36 ⟨Nat.le_of_ble_eq_true rfl, Nat.le_of_ble_eq_true rfl⟩) hS (fun q _ h => h.elim) (fun q h => h.elim) (fun v9 u9 t9 H locs ht9 hvm9 hw9 hB9 hz9 hk9 hS => ?_)
        have hP := Rg.keep hP (fun q h => hk9 q h id)
        rw [hw9]
        refine lv_lstore_n (lv' := [(1, .long r_8), (4, .int r_2), (0, .ref (g.ad 272)), (3, .int x3)]) hx hb dX8_mixResources_39 rfl hl (by decide) rfl (fun ls hl => ?_)
        refine lv_iconst (v := 0) hx hb dX8_mixResources_40 (by decide) ?_
        refine lv_istore (lv' := [(5, .int 0), (1, .long r_8), (4, .int r_2), (0, .ref (g.ad 272)), (3, .int x3)]) hx hb dX8_mixResources_41 hl (by decide) rfl (fun ls hl => ?_)
        exact L43 _ (fun m9 y1 y3 H locs ls hP hS hl  hf => ih m9 y1 y3 H locs ls hP hS hl  hf) fu μ r_8 x3 r_2 0 _ _ _ hP hS (lv_sub hl [3, 1, 4, 2, 0] rfl)  hf
  have hl := lv_entry ([.ref (g.ad 272), .long d]) (n := 6) (Nat.le_of_ble_eq_true rfl)
  rw [lg_entry_eq]
  generalize (lg_sl ([.ref (g.ad 272), .long d]) ++ List.replicate (6 - (lg_sl ([.ref (g.ad 272), .long d])).length) Slot.unset).toArray = ls at hl ⊢
  have hl : lv_has ls 6 [(0, .ref (g.ad 272)), (1, .long d)] := hl
  unfold f_X8_mixResources at hf
  refine lv_iconst (v := 0) hx hb dX8_mixResources_0 (by decide) ?_
  refine lv_istore_n (lv' := [(3, .int 0), (0, .ref (g.ad 272)), (1, .long d)]) hx hb dX8_mixResources_1 rfl hl (by decide) rfl (fun ls hl => ?_)
  exact L2 fu μ d 0 _ _ _ hP hS (lv_sub hl [1, 2, 0] rfl)  hf
/-- "Sandglass" "mixStores" "(J)J" -/
def b_X8_mixStores_2 (g : Fg) : Nat → Mem → Int64 → Int32 → Option (Int64)
  | 0, _, _, _ => none
  | n + 1, μ, x1, x3 => if (nI (g.sz 1)) ≤ x3 then (some x1) else (bnO (f_X8_level g μ x3) fun r_2 => bnO (f_X8_mix g μ x1 r_2) fun r_4 => bnO (f_X8_blocked g μ x3 0) fun r_6 => bnO (f_X8_mix g μ r_4 r_6) fun r_8 => bnO (f_X8_blocked g μ x3 1) fun r_10 => bnO (f_X8_mix g μ r_8 r_10) fun r_12 => bnO (f_X8_area g μ x3) fun r_14 => bnO (f_X8_mix g μ r_12 r_14) fun r_16 => b_X8_mixStores_2 g n μ r_16 (x3 + 1))
def f_X8_mixStores (g : Fg) (μ : Mem) (d : Int64) : Option (Int64) := b_X8_mixStores_2 g fu μ d 0
theorem hd_X8_mixStores : yX8_mixStores.cls = RX8 ∧ yX8_mixStores.cls ≠ "java/lang/invoke/MethodHandle" ∧ yX8_mixStores.cls ≠ "java/lang/invoke/VarHandle" ∧ (parseMethodDescriptor yX8_mixStores.desc).map (fun d => d.parameters.length) = some 1 := by decide +kernel
set_option maxHeartbeats 4000000 in
set_option maxRecDepth 100000 in
theorem c_X8_mixStores (l : Launch) {g : Geo} (hg : Good g) (hX : g.tz 1 = 1) (μ : Mem) (d : Int64) {r : Int64} (hf : f_X8_mixStores g.F μ d = some r) : Met l yX8_mixStores (ws_ yX8_mixStores cX8_mixStores 4 (some .long)) (rm_ 6 129 0 0) (Pz g [.ref (g.ad 272), .long d] (Rg g μ)) (va_Ql (fun (v : Int64) (_ : Unit) => v = r) (fun _ _ => True) (fun _ => False)) 0 0 (fun _ => False) := by
  refine Met.ofW (cc := cX8_mixStores) (maxL := 4) (ret := (some .long)) (by decide) rfl ?_
  intro p e s m args below meth c s₁ B hml hv
  obtain ⟨rfl, hT, hP⟩ := hv
  have hx := B.exec
  have hb := B.bytes
  have hr := B.returns
  have hts : ∀ w ∈ lw_all, w.before _ s = true := fun w h => atoms_spec (ws := (ws_ yX8_mixStores cX8_mixStores 4 (some .long))) B.pre w (List.mem_cons_of_mem _ h)
  have hown : s.vm.findClass RX8 = some m.cls := findClass_of_methodNamed B.named
  have hlocks := B.notSynchronized
  have hS : va_S (fun _ => False) s.heap s.heap [] := va_S.rf
  have L2 : ∀ (n : Nat) (μ : Mem) (x1 : Int64) (x3 : Int32) (H : Heap) (locs : List Loc) (ls : Array Slot), Rg g μ H → va_S (fun _ => False) s.heap H locs → lv_has ls 4 [(0, .ref (g.ad 272)), (1, .long x1), (3, .int x3)] → b_X8_mixStores_2 g.F n μ x1 x3 = some r → W p l e (headSpec (ws_ yX8_mixStores cX8_mixStores 4 (some .long)) (rm_ 6 129 0 0)).room s m ([.ref (g.ad 272), .long d] : List Value).toArray below meth c H locs 0 0 (MQ below (va_Ql (fun (v : Int64) (_ : Unit) => v = r) (fun _ _ => True) (fun _ => False)) ([.ref (g.ad 272), .long d] : List Value).toArray s 0 0 (fun _ => False)) (F0 m 2 ls []) := by
    intro n
    induction n with
    | zero => intro μ x1 x3 H locs ls hP hS hl  hf; cases hf
    | succ n ih =>
      intro μ x1 x3 H locs ls hP hS hl  hf
      rw [b_X8_mixStores_2] at hf
      refine lv_iload_n hx hb dX8_mixStores_2 rfl (lv_at hl 2 rfl) ?_
      refine lv_aload_n hx hb dX8_mixStores_3 rfl (lv_at hl 0 rfl) ?_
      refine r_get hx hb hts i_X8 hown hT hP (inX hX) (fs := (fun _ => [.ref (g.ad 112), .ref (g.ad 266), .ref (g.ad 0), .ref (g.ad 273)])) (obX g) rfl 2 (by decide) q227 (fun _ h9 => h9) rfl dX8_mixStores_4 ?_
      refine r_get hx hb hts i_X7 hown hT hP inW (fs := (fsW g)) (obW g) rfl 3 (by decide) q193 (fun _ h9 => h9) rfl dX8_mixStores_7 ?_
      refine va_calli (va_runV (As := []) (rest := [.int x3]) ⟨hx, hb, hml, hown, hts⟩ (c_Jx4a65c_size_8abf5 l hg μ in100 (szS g)) (cwV 0 hts (gd_V q843 q326 q327 q40 q328) rfl rfl rfl hd_Jx4a65c_size_8abf5 ⟨Nat.le_of_ble_eq_true rfl, Nat.le_of_ble_eq_true rfl⟩) ⟨Pz.blind, r_recv hT hP in100 (fs := fun _ => [.int (nI (g.sz 1)), .ref (g.ad 101), .int (nI (g.sz 1))]) (szS g) rfl, fun U hU hW => ⟨rfl, Tb.warm hW hT, by rw [hU]; exact hP⟩⟩ rfl rfl hl.1 rfl (lv_room (Nat.le_of_ble_eq_true rfl)) dX8_mixStores_10 ⟨Nat.le_of_ble_eq_true rfl, Nat.le_of_ble_eq_true rfl⟩) hS (fun q _ h => h.elim) (fun q h => h.elim) (fun v9 u9 t9 H locs ht9 hvm9 hw9 hB9 hz9 hk9 hS => ?_)
      have hP := Rg.keep hP (fun q h => hk9 q h id)
      rw [hw9]
      refine lv_icmp_ge (tgt := 64) hx hb dX8_mixStores_13 (by decide) (fun c_1 => ?_) (fun c_1 => ?_)
      · have hf := (if_pos c_1).symm.trans hf
        refine lv_lload_n hx hb dX8_mixStores_64 rfl (lv_at hl 1 rfl) ?_
        exact W.lret (v := x1) hx hb hr (fun t9 ht hW => ⟨⟨x1, (), rfl, Option.some.inj hf, trivial⟩, hS.F ht⟩) hS.2.2 dX8_mixStores_65
      · have hf := (if_neg c_1).symm.trans hf
        refine lv_lload_n hx hb dX8_mixStores_16 rfl (lv_at hl 1 rfl) ?_
        refine lv_aload_n hx hb dX8_mixStores_17 rfl (lv_at hl 0 rfl) ?_
        refine lv_iload_n hx hb dX8_mixStores_18 rfl (lv_at hl 2 rfl) ?_
        obtain ⟨r_2, hc_3, hf⟩ := bnO_some hf
        refine va_calli (va_runV (As := [.int x3]) (rest := [.long x1]) ⟨hx, hb, hml, hown, hts⟩ (c_X8_level l hg hX μ x3  hc_3) (cwV 1 hts (gd_V q884 q885 q886 q37 q887) rfl rfl rfl hd_X8_level ⟨Nat.le_of_ble_eq_true rfl, Nat.le_of_ble_eq_true rfl⟩) ⟨Pz.blind, r_recv hT hP (inX hX) (fs := (fun _ => [.ref (g.ad 112), .ref (g.ad 266), .ref (g.ad 0), .ref (g.ad 273)])) (obX g) rfl, fun U hU hW => ⟨rfl, Tb.warm hW hT, by rw [hU]; exact hP⟩⟩ rfl rfl hl.1 rfl (lv_room (Nat.le_of_ble_eq_true rfl)) dX8_mixStores_19 ⟨Nat.le_of_ble_eq_true rfl, Nat.le_of_ble_eq_true rfl⟩) hS (fun q _ h => h.elim) (fun q h => h.elim) (fun v9 u9 t9 H locs ht9 hvm9 hw9 hB9 hz9 hk9 hS => ?_)
        have hP := Rg.keep hP (fun q h => hk9 q h id)
        rw [hw9]
        obtain ⟨r_4, hc_5, hf⟩ := bnO_some hf
        refine va_calll (va_runS (As := [.long x1, .int r_2]) (rest := []) ⟨hx, hb, hml, hown, hts⟩ (c_X8_mix l hg μ x1 r_2  hc_5) (va_cwS 2 hts (gd_S q809 q810 q37 q811) rfl rfl rfl hd_X8_mix.2 ⟨Nat.le_of_ble_eq_true rfl, Nat.le_of_ble_eq_true rfl⟩) ⟨Pz.blind, fun U hU hW => ⟨rfl, Tb.warm hW hT, by rw [hU]; exact hP⟩⟩ rfl rfl hl.1 rfl (lv_room (Nat.le_of_ble_eq_true rfl)) dX8_mixStores_22 ⟨Nat.le_of_ble_eq_true rfl, Nat.le_of_ble_eq_true rfl⟩) hS (fun q _ h => h.elim) (fun q h => h.elim) (fun v9 u9 t9 H locs ht9 hvm9 hw9 hB9 hz9 hk9 hS => ?_)
        have hP := Rg.keep hP (fun q h => hk9 q h id)
        rw [hw9]
        refine lv_lstore_n (lv' := [(1, .long r_4), (0, .ref (g.ad 272)), (3, .int x3)]) hx hb dX8_mixStores_25 rfl hl (by decide) rfl (fun ls hl => ?_)
        refine lv_lload_n hx hb dX8_mixStores_26 rfl (lv_at hl 0 rfl) ?_
        refine lv_aload_n hx hb dX8_mixStores_27 rfl (lv_at hl 1 rfl) ?_
        refine lv_iload_n hx hb dX8_mixStores_28 rfl (lv_at hl 2 rfl) ?_
        refine lv_iconst (v := 0) hx hb dX8_mixStores_29 (by decide) ?_
        obtain ⟨r_6, hc_7, hf⟩ := bnO_some hf
        refine va_calli (va_runV (As := [.int x3, .int 0]) (rest := [.long r_4]) ⟨hx, hb, hml, hown, hts⟩ (c_X8_blocked l hg hX μ x3 0  hc_7) (cwV 2 hts (gd_V q894 q895 q896 q37 q897) rfl rfl rfl hd_X8_blocked ⟨Nat.le_of_ble_eq_true rfl, Nat.le_of_ble_eq_true rfl⟩) ⟨Pz.blind, r_recv hT hP (inX hX) (fs := (fun _ => [.ref (g.ad 112), .ref (g.ad 266), .ref (g.ad 0), .ref (g.ad 273)])) (obX g) rfl, fun U hU hW => ⟨rfl, Tb.warm hW hT, by rw [hU]; exact hP⟩⟩ rfl rfl hl.1 rfl (lv_room (Nat.le_of_ble_eq_true rfl)) dX8_mixStores_30 ⟨Nat.le_of_ble_eq_true rfl, Nat.le_of_ble_eq_true rfl⟩) hS (fun q _ h => h.elim) (fun q h => h.elim) (fun v9 u9 t9 H locs ht9 hvm9 hw9 hB9 hz9 hk9 hS => ?_)
        have hP := Rg.keep hP (fun q h => hk9 q h id)
        rw [hw9]
        obtain ⟨r_8, hc_9, hf⟩ := bnO_some hf
        refine va_calll (va_runS (As := [.long r_4, .int r_6]) (rest := []) ⟨hx, hb, hml, hown, hts⟩ (c_X8_mix l hg μ r_4 r_6  hc_9) (va_cwS 2 hts (gd_S q809 q810 q37 q811) rfl rfl rfl hd_X8_mix.2 ⟨Nat.le_of_ble_eq_true rfl, Nat.le_of_ble_eq_true rfl⟩) ⟨Pz.blind, fun U hU hW => ⟨rfl, Tb.warm hW hT, by rw [hU]; exact hP⟩⟩ rfl rfl hl.1 rfl (lv_room (Nat.le_of_ble_eq_true rfl)) dX8_mixStores_33 ⟨Nat.le_of_ble_eq_true rfl, Nat.le_of_ble_eq_true rfl⟩) hS (fun q _ h => h.elim) (fun q h => h.elim) (fun v9 u9 t9 H locs ht9 hvm9 hw9 hB9 hz9 hk9 hS => ?_)
        have hP := Rg.keep hP (fun q h => hk9 q h id)
        rw [hw9]
        refine lv_lstore_n (lv' := [(1, .long r_8), (0, .ref (g.ad 272)), (3, .int x3)]) hx hb dX8_mixStores_36 rfl hl (by decide) rfl (fun ls hl => ?_)
        refine lv_lload_n hx hb dX8_mixStores_37 rfl (lv_at hl 0 rfl) ?_
        refine lv_aload_n hx hb dX8_mixStores_38 rfl (lv_at hl 1 rfl) ?_
        refine lv_iload_n hx hb dX8_mixStores_39 rfl (lv_at hl 2 rfl) ?_
        refine lv_iconst (v := 1) hx hb dX8_mixStores_40 (by decide) ?_
        obtain ⟨r_10, hc_11, hf⟩ := bnO_some hf
        refine va_calli (va_runV (As := [.int x3, .int 1]) (rest := [.long r_8]) ⟨hx, hb, hml, hown, hts⟩ (c_X8_blocked l hg hX μ x3 1  hc_11) (cwV 2 hts (gd_V q894 q895 q896 q37 q897) rfl rfl rfl hd_X8_blocked ⟨Nat.le_of_ble_eq_true rfl, Nat.le_of_ble_eq_true rfl⟩) ⟨Pz.blind, r_recv hT hP (inX hX) (fs := (fun _ => [.ref (g.ad 112), .ref (g.ad 266), .ref (g.ad 0), .ref (g.ad 273)])) (obX g) rfl, fun U hU hW => ⟨rfl, Tb.warm hW hT, by rw [hU]; exact hP⟩⟩ rfl rfl hl.1 rfl (lv_room (Nat.le_of_ble_eq_true rfl)) dX8_mixStores_41 ⟨Nat.le_of_ble_eq_true rfl, Nat.le_of_ble_eq_true rfl⟩) hS (fun q _ h => h.elim) (fun q h => h.elim) (fun v9 u9 t9 H locs ht9 hvm9 hw9 hB9 hz9 hk9 hS => ?_)
        have hP := Rg.keep hP (fun q h => hk9 q h id)
        rw [hw9]
        obtain ⟨r_12, hc_13, hf⟩ := bnO_some hf
        refine va_calll (va_runS (As := [.long r_8, .int r_10]) (rest := []) ⟨hx, hb, hml, hown, hts⟩ (c_X8_mix l hg μ r_8 r_10  hc_13) (va_cwS 2 hts (gd_S q809 q810 q37 q811) rfl rfl rfl hd_X8_mix.2 ⟨Nat.le_of_ble_eq_true rfl, Nat.le_of_ble_eq_true rfl⟩) ⟨Pz.blind, fun U hU hW => ⟨rfl, Tb.warm hW hT, by rw [hU]; exact hP⟩⟩ rfl rfl hl.1 rfl (lv_room (Nat.le_of_ble_eq_true rfl)) dX8_mixStores_44 ⟨Nat.le_of_ble_eq_true rfl, Nat.le_of_ble_eq_true rfl⟩) hS (fun q _ h => h.elim) (fun q h => h.elim) (fun v9 u9 t9 H locs ht9 hvm9 hw9 hB9 hz9 hk9 hS => ?_)
        have hP := Rg.keep hP (fun q h => hk9 q h id)
        rw [hw9]
        refine lv_lstore_n (lv' := [(1, .long r_12), (0, .ref (g.ad 272)), (3, .int x3)]) hx hb dX8_mixStores_47 rfl hl (by decide) rfl (fun ls hl => ?_)
        refine lv_lload_n hx hb dX8_mixStores_48 rfl (lv_at hl 0 rfl) ?_
        refine lv_aload_n hx hb dX8_mixStores_49 rfl (lv_at hl 1 rfl) ?_
        refine lv_iload_n hx hb dX8_mixStores_50 rfl (lv_at hl 2 rfl) ?_
        obtain ⟨r_14, hc_15, hf⟩ := bnO_some hf
        refine va_calli (va_runV (As := [.int x3]) (rest := [.long r_12]) ⟨hx, hb, hml, hown, hts⟩ (c_X8_area l hg hX μ x3  hc_15) (cwV 1 hts (gd_V q899 q900 q901 q37 q902) rfl rfl rfl hd_X8_area ⟨Nat.le_of_ble_eq_true rfl, Nat.le_of_ble_eq_true rfl⟩) ⟨Pz.blind, r_recv hT hP (inX hX) (fs := (fun _ => [.ref (g.ad 112), .ref (g.ad 266), .ref (g.ad 0), .ref (g.ad 273)])) (obX g) rfl, fun U hU hW => ⟨rfl, Tb.warm hW hT, by rw [hU]; exact hP⟩⟩ rfl rfl hl.1 rfl (lv_room (Nat.le_of_ble_eq_true rfl)) dX8_mixStores_51 ⟨Nat.le_of_ble_eq_true rfl, Nat.le_of_ble_eq_true rfl⟩) hS (fun q _ h => h.elim) (fun q h => h.elim) (fun v9 u9 t9 H locs ht9 hvm9 hw9 hB9 hz9 hk9 hS => ?_)
        have hP := Rg.keep hP (fun q h => hk9 q h id)
        rw [hw9]
        obtain ⟨r_16, hc_17, hf⟩ := bnO_some hf
        refine va_calll (va_runS (As := [.long r_12, .int r_14]) (rest := []) ⟨hx, hb, hml, hown, hts⟩ (c_X8_mix l hg μ r_12 r_14  hc_17) (va_cwS 2 hts (gd_S q809 q810 q37 q811) rfl rfl rfl hd_X8_mix.2 ⟨Nat.le_of_ble_eq_true rfl, Nat.le_of_ble_eq_true rfl⟩) ⟨Pz.blind, fun U hU hW => ⟨rfl, Tb.warm hW hT, by rw [hU]; exact hP⟩⟩ rfl rfl hl.1 rfl (lv_room (Nat.le_of_ble_eq_true rfl)) dX8_mixStores_54 ⟨Nat.le_of_ble_eq_true rfl, Nat.le_of_ble_eq_true rfl⟩) hS (fun q _ h => h.elim) (fun q h => h.elim) (fun v9 u9 t9 H locs ht9 hvm9 hw9 hB9 hz9 hk9 hS => ?_)
        have hP := Rg.keep hP (fun q h => hk9 q h id)
        rw [hw9]
        refine lv_lstore_n (lv' := [(1, .long r_16), (0, .ref (g.ad 272)), (3, .int x3)]) hx hb dX8_mixStores_57 rfl hl (by decide) rfl (fun ls hl => ?_)
        refine lv_iinc (v := x3 + 1) (lv' := [(3, .int (x3 + 1)), (1, .long r_16), (0, .ref (g.ad 272))]) hx hb dX8_mixStores_58 hl (k := 2) rfl rfl (by decide) rfl (fun ls hl => ?_)
        refine lv_goto (tgt := 2) hx hb dX8_mixStores_61 (by decide) ?_
        exact ih μ r_16 (x3 + 1) _ _ _ hP hS (lv_sub hl [2, 1, 0] rfl)  hf
  have hl := lv_entry ([.ref (g.ad 272), .long d]) (n := 4) (Nat.le_of_ble_eq_true rfl)
  rw [lg_entry_eq]
  generalize (lg_sl ([.ref (g.ad 272), .long d]) ++ List.replicate (4 - (lg_sl ([.ref (g.ad 272), .long d])).length) Slot.unset).toArray = ls at hl ⊢
  have hl : lv_has ls 4 [(0, .ref (g.ad 272)), (1, .long d)] := hl
  unfold f_X8_mixStores at hf
  refine lv_iconst (v := 0) hx hb dX8_mixStores_0 (by decide) ?_
  refine lv_istore_n (lv' := [(3, .int 0), (0, .ref (g.ad 272)), (1, .long d)]) hx hb dX8_mixStores_1 rfl hl (by decide) rfl (fun ls hl => ?_)
  exact L2 fu μ d 0 _ _ _ hP hS (lv_sub hl [1, 2, 0] rfl)  hf
