/-- "Sandglass$World" "tally" "(I)LSandglass$Tally;" -/
def f_X7_tallyN (g : Geo) (μ : Mem) (nu : Int32) : Option ((Option Nat)) := if nu < 0 then (some (none)) else (if (nI (g.tz 0)) ≤ nu then (some (none)) else none)
theorem hd_X7_tallyN : yX7_tally.cls = RX7 ∧ yX7_tally.cls ≠ "java/lang/invoke/MethodHandle" ∧ yX7_tally.cls ≠ "java/lang/invoke/VarHandle" ∧ (parseMethodDescriptor yX7_tally.desc).map (fun d => d.parameters.length) = some 1 := by decide +kernel
set_option maxHeartbeats 4000000 in
set_option maxRecDepth 100000 in
theorem c_X7_tallyN (l : Launch) {g : Geo} (hg : Good g) (μ : Mem) (nu : Int32) {r : (Option Nat)} (hf : f_X7_tallyN g μ nu = some r) : Met l yX7_tally (ws_ yX7_tally cX7_tally 2 (some (.object "Sandglass$Tally"))) (rm_ 1 20 0 0) (Pz g [.ref (g.ad 0), .int nu] (Rg g μ)) (va_Qq (fun (v : Option Nat) (_ : Unit) => v = r.map g.ad) (fun _ _ => True) (fun _ => False)) 0 0 (fun _ => False) := by
  refine Met.ofW (cc := cX7_tally) (maxL := 2) (ret := (some (.object "Sandglass$Tally"))) (by decide) rfl ?_
  intro p e s m args below meth c s₁ B hml hv
  obtain ⟨rfl, hT, hP⟩ := hv
  have hx := B.exec
  have hb := B.bytes
  have hr := B.returns
  have hts : ∀ w ∈ lw_all, w.before _ s = true := fun w h => atoms_spec (ws := (ws_ yX7_tally cX7_tally 2 (some (.object "Sandglass$Tally")))) B.pre w (List.mem_cons_of_mem _ h)
  have hown : s.vm.findClass RX7 = some m.cls := findClass_of_methodNamed B.named
  have hlocks := B.notSynchronized
  have hS : va_S (fun _ => False) s.heap s.heap [] := va_S.rf
  have hl := lv_entry ([.ref (g.ad 0), .int nu]) (n := 2) (Nat.le_of_ble_eq_true rfl)
  rw [lg_entry_eq]
  generalize (lg_sl ([.ref (g.ad 0), .int nu]) ++ List.replicate (2 - (lg_sl ([.ref (g.ad 0), .int nu])).length) Slot.unset).toArray = ls at hl ⊢
  have hl : lv_has ls 2 [(0, .ref (g.ad 0)), (1, .int nu)] := hl
  unfold f_X7_tallyN at hf
  refine lv_iload_n hx hb dX7_tally_0 rfl (lv_at hl 1 rfl) ?_
  refine lv_if_lt (tgt := 29) hx hb dX7_tally_1 (by decide) (fun c_1 => ?_) (fun c_1 => ?_)
  · have hf := (if_pos c_1).symm.trans hf
    refine lv_null hx hb dX7_tally_29 ?_
    exact W.aret (v := .null) (rt := .object "Sandglass$Tally") hx hb hr (Or.inl ⟨_, rfl⟩) (Or.inl rfl) (fun t9 ht hW => ⟨⟨none, (), rfl, by rw [← Option.some.inj hf]; rfl, trivial⟩, hS.F ht⟩) hS.2.2 dX7_tally_30
  · have hf := (if_neg c_1).symm.trans hf
    refine lv_iload_n hx hb dX7_tally_4 rfl (lv_at hl 1 rfl) ?_
    refine lv_aload_n hx hb dX7_tally_5 rfl (lv_at hl 0 rfl) ?_
    refine r_get hx hb hts i_X7 hown hT hP inW (fs := (fsW g)) (obW g) rfl 1 (by decide) q189 (fun _ h9 => h9) rfl dX7_tally_6 ?_
    refine va_calli (va_runV (As := []) (rest := [.int nu]) ⟨hx, hb, hml, hown, hts⟩ (c_Jx4a65c_size_8abf5 l hg μ in266 (szT g)) (cwV 0 hts (gd_V q325 q326 q327 q40 q328) rfl rfl rfl hd_Jx4a65c_size_8abf5 ⟨Nat.le_of_ble_eq_true rfl, Nat.le_of_ble_eq_true rfl⟩) ⟨Pz.blind, r_recv hT hP in266 (fs := fun _ => [.int (nI (g.tz 0)), .ref (g.ad 267), .int (nI (g.tz 0))]) (szT g) rfl, fun U hU hW => ⟨rfl, Tb.warm hW hT, by rw [hU]; exact hP⟩⟩ rfl rfl hl.1 rfl (lv_room (Nat.le_of_ble_eq_true rfl)) dX7_tally_9 ⟨Nat.le_of_ble_eq_true rfl, Nat.le_of_ble_eq_true rfl⟩) hS (fun q _ h => h.elim) (fun q h => h.elim) (fun v9 u9 t9 H locs ht9 hvm9 hw9 hB9 hz9 hk9 hS => ?_)
    have hP := Rg.keep hP (fun q h => hk9 q h id)
    rw [hw9]
    refine lv_icmp_ge (tgt := 29) hx hb dX7_tally_12 (by decide) (fun c_2 => ?_) (fun c_2 => ?_)
    · have hf := (if_pos c_2).symm.trans hf
      refine lv_null hx hb dX7_tally_29 ?_
      exact W.aret (v := .null) (rt := .object "Sandglass$Tally") hx hb hr (Or.inl ⟨_, rfl⟩) (Or.inl rfl) (fun t9 ht hW => ⟨⟨none, (), rfl, by rw [← Option.some.inj hf]; rfl, trivial⟩, hS.F ht⟩) hS.2.2 dX7_tally_30
    · have hf := (if_neg c_2).symm.trans hf
      refine lv_aload_n hx hb dX7_tally_15 rfl (lv_at hl 0 rfl) ?_
      refine r_get hx hb hts i_X7 hown hT hP inW (fs := (fsW g)) (obW g) rfl 1 (by decide) q189 (fun _ h9 => h9) rfl dX7_tally_16 ?_
      refine lv_iload_n hx hb dX7_tally_19 rfl (lv_at hl 1 rfl) ?_
      cases hf
/-- "Sandglass$World" "tell" "(LSandglass$Tally;I)V" -/
def f_X7_tellN (g : Fg) (μ : Mem) (x : Int32) : Option (Mem) := some μ
theorem hd_X7_tellN : yX7_tell.cls = RX7 ∧ yX7_tell.cls ≠ "java/lang/invoke/MethodHandle" ∧ yX7_tell.cls ≠ "java/lang/invoke/VarHandle" ∧ (parseMethodDescriptor yX7_tell.desc).map (fun d => d.parameters.length) = some 2 := by decide +kernel
set_option maxHeartbeats 4000000 in
set_option maxRecDepth 100000 in
theorem c_X7_tellN (l : Launch) {g : Geo} (hg : Good g) (μ : Mem) (sz : Nat) (x : Int32) {r : Mem} (hf : f_X7_tellN g.F μ x = some r) : Met l yX7_tell (ws_ yX7_tell cX7_tell 3 (Option.none : Option Jvm.ClassFile.FieldType)) (rm_ 0 0 0 0) (Pz g [.ref (g.ad 0), .null, .int x] (fun H9 => H9.size = sz ∧ Rg g μ H9)) (va_Qv (fun _ : Unit => True) (fun _ t => Rg g r t.heap) (Ag g sz)) 0 0 (Ag g sz) := by
  refine Met.ofW (cc := cX7_tell) (maxL := 3) (ret := (Option.none : Option Jvm.ClassFile.FieldType)) (by decide) rfl ?_
  intro p e s m args below meth c s₁ B hml hv
  obtain ⟨rfl, hT, hsz, hP⟩ := hv
  have hx := B.exec
  have hb := B.bytes
  have hr := B.returns
  have hts : ∀ w ∈ lw_all, w.before _ s = true := fun w h => atoms_spec (ws := (ws_ yX7_tell cX7_tell 3 (Option.none : Option Jvm.ClassFile.FieldType))) B.pre w (List.mem_cons_of_mem _ h)
  have hown : s.vm.findClass RX7 = some m.cls := findClass_of_methodNamed B.named
  have hlocks := B.notSynchronized
  subst hsz
  have hD := fun ν => Ag.apart hg s.heap.size ν
  have hC := hP.sh
  have hN := Ag.shr hg hP
  have hS : va_S (Ag g s.heap.size) s.heap s.heap [] := va_S.rf
  have hl := lv_entry ([.ref (g.ad 0), .null, .int x]) (n := 3) (Nat.le_of_ble_eq_true rfl)
  rw [lg_entry_eq]
  generalize (lg_sl ([.ref (g.ad 0), .null, .int x]) ++ List.replicate (3 - (lg_sl ([.ref (g.ad 0), .null, .int x])).length) Slot.unset).toArray = ls at hl ⊢
  have hl : lv_has ls 3 [(0, .ref (g.ad 0)), (1, .null), (2, .int x)] := hl
  unfold f_X7_tellN at hf
  refine lv_aload_nN hx hb dX7_tell_0 rfl (lv_at hl 1 rfl) ?_
  refine lv_ifnullN (tgt := 9) hx hb dX7_tell_1 (by decide) ?_
  exact W.vret hx hb hr (fun t9 ht hW => ⟨⟨(), rfl, trivial, by show Rg g r t9.heap; rw [ht, ← Option.some.inj hf]; exact hP⟩, hS.F ht⟩) hS.2.2 dX7_tell_9
theorem tallyNone {g : Geo} {μ : Mem} {nu : Int32} (hz : g.tz 0 = 0) : f_X7_tallyN g μ nu = some none := by
  unfold f_X7_tallyN
  rw [hz]
  by_cases h : nu < 0
  · rw [if_pos h]
  · rw [if_neg h, if_pos (by rw [nI_0]; obtain ⟨j, hj, e⟩ := nI_of h; rw [e]; exact nI_pos' hj)]
