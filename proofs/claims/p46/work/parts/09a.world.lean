/-- "Sandglass$World" "begin" "(LSandglass$Script;II)V" -/
def f_X7_beginC (g : Fg) (μ : Mem) (sc : Nat) (rk : Int32) (de : Int32) : Option (Mem) := if (μ 0 5) < 0 then (some μ) else (if (μ 0 5) < 24 then (grd (¬ ((μ 0 5) < 0 ∨ 24 ≤ (μ 0 5).toNatClampNeg)) (bnd ((μ 0 5).toNatClampNeg + 1) fun k_5 => bnd (put μ 0 5 ((μ 0 5) + 1)) fun μ_6 => bnd (put μ_6 k_5 1 (nI (sc - 114))) fun μ_7 => bnd (put μ_7 k_5 2 rk) fun μ_8 => bnd (put μ_8 k_5 4 (μ_8 0 6)) fun μ_9 => bnO (f_X7_schedule g μ_9 k_5 0 de) fun μ_12 => some μ_12)) else (some μ))
theorem hd_X7_beginC : yX7_begin.cls = RX7 ∧ yX7_begin.cls ≠ "java/lang/invoke/MethodHandle" ∧ yX7_begin.cls ≠ "java/lang/invoke/VarHandle" ∧ (parseMethodDescriptor yX7_begin.desc).map (fun d => d.parameters.length) = some 3 := by decide +kernel
set_option maxHeartbeats 4000000 in
set_option maxRecDepth 100000 in
theorem c_X7_beginC (l : Launch) {g : Geo} (hg : Good g) (μ : Mem) (sz : Nat) (sc : Nat) (rk : Int32) (de : Int32) (hsc : isC g sc) {r : Mem} (hf : f_X7_beginC g.F μ sc rk de = some r) : Met l yX7_begin (ws_ yX7_begin cX7_begin 5 (Option.none : Option Jvm.ClassFile.FieldType)) (rm_ 1 23 0 0) (Pz g [.ref (g.ad 0), .ref (g.ad sc), .int rk, .int de] (fun H9 => H9.size = sz ∧ Rg g μ H9)) (va_Qv (fun _ : Unit => True) (fun _ t => Rg g r t.heap) (Ag g sz)) 0 0 (Ag g sz) := by
  refine Met.ofW (cc := cX7_begin) (maxL := 5) (ret := (Option.none : Option Jvm.ClassFile.FieldType)) (by decide) rfl ?_
  intro p e s m args below meth c s₁ B hml hv
  obtain ⟨rfl, hT, hsz, hP⟩ := hv
  have hx := B.exec
  have hb := B.bytes
  have hr := B.returns
  have hts : ∀ w ∈ lw_all, w.before _ s = true := fun w h => atoms_spec (ws := (ws_ yX7_begin cX7_begin 5 (Option.none : Option Jvm.ClassFile.FieldType))) B.pre w (List.mem_cons_of_mem _ h)
  have hown : s.vm.findClass RX7 = some m.cls := findClass_of_methodNamed B.named
  have hlocks := B.notSynchronized
  subst hsz
  have hD := fun ν => Ag.apart hg s.heap.size ν
  have hC := hP.sh
  have hN := Ag.shr hg hP
  have hS : va_S (Ag g s.heap.size) s.heap s.heap [] := va_S.rf
  have hl := lv_entry ([.ref (g.ad 0), .ref (g.ad sc), .int rk, .int de]) (n := 5) (Nat.le_of_ble_eq_true rfl)
  rw [lg_entry_eq]
  generalize (lg_sl ([.ref (g.ad 0), .ref (g.ad sc), .int rk, .int de]) ++ List.replicate (5 - (lg_sl ([.ref (g.ad 0), .ref (g.ad sc), .int rk, .int de])).length) Slot.unset).toArray = ls at hl ⊢
  have hl : lv_has ls 5 [(0, .ref (g.ad 0)), (1, .ref (g.ad sc)), (2, .int rk), (3, .int de)] := hl
  unfold f_X7_beginC at hf
  refine lv_aload_n hx hb dX7_begin_0 rfl (lv_at hl 0 rfl) ?_
  refine r_get hx hb hts i_X7 hown hT hP inW (fs := (fsW g)) (obW g) rfl 5 (by decide) q195 (fun _ h9 => h9) rfl dX7_begin_1 ?_
  refine lv_if_lt (tgt := 19) hx hb dX7_begin_4 (by decide) (fun c_1 => ?_) (fun c_1 => ?_)
  · have hf := (if_pos c_1).symm.trans hf
    exact W.vret hx hb hr (fun t9 ht hW => ⟨⟨(), rfl, trivial, by show Rg g r t9.heap; rw [ht, ← Option.some.inj hf]; exact hP⟩, hS.F ht⟩) hS.2.2 dX7_begin_19
  · have hf := (if_neg c_1).symm.trans hf
    refine lv_aload_n hx hb dX7_begin_7 rfl (lv_at hl 0 rfl) ?_
    refine r_get hx hb hts i_X7 hown hT hP inW (fs := (fsW g)) (obW g) rfl 5 (by decide) q195 (fun _ h9 => h9) rfl dX7_begin_8 ?_
    refine lv_aload_n hx hb dX7_begin_11 rfl (lv_at hl 0 rfl) ?_
    refine r_get hx hb hts i_X7 hown hT hP inW (fs := (fsW g)) (obW g) rfl 4 (by decide) q194 (fun _ h9 => h9) rfl dX7_begin_12 ?_
    refine r_alenP hx hb hT hP dX7_begin_15 ?_
    refine lv_icmp_lt (tgt := 20) hx hb dX7_begin_16 (by decide) (fun c_2 => ?_) (fun c_2 => ?_)
    · have hf := (if_pos c_2).symm.trans hf
      refine lv_aload_n hx hb dX7_begin_20 rfl (lv_at hl 0 rfl) ?_
      refine r_get hx hb hts i_X7 hown hT hP inW (fs := (fsW g)) (obW g) rfl 4 (by decide) q194 (fun _ h9 => h9) rfl dX7_begin_21 ?_
      refine lv_aload_n hx hb dX7_begin_24 rfl (lv_at hl 0 rfl) ?_
      refine r_get hx hb hts i_X7 hown hT hP inW (fs := (fsW g)) (obW g) rfl 5 (by decide) q195 (fun _ h9 => h9) rfl dX7_begin_25 ?_
      obtain ⟨hi_3, hf⟩ := grd_some hf
      refine r_aaldP hx hb hT hP hi_3 dX7_begin_28 (fun hp_4 => ?_)
      obtain ⟨k_5, ek_5⟩ : ∃ z, (μ 0 5).toNatClampNeg + 1 = z := ⟨_, rfl⟩
      rw [ek_5] at hp_4 ⊢
      have hf := bnd_eq hf _ ek_5
      refine lv_astore (lv' := [(4, .ref (g.ad k_5)), (0, .ref (g.ad 0)), (1, .ref (g.ad sc)), (2, .int rk), (3, .int de)]) hx hb dX7_begin_29 hl (by decide) rfl (fun ls hl => ?_)
      refine lv_aload_n hx hb dX7_begin_31 rfl (lv_at hl 1 rfl) ?_
      refine lv_dup hx hb dX7_begin_32 rfl ?_
      refine r_get hx hb hts i_X7 hown hT hP inW (fs := (fsW g)) (obW g) rfl 5 (by decide) q195 (fun _ h9 => h9) rfl dX7_begin_33 ?_
      refine lv_iconst (v := 1) hx hb dX7_begin_36 (by decide) ?_
      refine lv_iadd hx hb dX7_begin_37 ?_
      refine r_put hx hb hts i_X7 tyX7 tyX7_ok nmX7 hown hT hP hD hC hN hS mtW (fs := (fsW g)) (obW g) rfl 5 (by decide) q195 (fun _ h9 => h9) rfl (ty := .int) (x := (μ 0 5) + 1) rfl rfl rfl (fun _ => rfl) (Nat.le_of_ble_eq_true rfl) dX7_begin_38 (fun H locs hP hS => ?_)
      obtain ⟨μ_6, eμ_6⟩ : ∃ z, put μ 0 5 ((μ 0 5) + 1) = z := ⟨_, rfl⟩
      rw [eμ_6] at hP
      have hf := bnd_eq hf _ eμ_6
      refine lv_aload hx hb dX7_begin_41 (lv_at hl 0 rfl) ?_
      refine lv_aload_n hx hb dX7_begin_43 rfl (lv_at hl 2 rfl) ?_
      refine r_put hx hb hts i_X2 tyX2 tyX2_ok nmX2 hown hT hP hD hC hN hS (mtP hp_4) (fs := (fsP g k_5)) (obP hp_4) rfl 1 (by decide) q114 (fun _ h9 => h9) rfl (ty := (.object "Sandglass$Script")) (x := nI (sc - 114)) rfl rfl rfl (fun _ => set_script hsc) (Nat.le_of_ble_eq_true rfl) dX7_begin_44 (fun H locs hP hS => ?_)
      obtain ⟨μ_7, eμ_7⟩ : ∃ z, put μ_6 k_5 1 (nI (sc - 114)) = z := ⟨_, rfl⟩
      rw [eμ_7] at hP
      have hf := bnd_eq hf _ eμ_7
      refine lv_aload hx hb dX7_begin_47 (lv_at hl 0 rfl) ?_
      refine lv_iload_n hx hb dX7_begin_49 rfl (lv_at hl 3 rfl) ?_
      refine r_put hx hb hts i_X2 tyX2 tyX2_ok nmX2 hown hT hP hD hC hN hS (mtP hp_4) (fs := (fsP g k_5)) (obP hp_4) rfl 2 (by decide) q116 (fun _ h9 => h9) rfl (ty := .int) (x := rk) rfl rfl rfl (fun _ => rfl) (Nat.le_of_ble_eq_true rfl) dX7_begin_50 (fun H locs hP hS => ?_)
      obtain ⟨μ_8, eμ_8⟩ : ∃ z, put μ_7 k_5 2 rk = z := ⟨_, rfl⟩
      rw [eμ_8] at hP
      have hf := bnd_eq hf _ eμ_8
      refine lv_aload hx hb dX7_begin_53 (lv_at hl 0 rfl) ?_
      refine lv_aload_n hx hb dX7_begin_55 rfl (lv_at hl 1 rfl) ?_
      refine r_get hx hb hts i_X7 hown hT hP inW (fs := (fsW g)) (obW g) rfl 6 (by decide) q197 (fun _ h9 => h9) rfl dX7_begin_56 ?_
      refine r_put hx hb hts i_X2 tyX2 tyX2_ok nmX2 hown hT hP hD hC hN hS (mtP hp_4) (fs := (fsP g k_5)) (obP hp_4) rfl 4 (by decide) q122 (fun _ h9 => h9) rfl (ty := .int) (x := μ_8 0 6) rfl rfl rfl (fun _ => rfl) (Nat.le_of_ble_eq_true rfl) dX7_begin_59 (fun H locs hP hS => ?_)
      obtain ⟨μ_9, eμ_9⟩ : ∃ z, put μ_8 k_5 4 (μ_8 0 6) = z := ⟨_, rfl⟩
      rw [eμ_9] at hP
      have hf := bnd_eq hf _ eμ_9
      refine lv_aload_n hx hb dX7_begin_62 rfl (lv_at hl 1 rfl) ?_
      refine lv_aload hx hb dX7_begin_63 (lv_at hl 0 rfl) ?_
      refine lv_iconst (v := 0) hx hb dX7_begin_65 (by decide) ?_
      refine lv_iload_n hx hb dX7_begin_66 rfl (lv_at hl 4 rfl) ?_
      obtain ⟨μ_12, hc_11, hf⟩ := bnO_some hf
      refine va_callv (va_runV (As := [.ref (g.ad k_5), .int 0, .int de]) (rest := []) ⟨hx, hb, hml, hown, hts⟩ (c_X7_schedule l hg μ_9 H.size k_5 0 de hp_4 hc_11) (cwV 3 hts (gd_V q381 q382 q383 q41 q384) rfl rfl rfl hd_X7_schedule ⟨Nat.le_of_ble_eq_true rfl, Nat.le_of_ble_eq_true rfl⟩) ⟨Pz.blind, r_recv hT hP inW (fs := (fsW g)) (obW g) rfl, fun U hU hW => ⟨rfl, Tb.warm hW hT, by rw [hU], by rw [hU]; exact hP⟩⟩ rfl rfl hl.1 rfl (lv_room (Nat.le_of_ble_eq_true rfl)) dX7_begin_67 ⟨Nat.le_of_ble_eq_true rfl, Nat.le_of_ble_eq_true rfl⟩) hS (fun q _ h => Ag.sub rfl hS q h) (fun q h => Ag.sub rfl hS q h) (fun u9 t9 H locs ht9 hvm9 hw9 hB9 hz9 hk9 hS => ?_)
      have hP : Rg g μ_12 H := by rw [← ht9]; exact hB9
      exact W.vret hx hb hr (fun t9 ht hW => ⟨⟨(), rfl, trivial, by show Rg g r t9.heap; rw [ht, ← Option.some.inj hf]; exact hP⟩, hS.F ht⟩) hS.2.2 dX7_begin_70
    · have hf := (if_neg c_2).symm.trans hf
      exact W.vret hx hb hr (fun t9 ht hW => ⟨⟨(), rfl, trivial, by show Rg g r t9.heap; rw [ht, ← Option.some.inj hf]; exact hP⟩, hS.F ht⟩) hS.2.2 dX7_begin_19
/-- "Sandglass$World" "begin" "(LSandglass$Script;II)V" -/
def f_X7_beginN (g : Fg) (μ : Mem) (rk : Int32) (de : Int32) : Option (Mem) := if (μ 0 5) < 0 then (some μ) else (if (μ 0 5) < 24 then (grd (¬ ((μ 0 5) < 0 ∨ 24 ≤ (μ 0 5).toNatClampNeg)) (bnd ((μ 0 5).toNatClampNeg + 1) fun k_5 => bnd (put μ 0 5 ((μ 0 5) + 1)) fun μ_6 => bnd (put μ_6 k_5 1 (-1)) fun μ_7 => bnd (put μ_7 k_5 2 rk) fun μ_8 => bnd (put μ_8 k_5 4 (μ_8 0 6)) fun μ_9 => bnO (f_X7_schedule g μ_9 k_5 0 de) fun μ_12 => some μ_12)) else (some μ))
theorem hd_X7_beginN : yX7_begin.cls = RX7 ∧ yX7_begin.cls ≠ "java/lang/invoke/MethodHandle" ∧ yX7_begin.cls ≠ "java/lang/invoke/VarHandle" ∧ (parseMethodDescriptor yX7_begin.desc).map (fun d => d.parameters.length) = some 3 := by decide +kernel
set_option maxHeartbeats 4000000 in
set_option maxRecDepth 100000 in
theorem c_X7_beginN (l : Launch) {g : Geo} (hg : Good g) (μ : Mem) (sz : Nat) (rk : Int32) (de : Int32) {r : Mem} (hf : f_X7_beginN g.F μ rk de = some r) : Met l yX7_begin (ws_ yX7_begin cX7_begin 5 (Option.none : Option Jvm.ClassFile.FieldType)) (rm_ 1 23 0 0) (Pz g [.ref (g.ad 0), .null, .int rk, .int de] (fun H9 => H9.size = sz ∧ Rg g μ H9)) (va_Qv (fun _ : Unit => True) (fun _ t => Rg g r t.heap) (Ag g sz)) 0 0 (Ag g sz) := by
  refine Met.ofW (cc := cX7_begin) (maxL := 5) (ret := (Option.none : Option Jvm.ClassFile.FieldType)) (by decide) rfl ?_
  intro p e s m args below meth c s₁ B hml hv
  obtain ⟨rfl, hT, hsz, hP⟩ := hv
  have hx := B.exec
  have hb := B.bytes
  have hr := B.returns
  have hts : ∀ w ∈ lw_all, w.before _ s = true := fun w h => atoms_spec (ws := (ws_ yX7_begin cX7_begin 5 (Option.none : Option Jvm.ClassFile.FieldType))) B.pre w (List.mem_cons_of_mem _ h)
  have hown : s.vm.findClass RX7 = some m.cls := findClass_of_methodNamed B.named
  have hlocks := B.notSynchronized
  subst hsz
  have hD := fun ν => Ag.apart hg s.heap.size ν
  have hC := hP.sh
  have hN := Ag.shr hg hP
  have hS : va_S (Ag g s.heap.size) s.heap s.heap [] := va_S.rf
  have hl := lv_entry ([.ref (g.ad 0), .null, .int rk, .int de]) (n := 5) (Nat.le_of_ble_eq_true rfl)
  rw [lg_entry_eq]
  generalize (lg_sl ([.ref (g.ad 0), .null, .int rk, .int de]) ++ List.replicate (5 - (lg_sl ([.ref (g.ad 0), .null, .int rk, .int de])).length) Slot.unset).toArray = ls at hl ⊢
  have hl : lv_has ls 5 [(0, .ref (g.ad 0)), (1, .null), (2, .int rk), (3, .int de)] := hl
  unfold f_X7_beginN at hf
  refine lv_aload_n hx hb dX7_begin_0 rfl (lv_at hl 0 rfl) ?_
  refine r_get hx hb hts i_X7 hown hT hP inW (fs := (fsW g)) (obW g) rfl 5 (by decide) q195 (fun _ h9 => h9) rfl dX7_begin_1 ?_
  refine lv_if_lt (tgt := 19) hx hb dX7_begin_4 (by decide) (fun c_1 => ?_) (fun c_1 => ?_)
  · have hf := (if_pos c_1).symm.trans hf
    exact W.vret hx hb hr (fun t9 ht hW => ⟨⟨(), rfl, trivial, by show Rg g r t9.heap; rw [ht, ← Option.some.inj hf]; exact hP⟩, hS.F ht⟩) hS.2.2 dX7_begin_19
  · have hf := (if_neg c_1).symm.trans hf
    refine lv_aload_n hx hb dX7_begin_7 rfl (lv_at hl 0 rfl) ?_
    refine r_get hx hb hts i_X7 hown hT hP inW (fs := (fsW g)) (obW g) rfl 5 (by decide) q195 (fun _ h9 => h9) rfl dX7_begin_8 ?_
    refine lv_aload_n hx hb dX7_begin_11 rfl (lv_at hl 0 rfl) ?_
    refine r_get hx hb hts i_X7 hown hT hP inW (fs := (fsW g)) (obW g) rfl 4 (by decide) q194 (fun _ h9 => h9) rfl dX7_begin_12 ?_
    refine r_alenP hx hb hT hP dX7_begin_15 ?_
    refine lv_icmp_lt (tgt := 20) hx hb dX7_begin_16 (by decide) (fun c_2 => ?_) (fun c_2 => ?_)
    · have hf := (if_pos c_2).symm.trans hf
      refine lv_aload_n hx hb dX7_begin_20 rfl (lv_at hl 0 rfl) ?_
      refine r_get hx hb hts i_X7 hown hT hP inW (fs := (fsW g)) (obW g) rfl 4 (by decide) q194 (fun _ h9 => h9) rfl dX7_begin_21 ?_
      refine lv_aload_n hx hb dX7_begin_24 rfl (lv_at hl 0 rfl) ?_
      refine r_get hx hb hts i_X7 hown hT hP inW (fs := (fsW g)) (obW g) rfl 5 (by decide) q195 (fun _ h9 => h9) rfl dX7_begin_25 ?_
      obtain ⟨hi_3, hf⟩ := grd_some hf
      refine r_aaldP hx hb hT hP hi_3 dX7_begin_28 (fun hp_4 => ?_)
      obtain ⟨k_5, ek_5⟩ : ∃ z, (μ 0 5).toNatClampNeg + 1 = z := ⟨_, rfl⟩
      rw [ek_5] at hp_4 ⊢
      have hf := bnd_eq hf _ ek_5
      refine lv_astore (lv' := [(4, .ref (g.ad k_5)), (0, .ref (g.ad 0)), (1, .null), (2, .int rk), (3, .int de)]) hx hb dX7_begin_29 hl (by decide) rfl (fun ls hl => ?_)
      refine lv_aload_n hx hb dX7_begin_31 rfl (lv_at hl 1 rfl) ?_
      refine lv_dup hx hb dX7_begin_32 rfl ?_
      refine r_get hx hb hts i_X7 hown hT hP inW (fs := (fsW g)) (obW g) rfl 5 (by decide) q195 (fun _ h9 => h9) rfl dX7_begin_33 ?_
      refine lv_iconst (v := 1) hx hb dX7_begin_36 (by decide) ?_
      refine lv_iadd hx hb dX7_begin_37 ?_
      refine r_put hx hb hts i_X7 tyX7 tyX7_ok nmX7 hown hT hP hD hC hN hS mtW (fs := (fsW g)) (obW g) rfl 5 (by decide) q195 (fun _ h9 => h9) rfl (ty := .int) (x := (μ 0 5) + 1) rfl rfl rfl (fun _ => rfl) (Nat.le_of_ble_eq_true rfl) dX7_begin_38 (fun H locs hP hS => ?_)
      obtain ⟨μ_6, eμ_6⟩ : ∃ z, put μ 0 5 ((μ 0 5) + 1) = z := ⟨_, rfl⟩
      rw [eμ_6] at hP
      have hf := bnd_eq hf _ eμ_6
      refine lv_aload hx hb dX7_begin_41 (lv_at hl 0 rfl) ?_
      refine lv_aload_nN hx hb dX7_begin_43 rfl (lv_at hl 2 rfl) ?_
      refine r_put hx hb hts i_X2 tyX2 tyX2_ok nmX2 hown hT hP hD hC hN hS (mtP hp_4) (fs := (fsP g k_5)) (obP hp_4) rfl 1 (by decide) q114 (fun _ h9 => h9) rfl (ty := (.object "Sandglass$Script")) (x := (-1)) rfl rfl rfl (fun _ => set_scriptN) (Nat.le_of_ble_eq_true rfl) dX7_begin_44 (fun H locs hP hS => ?_)
      obtain ⟨μ_7, eμ_7⟩ : ∃ z, put μ_6 k_5 1 (-1) = z := ⟨_, rfl⟩
      rw [eμ_7] at hP
      have hf := bnd_eq hf _ eμ_7
      refine lv_aload hx hb dX7_begin_47 (lv_at hl 0 rfl) ?_
      refine lv_iload_n hx hb dX7_begin_49 rfl (lv_at hl 3 rfl) ?_
      refine r_put hx hb hts i_X2 tyX2 tyX2_ok nmX2 hown hT hP hD hC hN hS (mtP hp_4) (fs := (fsP g k_5)) (obP hp_4) rfl 2 (by decide) q116 (fun _ h9 => h9) rfl (ty := .int) (x := rk) rfl rfl rfl (fun _ => rfl) (Nat.le_of_ble_eq_true rfl) dX7_begin_50 (fun H locs hP hS => ?_)
      obtain ⟨μ_8, eμ_8⟩ : ∃ z, put μ_7 k_5 2 rk = z := ⟨_, rfl⟩
      rw [eμ_8] at hP
      have hf := bnd_eq hf _ eμ_8
      refine lv_aload hx hb dX7_begin_53 (lv_at hl 0 rfl) ?_
      refine lv_aload_n hx hb dX7_begin_55 rfl (lv_at hl 1 rfl) ?_
      refine r_get hx hb hts i_X7 hown hT hP inW (fs := (fsW g)) (obW g) rfl 6 (by decide) q197 (fun _ h9 => h9) rfl dX7_begin_56 ?_
      refine r_put hx hb hts i_X2 tyX2 tyX2_ok nmX2 hown hT hP hD hC hN hS (mtP hp_4) (fs := (fsP g k_5)) (obP hp_4) rfl 4 (by decide) q122 (fun _ h9 => h9) rfl (ty := .int) (x := μ_8 0 6) rfl rfl rfl (fun _ => rfl) (Nat.le_of_ble_eq_true rfl) dX7_begin_59 (fun H locs hP hS => ?_)
      obtain ⟨μ_9, eμ_9⟩ : ∃ z, put μ_8 k_5 4 (μ_8 0 6) = z := ⟨_, rfl⟩
      rw [eμ_9] at hP
      have hf := bnd_eq hf _ eμ_9
      refine lv_aload_n hx hb dX7_begin_62 rfl (lv_at hl 1 rfl) ?_
      refine lv_aload hx hb dX7_begin_63 (lv_at hl 0 rfl) ?_
      refine lv_iconst (v := 0) hx hb dX7_begin_65 (by decide) ?_
      refine lv_iload_n hx hb dX7_begin_66 rfl (lv_at hl 4 rfl) ?_
      obtain ⟨μ_12, hc_11, hf⟩ := bnO_some hf
      refine va_callv (va_runV (As := [.ref (g.ad k_5), .int 0, .int de]) (rest := []) ⟨hx, hb, hml, hown, hts⟩ (c_X7_schedule l hg μ_9 H.size k_5 0 de hp_4 hc_11) (cwV 3 hts (gd_V q381 q382 q383 q41 q384) rfl rfl rfl hd_X7_schedule ⟨Nat.le_of_ble_eq_true rfl, Nat.le_of_ble_eq_true rfl⟩) ⟨Pz.blind, r_recv hT hP inW (fs := (fsW g)) (obW g) rfl, fun U hU hW => ⟨rfl, Tb.warm hW hT, by rw [hU], by rw [hU]; exact hP⟩⟩ rfl rfl hl.1 rfl (lv_room (Nat.le_of_ble_eq_true rfl)) dX7_begin_67 ⟨Nat.le_of_ble_eq_true rfl, Nat.le_of_ble_eq_true rfl⟩) hS (fun q _ h => Ag.sub rfl hS q h) (fun q h => Ag.sub rfl hS q h) (fun u9 t9 H locs ht9 hvm9 hw9 hB9 hz9 hk9 hS => ?_)
      have hP : Rg g μ_12 H := by rw [← ht9]; exact hB9
      exact W.vret hx hb hr (fun t9 ht hW => ⟨⟨(), rfl, trivial, by show Rg g r t9.heap; rw [ht, ← Option.some.inj hf]; exact hP⟩, hS.F ht⟩) hS.2.2 dX7_begin_70
    · have hf := (if_neg c_2).symm.trans hf
      exact W.vret hx hb hr (fun t9 ht hW => ⟨⟨(), rfl, trivial, by show Rg g r t9.heap; rw [ht, ← Option.some.inj hf]; exact hP⟩, hS.F ht⟩) hS.2.2 dX7_begin_19
/-- "Sandglass$World" "goTo" "(I)V" -/
def b_X7_goTo_85 (g : Fg) : Nat → Mem → Int32 → Int32 → Int32 → Option (Mem)
  | 0, _, _, _, _ => none
  | n + 1, μ, x1, x2, x3 => if (nI (g.sz 1)) ≤ x3 then (bnd (put μ 0 6 x1) fun μ_10 => some μ_10) else (grd (¬ (x3 < 0 ∨ g.sz 1 ≤ x3.toNatClampNeg)) (bnd (108 + x3.toNatClampNeg) fun k_13 => grd (108 ≤ k_13 ∧ k_13 < 108 + g.sz 1 ∧ k_13 < 112) (bnd (put μ k_13 3 ((μ k_13 3) + ((μ k_13 2) * x2))) fun μ_14 => b_X7_goTo_85 g n μ_14 x1 x2 (x3 + 1))))
def b_X7_goTo_9 (g : Fg) : Nat → Mem → Int32 → Int32 → Int32 → Option (Mem)
  | 0, _, _, _, _ => none
  | n + 1, μ, x1, x2, x3 => if (nI (g.sz 0)) ≤ x3 then (b_X7_goTo_85 g fu μ x1 x2 0) else (grd (¬ (x3 < 0 ∨ g.sz 0 ≤ x3.toNatClampNeg)) (bnd (102 + x3.toNatClampNeg) fun k_4 => grd (102 ≤ k_4 ∧ k_4 < 102 + g.sz 0 ∧ k_4 < 108) (bnd (put μ k_4 4 ((μ k_4 4) + (((μ k_4 2) - (μ k_4 3)) * x2))) fun μ_5 => bnO (f_X7_countIn g μ_5 (μ_5 k_4 0)) fun r_6 => bnd (put μ_5 k_4 5 ((μ_5 k_4 5) + (r_6 * x2))) fun μ_8 => b_X7_goTo_9 g n μ_8 x1 x2 (x3 + 1))))
def f_X7_goTo (g : Fg) (μ : Mem) (th : Int32) : Option (Mem) := b_X7_goTo_9 g fu μ th (th - (μ 0 6)) 0
theorem hd_X7_goTo : yX7_goTo.cls = RX7 ∧ yX7_goTo.cls ≠ "java/lang/invoke/MethodHandle" ∧ yX7_goTo.cls ≠ "java/lang/invoke/VarHandle" ∧ (parseMethodDescriptor yX7_goTo.desc).map (fun d => d.parameters.length) = some 1 := by decide +kernel
set_option maxHeartbeats 4000000 in
set_option maxRecDepth 100000 in
theorem c_X7_goTo (l : Launch) {g : Geo} (hg : Good g) (μ : Mem) (sz : Nat) (th : Int32) {r : Mem} (hf : f_X7_goTo g.F μ th = some r) : Met l yX7_goTo (ws_ yX7_goTo cX7_goTo 5 (Option.none : Option Jvm.ClassFile.FieldType)) (rm_ 3 64 0 0) (Pz g [.ref (g.ad 0), .int th] (fun H9 => H9.size = sz ∧ Rg g μ H9)) (va_Qv (fun _ : Unit => True) (fun _ t => Rg g r t.heap) (Ag g sz)) 0 0 (Ag g sz) := by
  refine Met.ofW (cc := cX7_goTo) (maxL := 5) (ret := (Option.none : Option Jvm.ClassFile.FieldType)) (by decide) rfl ?_
  intro p e s m args below meth c s₁ B hml hv
  obtain ⟨rfl, hT, hsz, hP⟩ := hv
  have hx := B.exec
  have hb := B.bytes
  have hr := B.returns
  have hts : ∀ w ∈ lw_all, w.before _ s = true := fun w h => atoms_spec (ws := (ws_ yX7_goTo cX7_goTo 5 (Option.none : Option Jvm.ClassFile.FieldType))) B.pre w (List.mem_cons_of_mem _ h)
  have hown : s.vm.findClass RX7 = some m.cls := findClass_of_methodNamed B.named
  have hlocks := B.notSynchronized
  subst hsz
  have hD := fun ν => Ag.apart hg s.heap.size ν
  have hC := hP.sh
  have hN := Ag.shr hg hP
  have hS : va_S (Ag g s.heap.size) s.heap s.heap [] := va_S.rf
  have L85 : ∀ (n : Nat) (μ : Mem) (x1 : Int32) (x2 : Int32) (x3 : Int32) (H : Heap) (locs : List Loc) (ls : Array Slot), Rg g μ H → va_S (Ag g s.heap.size) s.heap H locs → lv_has ls 5 [(0, .ref (g.ad 0)), (1, .int x1), (2, .int x2), (3, .int x3)] → b_X7_goTo_85 g.F n μ x1 x2 x3 = some r → W p l e (headSpec (ws_ yX7_goTo cX7_goTo 5 (Option.none : Option Jvm.ClassFile.FieldType)) (rm_ 3 64 0 0)).room s m ([.ref (g.ad 0), .int th] : List Value).toArray below meth c H locs 0 0 (MQ below (va_Qv (fun _ : Unit => True) (fun _ t => Rg g r t.heap) (Ag g s.heap.size)) ([.ref (g.ad 0), .int th] : List Value).toArray s 0 0 (Ag g s.heap.size)) (F0 m 85 ls []) := by
    intro n
    induction n with
    | zero => intro μ x1 x2 x3 H locs ls hP hS hl  hf; cases hf
    | succ n ih =>
      intro μ x1 x2 x3 H locs ls hP hS hl  hf
      rw [b_X7_goTo_85] at hf
      refine lv_iload_n hx hb dX7_goTo_85 rfl (lv_at hl 3 rfl) ?_
      refine lv_aload_n hx hb dX7_goTo_86 rfl (lv_at hl 0 rfl) ?_
      refine r_get hx hb hts i_X7 hown hT hP inW (fs := (fsW g)) (obW g) rfl 3 (by decide) q192 (fun _ h9 => h9) rfl dX7_goTo_87 ?_
      refine va_calli (va_runV (As := []) (rest := [.int x3]) ⟨hx, hb, hml, hown, hts⟩ (c_Jx4a65c_size_8abf5 l hg μ in100 (szS g)) (cwV 0 hts (gd_V q325 q326 q327 q40 q328) rfl rfl rfl hd_Jx4a65c_size_8abf5 ⟨Nat.le_of_ble_eq_true rfl, Nat.le_of_ble_eq_true rfl⟩) ⟨Pz.blind, r_recv hT hP in100 (fs := fun _ => [.int (nI (g.sz 1)), .ref (g.ad 101), .int (nI (g.sz 1))]) (szS g) rfl, fun U hU hW => ⟨rfl, Tb.warm hW hT, by rw [hU]; exact hP⟩⟩ rfl rfl hl.1 rfl (lv_room (Nat.le_of_ble_eq_true rfl)) dX7_goTo_90 ⟨Nat.le_of_ble_eq_true rfl, Nat.le_of_ble_eq_true rfl⟩) hS (fun q _ h => h.elim) (fun q h => h.elim) (fun v9 u9 t9 H locs ht9 hvm9 hw9 hB9 hz9 hk9 hS => ?_)
      have hP := Rg.keep hP (fun q h => hk9 q h id)
      rw [hw9]
      refine lv_icmp_ge (tgt := 132) hx hb dX7_goTo_93 (by decide) (fun c_9 => ?_) (fun c_9 => ?_)
      · have hf := (if_pos c_9).symm.trans hf
        refine lv_aload_n hx hb dX7_goTo_132 rfl (lv_at hl 0 rfl) ?_
        refine lv_iload_n hx hb dX7_goTo_133 rfl (lv_at hl 1 rfl) ?_
        refine r_put hx hb hts i_X7 tyX7 tyX7_ok nmX7 hown hT hP hD hC hN hS mtW (fs := (fsW g)) (obW g) rfl 6 (by decide) q197 (fun _ h9 => h9) rfl (ty := .int) (x := x1) rfl rfl rfl (fun _ => rfl) (Nat.le_of_ble_eq_true rfl) dX7_goTo_134 (fun H locs hP hS => ?_)
        obtain ⟨μ_10, eμ_10⟩ : ∃ z, put μ 0 6 x1 = z := ⟨_, rfl⟩
        rw [eμ_10] at hP
        have hf := bnd_eq hf _ eμ_10
        exact W.vret hx hb hr (fun t9 ht hW => ⟨⟨(), rfl, trivial, by show Rg g r t9.heap; rw [ht, ← Option.some.inj hf]; exact hP⟩, hS.F ht⟩) hS.2.2 dX7_goTo_137
      · have hf := (if_neg c_9).symm.trans hf
        refine lv_aload_n hx hb dX7_goTo_96 rfl (lv_at hl 0 rfl) ?_
        refine r_get hx hb hts i_X7 hown hT hP inW (fs := (fsW g)) (obW g) rfl 3 (by decide) q192 (fun _ h9 => h9) rfl dX7_goTo_97 ?_
        refine lv_iload_n hx hb dX7_goTo_100 rfl (lv_at hl 3 rfl) ?_
        obtain ⟨hi_11, hf⟩ := grd_some hf
        have hj_12 : x3.toNatClampNeg < g.sz 1 := Nat.not_le.mp (fun z => hi_11 (Or.inr z))
        refine va_callq (va_runV (As := [.int x3]) (rest := []) ⟨hx, hb, hml, hown, hts⟩ (c_Jx4a65c_get_915e3 l hg μ (lsS hg (Nat.lt_of_le_of_lt (Nat.zero_le _) hj_12)) (nI_self (fun z => hi_11 (Or.inl z))) hj_12) (cwV 1 hts (gd_V q329 q330 q331 q40 q332) rfl rfl rfl hd_Jx4a65c_get_915e3 ⟨Nat.le_of_ble_eq_true rfl, Nat.le_of_ble_eq_true rfl⟩) ⟨Pz.blind, r_recv hT hP in100 (fs := fun _ => [.int (nI (g.sz 1)), .ref (g.ad 101), .int (nI (g.sz 1))]) (szS g) rfl, fun U hU hW => ⟨rfl, Tb.warm hW hT, by rw [hU]; exact hP⟩⟩ rfl rfl hl.1 rfl (lv_room (Nat.le_of_ble_eq_true rfl)) dX7_goTo_101 ⟨Nat.le_of_ble_eq_true rfl, Nat.le_of_ble_eq_true rfl⟩) hS (fun q _ h => h.elim) (fun q h => h.elim) (fun v9 u9 t9 H locs ht9 hvm9 hw9 hB9 hz9 hk9 hS => ?_)
        have hP := Rg.keep hP (fun q h => hk9 q h id)
        rw [hw9, fnL_in hj_12]
        refine W.eq (g2 := F0 m 104 ls (.ref (g.ad (108 + x3.toNatClampNeg)) :: [])) rfl ?_
        obtain ⟨k_13, ek_13⟩ : ∃ z, 108 + x3.toNatClampNeg = z := ⟨_, rfl⟩
        rw [ek_13]
        have hf := bnd_eq hf _ ek_13
        obtain ⟨hk_13, hf⟩ := grd_some hf
        refine r_cast hx hb hts hown hT hP (inS hk_13) (fs := fsS) (obS hk_13) rfl q410 dX7_goTo_104 ?_
        refine lv_astore (lv' := [(4, .ref (g.ad k_13)), (0, .ref (g.ad 0)), (1, .int x1), (2, .int x2), (3, .int x3)]) hx hb dX7_goTo_107 hl (by decide) rfl (fun ls hl => ?_)
        refine lv_aload hx hb dX7_goTo_109 (lv_at hl 0 rfl) ?_
        refine lv_dup hx hb dX7_goTo_111 rfl ?_
        refine r_get hx hb hts i_X5 hown hT hP (inS hk_13) (fs := fsS) (obS hk_13) rfl 3 (by decide) q1001 (fun _ h9 => h9) rfl dX7_goTo_112 ?_
        refine lv_aload hx hb dX7_goTo_115 (lv_at hl 0 rfl) ?_
        refine r_get hx hb hts i_X5 hown hT hP (inS hk_13) (fs := fsS) (obS hk_13) rfl 2 (by decide) q998 (fun _ h9 => h9) rfl dX7_goTo_117 ?_
        refine lv_iload_n hx hb dX7_goTo_120 rfl (lv_at hl 3 rfl) ?_
        refine lv_imul hx hb dX7_goTo_121 ?_
        refine lv_iadd hx hb dX7_goTo_122 ?_
        refine r_put hx hb hts i_X5 tyX5 tyX5_ok nmX5 hown hT hP hD hC hN hS (mtS hk_13) (fs := fsS) (obS hk_13) rfl 3 (by decide) q1001 (fun _ h9 => h9) rfl (ty := .int) (x := (μ k_13 3) + ((μ k_13 2) * x2)) rfl rfl rfl (fun _ => rfl) (Nat.le_of_ble_eq_true rfl) dX7_goTo_123 (fun H locs hP hS => ?_)
        obtain ⟨μ_14, eμ_14⟩ : ∃ z, put μ k_13 3 ((μ k_13 3) + ((μ k_13 2) * x2)) = z := ⟨_, rfl⟩
        rw [eμ_14] at hP
        have hf := bnd_eq hf _ eμ_14
        refine lv_iinc (v := x3 + 1) (lv' := [(3, .int (x3 + 1)), (4, .ref (g.ad k_13)), (0, .ref (g.ad 0)), (1, .int x1), (2, .int x2)]) hx hb dX7_goTo_126 hl (k := 4) rfl rfl (by decide) rfl (fun ls hl => ?_)
        refine lv_goto (tgt := 85) hx hb dX7_goTo_129 (by decide) ?_
        exact ih μ_14 x1 x2 (x3 + 1) _ _ _ hP hS (lv_sub hl [2, 3, 4, 0] rfl)  hf
  have L9 : ∀ (n : Nat) (μ : Mem) (x1 : Int32) (x2 : Int32) (x3 : Int32) (H : Heap) (locs : List Loc) (ls : Array Slot), Rg g μ H → va_S (Ag g s.heap.size) s.heap H locs → lv_has ls 5 [(0, .ref (g.ad 0)), (1, .int x1), (2, .int x2), (3, .int x3)] → b_X7_goTo_9 g.F n μ x1 x2 x3 = some r → W p l e (headSpec (ws_ yX7_goTo cX7_goTo 5 (Option.none : Option Jvm.ClassFile.FieldType)) (rm_ 3 64 0 0)).room s m ([.ref (g.ad 0), .int th] : List Value).toArray below meth c H locs 0 0 (MQ below (va_Qv (fun _ : Unit => True) (fun _ t => Rg g r t.heap) (Ag g s.heap.size)) ([.ref (g.ad 0), .int th] : List Value).toArray s 0 0 (Ag g s.heap.size)) (F0 m 9 ls []) := by
    intro n
    induction n with
    | zero => intro μ x1 x2 x3 H locs ls hP hS hl  hf; cases hf
    | succ n ih =>
      intro μ x1 x2 x3 H locs ls hP hS hl  hf
      rw [b_X7_goTo_9] at hf
      refine lv_iload_n hx hb dX7_goTo_9 rfl (lv_at hl 3 rfl) ?_
      refine lv_aload_n hx hb dX7_goTo_10 rfl (lv_at hl 0 rfl) ?_
      refine r_get hx hb hts i_X7 hown hT hP inW (fs := (fsW g)) (obW g) rfl 2 (by decide) q190 (fun _ h9 => h9) rfl dX7_goTo_11 ?_
      refine va_calli (va_runV (As := []) (rest := [.int x3]) ⟨hx, hb, hml, hown, hts⟩ (c_Jx4a65c_size_8abf5 l hg μ in98 (szR g)) (cwV 0 hts (gd_V q325 q326 q327 q40 q328) rfl rfl rfl hd_Jx4a65c_size_8abf5 ⟨Nat.le_of_ble_eq_true rfl, Nat.le_of_ble_eq_true rfl⟩) ⟨Pz.blind, r_recv hT hP in98 (fs := fun _ => [.int (nI (g.sz 0)), .ref (g.ad 99), .int (nI (g.sz 0))]) (szR g) rfl, fun U hU hW => ⟨rfl, Tb.warm hW hT, by rw [hU]; exact hP⟩⟩ rfl rfl hl.1 rfl (lv_room (Nat.le_of_ble_eq_true rfl)) dX7_goTo_14 ⟨Nat.le_of_ble_eq_true rfl, Nat.le_of_ble_eq_true rfl⟩) hS (fun q _ h => h.elim) (fun q h => h.elim) (fun v9 u9 t9 H locs ht9 hvm9 hw9 hB9 hz9 hk9 hS => ?_)
      have hP := Rg.keep hP (fun q h => hk9 q h id)
      rw [hw9]
      refine lv_icmp_ge (tgt := 83) hx hb dX7_goTo_17 (by decide) (fun c_1 => ?_) (fun c_1 => ?_)
      · have hf := (if_pos c_1).symm.trans hf
        refine lv_iconst (v := 0) hx hb dX7_goTo_83 (by decide) ?_
        refine lv_istore_n (lv' := [(3, .int 0), (0, .ref (g.ad 0)), (1, .int x1), (2, .int x2)]) hx hb dX7_goTo_84 rfl hl (by decide) rfl (fun ls hl => ?_)
        exact L85 fu μ x1 x2 0 _ _ _ hP hS (lv_sub hl [1, 2, 3, 0] rfl)  hf
      · have hf := (if_neg c_1).symm.trans hf
        refine lv_aload_n hx hb dX7_goTo_20 rfl (lv_at hl 0 rfl) ?_
        refine r_get hx hb hts i_X7 hown hT hP inW (fs := (fsW g)) (obW g) rfl 2 (by decide) q190 (fun _ h9 => h9) rfl dX7_goTo_21 ?_
        refine lv_iload_n hx hb dX7_goTo_24 rfl (lv_at hl 3 rfl) ?_
        obtain ⟨hi_2, hf⟩ := grd_some hf
        have hj_3 : x3.toNatClampNeg < g.sz 0 := Nat.not_le.mp (fun z => hi_2 (Or.inr z))
        refine va_callq (va_runV (As := [.int x3]) (rest := []) ⟨hx, hb, hml, hown, hts⟩ (c_Jx4a65c_get_915e3 l hg μ (lsR hg (Nat.lt_of_le_of_lt (Nat.zero_le _) hj_3)) (nI_self (fun z => hi_2 (Or.inl z))) hj_3) (cwV 1 hts (gd_V q329 q330 q331 q40 q332) rfl rfl rfl hd_Jx4a65c_get_915e3 ⟨Nat.le_of_ble_eq_true rfl, Nat.le_of_ble_eq_true rfl⟩) ⟨Pz.blind, r_recv hT hP in98 (fs := fun _ => [.int (nI (g.sz 0)), .ref (g.ad 99), .int (nI (g.sz 0))]) (szR g) rfl, fun U hU hW => ⟨rfl, Tb.warm hW hT, by rw [hU]; exact hP⟩⟩ rfl rfl hl.1 rfl (lv_room (Nat.le_of_ble_eq_true rfl)) dX7_goTo_25 ⟨Nat.le_of_ble_eq_true rfl, Nat.le_of_ble_eq_true rfl⟩) hS (fun q _ h => h.elim) (fun q h => h.elim) (fun v9 u9 t9 H locs ht9 hvm9 hw9 hB9 hz9 hk9 hS => ?_)
        have hP := Rg.keep hP (fun q h => hk9 q h id)
        rw [hw9, fnL_in hj_3]
        refine W.eq (g2 := F0 m 28 ls (.ref (g.ad (102 + x3.toNatClampNeg)) :: [])) rfl ?_
        obtain ⟨k_4, ek_4⟩ : ∃ z, 102 + x3.toNatClampNeg = z := ⟨_, rfl⟩
        rw [ek_4]
        have hf := bnd_eq hf _ ek_4
        obtain ⟨hk_4, hf⟩ := grd_some hf
        refine r_cast hx hb hts hown hT hP (inR hk_4) (fs := fsR) (obR hk_4) rfl q405 dX7_goTo_28 ?_
        refine lv_astore (lv' := [(4, .ref (g.ad k_4)), (0, .ref (g.ad 0)), (1, .int x1), (2, .int x2), (3, .int x3)]) hx hb dX7_goTo_31 hl (by decide) rfl (fun ls hl => ?_)
        refine lv_aload hx hb dX7_goTo_33 (lv_at hl 0 rfl) ?_
        refine lv_dup hx hb dX7_goTo_35 rfl ?_
        refine r_get hx hb hts i_X3 hown hT hP (inR hk_4) (fs := fsR) (obR hk_4) rfl 4 (by decide) q958 (fun _ h9 => h9) rfl dX7_goTo_36 ?_
        refine lv_aload hx hb dX7_goTo_39 (lv_at hl 0 rfl) ?_
        refine r_get hx hb hts i_X3 hown hT hP (inR hk_4) (fs := fsR) (obR hk_4) rfl 2 (by decide) q953 (fun _ h9 => h9) rfl dX7_goTo_41 ?_
        refine lv_aload hx hb dX7_goTo_44 (lv_at hl 0 rfl) ?_
        refine r_get hx hb hts i_X3 hown hT hP (inR hk_4) (fs := fsR) (obR hk_4) rfl 3 (by decide) q955 (fun _ h9 => h9) rfl dX7_goTo_46 ?_
        refine lv_isub hx hb dX7_goTo_49 ?_
        refine lv_iload_n hx hb dX7_goTo_50 rfl (lv_at hl 3 rfl) ?_
        refine lv_imul hx hb dX7_goTo_51 ?_
        refine lv_iadd hx hb dX7_goTo_52 ?_
        refine r_put hx hb hts i_X3 tyX3 tyX3_ok nmX3 hown hT hP hD hC hN hS (mtR hk_4) (fs := fsR) (obR hk_4) rfl 4 (by decide) q958 (fun _ h9 => h9) rfl (ty := .int) (x := (μ k_4 4) + (((μ k_4 2) - (μ k_4 3)) * x2)) rfl rfl rfl (fun _ => rfl) (Nat.le_of_ble_eq_true rfl) dX7_goTo_53 (fun H locs hP hS => ?_)
        obtain ⟨μ_5, eμ_5⟩ : ∃ z, put μ k_4 4 ((μ k_4 4) + (((μ k_4 2) - (μ k_4 3)) * x2)) = z := ⟨_, rfl⟩
        rw [eμ_5] at hP
        have hf := bnd_eq hf _ eμ_5
        refine lv_aload hx hb dX7_goTo_56 (lv_at hl 0 rfl) ?_
        refine lv_dup hx hb dX7_goTo_58 rfl ?_
        refine r_get hx hb hts i_X3 hown hT hP (inR hk_4) (fs := fsR) (obR hk_4) rfl 5 (by decide) q961 (fun _ h9 => h9) rfl dX7_goTo_59 ?_
        refine lv_aload_n hx hb dX7_goTo_62 rfl (lv_at hl 1 rfl) ?_
        refine lv_aload hx hb dX7_goTo_63 (lv_at hl 0 rfl) ?_
        refine r_get hx hb hts i_X3 hown hT hP (inR hk_4) (fs := fsR) (obR hk_4) rfl 0 (by decide) q948 (fun _ h9 => h9) rfl dX7_goTo_65 ?_
        obtain ⟨r_6, hc_7, hf⟩ := bnO_some hf
        refine va_calli (va_runV (As := [.int (μ_5 k_4 0)]) (rest := [.int (μ_5 k_4 5), .ref (g.ad k_4)]) ⟨hx, hb, hml, hown, hts⟩ (c_X7_countIn l hg μ_5 (μ_5 k_4 0)  hc_7) (cwV 1 hts (gd_V q406 q407 q408 q41 q409) rfl rfl rfl hd_X7_countIn ⟨Nat.le_of_ble_eq_true rfl, Nat.le_of_ble_eq_true rfl⟩) ⟨Pz.blind, r_recv hT hP inW (fs := (fsW g)) (obW g) rfl, fun U hU hW => ⟨rfl, Tb.warm hW hT, by rw [hU]; exact hP⟩⟩ rfl rfl hl.1 rfl (lv_room (Nat.le_of_ble_eq_true rfl)) dX7_goTo_68 ⟨Nat.le_of_ble_eq_true rfl, Nat.le_of_ble_eq_true rfl⟩) hS (fun q _ h => h.elim) (fun q h => h.elim) (fun v9 u9 t9 H locs ht9 hvm9 hw9 hB9 hz9 hk9 hS => ?_)
        have hP := Rg.keep hP (fun q h => hk9 q h id)
        rw [hw9]
        refine lv_iload_n hx hb dX7_goTo_71 rfl (lv_at hl 3 rfl) ?_
        refine lv_imul hx hb dX7_goTo_72 ?_
        refine lv_iadd hx hb dX7_goTo_73 ?_
        refine r_put hx hb hts i_X3 tyX3 tyX3_ok nmX3 hown hT hP hD hC hN hS (mtR hk_4) (fs := fsR) (obR hk_4) rfl 5 (by decide) q961 (fun _ h9 => h9) rfl (ty := .int) (x := (μ_5 k_4 5) + (r_6 * x2)) rfl rfl rfl (fun _ => rfl) (Nat.le_of_ble_eq_true rfl) dX7_goTo_74 (fun H locs hP hS => ?_)
        obtain ⟨μ_8, eμ_8⟩ : ∃ z, put μ_5 k_4 5 ((μ_5 k_4 5) + (r_6 * x2)) = z := ⟨_, rfl⟩
        rw [eμ_8] at hP
        have hf := bnd_eq hf _ eμ_8
        refine lv_iinc (v := x3 + 1) (lv' := [(3, .int (x3 + 1)), (4, .ref (g.ad k_4)), (0, .ref (g.ad 0)), (1, .int x1), (2, .int x2)]) hx hb dX7_goTo_77 hl (k := 4) rfl rfl (by decide) rfl (fun ls hl => ?_)
        refine lv_goto (tgt := 9) hx hb dX7_goTo_80 (by decide) ?_
        exact ih μ_8 x1 x2 (x3 + 1) _ _ _ hP hS (lv_sub hl [2, 3, 4, 0] rfl)  hf
  have hl := lv_entry ([.ref (g.ad 0), .int th]) (n := 5) (Nat.le_of_ble_eq_true rfl)
  rw [lg_entry_eq]
  generalize (lg_sl ([.ref (g.ad 0), .int th]) ++ List.replicate (5 - (lg_sl ([.ref (g.ad 0), .int th])).length) Slot.unset).toArray = ls at hl ⊢
  have hl : lv_has ls 5 [(0, .ref (g.ad 0)), (1, .int th)] := hl
  unfold f_X7_goTo at hf
  refine lv_iload_n hx hb dX7_goTo_0 rfl (lv_at hl 1 rfl) ?_
  refine lv_aload_n hx hb dX7_goTo_1 rfl (lv_at hl 0 rfl) ?_
  refine r_get hx hb hts i_X7 hown hT hP inW (fs := (fsW g)) (obW g) rfl 6 (by decide) q197 (fun _ h9 => h9) rfl dX7_goTo_2 ?_
  refine lv_isub hx hb dX7_goTo_5 ?_
  refine lv_istore_n (lv' := [(2, .int (th - (μ 0 6))), (0, .ref (g.ad 0)), (1, .int th)]) hx hb dX7_goTo_6 rfl hl (by decide) rfl (fun ls hl => ?_)
  refine lv_iconst (v := 0) hx hb dX7_goTo_7 (by decide) ?_
  refine lv_istore_n (lv' := [(3, .int 0), (2, .int (th - (μ 0 6))), (0, .ref (g.ad 0)), (1, .int th)]) hx hb dX7_goTo_8 rfl hl (by decide) rfl (fun ls hl => ?_)
  exact L9 fu μ th (th - (μ 0 6)) 0 _ _ _ hP hS (lv_sub hl [2, 3, 1, 0] rfl)  hf
/-- "Sandglass$World" "wakeAll" "(I)V" -/
def b_X7_wakeAll_2 (g : Fg) : Nat → Mem → Int32 → Int32 → Option (Mem)
  | 0, _, _, _ => none
  | n + 1, μ, x1, x2 => if 24 ≤ x2 then (some μ) else (bnO (f_X7_firstIn g μ x1) fun r_2 => csQ r_2 (some μ) (fun o_4 => grd (1 ≤ o_4 ∧ o_4 < 25) (bnd (put μ o_4 9 (-1)) fun μ_5 => bnO (f_X7_schedule g μ_5 o_4 0 0) fun μ_8 => b_X7_wakeAll_2 g n μ_8 x1 (x2 + 1))))
def f_X7_wakeAll (g : Fg) (μ : Mem) (row : Int32) : Option (Mem) := b_X7_wakeAll_2 g fu μ row 0
theorem hd_X7_wakeAll : yX7_wakeAll.cls = RX7 ∧ yX7_wakeAll.cls ≠ "java/lang/invoke/MethodHandle" ∧ yX7_wakeAll.cls ≠ "java/lang/invoke/VarHandle" ∧ (parseMethodDescriptor yX7_wakeAll.desc).map (fun d => d.parameters.length) = some 1 := by decide +kernel
set_option maxHeartbeats 4000000 in
set_option maxRecDepth 100000 in
theorem c_X7_wakeAll (l : Launch) {g : Geo} (hg : Good g) (μ : Mem) (sz : Nat) (row : Int32) {r : Mem} (hf : f_X7_wakeAll g.F μ row = some r) : Met l yX7_wakeAll (ws_ yX7_wakeAll cX7_wakeAll 4 (Option.none : Option Jvm.ClassFile.FieldType)) (rm_ 2 47 0 0) (Pz g [.ref (g.ad 0), .int row] (fun H9 => H9.size = sz ∧ Rg g μ H9)) (va_Qv (fun _ : Unit => True) (fun _ t => Rg g r t.heap) (Ag g sz)) 0 0 (Ag g sz) := by
  refine Met.ofW (cc := cX7_wakeAll) (maxL := 4) (ret := (Option.none : Option Jvm.ClassFile.FieldType)) (by decide) rfl ?_
  intro p e s m args below meth c s₁ B hml hv
  obtain ⟨rfl, hT, hsz, hP⟩ := hv
  have hx := B.exec
  have hb := B.bytes
  have hr := B.returns
  have hts : ∀ w ∈ lw_all, w.before _ s = true := fun w h => atoms_spec (ws := (ws_ yX7_wakeAll cX7_wakeAll 4 (Option.none : Option Jvm.ClassFile.FieldType))) B.pre w (List.mem_cons_of_mem _ h)
  have hown : s.vm.findClass RX7 = some m.cls := findClass_of_methodNamed B.named
  have hlocks := B.notSynchronized
  subst hsz
  have hD := fun ν => Ag.apart hg s.heap.size ν
  have hC := hP.sh
  have hN := Ag.shr hg hP
  have hS : va_S (Ag g s.heap.size) s.heap s.heap [] := va_S.rf
  have L2 : ∀ (n : Nat) (μ : Mem) (x1 : Int32) (x2 : Int32) (H : Heap) (locs : List Loc) (ls : Array Slot), Rg g μ H → va_S (Ag g s.heap.size) s.heap H locs → lv_has ls 4 [(0, .ref (g.ad 0)), (1, .int x1), (2, .int x2)] → b_X7_wakeAll_2 g.F n μ x1 x2 = some r → W p l e (headSpec (ws_ yX7_wakeAll cX7_wakeAll 4 (Option.none : Option Jvm.ClassFile.FieldType)) (rm_ 2 47 0 0)).room s m ([.ref (g.ad 0), .int row] : List Value).toArray below meth c H locs 0 0 (MQ below (va_Qv (fun _ : Unit => True) (fun _ t => Rg g r t.heap) (Ag g s.heap.size)) ([.ref (g.ad 0), .int row] : List Value).toArray s 0 0 (Ag g s.heap.size)) (F0 m 2 ls []) := by
    intro n
    induction n with
    | zero => intro μ x1 x2 H locs ls hP hS hl  hf; cases hf
    | succ n ih =>
      intro μ x1 x2 H locs ls hP hS hl  hf
      rw [b_X7_wakeAll_2] at hf
      refine lv_iload_n hx hb dX7_wakeAll_2 rfl (lv_at hl 2 rfl) ?_
      refine lv_bipush (v := 24) hx hb dX7_wakeAll_3 (by decide) ?_
      refine lv_icmp_ge (tgt := 37) hx hb dX7_wakeAll_5 (by decide) (fun c_1 => ?_) (fun c_1 => ?_)
      · have hf := (if_pos c_1).symm.trans hf
        exact W.vret hx hb hr (fun t9 ht hW => ⟨⟨(), rfl, trivial, by show Rg g r t9.heap; rw [ht, ← Option.some.inj hf]; exact hP⟩, hS.F ht⟩) hS.2.2 dX7_wakeAll_37
      · have hf := (if_neg c_1).symm.trans hf
        refine lv_aload_n hx hb dX7_wakeAll_8 rfl (lv_at hl 0 rfl) ?_
        refine lv_iload_n hx hb dX7_wakeAll_9 rfl (lv_at hl 1 rfl) ?_
        obtain ⟨r_2, hc_3, hf⟩ := bnO_some hf
        refine va_callq (va_runV (As := [.int x1]) (rest := []) ⟨hx, hb, hml, hown, hts⟩ (c_X7_firstIn l hg μ x1  hc_3) (cwV 1 hts (gd_V q446 q448 q7 q41 q449) rfl rfl rfl hd_X7_firstIn ⟨Nat.le_of_ble_eq_true rfl, Nat.le_of_ble_eq_true rfl⟩) ⟨Pz.blind, r_recv hT hP inW (fs := (fsW g)) (obW g) rfl, fun U hU hW => ⟨rfl, Tb.warm hW hT, by rw [hU]; exact hP⟩⟩ rfl rfl hl.1 rfl (lv_room (Nat.le_of_ble_eq_true rfl)) dX7_wakeAll_10 ⟨Nat.le_of_ble_eq_true rfl, Nat.le_of_ble_eq_true rfl⟩) hS (fun q _ h => h.elim) (fun q h => h.elim) (fun v9 u9 t9 H locs ht9 hvm9 hw9 hB9 hz9 hk9 hS => ?_)
        have hP := Rg.keep hP (fun q h => hk9 q h id)
        rw [hw9]
        cases r_2 with
        | none =>
          dsimp only [csQ] at hf
          refine W.eq (g2 := F0 m 13 ls [.null]) rfl ?_
          refine lv_astore_nN (lv' := [(3, .null), (0, .ref (g.ad 0)), (1, .int x1), (2, .int x2)]) hx hb dX7_wakeAll_13 rfl hl (by decide) rfl (fun ls hl => ?_)
          refine lv_aload_nN hx hb dX7_wakeAll_14 rfl (lv_at hl 0 rfl) ?_
          refine lv_ifnonnullN hx hb dX7_wakeAll_15 ?_
          exact W.vret hx hb hr (fun t9 ht hW => ⟨⟨(), rfl, trivial, by show Rg g r t9.heap; rw [ht, ← Option.some.inj hf]; exact hP⟩, hS.F ht⟩) hS.2.2 dX7_wakeAll_18
        | some o_4 =>
          dsimp only [csQ] at hf
          obtain ⟨ho_4, hf⟩ := grd_some hf
          refine W.eq (g2 := F0 m 13 ls [.ref (g.ad o_4)]) rfl ?_
          refine lv_astore_n (lv' := [(3, .ref (g.ad o_4)), (0, .ref (g.ad 0)), (1, .int x1), (2, .int x2)]) hx hb dX7_wakeAll_13 rfl hl (by decide) rfl (fun ls hl => ?_)
          refine lv_aload_n hx hb dX7_wakeAll_14 rfl (lv_at hl 0 rfl) ?_
          refine lv_ifnonnull (tgt := 19) hx hb dX7_wakeAll_15 (by decide) ?_
          refine lv_aload_n hx hb dX7_wakeAll_19 rfl (lv_at hl 0 rfl) ?_
          refine lv_iconst (v := (-1)) hx hb dX7_wakeAll_20 (by decide) ?_
          refine r_put hx hb hts i_X2 tyX2 tyX2_ok nmX2 hown hT hP hD hC hN hS (mtP ho_4) (fs := (fsP g o_4)) (obP ho_4) rfl 9 (by decide) q136 (fun _ h9 => h9) rfl (ty := .int) (x := (-1)) rfl rfl rfl (fun _ => rfl) (Nat.le_of_ble_eq_true rfl) dX7_wakeAll_21 (fun H locs hP hS => ?_)
          obtain ⟨μ_5, eμ_5⟩ : ∃ z, put μ o_4 9 (-1) = z := ⟨_, rfl⟩
          rw [eμ_5] at hP
          have hf := bnd_eq hf _ eμ_5
          refine lv_aload_n hx hb dX7_wakeAll_24 rfl (lv_at hl 1 rfl) ?_
          refine lv_aload_n hx hb dX7_wakeAll_25 rfl (lv_at hl 0 rfl) ?_
          refine lv_iconst (v := 0) hx hb dX7_wakeAll_26 (by decide) ?_
          refine lv_iconst (v := 0) hx hb dX7_wakeAll_27 (by decide) ?_
          obtain ⟨μ_8, hc_7, hf⟩ := bnO_some hf
          refine va_callv (va_runV (As := [.ref (g.ad o_4), .int 0, .int 0]) (rest := []) ⟨hx, hb, hml, hown, hts⟩ (c_X7_schedule l hg μ_5 H.size o_4 0 0 ho_4 hc_7) (cwV 3 hts (gd_V q381 q382 q383 q41 q384) rfl rfl rfl hd_X7_schedule ⟨Nat.le_of_ble_eq_true rfl, Nat.le_of_ble_eq_true rfl⟩) ⟨Pz.blind, r_recv hT hP inW (fs := (fsW g)) (obW g) rfl, fun U hU hW => ⟨rfl, Tb.warm hW hT, by rw [hU], by rw [hU]; exact hP⟩⟩ rfl rfl hl.1 rfl (lv_room (Nat.le_of_ble_eq_true rfl)) dX7_wakeAll_28 ⟨Nat.le_of_ble_eq_true rfl, Nat.le_of_ble_eq_true rfl⟩) hS (fun q _ h => Ag.sub rfl hS q h) (fun q h => Ag.sub rfl hS q h) (fun u9 t9 H locs ht9 hvm9 hw9 hB9 hz9 hk9 hS => ?_)
          have hP : Rg g μ_8 H := by rw [← ht9]; exact hB9
          refine lv_iinc (v := x2 + 1) (lv' := [(2, .int (x2 + 1)), (3, .ref (g.ad o_4)), (0, .ref (g.ad 0)), (1, .int x1)]) hx hb dX7_wakeAll_31 hl (k := 3) rfl rfl (by decide) rfl (fun ls hl => ?_)
          refine lv_goto (tgt := 2) hx hb dX7_wakeAll_34 (by decide) ?_
          exact ih μ_8 x1 (x2 + 1) _ _ _ hP hS (lv_sub hl [2, 3, 0] rfl)  hf
  have hl := lv_entry ([.ref (g.ad 0), .int row]) (n := 4) (Nat.le_of_ble_eq_true rfl)
  rw [lg_entry_eq]
  generalize (lg_sl ([.ref (g.ad 0), .int row]) ++ List.replicate (4 - (lg_sl ([.ref (g.ad 0), .int row])).length) Slot.unset).toArray = ls at hl ⊢
  have hl : lv_has ls 4 [(0, .ref (g.ad 0)), (1, .int row)] := hl
  unfold f_X7_wakeAll at hf
  refine lv_iconst (v := 0) hx hb dX7_wakeAll_0 (by decide) ?_
  refine lv_istore_n (lv' := [(2, .int 0), (0, .ref (g.ad 0)), (1, .int row)]) hx hb dX7_wakeAll_1 rfl hl (by decide) rfl (fun ls hl => ?_)
  exact L2 fu μ row 0 _ _ _ hP hS (lv_sub hl [1, 2, 0] rfl)  hf
/-- "Sandglass$World" "goAgain" "(LSandglass$Proc;LSandglass$Instruction;)V" -/
def f_X7_goAgain (g : Fg) (μ : Mem) (q : Nat) (nw : Nat) : Option (Mem) := bnO (f_X8_at g μ (q + 24) (g.sh nw 0)) fun r_1 => if (g.sh nw 3) ≤ r_1 then (bnO (f_X8_set g μ (q + 24) (g.sh nw 0) 0) fun μ_6 => some μ_6) else (bnO (f_X8_set g μ (q + 24) (g.sh nw 0) (r_1 + 1)) fun μ_9 => bnd (put μ_9 q 3 (g.sh nw 2)) fun μ_10 => some μ_10)
theorem hd_X7_goAgain : yX7_goAgain.cls = RX7 ∧ yX7_goAgain.cls ≠ "java/lang/invoke/MethodHandle" ∧ yX7_goAgain.cls ≠ "java/lang/invoke/VarHandle" ∧ (parseMethodDescriptor yX7_goAgain.desc).map (fun d => d.parameters.length) = some 2 := by decide +kernel
set_option maxHeartbeats 4000000 in
set_option maxRecDepth 100000 in
theorem c_X7_goAgain (l : Launch) {g : Geo} (hg : Good g) (μ : Mem) (sz : Nat) (q : Nat) (nw : Nat) (hq : isP q) (hnw : isN g nw) {r : Mem} (hf : f_X7_goAgain g.F μ q nw = some r) : Met l yX7_goAgain (ws_ yX7_goAgain cX7_goAgain 4 (Option.none : Option Jvm.ClassFile.FieldType)) (rm_ 1 22 0 0) (Pz g [.ref (g.ad 0), .ref (g.ad q), .ref (g.ad nw)] (fun H9 => H9.size = sz ∧ Rg g μ H9)) (va_Qv (fun _ : Unit => True) (fun _ t => Rg g r t.heap) (Ag g sz)) 0 0 (Ag g sz) := by
  refine Met.ofW (cc := cX7_goAgain) (maxL := 4) (ret := (Option.none : Option Jvm.ClassFile.FieldType)) (by decide) rfl ?_
  intro p e s m args below meth c s₁ B hml hv
  obtain ⟨rfl, hT, hsz, hP⟩ := hv
  have hx := B.exec
  have hb := B.bytes
  have hr := B.returns
  have hts : ∀ w ∈ lw_all, w.before _ s = true := fun w h => atoms_spec (ws := (ws_ yX7_goAgain cX7_goAgain 4 (Option.none : Option Jvm.ClassFile.FieldType))) B.pre w (List.mem_cons_of_mem _ h)
  have hown : s.vm.findClass RX7 = some m.cls := findClass_of_methodNamed B.named
  have hlocks := B.notSynchronized
  subst hsz
  have hD := fun ν => Ag.apart hg s.heap.size ν
  have hC := hP.sh
  have hN := Ag.shr hg hP
  have hS : va_S (Ag g s.heap.size) s.heap s.heap [] := va_S.rf
  have hl := lv_entry ([.ref (g.ad 0), .ref (g.ad q), .ref (g.ad nw)]) (n := 4) (Nat.le_of_ble_eq_true rfl)
  rw [lg_entry_eq]
  generalize (lg_sl ([.ref (g.ad 0), .ref (g.ad q), .ref (g.ad nw)]) ++ List.replicate (4 - (lg_sl ([.ref (g.ad 0), .ref (g.ad q), .ref (g.ad nw)])).length) Slot.unset).toArray = ls at hl ⊢
  have hl : lv_has ls 4 [(0, .ref (g.ad 0)), (1, .ref (g.ad q)), (2, .ref (g.ad nw))] := hl
  unfold f_X7_goAgain at hf
  refine lv_aload_n hx hb dX7_goAgain_0 rfl (lv_at hl 1 rfl) ?_
  refine r_get hx hb hts i_X2 hown hT hP (inP hq) (fs := (fsP g q)) (obP hq) rfl 14 (by decide) q146 (fun _ h9 => h9) rfl dX7_goAgain_1 ?_
  refine lv_aload_n hx hb dX7_goAgain_4 rfl (lv_at hl 2 rfl) ?_
  refine r_get hx hb hts i_X1 hown hT hP (inN hnw) (fs := (fun _ => fsS (g.sh nw))) (obN hnw) rfl 0 (by decide) q1116 (fun _ h9 => h9) rfl dX7_goAgain_5 ?_
  obtain ⟨r_1, hc_2, hf⟩ := bnO_some hf
  refine va_calli (va_runSN (As := [.ref (g.ad (q + 24)), .int (g.sh nw 0)]) (rest := []) ⟨hx, hb, hml, hown, hts⟩ (c_X8_at l hg μ (q + 24) (g.sh nw 0) (show isP _ from hq).cnt hc_2) ⟨va_cnB 2 hts (gd_code q464) rfl rfl rfl (hT.2.1 _ nst_3) (hts _ q37) hd_X8_at.2 ⟨Nat.le_of_ble_eq_true rfl, Nat.le_of_ble_eq_true rfl⟩, hts _ q463, trivial⟩ ⟨Pz.blind, fun U hU hW => ⟨rfl, Tb.warm hW hT, by rw [hU]; exact hP⟩⟩ rfl rfl hl.1 rfl (lv_room (Nat.le_of_ble_eq_true rfl)) dX7_goAgain_8 ⟨Nat.le_of_ble_eq_true rfl, Nat.le_of_ble_eq_true rfl⟩) hS (fun q _ h => h.elim) (fun q h => h.elim) (fun v9 u9 t9 H locs ht9 hvm9 hw9 hB9 hz9 hk9 hS => ?_)
  have hP := Rg.keep hP (fun q h => hk9 q h id)
  rw [hw9]
  refine lv_istore_n (lv' := [(3, .int r_1), (0, .ref (g.ad 0)), (1, .ref (g.ad q)), (2, .ref (g.ad nw))]) hx hb dX7_goAgain_11 rfl hl (by decide) rfl (fun ls hl => ?_)
  refine lv_iload_n hx hb dX7_goAgain_12 rfl (lv_at hl 0 rfl) ?_
  refine lv_aload_n hx hb dX7_goAgain_13 rfl (lv_at hl 3 rfl) ?_
  refine r_get hx hb hts i_X1 hown hT hP (inN hnw) (fs := (fun _ => fsS (g.sh nw))) (obN hnw) rfl 3 (by decide) q1122 (fun _ h9 => h9) rfl dX7_goAgain_14 ?_
  refine lv_icmp_ge (tgt := 45) hx hb dX7_goAgain_17 (by decide) (fun c_3 => ?_) (fun c_3 => ?_)
  · have hf := (if_pos c_3).symm.trans hf
    refine lv_aload_n hx hb dX7_goAgain_45 rfl (lv_at hl 2 rfl) ?_
    refine r_get hx hb hts i_X2 hown hT hP (inP hq) (fs := (fsP g q)) (obP hq) rfl 14 (by decide) q146 (fun _ h9 => h9) rfl dX7_goAgain_46 ?_
    refine lv_aload_n hx hb dX7_goAgain_49 rfl (lv_at hl 3 rfl) ?_
    refine r_get hx hb hts i_X1 hown hT hP (inN hnw) (fs := (fun _ => fsS (g.sh nw))) (obN hnw) rfl 0 (by decide) q1116 (fun _ h9 => h9) rfl dX7_goAgain_50 ?_
    refine lv_iconst (v := 0) hx hb dX7_goAgain_53 (by decide) ?_
    obtain ⟨μ_6, hc_5, hf⟩ := bnO_some hf
    refine va_callv (va_runSN (As := [.ref (g.ad (q + 24)), .int (g.sh nw 0), .int 0]) (rest := []) ⟨hx, hb, hml, hown, hts⟩ (c_X8_set l hg μ H.size (q + 24) (g.sh nw 0) 0 (show isP _ from hq).cnt hc_5) ⟨va_cnB 3 hts (gd_code q480) rfl rfl rfl (hT.2.1 _ nst_4) (hts _ q37) hd_X8_set.2 ⟨Nat.le_of_ble_eq_true rfl, Nat.le_of_ble_eq_true rfl⟩, hts _ q479, trivial⟩ ⟨Pz.blind, fun U hU hW => ⟨rfl, Tb.warm hW hT, by rw [hU], by rw [hU]; exact hP⟩⟩ rfl rfl hl.1 rfl (lv_room (Nat.le_of_ble_eq_true rfl)) dX7_goAgain_54 ⟨Nat.le_of_ble_eq_true rfl, Nat.le_of_ble_eq_true rfl⟩) hS (fun q _ h => Ag.sub rfl hS q h) (fun q h => Ag.sub rfl hS q h) (fun u9 t9 H locs ht9 hvm9 hw9 hB9 hz9 hk9 hS => ?_)
    have hP : Rg g μ_6 H := by rw [← ht9]; exact hB9
    exact W.vret hx hb hr (fun t9 ht hW => ⟨⟨(), rfl, trivial, by show Rg g r t9.heap; rw [ht, ← Option.some.inj hf]; exact hP⟩, hS.F ht⟩) hS.2.2 dX7_goAgain_57
  · have hf := (if_neg c_3).symm.trans hf
    refine lv_aload_n hx hb dX7_goAgain_20 rfl (lv_at hl 2 rfl) ?_
    refine r_get hx hb hts i_X2 hown hT hP (inP hq) (fs := (fsP g q)) (obP hq) rfl 14 (by decide) q146 (fun _ h9 => h9) rfl dX7_goAgain_21 ?_
    refine lv_aload_n hx hb dX7_goAgain_24 rfl (lv_at hl 3 rfl) ?_
    refine r_get hx hb hts i_X1 hown hT hP (inN hnw) (fs := (fun _ => fsS (g.sh nw))) (obN hnw) rfl 0 (by decide) q1116 (fun _ h9 => h9) rfl dX7_goAgain_25 ?_
    refine lv_iload_n hx hb dX7_goAgain_28 rfl (lv_at hl 0 rfl) ?_
    refine lv_iconst (v := 1) hx hb dX7_goAgain_29 (by decide) ?_
    refine lv_iadd hx hb dX7_goAgain_30 ?_
    obtain ⟨μ_9, hc_8, hf⟩ := bnO_some hf
    refine va_callv (va_runSN (As := [.ref (g.ad (q + 24)), .int (g.sh nw 0), .int (r_1 + 1)]) (rest := []) ⟨hx, hb, hml, hown, hts⟩ (c_X8_set l hg μ H.size (q + 24) (g.sh nw 0) (r_1 + 1) (show isP _ from hq).cnt hc_8) ⟨va_cnB 3 hts (gd_code q480) rfl rfl rfl (hT.2.1 _ nst_4) (hts _ q37) hd_X8_set.2 ⟨Nat.le_of_ble_eq_true rfl, Nat.le_of_ble_eq_true rfl⟩, hts _ q479, trivial⟩ ⟨Pz.blind, fun U hU hW => ⟨rfl, Tb.warm hW hT, by rw [hU], by rw [hU]; exact hP⟩⟩ rfl rfl hl.1 rfl (lv_room (Nat.le_of_ble_eq_true rfl)) dX7_goAgain_31 ⟨Nat.le_of_ble_eq_true rfl, Nat.le_of_ble_eq_true rfl⟩) hS (fun q _ h => Ag.sub rfl hS q h) (fun q h => Ag.sub rfl hS q h) (fun u9 t9 H locs ht9 hvm9 hw9 hB9 hz9 hk9 hS => ?_)
    have hP : Rg g μ_9 H := by rw [← ht9]; exact hB9
    refine lv_aload_n hx hb dX7_goAgain_34 rfl (lv_at hl 2 rfl) ?_
    refine lv_aload_n hx hb dX7_goAgain_35 rfl (lv_at hl 3 rfl) ?_
    refine r_get hx hb hts i_X1 hown hT hP (inN hnw) (fs := (fun _ => fsS (g.sh nw))) (obN hnw) rfl 2 (by decide) q1120 (fun _ h9 => h9) rfl dX7_goAgain_36 ?_
    refine r_put hx hb hts i_X2 tyX2 tyX2_ok nmX2 hown hT hP hD hC hN hS (mtP hq) (fs := (fsP g q)) (obP hq) rfl 3 (by decide) q119 (fun _ h9 => h9) rfl (ty := .int) (x := g.sh nw 2) rfl rfl rfl (fun _ => rfl) (Nat.le_of_ble_eq_true rfl) dX7_goAgain_39 (fun H locs hP hS => ?_)
    obtain ⟨μ_10, eμ_10⟩ : ∃ z, put μ_9 q 3 (g.sh nw 2) = z := ⟨_, rfl⟩
    rw [eμ_10] at hP
    have hf := bnd_eq hf _ eμ_10
    refine lv_goto (tgt := 57) hx hb dX7_goAgain_42 (by decide) ?_
    exact W.vret hx hb hr (fun t9 ht hW => ⟨⟨(), rfl, trivial, by show Rg g r t9.heap; rw [ht, ← Option.some.inj hf]; exact hP⟩, hS.F ht⟩) hS.2.2 dX7_goAgain_57
/-- "Sandglass$World" "giveUnits" "(LSandglass$Proc;LSandglass$Resource;)V" -/
def f_X7_giveUnits (g : Fg) (μ : Mem) (q : Nat) (rs : Nat) : Option (Mem) := bnd (put μ 0 9 ((μ 0 9) + 1)) fun μ_1 => bnd (put μ_1 q 9 (-1)) fun μ_2 => bnd (put μ_2 rs 3 ((μ_2 rs 3) - (μ_2 q 12))) fun μ_3 => bnO (f_X8_at g μ_3 (q + 48) (μ_3 rs 0)) fun r_4 => bnO (f_X8_set g μ_3 (q + 48) (μ_3 rs 0) (r_4 + (μ_3 q 12))) fun μ_8 => bnO (f_X8_set g μ_8 (q + 72) (μ_8 rs 0) (μ_8 0 9)) fun μ_11 => some μ_11
theorem hd_X7_giveUnits : yX7_giveUnits.cls = RX7 ∧ yX7_giveUnits.cls ≠ "java/lang/invoke/MethodHandle" ∧ yX7_giveUnits.cls ≠ "java/lang/invoke/VarHandle" ∧ (parseMethodDescriptor yX7_giveUnits.desc).map (fun d => d.parameters.length) = some 2 := by decide +kernel
set_option maxHeartbeats 4000000 in
set_option maxRecDepth 100000 in
theorem c_X7_giveUnits (l : Launch) {g : Geo} (hg : Good g) (μ : Mem) (sz : Nat) (q : Nat) (rs : Nat) (hq : isP q) (hrs : isR g rs) {r : Mem} (hf : f_X7_giveUnits g.F μ q rs = some r) : Met l yX7_giveUnits (ws_ yX7_giveUnits cX7_giveUnits 3 (Option.none : Option Jvm.ClassFile.FieldType)) (rm_ 1 22 0 0) (Pz g [.ref (g.ad 0), .ref (g.ad q), .ref (g.ad rs)] (fun H9 => H9.size = sz ∧ Rg g μ H9)) (va_Qv (fun _ : Unit => True) (fun _ t => Rg g r t.heap) (Ag g sz)) 0 0 (Ag g sz) := by
  refine Met.ofW (cc := cX7_giveUnits) (maxL := 3) (ret := (Option.none : Option Jvm.ClassFile.FieldType)) (by decide) rfl ?_
  intro p e s m args below meth c s₁ B hml hv
  obtain ⟨rfl, hT, hsz, hP⟩ := hv
  have hx := B.exec
  have hb := B.bytes
  have hr := B.returns
  have hts : ∀ w ∈ lw_all, w.before _ s = true := fun w h => atoms_spec (ws := (ws_ yX7_giveUnits cX7_giveUnits 3 (Option.none : Option Jvm.ClassFile.FieldType))) B.pre w (List.mem_cons_of_mem _ h)
  have hown : s.vm.findClass RX7 = some m.cls := findClass_of_methodNamed B.named
  have hlocks := B.notSynchronized
  subst hsz
  have hD := fun ν => Ag.apart hg s.heap.size ν
  have hC := hP.sh
  have hN := Ag.shr hg hP
  have hS : va_S (Ag g s.heap.size) s.heap s.heap [] := va_S.rf
  have hl := lv_entry ([.ref (g.ad 0), .ref (g.ad q), .ref (g.ad rs)]) (n := 3) (Nat.le_of_ble_eq_true rfl)
  rw [lg_entry_eq]
  generalize (lg_sl ([.ref (g.ad 0), .ref (g.ad q), .ref (g.ad rs)]) ++ List.replicate (3 - (lg_sl ([.ref (g.ad 0), .ref (g.ad q), .ref (g.ad rs)])).length) Slot.unset).toArray = ls at hl ⊢
  have hl : lv_has ls 3 [(0, .ref (g.ad 0)), (1, .ref (g.ad q)), (2, .ref (g.ad rs))] := hl
  unfold f_X7_giveUnits at hf
  refine lv_aload_n hx hb dX7_giveUnits_0 rfl (lv_at hl 0 rfl) ?_
  refine lv_dup hx hb dX7_giveUnits_1 rfl ?_
  refine r_get hx hb hts i_X7 hown hT hP inW (fs := (fsW g)) (obW g) rfl 9 (by decide) q203 (fun _ h9 => h9) rfl dX7_giveUnits_2 ?_
  refine lv_iconst (v := 1) hx hb dX7_giveUnits_5 (by decide) ?_
  refine lv_iadd hx hb dX7_giveUnits_6 ?_
  refine r_put hx hb hts i_X7 tyX7 tyX7_ok nmX7 hown hT hP hD hC hN hS mtW (fs := (fsW g)) (obW g) rfl 9 (by decide) q203 (fun _ h9 => h9) rfl (ty := .int) (x := (μ 0 9) + 1) rfl rfl rfl (fun _ => rfl) (Nat.le_of_ble_eq_true rfl) dX7_giveUnits_7 (fun H locs hP hS => ?_)
  obtain ⟨μ_1, eμ_1⟩ : ∃ z, put μ 0 9 ((μ 0 9) + 1) = z := ⟨_, rfl⟩
  rw [eμ_1] at hP
  have hf := bnd_eq hf _ eμ_1
  refine lv_aload_n hx hb dX7_giveUnits_10 rfl (lv_at hl 1 rfl) ?_
  refine lv_iconst (v := (-1)) hx hb dX7_giveUnits_11 (by decide) ?_
  refine r_put hx hb hts i_X2 tyX2 tyX2_ok nmX2 hown hT hP hD hC hN hS (mtP hq) (fs := (fsP g q)) (obP hq) rfl 9 (by decide) q136 (fun _ h9 => h9) rfl (ty := .int) (x := (-1)) rfl rfl rfl (fun _ => rfl) (Nat.le_of_ble_eq_true rfl) dX7_giveUnits_12 (fun H locs hP hS => ?_)
  obtain ⟨μ_2, eμ_2⟩ : ∃ z, put μ_1 q 9 (-1) = z := ⟨_, rfl⟩
  rw [eμ_2] at hP
  have hf := bnd_eq hf _ eμ_2
  refine lv_aload_n hx hb dX7_giveUnits_15 rfl (lv_at hl 2 rfl) ?_
  refine lv_dup hx hb dX7_giveUnits_16 rfl ?_
  refine r_get hx hb hts i_X3 hown hT hP (inR hrs) (fs := fsR) (obR hrs) rfl 3 (by decide) q955 (fun _ h9 => h9) rfl dX7_giveUnits_17 ?_
  refine lv_aload_n hx hb dX7_giveUnits_20 rfl (lv_at hl 1 rfl) ?_
  refine r_get hx hb hts i_X2 hown hT hP (inP hq) (fs := (fsP g q)) (obP hq) rfl 12 (by decide) q142 (fun _ h9 => h9) rfl dX7_giveUnits_21 ?_
  refine lv_isub hx hb dX7_giveUnits_24 ?_
  refine r_put hx hb hts i_X3 tyX3 tyX3_ok nmX3 hown hT hP hD hC hN hS (mtR hrs) (fs := fsR) (obR hrs) rfl 3 (by decide) q955 (fun _ h9 => h9) rfl (ty := .int) (x := (μ_2 rs 3) - (μ_2 q 12)) rfl rfl rfl (fun _ => rfl) (Nat.le_of_ble_eq_true rfl) dX7_giveUnits_25 (fun H locs hP hS => ?_)
  obtain ⟨μ_3, eμ_3⟩ : ∃ z, put μ_2 rs 3 ((μ_2 rs 3) - (μ_2 q 12)) = z := ⟨_, rfl⟩
  rw [eμ_3] at hP
  have hf := bnd_eq hf _ eμ_3
  refine lv_aload_n hx hb dX7_giveUnits_28 rfl (lv_at hl 1 rfl) ?_
  refine r_get hx hb hts i_X2 hown hT hP (inP hq) (fs := (fsP g q)) (obP hq) rfl 15 (by decide) q149 (fun _ h9 => h9) rfl dX7_giveUnits_29 ?_
  refine lv_aload_n hx hb dX7_giveUnits_32 rfl (lv_at hl 2 rfl) ?_
  refine r_get hx hb hts i_X3 hown hT hP (inR hrs) (fs := fsR) (obR hrs) rfl 0 (by decide) q948 (fun _ h9 => h9) rfl dX7_giveUnits_33 ?_
  refine lv_aload_n hx hb dX7_giveUnits_36 rfl (lv_at hl 1 rfl) ?_
  refine r_get hx hb hts i_X2 hown hT hP (inP hq) (fs := (fsP g q)) (obP hq) rfl 15 (by decide) q149 (fun _ h9 => h9) rfl dX7_giveUnits_37 ?_
  refine lv_aload_n hx hb dX7_giveUnits_40 rfl (lv_at hl 2 rfl) ?_
  refine r_get hx hb hts i_X3 hown hT hP (inR hrs) (fs := fsR) (obR hrs) rfl 0 (by decide) q948 (fun _ h9 => h9) rfl dX7_giveUnits_41 ?_
  obtain ⟨r_4, hc_5, hf⟩ := bnO_some hf
  refine va_calli (va_runSN (As := [.ref (g.ad (q + 48)), .int (μ_3 rs 0)]) (rest := [.int (μ_3 rs 0), .ref (g.ad (q + 48))]) ⟨hx, hb, hml, hown, hts⟩ (c_X8_at l hg μ_3 (q + 48) (μ_3 rs 0) (show isP _ from hq).hld hc_5) ⟨va_cnB 2 hts (gd_code q464) rfl rfl rfl (hT.2.1 _ nst_3) (hts _ q37) hd_X8_at.2 ⟨Nat.le_of_ble_eq_true rfl, Nat.le_of_ble_eq_true rfl⟩, hts _ q463, trivial⟩ ⟨Pz.blind, fun U hU hW => ⟨rfl, Tb.warm hW hT, by rw [hU]; exact hP⟩⟩ rfl rfl hl.1 rfl (lv_room (Nat.le_of_ble_eq_true rfl)) dX7_giveUnits_44 ⟨Nat.le_of_ble_eq_true rfl, Nat.le_of_ble_eq_true rfl⟩) hS (fun q _ h => h.elim) (fun q h => h.elim) (fun v9 u9 t9 H locs ht9 hvm9 hw9 hB9 hz9 hk9 hS => ?_)
  have hP := Rg.keep hP (fun q h => hk9 q h id)
  rw [hw9]
  refine lv_aload_n hx hb dX7_giveUnits_47 rfl (lv_at hl 1 rfl) ?_
  refine r_get hx hb hts i_X2 hown hT hP (inP hq) (fs := (fsP g q)) (obP hq) rfl 12 (by decide) q142 (fun _ h9 => h9) rfl dX7_giveUnits_48 ?_
  refine lv_iadd hx hb dX7_giveUnits_51 ?_
  obtain ⟨μ_8, hc_7, hf⟩ := bnO_some hf
  refine va_callv (va_runSN (As := [.ref (g.ad (q + 48)), .int (μ_3 rs 0), .int (r_4 + (μ_3 q 12))]) (rest := []) ⟨hx, hb, hml, hown, hts⟩ (c_X8_set l hg μ_3 H.size (q + 48) (μ_3 rs 0) (r_4 + (μ_3 q 12)) (show isP _ from hq).hld hc_7) ⟨va_cnB 3 hts (gd_code q480) rfl rfl rfl (hT.2.1 _ nst_4) (hts _ q37) hd_X8_set.2 ⟨Nat.le_of_ble_eq_true rfl, Nat.le_of_ble_eq_true rfl⟩, hts _ q479, trivial⟩ ⟨Pz.blind, fun U hU hW => ⟨rfl, Tb.warm hW hT, by rw [hU], by rw [hU]; exact hP⟩⟩ rfl rfl hl.1 rfl (lv_room (Nat.le_of_ble_eq_true rfl)) dX7_giveUnits_52 ⟨Nat.le_of_ble_eq_true rfl, Nat.le_of_ble_eq_true rfl⟩) hS (fun q _ h => Ag.sub rfl hS q h) (fun q h => Ag.sub rfl hS q h) (fun u9 t9 H locs ht9 hvm9 hw9 hB9 hz9 hk9 hS => ?_)
  have hP : Rg g μ_8 H := by rw [← ht9]; exact hB9
  refine lv_aload_n hx hb dX7_giveUnits_55 rfl (lv_at hl 1 rfl) ?_
  refine r_get hx hb hts i_X2 hown hT hP (inP hq) (fs := (fsP g q)) (obP hq) rfl 16 (by decide) q151 (fun _ h9 => h9) rfl dX7_giveUnits_56 ?_
  refine lv_aload_n hx hb dX7_giveUnits_59 rfl (lv_at hl 2 rfl) ?_
  refine r_get hx hb hts i_X3 hown hT hP (inR hrs) (fs := fsR) (obR hrs) rfl 0 (by decide) q948 (fun _ h9 => h9) rfl dX7_giveUnits_60 ?_
  refine lv_aload_n hx hb dX7_giveUnits_63 rfl (lv_at hl 0 rfl) ?_
  refine r_get hx hb hts i_X7 hown hT hP inW (fs := (fsW g)) (obW g) rfl 9 (by decide) q203 (fun _ h9 => h9) rfl dX7_giveUnits_64 ?_
  obtain ⟨μ_11, hc_10, hf⟩ := bnO_some hf
  refine va_callv (va_runSN (As := [.ref (g.ad (q + 72)), .int (μ_8 rs 0), .int (μ_8 0 9)]) (rest := []) ⟨hx, hb, hml, hown, hts⟩ (c_X8_set l hg μ_8 H.size (q + 72) (μ_8 rs 0) (μ_8 0 9) (show isP _ from hq).got hc_10) ⟨va_cnB 3 hts (gd_code q480) rfl rfl rfl (hT.2.1 _ nst_4) (hts _ q37) hd_X8_set.2 ⟨Nat.le_of_ble_eq_true rfl, Nat.le_of_ble_eq_true rfl⟩, hts _ q479, trivial⟩ ⟨Pz.blind, fun U hU hW => ⟨rfl, Tb.warm hW hT, by rw [hU], by rw [hU]; exact hP⟩⟩ rfl rfl hl.1 rfl (lv_room (Nat.le_of_ble_eq_true rfl)) dX7_giveUnits_67 ⟨Nat.le_of_ble_eq_true rfl, Nat.le_of_ble_eq_true rfl⟩) hS (fun q _ h => Ag.sub rfl hS q h) (fun q h => Ag.sub rfl hS q h) (fun u9 t9 H locs ht9 hvm9 hw9 hB9 hz9 hk9 hS => ?_)
  have hP : Rg g μ_11 H := by rw [← ht9]; exact hB9
  exact W.vret hx hb hr (fun t9 ht hW => ⟨⟨(), rfl, trivial, by show Rg g r t9.heap; rw [ht, ← Option.some.inj hf]; exact hP⟩, hS.F ht⟩) hS.2.2 dX7_giveUnits_70
/-- "Sandglass$World" "unitsToTake" "(LSandglass$Proc;LSandglass$Proc;LSandglass$Resource;)I" -/
def b_X7_unitsToTake_23 (g : Fg) (μ : Mem) (x2 : Nat) (x3 : Nat) : Option (Int32) := some 0
def f_X7_unitsToTake (g : Fg) (μ : Mem) (q : Nat) (o : Nat) (rs : Nat) : Option (Int32) := if (μ o 6) = 1 then (if (μ o 2) ≤ (μ q 2) then (b_X7_unitsToTake_23 g μ o rs) else (bnO (f_X8_at g μ (o + 48) (μ rs 0)) fun r_4 => some r_4)) else (b_X7_unitsToTake_23 g μ o rs)
theorem hd_X7_unitsToTake : yX7_unitsToTake.cls = RX7 ∧ yX7_unitsToTake.cls ≠ "java/lang/invoke/MethodHandle" ∧ yX7_unitsToTake.cls ≠ "java/lang/invoke/VarHandle" ∧ (parseMethodDescriptor yX7_unitsToTake.desc).map (fun d => d.parameters.length) = some 3 := by decide +kernel
set_option maxHeartbeats 4000000 in
set_option maxRecDepth 100000 in
theorem c_X7_unitsToTake (l : Launch) {g : Geo} (hg : Good g) (μ : Mem) (q : Nat) (o : Nat) (rs : Nat) (hq : isP q) (ho : isP o) (hrs : isR g rs) {r : Int32} (hf : f_X7_unitsToTake g.F μ q o rs = some r) : Met l yX7_unitsToTake (ws_ yX7_unitsToTake cX7_unitsToTake 5 (some .int)) (rm_ 1 21 0 0) (Pz g [.ref (g.ad 0), .ref (g.ad q), .ref (g.ad o), .ref (g.ad rs)] (Rg g μ)) (va_Qi (fun (v : Int32) (_ : Unit) => v = r) (fun _ _ => True) (fun _ => False)) 0 0 (fun _ => False) := by
  refine Met.ofW (cc := cX7_unitsToTake) (maxL := 5) (ret := (some .int)) (by decide) rfl ?_
  intro p e s m args below meth c s₁ B hml hv
  obtain ⟨rfl, hT, hP⟩ := hv
  have hx := B.exec
  have hb := B.bytes
  have hr := B.returns
  have hts : ∀ w ∈ lw_all, w.before _ s = true := fun w h => atoms_spec (ws := (ws_ yX7_unitsToTake cX7_unitsToTake 5 (some .int))) B.pre w (List.mem_cons_of_mem _ h)
  have hown : s.vm.findClass RX7 = some m.cls := findClass_of_methodNamed B.named
  have hlocks := B.notSynchronized
  have hS : va_S (fun _ => False) s.heap s.heap [] := va_S.rf
  have L23 : ∀ (μ : Mem) (x2 : Nat) (x3 : Nat) (H : Heap) (locs : List Loc) (ls : Array Slot), Rg g μ H → va_S (fun _ => False) s.heap H locs → lv_has ls 5 [(2, .ref (g.ad x2)), (3, .ref (g.ad x3))] → isP x2 → isR g x3 → b_X7_unitsToTake_23 g.F μ x2 x3 = some r → W p l e (headSpec (ws_ yX7_unitsToTake cX7_unitsToTake 5 (some .int)) (rm_ 1 21 0 0)).room s m ([.ref (g.ad 0), .ref (g.ad q), .ref (g.ad o), .ref (g.ad rs)] : List Value).toArray below meth c H locs 0 0 (MQ below (va_Qi (fun (v : Int32) (_ : Unit) => v = r) (fun _ _ => True) (fun _ => False)) ([.ref (g.ad 0), .ref (g.ad q), .ref (g.ad o), .ref (g.ad rs)] : List Value).toArray s 0 0 (fun _ => False)) (F0 m 23 ls []) := by
    intro μ x2 x3 H locs ls hP hS hl hx2 hx3 hf
    unfold b_X7_unitsToTake_23 at hf
    refine lv_iconst (v := 0) hx hb dX7_unitsToTake_23 (by decide) ?_
    refine lv_istore (lv' := [(4, .int 0), (2, .ref (g.ad x2)), (3, .ref (g.ad x3))]) hx hb dX7_unitsToTake_24 hl (by decide) rfl (fun ls hl => ?_)
    refine lv_iload hx hb dX7_unitsToTake_26 (lv_at hl 0 rfl) ?_
    refine lv_if_eq (tgt := 45) hx hb dX7_unitsToTake_28 (by decide) (fun c_6 => ?_) (fun c_6 => absurd (by decide) c_6)
    refine lv_iconst (v := 0) hx hb dX7_unitsToTake_45 (by decide) ?_
    exact W.iret (v := 0) hx hb hr (fun t9 ht hW => ⟨⟨0, (), rfl, Option.some.inj hf, trivial⟩, hS.F ht⟩) hS.2.2 dX7_unitsToTake_46
  have hl := lv_entry ([.ref (g.ad 0), .ref (g.ad q), .ref (g.ad o), .ref (g.ad rs)]) (n := 5) (Nat.le_of_ble_eq_true rfl)
  rw [lg_entry_eq]
  generalize (lg_sl ([.ref (g.ad 0), .ref (g.ad q), .ref (g.ad o), .ref (g.ad rs)]) ++ List.replicate (5 - (lg_sl ([.ref (g.ad 0), .ref (g.ad q), .ref (g.ad o), .ref (g.ad rs)])).length) Slot.unset).toArray = ls at hl ⊢
  have hl : lv_has ls 5 [(0, .ref (g.ad 0)), (1, .ref (g.ad q)), (2, .ref (g.ad o)), (3, .ref (g.ad rs))] := hl
  unfold f_X7_unitsToTake at hf
  refine lv_aload_n hx hb dX7_unitsToTake_0 rfl (lv_at hl 2 rfl) ?_
  refine r_get hx hb hts i_X2 hown hT hP (inP ho) (fs := (fsP g o)) (obP ho) rfl 6 (by decide) q128 (fun _ h9 => h9) rfl dX7_unitsToTake_1 ?_
  refine lv_iconst (v := 1) hx hb dX7_unitsToTake_4 (by decide) ?_
  refine lv_icmp_ne (tgt := 23) hx hb dX7_unitsToTake_5 (by decide) (fun c_1 => ?_) (fun c_1 => ?_)
  · have hf := (if_neg c_1).symm.trans hf
    exact L23 μ o rs _ _ _ hP hS (lv_sub hl [2, 3] rfl) ho hrs hf
  · have hf := (if_pos c_1).symm.trans hf
    refine lv_aload_n hx hb dX7_unitsToTake_8 rfl (lv_at hl 2 rfl) ?_
    refine r_get hx hb hts i_X2 hown hT hP (inP ho) (fs := (fsP g o)) (obP ho) rfl 2 (by decide) q116 (fun _ h9 => h9) rfl dX7_unitsToTake_9 ?_
    refine lv_aload_n hx hb dX7_unitsToTake_12 rfl (lv_at hl 1 rfl) ?_
    refine r_get hx hb hts i_X2 hown hT hP (inP hq) (fs := (fsP g q)) (obP hq) rfl 2 (by decide) q116 (fun _ h9 => h9) rfl dX7_unitsToTake_13 ?_
    refine lv_icmp_le (tgt := 23) hx hb dX7_unitsToTake_16 (by decide) (fun c_2 => ?_) (fun c_2 => ?_)
    · have hf := (if_pos c_2).symm.trans hf
      exact L23 μ o rs _ _ _ hP hS (lv_sub hl [2, 3] rfl) ho hrs hf
    · have hf := (if_neg c_2).symm.trans hf
      refine lv_iconst (v := 1) hx hb dX7_unitsToTake_19 (by decide) ?_
      refine lv_goto (tgt := 24) hx hb dX7_unitsToTake_20 (by decide) ?_
      refine lv_istore (lv' := [(4, .int 1), (0, .ref (g.ad 0)), (1, .ref (g.ad q)), (2, .ref (g.ad o)), (3, .ref (g.ad rs))]) hx hb dX7_unitsToTake_24 hl (by decide) rfl (fun ls hl => ?_)
      refine lv_iload hx hb dX7_unitsToTake_26 (lv_at hl 0 rfl) ?_
      refine lv_if_eq (tgt := 45) hx hb dX7_unitsToTake_28 (by decide) (fun c_3 => absurd c_3 (by decide)) (fun c_3 => ?_)
      refine lv_aload_n hx hb dX7_unitsToTake_31 rfl (lv_at hl 3 rfl) ?_
      refine r_get hx hb hts i_X2 hown hT hP (inP ho) (fs := (fsP g o)) (obP ho) rfl 15 (by decide) q149 (fun _ h9 => h9) rfl dX7_unitsToTake_32 ?_
      refine lv_aload_n hx hb dX7_unitsToTake_35 rfl (lv_at hl 4 rfl) ?_
      refine r_get hx hb hts i_X3 hown hT hP (inR hrs) (fs := fsR) (obR hrs) rfl 0 (by decide) q948 (fun _ h9 => h9) rfl dX7_unitsToTake_36 ?_
      obtain ⟨r_4, hc_5, hf⟩ := bnO_some hf
      refine va_calli (va_runSN (As := [.ref (g.ad (o + 48)), .int (μ rs 0)]) (rest := []) ⟨hx, hb, hml, hown, hts⟩ (c_X8_at l hg μ (o + 48) (μ rs 0) (show isP _ from ho).hld hc_5) ⟨va_cnB 2 hts (gd_code q464) rfl rfl rfl (hT.2.1 _ nst_3) (hts _ q37) hd_X8_at.2 ⟨Nat.le_of_ble_eq_true rfl, Nat.le_of_ble_eq_true rfl⟩, hts _ q463, trivial⟩ ⟨Pz.blind, fun U hU hW => ⟨rfl, Tb.warm hW hT, by rw [hU]; exact hP⟩⟩ rfl rfl hl.1 rfl (lv_room (Nat.le_of_ble_eq_true rfl)) dX7_unitsToTake_39 ⟨Nat.le_of_ble_eq_true rfl, Nat.le_of_ble_eq_true rfl⟩) hS (fun q _ h => h.elim) (fun q h => h.elim) (fun v9 u9 t9 H locs ht9 hvm9 hw9 hB9 hz9 hk9 hS => ?_)
      have hP := Rg.keep hP (fun q h => hk9 q h id)
      rw [hw9]
      refine lv_goto (tgt := 46) hx hb dX7_unitsToTake_42 (by decide) ?_
      exact W.iret (v := r_4) hx hb hr (fun t9 ht hW => ⟨⟨r_4, (), rfl, Option.some.inj hf, trivial⟩, hS.F ht⟩) hS.2.2 dX7_unitsToTake_46
/-- "Sandglass$World" "unitsOfVictims" "(LSandglass$Proc;LSandglass$Resource;)I" -/
def b_X7_unitsOfVictims_16 (g : Fg) : Nat → Mem → Nat → Nat → Int32 → Int32 → Int32 → Option (Int32)
  | 0, _, _, _, _, _, _ => none
  | n + 1, μ, x1, x2, x3, x5, x6 => if x5 ≤ x6 then (some x3) else (grd (¬ (x6 < 0 ∨ 24 ≤ x6.toNatClampNeg)) (bnd (x6.toNatClampNeg + 1) fun k_4 => bnO (f_X7_unitsToTake g μ x1 k_4 x2) fun r_5 => b_X7_unitsOfVictims_16 g n μ x1 x2 (x3 + r_5) x5 (x6 + 1)))
def f_X7_unitsOfVictims (g : Fg) (μ : Mem) (q : Nat) (rs : Nat) : Option (Int32) := b_X7_unitsOfVictims_16 g fu μ q rs 0 24 0
theorem hd_X7_unitsOfVictims : yX7_unitsOfVictims.cls = RX7 ∧ yX7_unitsOfVictims.cls ≠ "java/lang/invoke/MethodHandle" ∧ yX7_unitsOfVictims.cls ≠ "java/lang/invoke/VarHandle" ∧ (parseMethodDescriptor yX7_unitsOfVictims.desc).map (fun d => d.parameters.length) = some 2 := by decide +kernel
set_option maxHeartbeats 4000000 in
set_option maxRecDepth 100000 in
theorem c_X7_unitsOfVictims (l : Launch) {g : Geo} (hg : Good g) (μ : Mem) (q : Nat) (rs : Nat) (hq : isP q) (hrs : isR g rs) {r : Int32} (hf : f_X7_unitsOfVictims g.F μ q rs = some r) : Met l yX7_unitsOfVictims (ws_ yX7_unitsOfVictims cX7_unitsOfVictims 8 (some .int)) (rm_ 2 45 0 0) (Pz g [.ref (g.ad 0), .ref (g.ad q), .ref (g.ad rs)] (Rg g μ)) (va_Qi (fun (v : Int32) (_ : Unit) => v = r) (fun _ _ => True) (fun _ => False)) 0 0 (fun _ => False) := by
  refine Met.ofW (cc := cX7_unitsOfVictims) (maxL := 8) (ret := (some .int)) (by decide) rfl ?_
  intro p e s m args below meth c s₁ B hml hv
  obtain ⟨rfl, hT, hP⟩ := hv
  have hx := B.exec
  have hb := B.bytes
  have hr := B.returns
  have hts : ∀ w ∈ lw_all, w.before _ s = true := fun w h => atoms_spec (ws := (ws_ yX7_unitsOfVictims cX7_unitsOfVictims 8 (some .int))) B.pre w (List.mem_cons_of_mem _ h)
  have hown : s.vm.findClass RX7 = some m.cls := findClass_of_methodNamed B.named
  have hlocks := B.notSynchronized
  have hS : va_S (fun _ => False) s.heap s.heap [] := va_S.rf
  have L16 : ∀ (n : Nat) (μ : Mem) (x1 : Nat) (x2 : Nat) (x3 : Int32) (x5 : Int32) (x6 : Int32) (H : Heap) (locs : List Loc) (ls : Array Slot), Rg g μ H → va_S (fun _ => False) s.heap H locs → lv_has ls 8 [(0, .ref (g.ad 0)), (1, .ref (g.ad x1)), (2, .ref (g.ad x2)), (3, .int x3), (4, .ref (g.ad 97)), (5, .int x5), (6, .int x6)] → isP x1 → isR g x2 → b_X7_unitsOfVictims_16 g.F n μ x1 x2 x3 x5 x6 = some r → W p l e (headSpec (ws_ yX7_unitsOfVictims cX7_unitsOfVictims 8 (some .int)) (rm_ 2 45 0 0)).room s m ([.ref (g.ad 0), .ref (g.ad q), .ref (g.ad rs)] : List Value).toArray below meth c H locs 0 0 (MQ below (va_Qi (fun (v : Int32) (_ : Unit) => v = r) (fun _ _ => True) (fun _ => False)) ([.ref (g.ad 0), .ref (g.ad q), .ref (g.ad rs)] : List Value).toArray s 0 0 (fun _ => False)) (F0 m 16 ls []) := by
    intro n
    induction n with
    | zero => intro μ x1 x2 x3 x5 x6 H locs ls hP hS hl hx1 hx2 hf; cases hf
    | succ n ih =>
      intro μ x1 x2 x3 x5 x6 H locs ls hP hS hl hx1 hx2 hf
      rw [b_X7_unitsOfVictims_16] at hf
      refine lv_iload hx hb dX7_unitsOfVictims_16 (lv_at hl 6 rfl) ?_
      refine lv_iload hx hb dX7_unitsOfVictims_18 (lv_at hl 5 rfl) ?_
      refine lv_icmp_ge (tgt := 47) hx hb dX7_unitsOfVictims_20 (by decide) (fun c_1 => ?_) (fun c_1 => ?_)
      · have hf := (if_pos c_1).symm.trans hf
        refine lv_iload_n hx hb dX7_unitsOfVictims_47 rfl (lv_at hl 3 rfl) ?_
        exact W.iret (v := x3) hx hb hr (fun t9 ht hW => ⟨⟨x3, (), rfl, Option.some.inj hf, trivial⟩, hS.F ht⟩) hS.2.2 dX7_unitsOfVictims_48
      · have hf := (if_neg c_1).symm.trans hf
        refine lv_aload hx hb dX7_unitsOfVictims_23 (lv_at hl 4 rfl) ?_
        refine lv_iload hx hb dX7_unitsOfVictims_25 (lv_at hl 6 rfl) ?_
        obtain ⟨hi_2, hf⟩ := grd_some hf
        refine r_aaldP hx hb hT hP hi_2 dX7_unitsOfVictims_27 (fun hp_3 => ?_)
        obtain ⟨k_4, ek_4⟩ : ∃ z, x6.toNatClampNeg + 1 = z := ⟨_, rfl⟩
        rw [ek_4] at hp_3 ⊢
        have hf := bnd_eq hf _ ek_4
        refine lv_astore (lv' := [(7, .ref (g.ad k_4)), (0, .ref (g.ad 0)), (1, .ref (g.ad x1)), (2, .ref (g.ad x2)), (3, .int x3), (4, .ref (g.ad 97)), (5, .int x5), (6, .int x6)]) hx hb dX7_unitsOfVictims_28 hl (by decide) rfl (fun ls hl => ?_)
        refine lv_iload_n hx hb dX7_unitsOfVictims_30 rfl (lv_at hl 4 rfl) ?_
        refine lv_aload_n hx hb dX7_unitsOfVictims_31 rfl (lv_at hl 1 rfl) ?_
        refine lv_aload_n hx hb dX7_unitsOfVictims_32 rfl (lv_at hl 2 rfl) ?_
        refine lv_aload hx hb dX7_unitsOfVictims_33 (lv_at hl 0 rfl) ?_
        refine lv_aload_n hx hb dX7_unitsOfVictims_35 rfl (lv_at hl 3 rfl) ?_
        obtain ⟨r_5, hc_6, hf⟩ := bnO_some hf
        refine va_calli (va_runV (As := [.ref (g.ad x1), .ref (g.ad k_4), .ref (g.ad x2)]) (rest := [.int x3]) ⟨hx, hb, hml, hown, hts⟩ (c_X7_unitsToTake l hg μ x1 k_4 x2 hx1 hp_3 hx2 hc_6) (cwV 3 hts (gd_V q458 q460 q9 q41 q461) rfl rfl rfl hd_X7_unitsToTake ⟨Nat.le_of_ble_eq_true rfl, Nat.le_of_ble_eq_true rfl⟩) ⟨Pz.blind, r_recv hT hP inW (fs := (fsW g)) (obW g) rfl, fun U hU hW => ⟨rfl, Tb.warm hW hT, by rw [hU]; exact hP⟩⟩ rfl rfl hl.1 rfl (lv_room (Nat.le_of_ble_eq_true rfl)) dX7_unitsOfVictims_36 ⟨Nat.le_of_ble_eq_true rfl, Nat.le_of_ble_eq_true rfl⟩) hS (fun q _ h => h.elim) (fun q h => h.elim) (fun v9 u9 t9 H locs ht9 hvm9 hw9 hB9 hz9 hk9 hS => ?_)
        have hP := Rg.keep hP (fun q h => hk9 q h id)
        rw [hw9]
        refine lv_iadd hx hb dX7_unitsOfVictims_39 ?_
        refine lv_istore_n (lv' := [(3, .int (x3 + r_5)), (7, .ref (g.ad k_4)), (0, .ref (g.ad 0)), (1, .ref (g.ad x1)), (2, .ref (g.ad x2)), (4, .ref (g.ad 97)), (5, .int x5), (6, .int x6)]) hx hb dX7_unitsOfVictims_40 rfl hl (by decide) rfl (fun ls hl => ?_)
        refine lv_iinc (v := x6 + 1) (lv' := [(6, .int (x6 + 1)), (3, .int (x3 + r_5)), (7, .ref (g.ad k_4)), (0, .ref (g.ad 0)), (1, .ref (g.ad x1)), (2, .ref (g.ad x2)), (4, .ref (g.ad 97)), (5, .int x5)]) hx hb dX7_unitsOfVictims_41 hl (k := 7) rfl rfl (by decide) rfl (fun ls hl => ?_)
        refine lv_goto (tgt := 16) hx hb dX7_unitsOfVictims_44 (by decide) ?_
        exact ih μ x1 x2 (x3 + r_5) x5 (x6 + 1) _ _ _ hP hS (lv_sub hl [3, 4, 5, 1, 6, 7, 0] rfl) hx1 hx2 hf
  have hl := lv_entry ([.ref (g.ad 0), .ref (g.ad q), .ref (g.ad rs)]) (n := 8) (Nat.le_of_ble_eq_true rfl)
  rw [lg_entry_eq]
  generalize (lg_sl ([.ref (g.ad 0), .ref (g.ad q), .ref (g.ad rs)]) ++ List.replicate (8 - (lg_sl ([.ref (g.ad 0), .ref (g.ad q), .ref (g.ad rs)])).length) Slot.unset).toArray = ls at hl ⊢
  have hl : lv_has ls 8 [(0, .ref (g.ad 0)), (1, .ref (g.ad q)), (2, .ref (g.ad rs))] := hl
  unfold f_X7_unitsOfVictims at hf
  refine lv_iconst (v := 0) hx hb dX7_unitsOfVictims_0 (by decide) ?_
  refine lv_istore_n (lv' := [(3, .int 0), (0, .ref (g.ad 0)), (1, .ref (g.ad q)), (2, .ref (g.ad rs))]) hx hb dX7_unitsOfVictims_1 rfl hl (by decide) rfl (fun ls hl => ?_)
  refine lv_aload_n hx hb dX7_unitsOfVictims_2 rfl (lv_at hl 1 rfl) ?_
  refine r_get hx hb hts i_X7 hown hT hP inW (fs := (fsW g)) (obW g) rfl 4 (by decide) q194 (fun _ h9 => h9) rfl dX7_unitsOfVictims_3 ?_
  refine lv_astore (lv' := [(4, .ref (g.ad 97)), (3, .int 0), (0, .ref (g.ad 0)), (1, .ref (g.ad q)), (2, .ref (g.ad rs))]) hx hb dX7_unitsOfVictims_6 hl (by decide) rfl (fun ls hl => ?_)
  refine lv_aload hx hb dX7_unitsOfVictims_8 (lv_at hl 0 rfl) ?_
  refine r_alenP hx hb hT hP dX7_unitsOfVictims_10 ?_
  refine lv_istore (lv' := [(5, .int 24), (4, .ref (g.ad 97)), (3, .int 0), (0, .ref (g.ad 0)), (1, .ref (g.ad q)), (2, .ref (g.ad rs))]) hx hb dX7_unitsOfVictims_11 hl (by decide) rfl (fun ls hl => ?_)
  refine lv_iconst (v := 0) hx hb dX7_unitsOfVictims_13 (by decide) ?_
  refine lv_istore (lv' := [(6, .int 0), (5, .int 24), (4, .ref (g.ad 97)), (3, .int 0), (0, .ref (g.ad 0)), (1, .ref (g.ad q)), (2, .ref (g.ad rs))]) hx hb dX7_unitsOfVictims_14 hl (by decide) rfl (fun ls hl => ?_)
  exact L16 fu μ q rs 0 24 0 _ _ _ hP hS (lv_sub hl [4, 5, 6, 3, 2, 1, 0] rfl) hq hrs hf
/-- "Sandglass$World" "nextVictim" "(LSandglass$Proc;LSandglass$Resource;)LSandglass$Proc;" -/
def b_X7_nextVictim_16 (g : Fg) : Nat → Mem → Nat → Nat → Option Nat → Int32 → Int32 → Option ((Option Nat))
  | 0, _, _, _, _, _, _ => none
  | n + 1, μ, x1, x2, x3, x5, x6 => if x5 ≤ x6 then (csQ x3 (some (none)) (fun o_2 => grd (1 ≤ o_2 ∧ o_2 < 25) (some (some o_2)))) else (grd (¬ (x6 < 0 ∨ 24 ≤ x6.toNatClampNeg)) (bnd (x6.toNatClampNeg + 1) fun k_5 => bnO (f_X7_unitsToTake g μ x1 k_5 x2) fun r_6 => if r_6 ≤ 0 then (b_X7_nextVictim_16 g n μ x1 x2 x3 x5 (x6 + 1)) else (csQ x3 (b_X7_nextVictim_16 g n μ x1 x2 (some k_5) x5 (x6 + 1)) (fun o_9 => grd (1 ≤ o_9 ∧ o_9 < 25) (bnO (f_X2_yieldsBefore g μ k_5 o_9 (μ x2 0)) fun r_10 => if r_10 = 0 then (b_X7_nextVictim_16 g n μ x1 x2 (some o_9) x5 (x6 + 1)) else (b_X7_nextVictim_16 g n μ x1 x2 (some k_5) x5 (x6 + 1)))))))
def f_X7_nextVictim (g : Fg) (μ : Mem) (q : Nat) (rs : Nat) : Option ((Option Nat)) := b_X7_nextVictim_16 g fu μ q rs none 24 0
theorem hd_X7_nextVictim : yX7_nextVictim.cls = RX7 ∧ yX7_nextVictim.cls ≠ "java/lang/invoke/MethodHandle" ∧ yX7_nextVictim.cls ≠ "java/lang/invoke/VarHandle" ∧ (parseMethodDescriptor yX7_nextVictim.desc).map (fun d => d.parameters.length) = some 2 := by decide +kernel
set_option maxHeartbeats 4000000 in
set_option maxRecDepth 100000 in
theorem c_X7_nextVictim (l : Launch) {g : Geo} (hg : Good g) (μ : Mem) (q : Nat) (rs : Nat) (hq : isP q) (hrs : isR g rs) {r : (Option Nat)} (hf : f_X7_nextVictim g.F μ q rs = some r) : Met l yX7_nextVictim (ws_ yX7_nextVictim cX7_nextVictim 8 (some (.object "Sandglass$Proc"))) (rm_ 2 45 0 0) (Pz g [.ref (g.ad 0), .ref (g.ad q), .ref (g.ad rs)] (Rg g μ)) (va_Qq (fun (v : Option Nat) (_ : Unit) => v = r.map g.ad) (fun _ _ => True) (fun _ => False)) 0 0 (fun _ => False) := by
  refine Met.ofW (cc := cX7_nextVictim) (maxL := 8) (ret := (some (.object "Sandglass$Proc"))) (by decide) rfl ?_
  intro p e s m args below meth c s₁ B hml hv
  obtain ⟨rfl, hT, hP⟩ := hv
  have hx := B.exec
  have hb := B.bytes
  have hr := B.returns
  have hts : ∀ w ∈ lw_all, w.before _ s = true := fun w h => atoms_spec (ws := (ws_ yX7_nextVictim cX7_nextVictim 8 (some (.object "Sandglass$Proc")))) B.pre w (List.mem_cons_of_mem _ h)
  have hown : s.vm.findClass RX7 = some m.cls := findClass_of_methodNamed B.named
  have hlocks := B.notSynchronized
  have hS : va_S (fun _ => False) s.heap s.heap [] := va_S.rf
  have L16 : ∀ (n : Nat) (μ : Mem) (x1 : Nat) (x2 : Nat) (x3 : Option Nat) (x5 : Int32) (x6 : Int32) (H : Heap) (locs : List Loc) (ls : Array Slot), Rg g μ H → va_S (fun _ => False) s.heap H locs → lv_has ls 8 [(0, .ref (g.ad 0)), (1, .ref (g.ad x1)), (2, .ref (g.ad x2)), (3, va_rf (x3.map g.ad)), (4, .ref (g.ad 97)), (5, .int x5), (6, .int x6)] → isP x1 → isR g x2 → b_X7_nextVictim_16 g.F n μ x1 x2 x3 x5 x6 = some r → W p l e (headSpec (ws_ yX7_nextVictim cX7_nextVictim 8 (some (.object "Sandglass$Proc"))) (rm_ 2 45 0 0)).room s m ([.ref (g.ad 0), .ref (g.ad q), .ref (g.ad rs)] : List Value).toArray below meth c H locs 0 0 (MQ below (va_Qq (fun (v : Option Nat) (_ : Unit) => v = r.map g.ad) (fun _ _ => True) (fun _ => False)) ([.ref (g.ad 0), .ref (g.ad q), .ref (g.ad rs)] : List Value).toArray s 0 0 (fun _ => False)) (F0 m 16 ls []) := by
    intro n
    induction n with
    | zero => intro μ x1 x2 x3 x5 x6 H locs ls hP hS hl hx1 hx2 hf; cases hf
    | succ n ih =>
      intro μ x1 x2 x3 x5 x6 H locs ls hP hS hl hx1 hx2 hf
      rw [b_X7_nextVictim_16] at hf
      refine lv_iload hx hb dX7_nextVictim_16 (lv_at hl 6 rfl) ?_
      refine lv_iload hx hb dX7_nextVictim_18 (lv_at hl 5 rfl) ?_
      refine lv_icmp_ge (tgt := 67) hx hb dX7_nextVictim_20 (by decide) (fun c_1 => ?_) (fun c_1 => ?_)
      · have hf := (if_pos c_1).symm.trans hf
        cases x3 with
        | none =>
          have hl : lv_has ls 8 [(0, .ref (g.ad 0)), (1, .ref (g.ad x1)), (2, .ref (g.ad x2)), (3, .null), (4, .ref (g.ad 97)), (5, .int x5), (6, .int x6)] := hl
          dsimp only [csQ] at hf
          refine lv_aload_nN hx hb dX7_nextVictim_67 rfl (lv_at hl 3 rfl) ?_
          exact W.aret (v := .null) (rt := .object "Sandglass$Proc") hx hb hr (Or.inl ⟨_, rfl⟩) (Or.inl rfl) (fun t9 ht hW => ⟨⟨none, (), rfl, by rw [← Option.some.inj hf]; rfl, trivial⟩, hS.F ht⟩) hS.2.2 dX7_nextVictim_68
        | some o_2 =>
          have hl : lv_has ls 8 [(0, .ref (g.ad 0)), (1, .ref (g.ad x1)), (2, .ref (g.ad x2)), (3, .ref (g.ad o_2)), (4, .ref (g.ad 97)), (5, .int x5), (6, .int x6)] := hl
          dsimp only [csQ] at hf
          obtain ⟨ho_2, hf⟩ := grd_some hf
          refine lv_aload_n hx hb dX7_nextVictim_67 rfl (lv_at hl 3 rfl) ?_
          exact W.aret (v := .ref (g.ad o_2)) (rt := .object "Sandglass$Proc") hx hb hr (Or.inl ⟨_, rfl⟩) (Or.inr ⟨_, rfl⟩) (fun t9 ht hW => ⟨⟨(some (g.ad o_2)), (), rfl, by rw [← Option.some.inj hf]; rfl, trivial⟩, hS.F ht⟩) hS.2.2 dX7_nextVictim_68
      · have hf := (if_neg c_1).symm.trans hf
        refine lv_aload hx hb dX7_nextVictim_23 (lv_at hl 4 rfl) ?_
        refine lv_iload hx hb dX7_nextVictim_25 (lv_at hl 6 rfl) ?_
        obtain ⟨hi_3, hf⟩ := grd_some hf
        refine r_aaldP hx hb hT hP hi_3 dX7_nextVictim_27 (fun hp_4 => ?_)
        obtain ⟨k_5, ek_5⟩ : ∃ z, x6.toNatClampNeg + 1 = z := ⟨_, rfl⟩
        rw [ek_5] at hp_4 ⊢
        have hf := bnd_eq hf _ ek_5
        refine lv_astore (lv' := [(7, .ref (g.ad k_5)), (0, .ref (g.ad 0)), (1, .ref (g.ad x1)), (2, .ref (g.ad x2)), (3, va_rf (x3.map g.ad)), (4, .ref (g.ad 97)), (5, .int x5), (6, .int x6)]) hx hb dX7_nextVictim_28 hl (by decide) rfl (fun ls hl => ?_)
        refine lv_aload_n hx hb dX7_nextVictim_30 rfl (lv_at hl 1 rfl) ?_
        refine lv_aload_n hx hb dX7_nextVictim_31 rfl (lv_at hl 2 rfl) ?_
        refine lv_aload hx hb dX7_nextVictim_32 (lv_at hl 0 rfl) ?_
        refine lv_aload_n hx hb dX7_nextVictim_34 rfl (lv_at hl 3 rfl) ?_
        obtain ⟨r_6, hc_7, hf⟩ := bnO_some hf
        refine va_calli (va_runV (As := [.ref (g.ad x1), .ref (g.ad k_5), .ref (g.ad x2)]) (rest := []) ⟨hx, hb, hml, hown, hts⟩ (c_X7_unitsToTake l hg μ x1 k_5 x2 hx1 hp_4 hx2 hc_7) (cwV 3 hts (gd_V q458 q460 q9 q41 q461) rfl rfl rfl hd_X7_unitsToTake ⟨Nat.le_of_ble_eq_true rfl, Nat.le_of_ble_eq_true rfl⟩) ⟨Pz.blind, r_recv hT hP inW (fs := (fsW g)) (obW g) rfl, fun U hU hW => ⟨rfl, Tb.warm hW hT, by rw [hU]; exact hP⟩⟩ rfl rfl hl.1 rfl (lv_room (Nat.le_of_ble_eq_true rfl)) dX7_nextVictim_35 ⟨Nat.le_of_ble_eq_true rfl, Nat.le_of_ble_eq_true rfl⟩) hS (fun q _ h => h.elim) (fun q h => h.elim) (fun v9 u9 t9 H locs ht9 hvm9 hw9 hB9 hz9 hk9 hS => ?_)
        have hP := Rg.keep hP (fun q h => hk9 q h id)
        rw [hw9]
        refine lv_if_le (tgt := 61) hx hb dX7_nextVictim_38 (by decide) (fun c_8 => ?_) (fun c_8 => ?_)
        · have hf := (if_pos c_8).symm.trans hf
          refine lv_iinc (v := x6 + 1) (lv' := [(6, .int (x6 + 1)), (7, .ref (g.ad k_5)), (0, .ref (g.ad 0)), (1, .ref (g.ad x1)), (2, .ref (g.ad x2)), (3, va_rf (x3.map g.ad)), (4, .ref (g.ad 97)), (5, .int x5)]) hx hb dX7_nextVictim_61 hl (k := 7) rfl rfl (by decide) rfl (fun ls hl => ?_)
          refine lv_goto (tgt := 16) hx hb dX7_nextVictim_64 (by decide) ?_
          exact ih μ x1 x2 x3 x5 (x6 + 1) _ _ _ hP hS (lv_sub hl [2, 3, 4, 5, 6, 7, 0] rfl) hx1 hx2 hf
        · have hf := (if_neg c_8).symm.trans hf
          cases x3 with
          | none =>
            have hl : lv_has ls 8 [(7, .ref (g.ad k_5)), (0, .ref (g.ad 0)), (1, .ref (g.ad x1)), (2, .ref (g.ad x2)), (3, .null), (4, .ref (g.ad 97)), (5, .int x5), (6, .int x6)] := hl
            dsimp only [csQ] at hf
            refine lv_aload_nN hx hb dX7_nextVictim_41 rfl (lv_at hl 4 rfl) ?_
            refine lv_ifnullN (tgt := 58) hx hb dX7_nextVictim_42 (by decide) ?_
            refine lv_aload hx hb dX7_nextVictim_58 (lv_at hl 0 rfl) ?_
            refine lv_astore_n (lv' := [(3, .ref (g.ad k_5)), (7, .ref (g.ad k_5)), (0, .ref (g.ad 0)), (1, .ref (g.ad x1)), (2, .ref (g.ad x2)), (4, .ref (g.ad 97)), (5, .int x5), (6, .int x6)]) hx hb dX7_nextVictim_60 rfl hl (by decide) rfl (fun ls hl => ?_)
            refine lv_iinc (v := x6 + 1) (lv' := [(6, .int (x6 + 1)), (3, .ref (g.ad k_5)), (7, .ref (g.ad k_5)), (0, .ref (g.ad 0)), (1, .ref (g.ad x1)), (2, .ref (g.ad x2)), (4, .ref (g.ad 97)), (5, .int x5)]) hx hb dX7_nextVictim_61 hl (k := 7) rfl rfl (by decide) rfl (fun ls hl => ?_)
            refine lv_goto (tgt := 16) hx hb dX7_nextVictim_64 (by decide) ?_
            exact ih μ x1 x2 (some k_5) x5 (x6 + 1) _ _ _ hP hS (lv_sub hl [3, 4, 5, 1, 6, 7, 0] rfl) hx1 hx2 hf
          | some o_9 =>
            have hl : lv_has ls 8 [(7, .ref (g.ad k_5)), (0, .ref (g.ad 0)), (1, .ref (g.ad x1)), (2, .ref (g.ad x2)), (3, .ref (g.ad o_9)), (4, .ref (g.ad 97)), (5, .int x5), (6, .int x6)] := hl
            dsimp only [csQ] at hf
            obtain ⟨ho_9, hf⟩ := grd_some hf
            refine lv_aload_n hx hb dX7_nextVictim_41 rfl (lv_at hl 4 rfl) ?_
            refine lv_ifnull hx hb dX7_nextVictim_42 ?_
            refine lv_aload hx hb dX7_nextVictim_45 (lv_at hl 0 rfl) ?_
            refine lv_aload_n hx hb dX7_nextVictim_47 rfl (lv_at hl 4 rfl) ?_
            refine lv_aload_n hx hb dX7_nextVictim_48 rfl (lv_at hl 3 rfl) ?_
            refine r_get hx hb hts i_X3 hown hT hP (inR hx2) (fs := fsR) (obR hx2) rfl 0 (by decide) q948 (fun _ h9 => h9) rfl dX7_nextVictim_49 ?_
            obtain ⟨r_10, hc_11, hf⟩ := bnO_some hf
            refine va_calli (va_runV (As := [.ref (g.ad o_9), .int (μ x2 0)]) (rest := []) ⟨hx, hb, hml, hown, hts⟩ (c_X2_yieldsBefore l hg μ k_5 o_9 (μ x2 0) hp_4 ho_9 hc_11) (cwV 2 hts (gd_V q469 q470 q471 q42 q472) rfl rfl rfl hd_X2_yieldsBefore ⟨Nat.le_of_ble_eq_true rfl, Nat.le_of_ble_eq_true rfl⟩) ⟨Pz.blind, r_recv hT hP (inP hp_4) (fs := (fsP g k_5)) (obP hp_4) rfl, fun U hU hW => ⟨rfl, Tb.warm hW hT, by rw [hU]; exact hP⟩⟩ rfl rfl hl.1 rfl (lv_room (Nat.le_of_ble_eq_true rfl)) dX7_nextVictim_52 ⟨Nat.le_of_ble_eq_true rfl, Nat.le_of_ble_eq_true rfl⟩) hS (fun q _ h => h.elim) (fun q h => h.elim) (fun v9 u9 t9 H locs ht9 hvm9 hw9 hB9 hz9 hk9 hS => ?_)
            have hP := Rg.keep hP (fun q h => hk9 q h id)
            rw [hw9]
            refine lv_if_eq (tgt := 61) hx hb dX7_nextVictim_55 (by decide) (fun c_12 => ?_) (fun c_12 => ?_)
            · have hf := (if_pos c_12).symm.trans hf
              refine lv_iinc (v := x6 + 1) (lv' := [(6, .int (x6 + 1)), (7, .ref (g.ad k_5)), (0, .ref (g.ad 0)), (1, .ref (g.ad x1)), (2, .ref (g.ad x2)), (3, .ref (g.ad o_9)), (4, .ref (g.ad 97)), (5, .int x5)]) hx hb dX7_nextVictim_61 hl (k := 7) rfl rfl (by decide) rfl (fun ls hl => ?_)
              refine lv_goto (tgt := 16) hx hb dX7_nextVictim_64 (by decide) ?_
              exact ih μ x1 x2 (some o_9) x5 (x6 + 1) _ _ _ hP hS (lv_sub hl [2, 3, 4, 5, 6, 7, 0] rfl) hx1 hx2 hf
            · have hf := (if_neg c_12).symm.trans hf
              refine lv_aload hx hb dX7_nextVictim_58 (lv_at hl 0 rfl) ?_
              refine lv_astore_n (lv' := [(3, .ref (g.ad k_5)), (7, .ref (g.ad k_5)), (0, .ref (g.ad 0)), (1, .ref (g.ad x1)), (2, .ref (g.ad x2)), (4, .ref (g.ad 97)), (5, .int x5), (6, .int x6)]) hx hb dX7_nextVictim_60 rfl hl (by decide) rfl (fun ls hl => ?_)
              refine lv_iinc (v := x6 + 1) (lv' := [(6, .int (x6 + 1)), (3, .ref (g.ad k_5)), (7, .ref (g.ad k_5)), (0, .ref (g.ad 0)), (1, .ref (g.ad x1)), (2, .ref (g.ad x2)), (4, .ref (g.ad 97)), (5, .int x5)]) hx hb dX7_nextVictim_61 hl (k := 7) rfl rfl (by decide) rfl (fun ls hl => ?_)
              refine lv_goto (tgt := 16) hx hb dX7_nextVictim_64 (by decide) ?_
              exact ih μ x1 x2 (some k_5) x5 (x6 + 1) _ _ _ hP hS (lv_sub hl [3, 4, 5, 1, 6, 7, 0] rfl) hx1 hx2 hf
  have hl := lv_entry ([.ref (g.ad 0), .ref (g.ad q), .ref (g.ad rs)]) (n := 8) (Nat.le_of_ble_eq_true rfl)
  rw [lg_entry_eq]
  generalize (lg_sl ([.ref (g.ad 0), .ref (g.ad q), .ref (g.ad rs)]) ++ List.replicate (8 - (lg_sl ([.ref (g.ad 0), .ref (g.ad q), .ref (g.ad rs)])).length) Slot.unset).toArray = ls at hl ⊢
  have hl : lv_has ls 8 [(0, .ref (g.ad 0)), (1, .ref (g.ad q)), (2, .ref (g.ad rs))] := hl
  unfold f_X7_nextVictim at hf
  refine lv_null hx hb dX7_nextVictim_0 ?_
  refine lv_astore_nN (lv' := [(3, .null), (0, .ref (g.ad 0)), (1, .ref (g.ad q)), (2, .ref (g.ad rs))]) hx hb dX7_nextVictim_1 rfl hl (by decide) rfl (fun ls hl => ?_)
  refine lv_aload_n hx hb dX7_nextVictim_2 rfl (lv_at hl 1 rfl) ?_
  refine r_get hx hb hts i_X7 hown hT hP inW (fs := (fsW g)) (obW g) rfl 4 (by decide) q194 (fun _ h9 => h9) rfl dX7_nextVictim_3 ?_
  refine lv_astore (lv' := [(4, .ref (g.ad 97)), (3, .null), (0, .ref (g.ad 0)), (1, .ref (g.ad q)), (2, .ref (g.ad rs))]) hx hb dX7_nextVictim_6 hl (by decide) rfl (fun ls hl => ?_)
  refine lv_aload hx hb dX7_nextVictim_8 (lv_at hl 0 rfl) ?_
  refine r_alenP hx hb hT hP dX7_nextVictim_10 ?_
  refine lv_istore (lv' := [(5, .int 24), (4, .ref (g.ad 97)), (3, .null), (0, .ref (g.ad 0)), (1, .ref (g.ad q)), (2, .ref (g.ad rs))]) hx hb dX7_nextVictim_11 hl (by decide) rfl (fun ls hl => ?_)
  refine lv_iconst (v := 0) hx hb dX7_nextVictim_13 (by decide) ?_
  refine lv_istore (lv' := [(6, .int 0), (5, .int 24), (4, .ref (g.ad 97)), (3, .null), (0, .ref (g.ad 0)), (1, .ref (g.ad q)), (2, .ref (g.ad rs))]) hx hb dX7_nextVictim_14 hl (by decide) rfl (fun ls hl => ?_)
  exact L16 fu μ q rs none 24 0 _ _ _ hP hS (lv_sub hl [4, 5, 6, 3, 2, 1, 0] rfl) hq hrs hf
