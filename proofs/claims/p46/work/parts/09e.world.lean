/-- "Sandglass$World" "leave" "(LSandglass$Proc;)V" -/
def f_X7_leave (g : Fg) (μ : Mem) (q : Nat) : Option (Mem) := bnd (put μ q 9 (-1)) fun μ_1 => bnO (f_X7_resource g μ_1 (μ q 9)) fun r_2 => csQ r_2 (bnO (f_X7_serveN g μ_1 ) fun μ_7 => if 10 ≤ (μ q 9) then (bnO (f_X7_store g μ_7 ((μ q 9) - 10)) fun r_9 => csQ r_9 (bnO (f_X7_goOnWithN g μ_7 ) fun μ_14 => some μ_14) (fun o_11 => grd (108 ≤ o_11 ∧ o_11 < 108 + g.sz 1 ∧ o_11 < 112) (bnO (f_X7_goOnWithS g μ_7 o_11) fun μ_17 => some μ_17))) else (bnO (f_X7_store g μ_7 ((μ q 9) - 6)) fun r_18 => csQ r_18 (bnO (f_X7_goOnWithN g μ_7 ) fun μ_23 => some μ_23) (fun o_20 => grd (108 ≤ o_20 ∧ o_20 < 108 + g.sz 1 ∧ o_20 < 112) (bnO (f_X7_goOnWithS g μ_7 o_20) fun μ_26 => some μ_26)))) (fun o_4 => grd (102 ≤ o_4 ∧ o_4 < 102 + g.sz 0 ∧ o_4 < 108) (bnO (f_X7_serveR g μ_1 o_4) fun μ_29 => if 10 ≤ (μ q 9) then (bnO (f_X7_store g μ_29 ((μ q 9) - 10)) fun r_31 => csQ r_31 (bnO (f_X7_goOnWithN g μ_29 ) fun μ_36 => some μ_36) (fun o_33 => grd (108 ≤ o_33 ∧ o_33 < 108 + g.sz 1 ∧ o_33 < 112) (bnO (f_X7_goOnWithS g μ_29 o_33) fun μ_39 => some μ_39))) else (bnO (f_X7_store g μ_29 ((μ q 9) - 6)) fun r_40 => csQ r_40 (bnO (f_X7_goOnWithN g μ_29 ) fun μ_45 => some μ_45) (fun o_42 => grd (108 ≤ o_42 ∧ o_42 < 108 + g.sz 1 ∧ o_42 < 112) (bnO (f_X7_goOnWithS g μ_29 o_42) fun μ_48 => some μ_48)))))
theorem hd_X7_leave : yX7_leave.cls = RX7 ∧ yX7_leave.cls ≠ "java/lang/invoke/MethodHandle" ∧ yX7_leave.cls ≠ "java/lang/invoke/VarHandle" ∧ (parseMethodDescriptor yX7_leave.desc).map (fun d => d.parameters.length) = some 1 := by decide +kernel
set_option maxHeartbeats 4000000 in
set_option maxRecDepth 100000 in
theorem c_X7_leave (l : Launch) {g : Geo} (hg : Good g) (μ : Mem) (sz : Nat) (q : Nat) (hq : isP q) {r : Mem} (hf : f_X7_leave g.F μ q = some r) : Met l yX7_leave (ws_ yX7_leave cX7_leave 3 (Option.none : Option Jvm.ClassFile.FieldType)) (rm_ 4 85 0 0) (Pz g [.ref (g.ad 0), .ref (g.ad q)] (fun H9 => H9.size = sz ∧ Rg g μ H9)) (va_Qv (fun _ : Unit => True) (fun _ t => Rg g r t.heap) (Ag g sz)) 0 0 (Ag g sz) := by
  refine Met.ofW (cc := cX7_leave) (maxL := 3) (ret := (Option.none : Option Jvm.ClassFile.FieldType)) (by decide) rfl ?_
  intro p e s m args below meth c s₁ B hml hv
  obtain ⟨rfl, hT, hsz, hP⟩ := hv
  have hx := B.exec
  have hb := B.bytes
  have hr := B.returns
  have hts : ∀ w ∈ lw_all, w.before _ s = true := fun w h => atoms_spec (ws := (ws_ yX7_leave cX7_leave 3 (Option.none : Option Jvm.ClassFile.FieldType))) B.pre w (List.mem_cons_of_mem _ h)
  have hown : s.vm.findClass RX7 = some m.cls := findClass_of_methodNamed B.named
  have hlocks := B.notSynchronized
  subst hsz
  have hD := fun ν => Ag.apart hg s.heap.size ν
  have hC := hP.sh
  have hN := Ag.shr hg hP
  have hS : va_S (Ag g s.heap.size) s.heap s.heap [] := va_S.rf
  have hl := lv_entry ([.ref (g.ad 0), .ref (g.ad q)]) (n := 3) (Nat.le_of_ble_eq_true rfl)
  rw [lg_entry_eq]
  generalize (lg_sl ([.ref (g.ad 0), .ref (g.ad q)]) ++ List.replicate (3 - (lg_sl ([.ref (g.ad 0), .ref (g.ad q)])).length) Slot.unset).toArray = ls at hl ⊢
  have hl : lv_has ls 3 [(0, .ref (g.ad 0)), (1, .ref (g.ad q))] := hl
  unfold f_X7_leave at hf
  refine lv_aload_n hx hb dX7_leave_0 rfl (lv_at hl 1 rfl) ?_
  refine r_get hx hb hts i_X2 hown hT hP (inP hq) (fs := (fsP g q)) (obP hq) rfl 9 (by decide) q136 (fun _ h9 => h9) rfl dX7_leave_1 ?_
  refine lv_istore_n (lv' := [(2, .int (μ q 9)), (0, .ref (g.ad 0)), (1, .ref (g.ad q))]) hx hb dX7_leave_4 rfl hl (by decide) rfl (fun ls hl => ?_)
  refine lv_aload_n hx hb dX7_leave_5 rfl (lv_at hl 2 rfl) ?_
  refine lv_iconst (v := (-1)) hx hb dX7_leave_6 (by decide) ?_
  refine r_put hx hb hts i_X2 tyX2 tyX2_ok nmX2 hown hT hP hD hC hN hS (mtP hq) (fs := (fsP g q)) (obP hq) rfl 9 (by decide) q136 (fun _ h9 => h9) rfl (ty := .int) (x := (-1)) rfl rfl rfl (fun _ => rfl) (Nat.le_of_ble_eq_true rfl) dX7_leave_7 (fun H locs hP hS => ?_)
  obtain ⟨μ_1, eμ_1⟩ : ∃ z, put μ q 9 (-1) = z := ⟨_, rfl⟩
  rw [eμ_1] at hP
  have hf := bnd_eq hf _ eμ_1
  refine lv_aload_n hx hb dX7_leave_10 rfl (lv_at hl 1 rfl) ?_
  refine lv_aload_n hx hb dX7_leave_11 rfl (lv_at hl 1 rfl) ?_
  refine lv_iload_n hx hb dX7_leave_12 rfl (lv_at hl 0 rfl) ?_
  obtain ⟨r_2, hc_3, hf⟩ := bnO_some hf
  refine va_callq (va_runV (As := [.int (μ q 9)]) (rest := [.ref (g.ad 0)]) ⟨hx, hb, hml, hown, hts⟩ (c_X7_resource l hg μ_1 (μ q 9)  hc_3) (cwV 1 hts (gd_V q430 q431 q432 q41 q433) rfl rfl rfl hd_X7_resource ⟨Nat.le_of_ble_eq_true rfl, Nat.le_of_ble_eq_true rfl⟩) ⟨Pz.blind, r_recv hT hP inW (fs := (fsW g)) (obW g) rfl, fun U hU hW => ⟨rfl, Tb.warm hW hT, by rw [hU]; exact hP⟩⟩ rfl rfl hl.1 rfl (lv_room (Nat.le_of_ble_eq_true rfl)) dX7_leave_13 ⟨Nat.le_of_ble_eq_true rfl, Nat.le_of_ble_eq_true rfl⟩) hS (fun q _ h => h.elim) (fun q h => h.elim) (fun v9 u9 t9 H locs ht9 hvm9 hw9 hB9 hz9 hk9 hS => ?_)
  have hP := Rg.keep hP (fun q h => hk9 q h id)
  rw [hw9]
  cases r_2 with
  | none =>
    dsimp only [csQ] at hf
    refine W.eq (g2 := F0 m 16 ls [.null, .ref (g.ad 0)]) rfl ?_
    obtain ⟨μ_7, hc_6, hf⟩ := bnO_some hf
    refine va_callv (va_runV (As := [.null]) (rest := []) ⟨hx, hb, hml, hown, hts⟩ (c_X7_serveN l hg μ_1 H.size   hc_6) (cwV 1 hts (gd_V q488 q490 q13 q41 q491) rfl rfl rfl hd_X7_serveN ⟨Nat.le_of_ble_eq_true rfl, Nat.le_of_ble_eq_true rfl⟩) ⟨Pz.blind, r_recv hT hP inW (fs := (fsW g)) (obW g) rfl, fun U hU hW => ⟨rfl, Tb.warm hW hT, by rw [hU], by rw [hU]; exact hP⟩⟩ rfl rfl hl.1 rfl (lv_room (Nat.le_of_ble_eq_true rfl)) dX7_leave_16 ⟨Nat.le_of_ble_eq_true rfl, Nat.le_of_ble_eq_true rfl⟩) hS (fun q _ h => Ag.sub rfl hS q h) (fun q h => Ag.sub rfl hS q h) (fun u9 t9 H locs ht9 hvm9 hw9 hB9 hz9 hk9 hS => ?_)
    have hP : Rg g μ_7 H := by rw [← ht9]; exact hB9
    refine lv_aload_n hx hb dX7_leave_19 rfl (lv_at hl 1 rfl) ?_
    refine lv_iload_n hx hb dX7_leave_20 rfl (lv_at hl 0 rfl) ?_
    refine lv_bipush (v := 10) hx hb dX7_leave_21 (by decide) ?_
    refine lv_icmp_ge (tgt := 37) hx hb dX7_leave_23 (by decide) (fun c_8 => ?_) (fun c_8 => ?_)
    · have hf := (if_pos c_8).symm.trans hf
      refine lv_aload_n hx hb dX7_leave_37 rfl (lv_at hl 1 rfl) ?_
      refine lv_iload_n hx hb dX7_leave_38 rfl (lv_at hl 0 rfl) ?_
      refine lv_bipush (v := 10) hx hb dX7_leave_39 (by decide) ?_
      refine lv_isub hx hb dX7_leave_41 ?_
      obtain ⟨r_9, hc_10, hf⟩ := bnO_some hf
      refine va_callq (va_runV (As := [.int ((μ q 9) - 10)]) (rest := [.ref (g.ad 0)]) ⟨hx, hb, hml, hown, hts⟩ (c_X7_store l hg μ_7 ((μ q 9) - 10)  hc_10) (cwV 1 hts (gd_V q499 q500 q501 q41 q502) rfl rfl rfl hd_X7_store ⟨Nat.le_of_ble_eq_true rfl, Nat.le_of_ble_eq_true rfl⟩) ⟨Pz.blind, r_recv hT hP inW (fs := (fsW g)) (obW g) rfl, fun U hU hW => ⟨rfl, Tb.warm hW hT, by rw [hU]; exact hP⟩⟩ rfl rfl hl.1 rfl (lv_room (Nat.le_of_ble_eq_true rfl)) dX7_leave_42 ⟨Nat.le_of_ble_eq_true rfl, Nat.le_of_ble_eq_true rfl⟩) hS (fun q _ h => h.elim) (fun q h => h.elim) (fun v9 u9 t9 H locs ht9 hvm9 hw9 hB9 hz9 hk9 hS => ?_)
      have hP := Rg.keep hP (fun q h => hk9 q h id)
      rw [hw9]
      cases r_9 with
      | none =>
        dsimp only [csQ] at hf
        refine W.eq (g2 := F0 m 45 ls [.null, .ref (g.ad 0)]) rfl ?_
        obtain ⟨μ_14, hc_13, hf⟩ := bnO_some hf
        refine va_callv (va_runV (As := [.null]) (rest := []) ⟨hx, hb, hml, hown, hts⟩ (c_X7_goOnWithN l hg μ_7 H.size   hc_13) (cwV 1 hts (gd_V q516 q518 q16 q41 q519) rfl rfl rfl hd_X7_goOnWithN ⟨Nat.le_of_ble_eq_true rfl, Nat.le_of_ble_eq_true rfl⟩) ⟨Pz.blind, r_recv hT hP inW (fs := (fsW g)) (obW g) rfl, fun U hU hW => ⟨rfl, Tb.warm hW hT, by rw [hU], by rw [hU]; exact hP⟩⟩ rfl rfl hl.1 rfl (lv_room (Nat.le_of_ble_eq_true rfl)) dX7_leave_45 ⟨Nat.le_of_ble_eq_true rfl, Nat.le_of_ble_eq_true rfl⟩) hS (fun q _ h => Ag.sub rfl hS q h) (fun q h => Ag.sub rfl hS q h) (fun u9 t9 H locs ht9 hvm9 hw9 hB9 hz9 hk9 hS => ?_)
        have hP : Rg g μ_14 H := by rw [← ht9]; exact hB9
        exact W.vret hx hb hr (fun t9 ht hW => ⟨⟨(), rfl, trivial, by show Rg g r t9.heap; rw [ht, ← Option.some.inj hf]; exact hP⟩, hS.F ht⟩) hS.2.2 dX7_leave_48
      | some o_11 =>
        dsimp only [csQ] at hf
        obtain ⟨ho_11, hf⟩ := grd_some hf
        refine W.eq (g2 := F0 m 45 ls [.ref (g.ad o_11), .ref (g.ad 0)]) rfl ?_
        obtain ⟨μ_17, hc_16, hf⟩ := bnO_some hf
        refine va_callv (va_runV (As := [.ref (g.ad o_11)]) (rest := []) ⟨hx, hb, hml, hown, hts⟩ (c_X7_goOnWithS l hg μ_7 H.size o_11 ho_11 hc_16) (cwV 1 hts (gd_V q516 q518 q16 q41 q519) rfl rfl rfl hd_X7_goOnWithS ⟨Nat.le_of_ble_eq_true rfl, Nat.le_of_ble_eq_true rfl⟩) ⟨Pz.blind, r_recv hT hP inW (fs := (fsW g)) (obW g) rfl, fun U hU hW => ⟨rfl, Tb.warm hW hT, by rw [hU], by rw [hU]; exact hP⟩⟩ rfl rfl hl.1 rfl (lv_room (Nat.le_of_ble_eq_true rfl)) dX7_leave_45 ⟨Nat.le_of_ble_eq_true rfl, Nat.le_of_ble_eq_true rfl⟩) hS (fun q _ h => Ag.sub rfl hS q h) (fun q h => Ag.sub rfl hS q h) (fun u9 t9 H locs ht9 hvm9 hw9 hB9 hz9 hk9 hS => ?_)
        have hP : Rg g μ_17 H := by rw [← ht9]; exact hB9
        exact W.vret hx hb hr (fun t9 ht hW => ⟨⟨(), rfl, trivial, by show Rg g r t9.heap; rw [ht, ← Option.some.inj hf]; exact hP⟩, hS.F ht⟩) hS.2.2 dX7_leave_48
    · have hf := (if_neg c_8).symm.trans hf
      refine lv_aload_n hx hb dX7_leave_26 rfl (lv_at hl 1 rfl) ?_
      refine lv_iload_n hx hb dX7_leave_27 rfl (lv_at hl 0 rfl) ?_
      refine lv_bipush (v := 6) hx hb dX7_leave_28 (by decide) ?_
      refine lv_isub hx hb dX7_leave_30 ?_
      obtain ⟨r_18, hc_19, hf⟩ := bnO_some hf
      refine va_callq (va_runV (As := [.int ((μ q 9) - 6)]) (rest := [.ref (g.ad 0)]) ⟨hx, hb, hml, hown, hts⟩ (c_X7_store l hg μ_7 ((μ q 9) - 6)  hc_19) (cwV 1 hts (gd_V q499 q500 q501 q41 q502) rfl rfl rfl hd_X7_store ⟨Nat.le_of_ble_eq_true rfl, Nat.le_of_ble_eq_true rfl⟩) ⟨Pz.blind, r_recv hT hP inW (fs := (fsW g)) (obW g) rfl, fun U hU hW => ⟨rfl, Tb.warm hW hT, by rw [hU]; exact hP⟩⟩ rfl rfl hl.1 rfl (lv_room (Nat.le_of_ble_eq_true rfl)) dX7_leave_31 ⟨Nat.le_of_ble_eq_true rfl, Nat.le_of_ble_eq_true rfl⟩) hS (fun q _ h => h.elim) (fun q h => h.elim) (fun v9 u9 t9 H locs ht9 hvm9 hw9 hB9 hz9 hk9 hS => ?_)
      have hP := Rg.keep hP (fun q h => hk9 q h id)
      rw [hw9]
      cases r_18 with
      | none =>
        dsimp only [csQ] at hf
        refine W.eq (g2 := F0 m 34 ls [.null, .ref (g.ad 0)]) rfl ?_
        refine lv_goto (tgt := 45) hx hb dX7_leave_34 (by decide) ?_
        obtain ⟨μ_23, hc_22, hf⟩ := bnO_some hf
        refine va_callv (va_runV (As := [.null]) (rest := []) ⟨hx, hb, hml, hown, hts⟩ (c_X7_goOnWithN l hg μ_7 H.size   hc_22) (cwV 1 hts (gd_V q516 q518 q16 q41 q519) rfl rfl rfl hd_X7_goOnWithN ⟨Nat.le_of_ble_eq_true rfl, Nat.le_of_ble_eq_true rfl⟩) ⟨Pz.blind, r_recv hT hP inW (fs := (fsW g)) (obW g) rfl, fun U hU hW => ⟨rfl, Tb.warm hW hT, by rw [hU], by rw [hU]; exact hP⟩⟩ rfl rfl hl.1 rfl (lv_room (Nat.le_of_ble_eq_true rfl)) dX7_leave_45 ⟨Nat.le_of_ble_eq_true rfl, Nat.le_of_ble_eq_true rfl⟩) hS (fun q _ h => Ag.sub rfl hS q h) (fun q h => Ag.sub rfl hS q h) (fun u9 t9 H locs ht9 hvm9 hw9 hB9 hz9 hk9 hS => ?_)
        have hP : Rg g μ_23 H := by rw [← ht9]; exact hB9
        exact W.vret hx hb hr (fun t9 ht hW => ⟨⟨(), rfl, trivial, by show Rg g r t9.heap; rw [ht, ← Option.some.inj hf]; exact hP⟩, hS.F ht⟩) hS.2.2 dX7_leave_48
      | some o_20 =>
        dsimp only [csQ] at hf
        obtain ⟨ho_20, hf⟩ := grd_some hf
        refine W.eq (g2 := F0 m 34 ls [.ref (g.ad o_20), .ref (g.ad 0)]) rfl ?_
        refine lv_goto (tgt := 45) hx hb dX7_leave_34 (by decide) ?_
        obtain ⟨μ_26, hc_25, hf⟩ := bnO_some hf
        refine va_callv (va_runV (As := [.ref (g.ad o_20)]) (rest := []) ⟨hx, hb, hml, hown, hts⟩ (c_X7_goOnWithS l hg μ_7 H.size o_20 ho_20 hc_25) (cwV 1 hts (gd_V q516 q518 q16 q41 q519) rfl rfl rfl hd_X7_goOnWithS ⟨Nat.le_of_ble_eq_true rfl, Nat.le_of_ble_eq_true rfl⟩) ⟨Pz.blind, r_recv hT hP inW (fs := (fsW g)) (obW g) rfl, fun U hU hW => ⟨rfl, Tb.warm hW hT, by rw [hU], by rw [hU]; exact hP⟩⟩ rfl rfl hl.1 rfl (lv_room (Nat.le_of_ble_eq_true rfl)) dX7_leave_45 ⟨Nat.le_of_ble_eq_true rfl, Nat.le_of_ble_eq_true rfl⟩) hS (fun q _ h => Ag.sub rfl hS q h) (fun q h => Ag.sub rfl hS q h) (fun u9 t9 H locs ht9 hvm9 hw9 hB9 hz9 hk9 hS => ?_)
        have hP : Rg g μ_26 H := by rw [← ht9]; exact hB9
        exact W.vret hx hb hr (fun t9 ht hW => ⟨⟨(), rfl, trivial, by show Rg g r t9.heap; rw [ht, ← Option.some.inj hf]; exact hP⟩, hS.F ht⟩) hS.2.2 dX7_leave_48
  | some o_4 =>
    dsimp only [csQ] at hf
    obtain ⟨ho_4, hf⟩ := grd_some hf
    refine W.eq (g2 := F0 m 16 ls [.ref (g.ad o_4), .ref (g.ad 0)]) rfl ?_
    obtain ⟨μ_29, hc_28, hf⟩ := bnO_some hf
    refine va_callv (va_runV (As := [.ref (g.ad o_4)]) (rest := []) ⟨hx, hb, hml, hown, hts⟩ (c_X7_serveR l hg μ_1 H.size o_4 ho_4 hc_28) (cwV 1 hts (gd_V q488 q490 q13 q41 q491) rfl rfl rfl hd_X7_serveR ⟨Nat.le_of_ble_eq_true rfl, Nat.le_of_ble_eq_true rfl⟩) ⟨Pz.blind, r_recv hT hP inW (fs := (fsW g)) (obW g) rfl, fun U hU hW => ⟨rfl, Tb.warm hW hT, by rw [hU], by rw [hU]; exact hP⟩⟩ rfl rfl hl.1 rfl (lv_room (Nat.le_of_ble_eq_true rfl)) dX7_leave_16 ⟨Nat.le_of_ble_eq_true rfl, Nat.le_of_ble_eq_true rfl⟩) hS (fun q _ h => Ag.sub rfl hS q h) (fun q h => Ag.sub rfl hS q h) (fun u9 t9 H locs ht9 hvm9 hw9 hB9 hz9 hk9 hS => ?_)
    have hP : Rg g μ_29 H := by rw [← ht9]; exact hB9
    refine lv_aload_n hx hb dX7_leave_19 rfl (lv_at hl 1 rfl) ?_
    refine lv_iload_n hx hb dX7_leave_20 rfl (lv_at hl 0 rfl) ?_
    refine lv_bipush (v := 10) hx hb dX7_leave_21 (by decide) ?_
    refine lv_icmp_ge (tgt := 37) hx hb dX7_leave_23 (by decide) (fun c_30 => ?_) (fun c_30 => ?_)
    · have hf := (if_pos c_30).symm.trans hf
      refine lv_aload_n hx hb dX7_leave_37 rfl (lv_at hl 1 rfl) ?_
      refine lv_iload_n hx hb dX7_leave_38 rfl (lv_at hl 0 rfl) ?_
      refine lv_bipush (v := 10) hx hb dX7_leave_39 (by decide) ?_
      refine lv_isub hx hb dX7_leave_41 ?_
      obtain ⟨r_31, hc_32, hf⟩ := bnO_some hf
      refine va_callq (va_runV (As := [.int ((μ q 9) - 10)]) (rest := [.ref (g.ad 0)]) ⟨hx, hb, hml, hown, hts⟩ (c_X7_store l hg μ_29 ((μ q 9) - 10)  hc_32) (cwV 1 hts (gd_V q499 q500 q501 q41 q502) rfl rfl rfl hd_X7_store ⟨Nat.le_of_ble_eq_true rfl, Nat.le_of_ble_eq_true rfl⟩) ⟨Pz.blind, r_recv hT hP inW (fs := (fsW g)) (obW g) rfl, fun U hU hW => ⟨rfl, Tb.warm hW hT, by rw [hU]; exact hP⟩⟩ rfl rfl hl.1 rfl (lv_room (Nat.le_of_ble_eq_true rfl)) dX7_leave_42 ⟨Nat.le_of_ble_eq_true rfl, Nat.le_of_ble_eq_true rfl⟩) hS (fun q _ h => h.elim) (fun q h => h.elim) (fun v9 u9 t9 H locs ht9 hvm9 hw9 hB9 hz9 hk9 hS => ?_)
      have hP := Rg.keep hP (fun q h => hk9 q h id)
      rw [hw9]
      cases r_31 with
      | none =>
        dsimp only [csQ] at hf
        refine W.eq (g2 := F0 m 45 ls [.null, .ref (g.ad 0)]) rfl ?_
        obtain ⟨μ_36, hc_35, hf⟩ := bnO_some hf
        refine va_callv (va_runV (As := [.null]) (rest := []) ⟨hx, hb, hml, hown, hts⟩ (c_X7_goOnWithN l hg μ_29 H.size   hc_35) (cwV 1 hts (gd_V q516 q518 q16 q41 q519) rfl rfl rfl hd_X7_goOnWithN ⟨Nat.le_of_ble_eq_true rfl, Nat.le_of_ble_eq_true rfl⟩) ⟨Pz.blind, r_recv hT hP inW (fs := (fsW g)) (obW g) rfl, fun U hU hW => ⟨rfl, Tb.warm hW hT, by rw [hU], by rw [hU]; exact hP⟩⟩ rfl rfl hl.1 rfl (lv_room (Nat.le_of_ble_eq_true rfl)) dX7_leave_45 ⟨Nat.le_of_ble_eq_true rfl, Nat.le_of_ble_eq_true rfl⟩) hS (fun q _ h => Ag.sub rfl hS q h) (fun q h => Ag.sub rfl hS q h) (fun u9 t9 H locs ht9 hvm9 hw9 hB9 hz9 hk9 hS => ?_)
        have hP : Rg g μ_36 H := by rw [← ht9]; exact hB9
        exact W.vret hx hb hr (fun t9 ht hW => ⟨⟨(), rfl, trivial, by show Rg g r t9.heap; rw [ht, ← Option.some.inj hf]; exact hP⟩, hS.F ht⟩) hS.2.2 dX7_leave_48
      | some o_33 =>
        dsimp only [csQ] at hf
        obtain ⟨ho_33, hf⟩ := grd_some hf
        refine W.eq (g2 := F0 m 45 ls [.ref (g.ad o_33), .ref (g.ad 0)]) rfl ?_
        obtain ⟨μ_39, hc_38, hf⟩ := bnO_some hf
        refine va_callv (va_runV (As := [.ref (g.ad o_33)]) (rest := []) ⟨hx, hb, hml, hown, hts⟩ (c_X7_goOnWithS l hg μ_29 H.size o_33 ho_33 hc_38) (cwV 1 hts (gd_V q516 q518 q16 q41 q519) rfl rfl rfl hd_X7_goOnWithS ⟨Nat.le_of_ble_eq_true rfl, Nat.le_of_ble_eq_true rfl⟩) ⟨Pz.blind, r_recv hT hP inW (fs := (fsW g)) (obW g) rfl, fun U hU hW => ⟨rfl, Tb.warm hW hT, by rw [hU], by rw [hU]; exact hP⟩⟩ rfl rfl hl.1 rfl (lv_room (Nat.le_of_ble_eq_true rfl)) dX7_leave_45 ⟨Nat.le_of_ble_eq_true rfl, Nat.le_of_ble_eq_true rfl⟩) hS (fun q _ h => Ag.sub rfl hS q h) (fun q h => Ag.sub rfl hS q h) (fun u9 t9 H locs ht9 hvm9 hw9 hB9 hz9 hk9 hS => ?_)
        have hP : Rg g μ_39 H := by rw [← ht9]; exact hB9
        exact W.vret hx hb hr (fun t9 ht hW => ⟨⟨(), rfl, trivial, by show Rg g r t9.heap; rw [ht, ← Option.some.inj hf]; exact hP⟩, hS.F ht⟩) hS.2.2 dX7_leave_48
    · have hf := (if_neg c_30).symm.trans hf
      refine lv_aload_n hx hb dX7_leave_26 rfl (lv_at hl 1 rfl) ?_
      refine lv_iload_n hx hb dX7_leave_27 rfl (lv_at hl 0 rfl) ?_
      refine lv_bipush (v := 6) hx hb dX7_leave_28 (by decide) ?_
      refine lv_isub hx hb dX7_leave_30 ?_
      obtain ⟨r_40, hc_41, hf⟩ := bnO_some hf
      refine va_callq (va_runV (As := [.int ((μ q 9) - 6)]) (rest := [.ref (g.ad 0)]) ⟨hx, hb, hml, hown, hts⟩ (c_X7_store l hg μ_29 ((μ q 9) - 6)  hc_41) (cwV 1 hts (gd_V q499 q500 q501 q41 q502) rfl rfl rfl hd_X7_store ⟨Nat.le_of_ble_eq_true rfl, Nat.le_of_ble_eq_true rfl⟩) ⟨Pz.blind, r_recv hT hP inW (fs := (fsW g)) (obW g) rfl, fun U hU hW => ⟨rfl, Tb.warm hW hT, by rw [hU]; exact hP⟩⟩ rfl rfl hl.1 rfl (lv_room (Nat.le_of_ble_eq_true rfl)) dX7_leave_31 ⟨Nat.le_of_ble_eq_true rfl, Nat.le_of_ble_eq_true rfl⟩) hS (fun q _ h => h.elim) (fun q h => h.elim) (fun v9 u9 t9 H locs ht9 hvm9 hw9 hB9 hz9 hk9 hS => ?_)
      have hP := Rg.keep hP (fun q h => hk9 q h id)
      rw [hw9]
      cases r_40 with
      | none =>
        dsimp only [csQ] at hf
        refine W.eq (g2 := F0 m 34 ls [.null, .ref (g.ad 0)]) rfl ?_
        refine lv_goto (tgt := 45) hx hb dX7_leave_34 (by decide) ?_
        obtain ⟨μ_45, hc_44, hf⟩ := bnO_some hf
        refine va_callv (va_runV (As := [.null]) (rest := []) ⟨hx, hb, hml, hown, hts⟩ (c_X7_goOnWithN l hg μ_29 H.size   hc_44) (cwV 1 hts (gd_V q516 q518 q16 q41 q519) rfl rfl rfl hd_X7_goOnWithN ⟨Nat.le_of_ble_eq_true rfl, Nat.le_of_ble_eq_true rfl⟩) ⟨Pz.blind, r_recv hT hP inW (fs := (fsW g)) (obW g) rfl, fun U hU hW => ⟨rfl, Tb.warm hW hT, by rw [hU], by rw [hU]; exact hP⟩⟩ rfl rfl hl.1 rfl (lv_room (Nat.le_of_ble_eq_true rfl)) dX7_leave_45 ⟨Nat.le_of_ble_eq_true rfl, Nat.le_of_ble_eq_true rfl⟩) hS (fun q _ h => Ag.sub rfl hS q h) (fun q h => Ag.sub rfl hS q h) (fun u9 t9 H locs ht9 hvm9 hw9 hB9 hz9 hk9 hS => ?_)
        have hP : Rg g μ_45 H := by rw [← ht9]; exact hB9
        exact W.vret hx hb hr (fun t9 ht hW => ⟨⟨(), rfl, trivial, by show Rg g r t9.heap; rw [ht, ← Option.some.inj hf]; exact hP⟩, hS.F ht⟩) hS.2.2 dX7_leave_48
      | some o_42 =>
        dsimp only [csQ] at hf
        obtain ⟨ho_42, hf⟩ := grd_some hf
        refine W.eq (g2 := F0 m 34 ls [.ref (g.ad o_42), .ref (g.ad 0)]) rfl ?_
        refine lv_goto (tgt := 45) hx hb dX7_leave_34 (by decide) ?_
        obtain ⟨μ_48, hc_47, hf⟩ := bnO_some hf
        refine va_callv (va_runV (As := [.ref (g.ad o_42)]) (rest := []) ⟨hx, hb, hml, hown, hts⟩ (c_X7_goOnWithS l hg μ_29 H.size o_42 ho_42 hc_47) (cwV 1 hts (gd_V q516 q518 q16 q41 q519) rfl rfl rfl hd_X7_goOnWithS ⟨Nat.le_of_ble_eq_true rfl, Nat.le_of_ble_eq_true rfl⟩) ⟨Pz.blind, r_recv hT hP inW (fs := (fsW g)) (obW g) rfl, fun U hU hW => ⟨rfl, Tb.warm hW hT, by rw [hU], by rw [hU]; exact hP⟩⟩ rfl rfl hl.1 rfl (lv_room (Nat.le_of_ble_eq_true rfl)) dX7_leave_45 ⟨Nat.le_of_ble_eq_true rfl, Nat.le_of_ble_eq_true rfl⟩) hS (fun q _ h => Ag.sub rfl hS q h) (fun q h => Ag.sub rfl hS q h) (fun u9 t9 H locs ht9 hvm9 hw9 hB9 hz9 hk9 hS => ?_)
        have hP : Rg g μ_48 H := by rw [← ht9]; exact hB9
        exact W.vret hx hb hr (fun t9 ht hW => ⟨⟨(), rfl, trivial, by show Rg g r t9.heap; rw [ht, ← Option.some.inj hf]; exact hP⟩, hS.F ht⟩) hS.2.2 dX7_leave_48
/-- "Sandglass$World" "interruptOne" "(LSandglass$Proc;)V" -/
def b_X7_interruptOne_21 (g : Fg) (μ : Mem) (x1 : Nat) : Option (Mem) := bnd (put μ x1 7 (-1)) fun μ_3 => bnO (f_X7_leave g μ_3 x1) fun μ_6 => csQ (srf (μ_6 x1 1)) (bnO (f_X7_schedule g μ_6 x1 0 0) fun μ_10 => some μ_10) (fun o_7 => grd (114 ≤ o_7 ∧ o_7 < 114 + g.sz 2 ∧ o_7 < 122) (if (g.sh o_7 1) = (-1) then (bnO (f_X7_schedule g μ_6 x1 0 0) fun μ_14 => some μ_14) else (bnd (put μ_6 x1 3 (g.sh o_7 1)) fun μ_15 => bnO (f_X7_schedule g μ_15 x1 0 0) fun μ_18 => some μ_18)))
def f_X7_interruptOne (g : Fg) (μ : Mem) (q : Nat) : Option (Mem) := if (μ q 6) = 1 then (bnd (put μ q 5 ((μ q 7) - (μ 0 6))) fun μ_2 => b_X7_interruptOne_21 g μ_2 q) else (b_X7_interruptOne_21 g μ q)
theorem hd_X7_interruptOne : yX7_interruptOne.cls = RX7 ∧ yX7_interruptOne.cls ≠ "java/lang/invoke/MethodHandle" ∧ yX7_interruptOne.cls ≠ "java/lang/invoke/VarHandle" ∧ (parseMethodDescriptor yX7_interruptOne.desc).map (fun d => d.parameters.length) = some 1 := by decide +kernel
set_option maxHeartbeats 4000000 in
set_option maxRecDepth 100000 in
theorem c_X7_interruptOne (l : Launch) {g : Geo} (hg : Good g) (μ : Mem) (sz : Nat) (q : Nat) (hq : isP q) {r : Mem} (hf : f_X7_interruptOne g.F μ q = some r) : Met l yX7_interruptOne (ws_ yX7_interruptOne cX7_interruptOne 2 (Option.none : Option Jvm.ClassFile.FieldType)) (rm_ 5 107 0 0) (Pz g [.ref (g.ad 0), .ref (g.ad q)] (fun H9 => H9.size = sz ∧ Rg g μ H9)) (va_Qv (fun _ : Unit => True) (fun _ t => Rg g r t.heap) (Ag g sz)) 0 0 (Ag g sz) := by
  refine Met.ofW (cc := cX7_interruptOne) (maxL := 2) (ret := (Option.none : Option Jvm.ClassFile.FieldType)) (by decide) rfl ?_
  intro p e s m args below meth c s₁ B hml hv
  obtain ⟨rfl, hT, hsz, hP⟩ := hv
  have hx := B.exec
  have hb := B.bytes
  have hr := B.returns
  have hts : ∀ w ∈ lw_all, w.before _ s = true := fun w h => atoms_spec (ws := (ws_ yX7_interruptOne cX7_interruptOne 2 (Option.none : Option Jvm.ClassFile.FieldType))) B.pre w (List.mem_cons_of_mem _ h)
  have hown : s.vm.findClass RX7 = some m.cls := findClass_of_methodNamed B.named
  have hlocks := B.notSynchronized
  subst hsz
  have hD := fun ν => Ag.apart hg s.heap.size ν
  have hC := hP.sh
  have hN := Ag.shr hg hP
  have hS : va_S (Ag g s.heap.size) s.heap s.heap [] := va_S.rf
  have L21 : ∀ (μ : Mem) (x1 : Nat) (H : Heap) (locs : List Loc) (ls : Array Slot), Rg g μ H → va_S (Ag g s.heap.size) s.heap H locs → lv_has ls 2 [(0, .ref (g.ad 0)), (1, .ref (g.ad x1))] → isP x1 → b_X7_interruptOne_21 g.F μ x1 = some r → W p l e (headSpec (ws_ yX7_interruptOne cX7_interruptOne 2 (Option.none : Option Jvm.ClassFile.FieldType)) (rm_ 5 107 0 0)).room s m ([.ref (g.ad 0), .ref (g.ad q)] : List Value).toArray below meth c H locs 0 0 (MQ below (va_Qv (fun _ : Unit => True) (fun _ t => Rg g r t.heap) (Ag g s.heap.size)) ([.ref (g.ad 0), .ref (g.ad q)] : List Value).toArray s 0 0 (Ag g s.heap.size)) (F0 m 21 ls []) := by
    intro μ x1 H locs ls hP hS hl hx1 hf
    unfold b_X7_interruptOne_21 at hf
    refine lv_aload_n hx hb dX7_interruptOne_21 rfl (lv_at hl 1 rfl) ?_
    refine lv_iconst (v := (-1)) hx hb dX7_interruptOne_22 (by decide) ?_
    refine r_put hx hb hts i_X2 tyX2 tyX2_ok nmX2 hown hT hP hD hC hN hS (mtP hx1) (fs := (fsP g x1)) (obP hx1) rfl 7 (by decide) q131 (fun _ h9 => h9) rfl (ty := .int) (x := (-1)) rfl rfl rfl (fun _ => rfl) (Nat.le_of_ble_eq_true rfl) dX7_interruptOne_23 (fun H locs hP hS => ?_)
    obtain ⟨μ_3, eμ_3⟩ : ∃ z, put μ x1 7 (-1) = z := ⟨_, rfl⟩
    rw [eμ_3] at hP
    have hf := bnd_eq hf _ eμ_3
    refine lv_aload_n hx hb dX7_interruptOne_26 rfl (lv_at hl 0 rfl) ?_
    refine lv_aload_n hx hb dX7_interruptOne_27 rfl (lv_at hl 1 rfl) ?_
    obtain ⟨μ_6, hc_5, hf⟩ := bnO_some hf
    refine va_callv (va_runV (As := [.ref (g.ad x1)]) (rest := []) ⟨hx, hb, hml, hown, hts⟩ (c_X7_leave l hg μ_3 H.size x1 hx1 hc_5) (cwV 1 hts (gd_V q638 q640 q25 q41 q641) rfl rfl rfl hd_X7_leave ⟨Nat.le_of_ble_eq_true rfl, Nat.le_of_ble_eq_true rfl⟩) ⟨Pz.blind, r_recv hT hP inW (fs := (fsW g)) (obW g) rfl, fun U hU hW => ⟨rfl, Tb.warm hW hT, by rw [hU], by rw [hU]; exact hP⟩⟩ rfl rfl hl.1 rfl (lv_room (Nat.le_of_ble_eq_true rfl)) dX7_interruptOne_28 ⟨Nat.le_of_ble_eq_true rfl, Nat.le_of_ble_eq_true rfl⟩) hS (fun q _ h => Ag.sub rfl hS q h) (fun q h => Ag.sub rfl hS q h) (fun u9 t9 H locs ht9 hvm9 hw9 hB9 hz9 hk9 hS => ?_)
    have hP : Rg g μ_6 H := by rw [← ht9]; exact hB9
    refine lv_aload_n hx hb dX7_interruptOne_31 rfl (lv_at hl 1 rfl) ?_
    refine r_get hx hb hts i_X2 hown hT hP (inP hx1) (fs := (fsP g x1)) (obP hx1) rfl 1 (by decide) q114 (fun _ h9 => h9) rfl dX7_interruptOne_32 ?_
    rw [sref_srf]
    cases ho_79 : srf (μ_6 x1 1) with
    | none =>
      rw [ho_79] at hf
      dsimp only [csQ] at hf
      refine W.eq (g2 := F0 m 35 ls [.null]) rfl ?_
      refine lv_ifnullN (tgt := 60) hx hb dX7_interruptOne_35 (by decide) ?_
      refine lv_aload_n hx hb dX7_interruptOne_60 rfl (lv_at hl 0 rfl) ?_
      refine lv_aload_n hx hb dX7_interruptOne_61 rfl (lv_at hl 1 rfl) ?_
      refine lv_iconst (v := 0) hx hb dX7_interruptOne_62 (by decide) ?_
      refine lv_iconst (v := 0) hx hb dX7_interruptOne_63 (by decide) ?_
      obtain ⟨μ_10, hc_9, hf⟩ := bnO_some hf
      refine va_callv (va_runV (As := [.ref (g.ad x1), .int 0, .int 0]) (rest := []) ⟨hx, hb, hml, hown, hts⟩ (c_X7_schedule l hg μ_6 H.size x1 0 0 hx1 hc_9) (cwV 3 hts (gd_V q381 q382 q383 q41 q384) rfl rfl rfl hd_X7_schedule ⟨Nat.le_of_ble_eq_true rfl, Nat.le_of_ble_eq_true rfl⟩) ⟨Pz.blind, r_recv hT hP inW (fs := (fsW g)) (obW g) rfl, fun U hU hW => ⟨rfl, Tb.warm hW hT, by rw [hU], by rw [hU]; exact hP⟩⟩ rfl rfl hl.1 rfl (lv_room (Nat.le_of_ble_eq_true rfl)) dX7_interruptOne_64 ⟨Nat.le_of_ble_eq_true rfl, Nat.le_of_ble_eq_true rfl⟩) hS (fun q _ h => Ag.sub rfl hS q h) (fun q h => Ag.sub rfl hS q h) (fun u9 t9 H locs ht9 hvm9 hw9 hB9 hz9 hk9 hS => ?_)
      have hP : Rg g μ_10 H := by rw [← ht9]; exact hB9
      exact W.vret hx hb hr (fun t9 ht hW => ⟨⟨(), rfl, trivial, by show Rg g r t9.heap; rw [ht, ← Option.some.inj hf]; exact hP⟩, hS.F ht⟩) hS.2.2 dX7_interruptOne_67
    | some o_7 =>
      rw [ho_79] at hf
      dsimp only [csQ] at hf
      obtain ⟨ho_7, hf⟩ := grd_some hf
      refine W.eq (g2 := F0 m 35 ls [.ref (g.ad o_7)]) rfl ?_
      refine lv_ifnull hx hb dX7_interruptOne_35 ?_
      refine lv_aload_n hx hb dX7_interruptOne_38 rfl (lv_at hl 1 rfl) ?_
      refine r_get hx hb hts i_X2 hown hT hP (inP hx1) (fs := (fsP g x1)) (obP hx1) rfl 1 (by decide) q114 (fun _ h9 => h9) rfl dX7_interruptOne_39 ?_
      rw [sref_srf, ho_79]
      refine W.eq (g2 := F0 m 42 ls [.ref (g.ad o_7)]) rfl ?_
      refine r_get hx hb hts i_X4 hown hT hP (inC ho_7) (fs := (fun _ => fsC g o_7 (g.sh o_7))) (obC ho_7) rfl 1 (by decide) q1081 (fun _ h9 => h9) rfl dX7_interruptOne_42 ?_
      refine lv_iconst (v := (-1)) hx hb dX7_interruptOne_45 (by decide) ?_
      refine lv_icmp_eq (tgt := 60) hx hb dX7_interruptOne_46 (by decide) (fun c_11 => ?_) (fun c_11 => ?_)
      · have hf := (if_pos c_11).symm.trans hf
        refine lv_aload_n hx hb dX7_interruptOne_60 rfl (lv_at hl 0 rfl) ?_
        refine lv_aload_n hx hb dX7_interruptOne_61 rfl (lv_at hl 1 rfl) ?_
        refine lv_iconst (v := 0) hx hb dX7_interruptOne_62 (by decide) ?_
        refine lv_iconst (v := 0) hx hb dX7_interruptOne_63 (by decide) ?_
        obtain ⟨μ_14, hc_13, hf⟩ := bnO_some hf
        refine va_callv (va_runV (As := [.ref (g.ad x1), .int 0, .int 0]) (rest := []) ⟨hx, hb, hml, hown, hts⟩ (c_X7_schedule l hg μ_6 H.size x1 0 0 hx1 hc_13) (cwV 3 hts (gd_V q381 q382 q383 q41 q384) rfl rfl rfl hd_X7_schedule ⟨Nat.le_of_ble_eq_true rfl, Nat.le_of_ble_eq_true rfl⟩) ⟨Pz.blind, r_recv hT hP inW (fs := (fsW g)) (obW g) rfl, fun U hU hW => ⟨rfl, Tb.warm hW hT, by rw [hU], by rw [hU]; exact hP⟩⟩ rfl rfl hl.1 rfl (lv_room (Nat.le_of_ble_eq_true rfl)) dX7_interruptOne_64 ⟨Nat.le_of_ble_eq_true rfl, Nat.le_of_ble_eq_true rfl⟩) hS (fun q _ h => Ag.sub rfl hS q h) (fun q h => Ag.sub rfl hS q h) (fun u9 t9 H locs ht9 hvm9 hw9 hB9 hz9 hk9 hS => ?_)
        have hP : Rg g μ_14 H := by rw [← ht9]; exact hB9
        exact W.vret hx hb hr (fun t9 ht hW => ⟨⟨(), rfl, trivial, by show Rg g r t9.heap; rw [ht, ← Option.some.inj hf]; exact hP⟩, hS.F ht⟩) hS.2.2 dX7_interruptOne_67
      · have hf := (if_neg c_11).symm.trans hf
        refine lv_aload_n hx hb dX7_interruptOne_49 rfl (lv_at hl 1 rfl) ?_
        refine lv_aload_n hx hb dX7_interruptOne_50 rfl (lv_at hl 1 rfl) ?_
        refine r_get hx hb hts i_X2 hown hT hP (inP hx1) (fs := (fsP g x1)) (obP hx1) rfl 1 (by decide) q114 (fun _ h9 => h9) rfl dX7_interruptOne_51 ?_
        rw [sref_srf, ho_79]
        refine W.eq (g2 := F0 m 54 ls [.ref (g.ad o_7), .ref (g.ad x1)]) rfl ?_
        refine r_get hx hb hts i_X4 hown hT hP (inC ho_7) (fs := (fun _ => fsC g o_7 (g.sh o_7))) (obC ho_7) rfl 1 (by decide) q1081 (fun _ h9 => h9) rfl dX7_interruptOne_54 ?_
        refine r_put hx hb hts i_X2 tyX2 tyX2_ok nmX2 hown hT hP hD hC hN hS (mtP hx1) (fs := (fsP g x1)) (obP hx1) rfl 3 (by decide) q119 (fun _ h9 => h9) rfl (ty := .int) (x := g.sh o_7 1) rfl rfl rfl (fun _ => rfl) (Nat.le_of_ble_eq_true rfl) dX7_interruptOne_57 (fun H locs hP hS => ?_)
        obtain ⟨μ_15, eμ_15⟩ : ∃ z, put μ_6 x1 3 (g.sh o_7 1) = z := ⟨_, rfl⟩
        rw [eμ_15] at hP
        have hf := bnd_eq hf _ eμ_15
        refine lv_aload_n hx hb dX7_interruptOne_60 rfl (lv_at hl 0 rfl) ?_
        refine lv_aload_n hx hb dX7_interruptOne_61 rfl (lv_at hl 1 rfl) ?_
        refine lv_iconst (v := 0) hx hb dX7_interruptOne_62 (by decide) ?_
        refine lv_iconst (v := 0) hx hb dX7_interruptOne_63 (by decide) ?_
        obtain ⟨μ_18, hc_17, hf⟩ := bnO_some hf
        refine va_callv (va_runV (As := [.ref (g.ad x1), .int 0, .int 0]) (rest := []) ⟨hx, hb, hml, hown, hts⟩ (c_X7_schedule l hg μ_15 H.size x1 0 0 hx1 hc_17) (cwV 3 hts (gd_V q381 q382 q383 q41 q384) rfl rfl rfl hd_X7_schedule ⟨Nat.le_of_ble_eq_true rfl, Nat.le_of_ble_eq_true rfl⟩) ⟨Pz.blind, r_recv hT hP inW (fs := (fsW g)) (obW g) rfl, fun U hU hW => ⟨rfl, Tb.warm hW hT, by rw [hU], by rw [hU]; exact hP⟩⟩ rfl rfl hl.1 rfl (lv_room (Nat.le_of_ble_eq_true rfl)) dX7_interruptOne_64 ⟨Nat.le_of_ble_eq_true rfl, Nat.le_of_ble_eq_true rfl⟩) hS (fun q _ h => Ag.sub rfl hS q h) (fun q h => Ag.sub rfl hS q h) (fun u9 t9 H locs ht9 hvm9 hw9 hB9 hz9 hk9 hS => ?_)
        have hP : Rg g μ_18 H := by rw [← ht9]; exact hB9
        exact W.vret hx hb hr (fun t9 ht hW => ⟨⟨(), rfl, trivial, by show Rg g r t9.heap; rw [ht, ← Option.some.inj hf]; exact hP⟩, hS.F ht⟩) hS.2.2 dX7_interruptOne_67
  have hl := lv_entry ([.ref (g.ad 0), .ref (g.ad q)]) (n := 2) (Nat.le_of_ble_eq_true rfl)
  rw [lg_entry_eq]
  generalize (lg_sl ([.ref (g.ad 0), .ref (g.ad q)]) ++ List.replicate (2 - (lg_sl ([.ref (g.ad 0), .ref (g.ad q)])).length) Slot.unset).toArray = ls at hl ⊢
  have hl : lv_has ls 2 [(0, .ref (g.ad 0)), (1, .ref (g.ad q))] := hl
  unfold f_X7_interruptOne at hf
  refine lv_aload_n hx hb dX7_interruptOne_0 rfl (lv_at hl 1 rfl) ?_
  refine r_get hx hb hts i_X2 hown hT hP (inP hq) (fs := (fsP g q)) (obP hq) rfl 6 (by decide) q128 (fun _ h9 => h9) rfl dX7_interruptOne_1 ?_
  refine lv_iconst (v := 1) hx hb dX7_interruptOne_4 (by decide) ?_
  refine lv_icmp_ne (tgt := 21) hx hb dX7_interruptOne_5 (by decide) (fun c_1 => ?_) (fun c_1 => ?_)
  · have hf := (if_neg c_1).symm.trans hf
    exact L21 μ q _ _ _ hP hS (lv_sub hl [0, 1] rfl) hq hf
  · have hf := (if_pos c_1).symm.trans hf
    refine lv_aload_n hx hb dX7_interruptOne_8 rfl (lv_at hl 1 rfl) ?_
    refine lv_aload_n hx hb dX7_interruptOne_9 rfl (lv_at hl 1 rfl) ?_
    refine r_get hx hb hts i_X2 hown hT hP (inP hq) (fs := (fsP g q)) (obP hq) rfl 7 (by decide) q131 (fun _ h9 => h9) rfl dX7_interruptOne_10 ?_
    refine lv_aload_n hx hb dX7_interruptOne_13 rfl (lv_at hl 0 rfl) ?_
    refine r_get hx hb hts i_X7 hown hT hP inW (fs := (fsW g)) (obW g) rfl 6 (by decide) q197 (fun _ h9 => h9) rfl dX7_interruptOne_14 ?_
    refine lv_isub hx hb dX7_interruptOne_17 ?_
    refine r_put hx hb hts i_X2 tyX2 tyX2_ok nmX2 hown hT hP hD hC hN hS (mtP hq) (fs := (fsP g q)) (obP hq) rfl 5 (by decide) q125 (fun _ h9 => h9) rfl (ty := .int) (x := (μ q 7) - (μ 0 6)) rfl rfl rfl (fun _ => rfl) (Nat.le_of_ble_eq_true rfl) dX7_interruptOne_18 (fun H locs hP hS => ?_)
    obtain ⟨μ_2, eμ_2⟩ : ∃ z, put μ q 5 ((μ q 7) - (μ 0 6)) = z := ⟨_, rfl⟩
    rw [eμ_2] at hP
    have hf := bnd_eq hf _ eμ_2
    exact L21 μ_2 q _ _ _ hP hS (lv_sub hl [0, 1] rfl) hq hf
/-- "Sandglass$World" "finish" "(LSandglass$Proc;I)V" -/
def b_X7_finish_17 (g : Fg) : Nat → Mem → Nat → Int32 → Option (Mem)
  | 0, _, _, _ => none
  | n + 1, μ, x1, x3 => if (nI (g.sz 0)) ≤ x3 then (some μ) else (grd (¬ (x3 < 0 ∨ g.sz 0 ≤ x3.toNatClampNeg)) (bnd (102 + x3.toNatClampNeg) fun k_9 => grd (102 ≤ k_9 ∧ k_9 < 102 + g.sz 0 ∧ k_9 < 108) (bnO (f_X7_releaseR g μ x1 k_9 9) fun μ_12 => b_X7_finish_17 g n μ_12 x1 (x3 + 1))))
def f_X7_finish (g : Fg) (μ : Mem) (q : Nat) (st : Int32) : Option (Mem) := bnd (put μ q 6 st) fun μ_1 => bnd (put μ_1 q 7 (-1)) fun μ_2 => bnO (f_X7_leave g μ_2 q) fun μ_5 => b_X7_finish_17 g fu μ_5 q 0
theorem hd_X7_finish : yX7_finish.cls = RX7 ∧ yX7_finish.cls ≠ "java/lang/invoke/MethodHandle" ∧ yX7_finish.cls ≠ "java/lang/invoke/VarHandle" ∧ (parseMethodDescriptor yX7_finish.desc).map (fun d => d.parameters.length) = some 2 := by decide +kernel
set_option maxHeartbeats 4000000 in
set_option maxRecDepth 100000 in
theorem c_X7_finish (l : Launch) {g : Geo} (hg : Good g) (μ : Mem) (sz : Nat) (q : Nat) (st : Int32) (hq : isP q) {r : Mem} (hf : f_X7_finish g.F μ q st = some r) : Met l yX7_finish (ws_ yX7_finish cX7_finish 4 (Option.none : Option Jvm.ClassFile.FieldType)) (rm_ 5 107 0 0) (Pz g [.ref (g.ad 0), .ref (g.ad q), .int st] (fun H9 => H9.size = sz ∧ Rg g μ H9)) (va_Qv (fun _ : Unit => True) (fun _ t => Rg g r t.heap) (Ag g sz)) 0 0 (Ag g sz) := by
  refine Met.ofW (cc := cX7_finish) (maxL := 4) (ret := (Option.none : Option Jvm.ClassFile.FieldType)) (by decide) rfl ?_
  intro p e s m args below meth c s₁ B hml hv
  obtain ⟨rfl, hT, hsz, hP⟩ := hv
  have hx := B.exec
  have hb := B.bytes
  have hr := B.returns
  have hts : ∀ w ∈ lw_all, w.before _ s = true := fun w h => atoms_spec (ws := (ws_ yX7_finish cX7_finish 4 (Option.none : Option Jvm.ClassFile.FieldType))) B.pre w (List.mem_cons_of_mem _ h)
  have hown : s.vm.findClass RX7 = some m.cls := findClass_of_methodNamed B.named
  have hlocks := B.notSynchronized
  subst hsz
  have hD := fun ν => Ag.apart hg s.heap.size ν
  have hC := hP.sh
  have hN := Ag.shr hg hP
  have hS : va_S (Ag g s.heap.size) s.heap s.heap [] := va_S.rf
  have L17 : ∀ (n : Nat) (μ : Mem) (x1 : Nat) (x3 : Int32) (H : Heap) (locs : List Loc) (ls : Array Slot), Rg g μ H → va_S (Ag g s.heap.size) s.heap H locs → lv_has ls 4 [(0, .ref (g.ad 0)), (1, .ref (g.ad x1)), (3, .int x3)] → isP x1 → b_X7_finish_17 g.F n μ x1 x3 = some r → W p l e (headSpec (ws_ yX7_finish cX7_finish 4 (Option.none : Option Jvm.ClassFile.FieldType)) (rm_ 5 107 0 0)).room s m ([.ref (g.ad 0), .ref (g.ad q), .int st] : List Value).toArray below meth c H locs 0 0 (MQ below (va_Qv (fun _ : Unit => True) (fun _ t => Rg g r t.heap) (Ag g s.heap.size)) ([.ref (g.ad 0), .ref (g.ad q), .int st] : List Value).toArray s 0 0 (Ag g s.heap.size)) (F0 m 17 ls []) := by
    intro n
    induction n with
    | zero => intro μ x1 x3 H locs ls hP hS hl hx1 hf; cases hf
    | succ n ih =>
      intro μ x1 x3 H locs ls hP hS hl hx1 hf
      rw [b_X7_finish_17] at hf
      refine lv_iload_n hx hb dX7_finish_17 rfl (lv_at hl 2 rfl) ?_
      refine lv_aload_n hx hb dX7_finish_18 rfl (lv_at hl 0 rfl) ?_
      refine r_get hx hb hts i_X7 hown hT hP inW (fs := (fsW g)) (obW g) rfl 2 (by decide) q190 (fun _ h9 => h9) rfl dX7_finish_19 ?_
      refine va_calli (va_runV (As := []) (rest := [.int x3]) ⟨hx, hb, hml, hown, hts⟩ (c_Jx4a65c_size_8abf5 l hg μ in98 (szR g)) (cwV 0 hts (gd_V q325 q326 q327 q40 q328) rfl rfl rfl hd_Jx4a65c_size_8abf5 ⟨Nat.le_of_ble_eq_true rfl, Nat.le_of_ble_eq_true rfl⟩) ⟨Pz.blind, r_recv hT hP in98 (fs := fun _ => [.int (nI (g.sz 0)), .ref (g.ad 99), .int (nI (g.sz 0))]) (szR g) rfl, fun U hU hW => ⟨rfl, Tb.warm hW hT, by rw [hU]; exact hP⟩⟩ rfl rfl hl.1 rfl (lv_room (Nat.le_of_ble_eq_true rfl)) dX7_finish_22 ⟨Nat.le_of_ble_eq_true rfl, Nat.le_of_ble_eq_true rfl⟩) hS (fun q _ h => h.elim) (fun q h => h.elim) (fun v9 u9 t9 H locs ht9 hvm9 hw9 hB9 hz9 hk9 hS => ?_)
      have hP := Rg.keep hP (fun q h => hk9 q h id)
      rw [hw9]
      refine lv_icmp_ge (tgt := 52) hx hb dX7_finish_25 (by decide) (fun c_6 => ?_) (fun c_6 => ?_)
      · have hf := (if_pos c_6).symm.trans hf
        exact W.vret hx hb hr (fun t9 ht hW => ⟨⟨(), rfl, trivial, by show Rg g r t9.heap; rw [ht, ← Option.some.inj hf]; exact hP⟩, hS.F ht⟩) hS.2.2 dX7_finish_52
      · have hf := (if_neg c_6).symm.trans hf
        refine lv_aload_n hx hb dX7_finish_28 rfl (lv_at hl 0 rfl) ?_
        refine lv_aload_n hx hb dX7_finish_29 rfl (lv_at hl 1 rfl) ?_
        refine lv_aload_n hx hb dX7_finish_30 rfl (lv_at hl 0 rfl) ?_
        refine r_get hx hb hts i_X7 hown hT hP inW (fs := (fsW g)) (obW g) rfl 2 (by decide) q190 (fun _ h9 => h9) rfl dX7_finish_31 ?_
        refine lv_iload_n hx hb dX7_finish_34 rfl (lv_at hl 2 rfl) ?_
        obtain ⟨hi_7, hf⟩ := grd_some hf
        have hj_8 : x3.toNatClampNeg < g.sz 0 := Nat.not_le.mp (fun z => hi_7 (Or.inr z))
        refine va_callq (va_runV (As := [.int x3]) (rest := [.ref (g.ad x1), .ref (g.ad 0)]) ⟨hx, hb, hml, hown, hts⟩ (c_Jx4a65c_get_915e3 l hg μ (lsR hg (Nat.lt_of_le_of_lt (Nat.zero_le _) hj_8)) (nI_self (fun z => hi_7 (Or.inl z))) hj_8) (cwV 1 hts (gd_V q329 q330 q331 q40 q332) rfl rfl rfl hd_Jx4a65c_get_915e3 ⟨Nat.le_of_ble_eq_true rfl, Nat.le_of_ble_eq_true rfl⟩) ⟨Pz.blind, r_recv hT hP in98 (fs := fun _ => [.int (nI (g.sz 0)), .ref (g.ad 99), .int (nI (g.sz 0))]) (szR g) rfl, fun U hU hW => ⟨rfl, Tb.warm hW hT, by rw [hU]; exact hP⟩⟩ rfl rfl hl.1 rfl (lv_room (Nat.le_of_ble_eq_true rfl)) dX7_finish_35 ⟨Nat.le_of_ble_eq_true rfl, Nat.le_of_ble_eq_true rfl⟩) hS (fun q _ h => h.elim) (fun q h => h.elim) (fun v9 u9 t9 H locs ht9 hvm9 hw9 hB9 hz9 hk9 hS => ?_)
        have hP := Rg.keep hP (fun q h => hk9 q h id)
        rw [hw9, fnL_in hj_8]
        refine W.eq (g2 := F0 m 38 ls (.ref (g.ad (102 + x3.toNatClampNeg)) :: [.ref (g.ad x1), .ref (g.ad 0)])) rfl ?_
        obtain ⟨k_9, ek_9⟩ : ∃ z, 102 + x3.toNatClampNeg = z := ⟨_, rfl⟩
        rw [ek_9]
        have hf := bnd_eq hf _ ek_9
        obtain ⟨hk_9, hf⟩ := grd_some hf
        refine r_cast hx hb hts hown hT hP (inR hk_9) (fs := fsR) (obR hk_9) rfl q405 dX7_finish_38 ?_
        refine lv_bipush (v := 9) hx hb dX7_finish_41 (by decide) ?_
        obtain ⟨μ_12, hc_11, hf⟩ := bnO_some hf
        refine va_callv (va_runV (As := [.ref (g.ad x1), .ref (g.ad k_9), .int 9]) (rest := []) ⟨hx, hb, hml, hown, hts⟩ (c_X7_releaseR l hg μ H.size x1 k_9 9 hx1 hk_9 hc_11) (cwV 3 hts (gd_V q492 q494 q14 q41 q495) rfl rfl rfl hd_X7_releaseR ⟨Nat.le_of_ble_eq_true rfl, Nat.le_of_ble_eq_true rfl⟩) ⟨Pz.blind, r_recv hT hP inW (fs := (fsW g)) (obW g) rfl, fun U hU hW => ⟨rfl, Tb.warm hW hT, by rw [hU], by rw [hU]; exact hP⟩⟩ rfl rfl hl.1 rfl (lv_room (Nat.le_of_ble_eq_true rfl)) dX7_finish_43 ⟨Nat.le_of_ble_eq_true rfl, Nat.le_of_ble_eq_true rfl⟩) hS (fun q _ h => Ag.sub rfl hS q h) (fun q h => Ag.sub rfl hS q h) (fun u9 t9 H locs ht9 hvm9 hw9 hB9 hz9 hk9 hS => ?_)
        have hP : Rg g μ_12 H := by rw [← ht9]; exact hB9
        refine lv_iinc (v := x3 + 1) (lv' := [(3, .int (x3 + 1)), (0, .ref (g.ad 0)), (1, .ref (g.ad x1))]) hx hb dX7_finish_46 hl (k := 2) rfl rfl (by decide) rfl (fun ls hl => ?_)
        refine lv_goto (tgt := 17) hx hb dX7_finish_49 (by decide) ?_
        exact ih μ_12 x1 (x3 + 1) _ _ _ hP hS (lv_sub hl [1, 2, 0] rfl) hx1 hf
  have hl := lv_entry ([.ref (g.ad 0), .ref (g.ad q), .int st]) (n := 4) (Nat.le_of_ble_eq_true rfl)
  rw [lg_entry_eq]
  generalize (lg_sl ([.ref (g.ad 0), .ref (g.ad q), .int st]) ++ List.replicate (4 - (lg_sl ([.ref (g.ad 0), .ref (g.ad q), .int st])).length) Slot.unset).toArray = ls at hl ⊢
  have hl : lv_has ls 4 [(0, .ref (g.ad 0)), (1, .ref (g.ad q)), (2, .int st)] := hl
  unfold f_X7_finish at hf
  refine lv_aload_n hx hb dX7_finish_0 rfl (lv_at hl 1 rfl) ?_
  refine lv_iload_n hx hb dX7_finish_1 rfl (lv_at hl 2 rfl) ?_
  refine r_put hx hb hts i_X2 tyX2 tyX2_ok nmX2 hown hT hP hD hC hN hS (mtP hq) (fs := (fsP g q)) (obP hq) rfl 6 (by decide) q128 (fun _ h9 => h9) rfl (ty := .int) (x := st) rfl rfl rfl (fun _ => rfl) (Nat.le_of_ble_eq_true rfl) dX7_finish_2 (fun H locs hP hS => ?_)
  obtain ⟨μ_1, eμ_1⟩ : ∃ z, put μ q 6 st = z := ⟨_, rfl⟩
  rw [eμ_1] at hP
  have hf := bnd_eq hf _ eμ_1
  refine lv_aload_n hx hb dX7_finish_5 rfl (lv_at hl 1 rfl) ?_
  refine lv_iconst (v := (-1)) hx hb dX7_finish_6 (by decide) ?_
  refine r_put hx hb hts i_X2 tyX2 tyX2_ok nmX2 hown hT hP hD hC hN hS (mtP hq) (fs := (fsP g q)) (obP hq) rfl 7 (by decide) q131 (fun _ h9 => h9) rfl (ty := .int) (x := (-1)) rfl rfl rfl (fun _ => rfl) (Nat.le_of_ble_eq_true rfl) dX7_finish_7 (fun H locs hP hS => ?_)
  obtain ⟨μ_2, eμ_2⟩ : ∃ z, put μ_1 q 7 (-1) = z := ⟨_, rfl⟩
  rw [eμ_2] at hP
  have hf := bnd_eq hf _ eμ_2
  refine lv_aload_n hx hb dX7_finish_10 rfl (lv_at hl 0 rfl) ?_
  refine lv_aload_n hx hb dX7_finish_11 rfl (lv_at hl 1 rfl) ?_
  obtain ⟨μ_5, hc_4, hf⟩ := bnO_some hf
  refine va_callv (va_runV (As := [.ref (g.ad q)]) (rest := []) ⟨hx, hb, hml, hown, hts⟩ (c_X7_leave l hg μ_2 H.size q hq hc_4) (cwV 1 hts (gd_V q638 q640 q25 q41 q641) rfl rfl rfl hd_X7_leave ⟨Nat.le_of_ble_eq_true rfl, Nat.le_of_ble_eq_true rfl⟩) ⟨Pz.blind, r_recv hT hP inW (fs := (fsW g)) (obW g) rfl, fun U hU hW => ⟨rfl, Tb.warm hW hT, by rw [hU], by rw [hU]; exact hP⟩⟩ rfl rfl hl.1 rfl (lv_room (Nat.le_of_ble_eq_true rfl)) dX7_finish_12 ⟨Nat.le_of_ble_eq_true rfl, Nat.le_of_ble_eq_true rfl⟩) hS (fun q _ h => Ag.sub rfl hS q h) (fun q h => Ag.sub rfl hS q h) (fun u9 t9 H locs ht9 hvm9 hw9 hB9 hz9 hk9 hS => ?_)
  have hP : Rg g μ_5 H := by rw [← ht9]; exact hB9
  refine lv_iconst (v := 0) hx hb dX7_finish_15 (by decide) ?_
  refine lv_istore_n (lv' := [(3, .int 0), (0, .ref (g.ad 0)), (1, .ref (g.ad q)), (2, .int st)]) hx hb dX7_finish_16 rfl hl (by decide) rfl (fun ls hl => ?_)
  exact L17 fu μ_5 q 0 _ _ _ hP hS (lv_sub hl [1, 2, 0] rfl) hq hf
