/-- "Sandglass$World" "goOnWith" "(LSandglass$Store;)V" -/
def b_X7_goOnWithS_2 (g : Fg) : Nat → Mem → Nat → Int32 → Option (Mem)
  | 0, _, _, _ => none
  | n + 1, μ, x1, x2 => if 24 ≤ x2 then (some μ) else (bnO (f_X5_row g μ x1 1) fun r_2 => bnO (f_X7_firstIn g μ r_2) fun r_4 => csQ r_4 (bnO (f_X5_row g μ x1 0) fun r_7 => bnO (f_X7_firstIn g μ r_7) fun r_9 => csQ r_9 (some μ) (fun o_11 => grd (1 ≤ o_11 ∧ o_11 < 25) (bnO (f_X5_allows g μ x1 (μ o_11 12)) fun r_12 => if r_12 = 0 then (some μ) else (bnd (put μ o_11 9 (-1)) fun μ_15 => bnd (put μ_15 x1 2 ((μ_15 x1 2) + (μ_15 o_11 12))) fun μ_16 => bnO (f_X7_schedule g μ_16 o_11 0 0) fun μ_19 => b_X7_goOnWithS_2 g n μ_19 x1 (x2 + 1))))) (fun o_6 => grd (1 ≤ o_6 ∧ o_6 < 25) (bnO (f_X5_allows g μ x1 (μ o_6 12)) fun r_20 => if r_20 = 0 then (bnO (f_X5_row g μ x1 0) fun r_31 => bnO (f_X7_firstIn g μ r_31) fun r_33 => csQ r_33 (some μ) (fun o_35 => grd (1 ≤ o_35 ∧ o_35 < 25) (bnO (f_X5_allows g μ x1 (μ o_35 12)) fun r_36 => if r_36 = 0 then (some μ) else (bnd (put μ o_35 9 (-1)) fun μ_39 => bnd (put μ_39 x1 2 ((μ_39 x1 2) + (μ_39 o_35 12))) fun μ_40 => bnO (f_X7_schedule g μ_40 o_35 0 0) fun μ_43 => b_X7_goOnWithS_2 g n μ_43 x1 (x2 + 1))))) else (bnO (f_X5_allows g μ x1 (μ o_6 12)) fun r_23 => if r_23 = 0 then (some μ) else (bnd (put μ o_6 9 (-1)) fun μ_26 => bnd (put μ_26 x1 2 ((μ_26 x1 2) + (μ_26 o_6 12))) fun μ_27 => bnO (f_X7_schedule g μ_27 o_6 0 0) fun μ_30 => b_X7_goOnWithS_2 g n μ_30 x1 (x2 + 1))))))
def f_X7_goOnWithS (g : Fg) (μ : Mem) (st : Nat) : Option (Mem) := b_X7_goOnWithS_2 g fu μ st 0
theorem hd_X7_goOnWithS : yX7_goOnWith.cls = RX7 ∧ yX7_goOnWith.cls ≠ "java/lang/invoke/MethodHandle" ∧ yX7_goOnWith.cls ≠ "java/lang/invoke/VarHandle" ∧ (parseMethodDescriptor yX7_goOnWith.desc).map (fun d => d.parameters.length) = some 1 := by decide +kernel
set_option maxHeartbeats 4000000 in
set_option maxRecDepth 100000 in
theorem c_X7_goOnWithS (l : Launch) {g : Geo} (hg : Good g) (μ : Mem) (sz : Nat) (st : Nat) (hst : isS g st) {r : Mem} (hf : f_X7_goOnWithS g.F μ st = some r) : Met l yX7_goOnWith (ws_ yX7_goOnWith cX7_goOnWith 4 (Option.none : Option Jvm.ClassFile.FieldType)) (rm_ 2 47 0 0) (Pz g [.ref (g.ad 0), .ref (g.ad st)] (fun H9 => H9.size = sz ∧ Rg g μ H9)) (va_Qv (fun _ : Unit => True) (fun _ t => Rg g r t.heap) (Ag g sz)) 0 0 (Ag g sz) := by
  refine Met.ofW (cc := cX7_goOnWith) (maxL := 4) (ret := (Option.none : Option Jvm.ClassFile.FieldType)) (by decide) rfl ?_
  intro p e s m args below meth c s₁ B hml hv
  obtain ⟨rfl, hT, hsz, hP⟩ := hv
  have hx := B.exec
  have hb := B.bytes
  have hr := B.returns
  have hts : ∀ w ∈ lw_all, w.before _ s = true := fun w h => atoms_spec (ws := (ws_ yX7_goOnWith cX7_goOnWith 4 (Option.none : Option Jvm.ClassFile.FieldType))) B.pre w (List.mem_cons_of_mem _ h)
  have hown : s.vm.findClass RX7 = some m.cls := findClass_of_methodNamed B.named
  have hlocks := B.notSynchronized
  subst hsz
  have hD := fun ν => Ag.apart hg s.heap.size ν
  have hC := hP.sh
  have hN := Ag.shr hg hP
  have hS : va_S (Ag g s.heap.size) s.heap s.heap [] := va_S.rf
  have L2 : ∀ (n : Nat) (μ : Mem) (x1 : Nat) (x2 : Int32) (H : Heap) (locs : List Loc) (ls : Array Slot), Rg g μ H → va_S (Ag g s.heap.size) s.heap H locs → lv_has ls 4 [(0, .ref (g.ad 0)), (1, .ref (g.ad x1)), (2, .int x2)] → isS g x1 → b_X7_goOnWithS_2 g.F n μ x1 x2 = some r → W p l e (headSpec (ws_ yX7_goOnWith cX7_goOnWith 4 (Option.none : Option Jvm.ClassFile.FieldType)) (rm_ 2 47 0 0)).room s m ([.ref (g.ad 0), .ref (g.ad st)] : List Value).toArray below meth c H locs 0 0 (MQ below (va_Qv (fun _ : Unit => True) (fun _ t => Rg g r t.heap) (Ag g s.heap.size)) ([.ref (g.ad 0), .ref (g.ad st)] : List Value).toArray s 0 0 (Ag g s.heap.size)) (F0 m 2 ls []) := by
    intro n
    induction n with
    | zero => intro μ x1 x2 H locs ls hP hS hl hx1 hf; cases hf
    | succ n ih =>
      intro μ x1 x2 H locs ls hP hS hl hx1 hf
      rw [b_X7_goOnWithS_2] at hf
      refine lv_aload_n hx hb dX7_goOnWith_2 rfl (lv_at hl 1 rfl) ?_
      refine lv_ifnull hx hb dX7_goOnWith_3 ?_
      refine lv_iload_n hx hb dX7_goOnWith_6 rfl (lv_at hl 2 rfl) ?_
      refine lv_bipush (v := 24) hx hb dX7_goOnWith_7 (by decide) ?_
      refine lv_icmp_ge (tgt := 94) hx hb dX7_goOnWith_9 (by decide) (fun c_1 => ?_) (fun c_1 => ?_)
      · have hf := (if_pos c_1).symm.trans hf
        exact W.vret hx hb hr (fun t9 ht hW => ⟨⟨(), rfl, trivial, by show Rg g r t9.heap; rw [ht, ← Option.some.inj hf]; exact hP⟩, hS.F ht⟩) hS.2.2 dX7_goOnWith_94
      · have hf := (if_neg c_1).symm.trans hf
        refine lv_aload_n hx hb dX7_goOnWith_12 rfl (lv_at hl 0 rfl) ?_
        refine lv_aload_n hx hb dX7_goOnWith_13 rfl (lv_at hl 1 rfl) ?_
        refine lv_iconst (v := 1) hx hb dX7_goOnWith_14 (by decide) ?_
        obtain ⟨r_2, hc_3, hf⟩ := bnO_some hf
        refine va_calli (va_runV (As := [.int 1]) (rest := [.ref (g.ad 0)]) ⟨hx, hb, hml, hown, hts⟩ (c_X5_row l hg μ x1 1 hx1 hc_3) (cwV 1 hts (gd_V q507 q508 q509 q53 q510) rfl rfl rfl hd_X5_row ⟨Nat.le_of_ble_eq_true rfl, Nat.le_of_ble_eq_true rfl⟩) ⟨Pz.blind, r_recv hT hP (inS hx1) (fs := fsS) (obS hx1) rfl, fun U hU hW => ⟨rfl, Tb.warm hW hT, by rw [hU]; exact hP⟩⟩ rfl rfl hl.1 rfl (lv_room (Nat.le_of_ble_eq_true rfl)) dX7_goOnWith_15 ⟨Nat.le_of_ble_eq_true rfl, Nat.le_of_ble_eq_true rfl⟩) hS (fun q _ h => h.elim) (fun q h => h.elim) (fun v9 u9 t9 H locs ht9 hvm9 hw9 hB9 hz9 hk9 hS => ?_)
        have hP := Rg.keep hP (fun q h => hk9 q h id)
        rw [hw9]
        obtain ⟨r_4, hc_5, hf⟩ := bnO_some hf
        refine va_callq (va_runV (As := [.int r_2]) (rest := []) ⟨hx, hb, hml, hown, hts⟩ (c_X7_firstIn l hg μ r_2  hc_5) (cwV 1 hts (gd_V q446 q448 q7 q41 q449) rfl rfl rfl hd_X7_firstIn ⟨Nat.le_of_ble_eq_true rfl, Nat.le_of_ble_eq_true rfl⟩) ⟨Pz.blind, r_recv hT hP inW (fs := (fsW g)) (obW g) rfl, fun U hU hW => ⟨rfl, Tb.warm hW hT, by rw [hU]; exact hP⟩⟩ rfl rfl hl.1 rfl (lv_room (Nat.le_of_ble_eq_true rfl)) dX7_goOnWith_18 ⟨Nat.le_of_ble_eq_true rfl, Nat.le_of_ble_eq_true rfl⟩) hS (fun q _ h => h.elim) (fun q h => h.elim) (fun v9 u9 t9 H locs ht9 hvm9 hw9 hB9 hz9 hk9 hS => ?_)
        have hP := Rg.keep hP (fun q h => hk9 q h id)
        rw [hw9]
        cases r_4 with
        | none =>
          dsimp only [csQ] at hf
          refine W.eq (g2 := F0 m 21 ls [.null]) rfl ?_
          refine lv_astore_nN (lv' := [(3, .null), (0, .ref (g.ad 0)), (1, .ref (g.ad x1)), (2, .int x2)]) hx hb dX7_goOnWith_21 rfl hl (by decide) rfl (fun ls hl => ?_)
          refine lv_aload_nN hx hb dX7_goOnWith_22 rfl (lv_at hl 0 rfl) ?_
          refine lv_ifnullN (tgt := 37) hx hb dX7_goOnWith_23 (by decide) ?_
          refine lv_aload_n hx hb dX7_goOnWith_37 rfl (lv_at hl 1 rfl) ?_
          refine lv_aload_n hx hb dX7_goOnWith_38 rfl (lv_at hl 2 rfl) ?_
          refine lv_iconst (v := 0) hx hb dX7_goOnWith_39 (by decide) ?_
          obtain ⟨r_7, hc_8, hf⟩ := bnO_some hf
          refine va_calli (va_runV (As := [.int 0]) (rest := [.ref (g.ad 0)]) ⟨hx, hb, hml, hown, hts⟩ (c_X5_row l hg μ x1 0 hx1 hc_8) (cwV 1 hts (gd_V q507 q508 q509 q53 q510) rfl rfl rfl hd_X5_row ⟨Nat.le_of_ble_eq_true rfl, Nat.le_of_ble_eq_true rfl⟩) ⟨Pz.blind, r_recv hT hP (inS hx1) (fs := fsS) (obS hx1) rfl, fun U hU hW => ⟨rfl, Tb.warm hW hT, by rw [hU]; exact hP⟩⟩ rfl rfl hl.1 rfl (lv_room (Nat.le_of_ble_eq_true rfl)) dX7_goOnWith_40 ⟨Nat.le_of_ble_eq_true rfl, Nat.le_of_ble_eq_true rfl⟩) hS (fun q _ h => h.elim) (fun q h => h.elim) (fun v9 u9 t9 H locs ht9 hvm9 hw9 hB9 hz9 hk9 hS => ?_)
          have hP := Rg.keep hP (fun q h => hk9 q h id)
          rw [hw9]
          obtain ⟨r_9, hc_10, hf⟩ := bnO_some hf
          refine va_callq (va_runV (As := [.int r_7]) (rest := []) ⟨hx, hb, hml, hown, hts⟩ (c_X7_firstIn l hg μ r_7  hc_10) (cwV 1 hts (gd_V q446 q448 q7 q41 q449) rfl rfl rfl hd_X7_firstIn ⟨Nat.le_of_ble_eq_true rfl, Nat.le_of_ble_eq_true rfl⟩) ⟨Pz.blind, r_recv hT hP inW (fs := (fsW g)) (obW g) rfl, fun U hU hW => ⟨rfl, Tb.warm hW hT, by rw [hU]; exact hP⟩⟩ rfl rfl hl.1 rfl (lv_room (Nat.le_of_ble_eq_true rfl)) dX7_goOnWith_43 ⟨Nat.le_of_ble_eq_true rfl, Nat.le_of_ble_eq_true rfl⟩) hS (fun q _ h => h.elim) (fun q h => h.elim) (fun v9 u9 t9 H locs ht9 hvm9 hw9 hB9 hz9 hk9 hS => ?_)
          have hP := Rg.keep hP (fun q h => hk9 q h id)
          rw [hw9]
          cases r_9 with
          | none =>
            dsimp only [csQ] at hf
            refine W.eq (g2 := F0 m 46 ls [.null]) rfl ?_
            refine lv_astore_nN (lv' := [(3, .null), (0, .ref (g.ad 0)), (1, .ref (g.ad x1)), (2, .int x2)]) hx hb dX7_goOnWith_46 rfl hl (by decide) rfl (fun ls hl => ?_)
            refine lv_aload_nN hx hb dX7_goOnWith_47 rfl (lv_at hl 0 rfl) ?_
            refine lv_ifnullN (tgt := 62) hx hb dX7_goOnWith_48 (by decide) ?_
            exact W.vret hx hb hr (fun t9 ht hW => ⟨⟨(), rfl, trivial, by show Rg g r t9.heap; rw [ht, ← Option.some.inj hf]; exact hP⟩, hS.F ht⟩) hS.2.2 dX7_goOnWith_62
          | some o_11 =>
            dsimp only [csQ] at hf
            obtain ⟨ho_11, hf⟩ := grd_some hf
            refine W.eq (g2 := F0 m 46 ls [.ref (g.ad o_11)]) rfl ?_
            refine lv_astore_n (lv' := [(3, .ref (g.ad o_11)), (0, .ref (g.ad 0)), (1, .ref (g.ad x1)), (2, .int x2)]) hx hb dX7_goOnWith_46 rfl hl (by decide) rfl (fun ls hl => ?_)
            refine lv_aload_n hx hb dX7_goOnWith_47 rfl (lv_at hl 0 rfl) ?_
            refine lv_ifnull hx hb dX7_goOnWith_48 ?_
            refine lv_aload_n hx hb dX7_goOnWith_51 rfl (lv_at hl 2 rfl) ?_
            refine lv_aload_n hx hb dX7_goOnWith_52 rfl (lv_at hl 0 rfl) ?_
            refine r_get hx hb hts i_X2 hown hT hP (inP ho_11) (fs := (fsP g o_11)) (obP ho_11) rfl 12 (by decide) q142 (fun _ h9 => h9) rfl dX7_goOnWith_53 ?_
            obtain ⟨r_12, hc_13, hf⟩ := bnO_some hf
            refine va_calli (va_runV (As := [.int (μ o_11 12)]) (rest := []) ⟨hx, hb, hml, hown, hts⟩ (c_X5_allows l hg μ x1 (μ o_11 12) hx1 hc_13) (cwV 1 hts (gd_V q511 q512 q513 q53 q514) rfl rfl rfl hd_X5_allows ⟨Nat.le_of_ble_eq_true rfl, Nat.le_of_ble_eq_true rfl⟩) ⟨Pz.blind, r_recv hT hP (inS hx1) (fs := fsS) (obS hx1) rfl, fun U hU hW => ⟨rfl, Tb.warm hW hT, by rw [hU]; exact hP⟩⟩ rfl rfl hl.1 rfl (lv_room (Nat.le_of_ble_eq_true rfl)) dX7_goOnWith_56 ⟨Nat.le_of_ble_eq_true rfl, Nat.le_of_ble_eq_true rfl⟩) hS (fun q _ h => h.elim) (fun q h => h.elim) (fun v9 u9 t9 H locs ht9 hvm9 hw9 hB9 hz9 hk9 hS => ?_)
            have hP := Rg.keep hP (fun q h => hk9 q h id)
            rw [hw9]
            refine lv_if_ne (tgt := 63) hx hb dX7_goOnWith_59 (by decide) (fun c_14 => ?_) (fun c_14 => ?_)
            · have hf := (if_neg c_14).symm.trans hf
              refine lv_aload_n hx hb dX7_goOnWith_63 rfl (lv_at hl 0 rfl) ?_
              refine lv_iconst (v := (-1)) hx hb dX7_goOnWith_64 (by decide) ?_
              refine r_put hx hb hts i_X2 tyX2 tyX2_ok nmX2 hown hT hP hD hC hN hS (mtP ho_11) (fs := (fsP g o_11)) (obP ho_11) rfl 9 (by decide) q136 (fun _ h9 => h9) rfl (ty := .int) (x := (-1)) rfl rfl rfl (fun _ => rfl) (Nat.le_of_ble_eq_true rfl) dX7_goOnWith_65 (fun H locs hP hS => ?_)
              obtain ⟨μ_15, eμ_15⟩ : ∃ z, put μ o_11 9 (-1) = z := ⟨_, rfl⟩
              rw [eμ_15] at hP
              have hf := bnd_eq hf _ eμ_15
              refine lv_aload_n hx hb dX7_goOnWith_68 rfl (lv_at hl 2 rfl) ?_
              refine lv_dup hx hb dX7_goOnWith_69 rfl ?_
              refine r_get hx hb hts i_X5 hown hT hP (inS hx1) (fs := fsS) (obS hx1) rfl 2 (by decide) q998 (fun _ h9 => h9) rfl dX7_goOnWith_70 ?_
              refine lv_aload_n hx hb dX7_goOnWith_73 rfl (lv_at hl 0 rfl) ?_
              refine r_get hx hb hts i_X2 hown hT hP (inP ho_11) (fs := (fsP g o_11)) (obP ho_11) rfl 12 (by decide) q142 (fun _ h9 => h9) rfl dX7_goOnWith_74 ?_
              refine lv_iadd hx hb dX7_goOnWith_77 ?_
              refine r_put hx hb hts i_X5 tyX5 tyX5_ok nmX5 hown hT hP hD hC hN hS (mtS hx1) (fs := fsS) (obS hx1) rfl 2 (by decide) q998 (fun _ h9 => h9) rfl (ty := .int) (x := (μ_15 x1 2) + (μ_15 o_11 12)) rfl rfl rfl (fun _ => rfl) (Nat.le_of_ble_eq_true rfl) dX7_goOnWith_78 (fun H locs hP hS => ?_)
              obtain ⟨μ_16, eμ_16⟩ : ∃ z, put μ_15 x1 2 ((μ_15 x1 2) + (μ_15 o_11 12)) = z := ⟨_, rfl⟩
              rw [eμ_16] at hP
              have hf := bnd_eq hf _ eμ_16
              refine lv_aload_n hx hb dX7_goOnWith_81 rfl (lv_at hl 1 rfl) ?_
              refine lv_aload_n hx hb dX7_goOnWith_82 rfl (lv_at hl 0 rfl) ?_
              refine lv_iconst (v := 0) hx hb dX7_goOnWith_83 (by decide) ?_
              refine lv_iconst (v := 0) hx hb dX7_goOnWith_84 (by decide) ?_
              obtain ⟨μ_19, hc_18, hf⟩ := bnO_some hf
              refine va_callv (va_runV (As := [.ref (g.ad o_11), .int 0, .int 0]) (rest := []) ⟨hx, hb, hml, hown, hts⟩ (c_X7_schedule l hg μ_16 H.size o_11 0 0 ho_11 hc_18) (cwV 3 hts (gd_V q381 q382 q383 q41 q384) rfl rfl rfl hd_X7_schedule ⟨Nat.le_of_ble_eq_true rfl, Nat.le_of_ble_eq_true rfl⟩) ⟨Pz.blind, r_recv hT hP inW (fs := (fsW g)) (obW g) rfl, fun U hU hW => ⟨rfl, Tb.warm hW hT, by rw [hU], by rw [hU]; exact hP⟩⟩ rfl rfl hl.1 rfl (lv_room (Nat.le_of_ble_eq_true rfl)) dX7_goOnWith_85 ⟨Nat.le_of_ble_eq_true rfl, Nat.le_of_ble_eq_true rfl⟩) hS (fun q _ h => Ag.sub rfl hS q h) (fun q h => Ag.sub rfl hS q h) (fun u9 t9 H locs ht9 hvm9 hw9 hB9 hz9 hk9 hS => ?_)
              have hP : Rg g μ_19 H := by rw [← ht9]; exact hB9
              refine lv_iinc (v := x2 + 1) (lv' := [(2, .int (x2 + 1)), (3, .ref (g.ad o_11)), (0, .ref (g.ad 0)), (1, .ref (g.ad x1))]) hx hb dX7_goOnWith_88 hl (k := 3) rfl rfl (by decide) rfl (fun ls hl => ?_)
              refine lv_goto (tgt := 2) hx hb dX7_goOnWith_91 (by decide) ?_
              exact ih μ_19 x1 (x2 + 1) _ _ _ hP hS (lv_sub hl [2, 3, 0] rfl) hx1 hf
            · have hf := (if_pos c_14).symm.trans hf
              exact W.vret hx hb hr (fun t9 ht hW => ⟨⟨(), rfl, trivial, by show Rg g r t9.heap; rw [ht, ← Option.some.inj hf]; exact hP⟩, hS.F ht⟩) hS.2.2 dX7_goOnWith_62
        | some o_6 =>
          dsimp only [csQ] at hf
          obtain ⟨ho_6, hf⟩ := grd_some hf
          refine W.eq (g2 := F0 m 21 ls [.ref (g.ad o_6)]) rfl ?_
          refine lv_astore_n (lv' := [(3, .ref (g.ad o_6)), (0, .ref (g.ad 0)), (1, .ref (g.ad x1)), (2, .int x2)]) hx hb dX7_goOnWith_21 rfl hl (by decide) rfl (fun ls hl => ?_)
          refine lv_aload_n hx hb dX7_goOnWith_22 rfl (lv_at hl 0 rfl) ?_
          refine lv_ifnull hx hb dX7_goOnWith_23 ?_
          refine lv_aload_n hx hb dX7_goOnWith_26 rfl (lv_at hl 2 rfl) ?_
          refine lv_aload_n hx hb dX7_goOnWith_27 rfl (lv_at hl 0 rfl) ?_
          refine r_get hx hb hts i_X2 hown hT hP (inP ho_6) (fs := (fsP g o_6)) (obP ho_6) rfl 12 (by decide) q142 (fun _ h9 => h9) rfl dX7_goOnWith_28 ?_
          obtain ⟨r_20, hc_21, hf⟩ := bnO_some hf
          refine va_calli (va_runV (As := [.int (μ o_6 12)]) (rest := []) ⟨hx, hb, hml, hown, hts⟩ (c_X5_allows l hg μ x1 (μ o_6 12) hx1 hc_21) (cwV 1 hts (gd_V q511 q512 q513 q53 q514) rfl rfl rfl hd_X5_allows ⟨Nat.le_of_ble_eq_true rfl, Nat.le_of_ble_eq_true rfl⟩) ⟨Pz.blind, r_recv hT hP (inS hx1) (fs := fsS) (obS hx1) rfl, fun U hU hW => ⟨rfl, Tb.warm hW hT, by rw [hU]; exact hP⟩⟩ rfl rfl hl.1 rfl (lv_room (Nat.le_of_ble_eq_true rfl)) dX7_goOnWith_31 ⟨Nat.le_of_ble_eq_true rfl, Nat.le_of_ble_eq_true rfl⟩) hS (fun q _ h => h.elim) (fun q h => h.elim) (fun v9 u9 t9 H locs ht9 hvm9 hw9 hB9 hz9 hk9 hS => ?_)
          have hP := Rg.keep hP (fun q h => hk9 q h id)
          rw [hw9]
          refine lv_if_ne (tgt := 47) hx hb dX7_goOnWith_34 (by decide) (fun c_22 => ?_) (fun c_22 => ?_)
          · have hf := (if_neg c_22).symm.trans hf
            refine lv_aload_n hx hb dX7_goOnWith_47 rfl (lv_at hl 0 rfl) ?_
            refine lv_ifnull hx hb dX7_goOnWith_48 ?_
            refine lv_aload_n hx hb dX7_goOnWith_51 rfl (lv_at hl 2 rfl) ?_
            refine lv_aload_n hx hb dX7_goOnWith_52 rfl (lv_at hl 0 rfl) ?_
            refine r_get hx hb hts i_X2 hown hT hP (inP ho_6) (fs := (fsP g o_6)) (obP ho_6) rfl 12 (by decide) q142 (fun _ h9 => h9) rfl dX7_goOnWith_53 ?_
            obtain ⟨r_23, hc_24, hf⟩ := bnO_some hf
            refine va_calli (va_runV (As := [.int (μ o_6 12)]) (rest := []) ⟨hx, hb, hml, hown, hts⟩ (c_X5_allows l hg μ x1 (μ o_6 12) hx1 hc_24) (cwV 1 hts (gd_V q511 q512 q513 q53 q514) rfl rfl rfl hd_X5_allows ⟨Nat.le_of_ble_eq_true rfl, Nat.le_of_ble_eq_true rfl⟩) ⟨Pz.blind, r_recv hT hP (inS hx1) (fs := fsS) (obS hx1) rfl, fun U hU hW => ⟨rfl, Tb.warm hW hT, by rw [hU]; exact hP⟩⟩ rfl rfl hl.1 rfl (lv_room (Nat.le_of_ble_eq_true rfl)) dX7_goOnWith_56 ⟨Nat.le_of_ble_eq_true rfl, Nat.le_of_ble_eq_true rfl⟩) hS (fun q _ h => h.elim) (fun q h => h.elim) (fun v9 u9 t9 H locs ht9 hvm9 hw9 hB9 hz9 hk9 hS => ?_)
            have hP := Rg.keep hP (fun q h => hk9 q h id)
            rw [hw9]
            refine lv_if_ne (tgt := 63) hx hb dX7_goOnWith_59 (by decide) (fun c_25 => ?_) (fun c_25 => ?_)
            · have hf := (if_neg c_25).symm.trans hf
              refine lv_aload_n hx hb dX7_goOnWith_63 rfl (lv_at hl 0 rfl) ?_
              refine lv_iconst (v := (-1)) hx hb dX7_goOnWith_64 (by decide) ?_
              refine r_put hx hb hts i_X2 tyX2 tyX2_ok nmX2 hown hT hP hD hC hN hS (mtP ho_6) (fs := (fsP g o_6)) (obP ho_6) rfl 9 (by decide) q136 (fun _ h9 => h9) rfl (ty := .int) (x := (-1)) rfl rfl rfl (fun _ => rfl) (Nat.le_of_ble_eq_true rfl) dX7_goOnWith_65 (fun H locs hP hS => ?_)
              obtain ⟨μ_26, eμ_26⟩ : ∃ z, put μ o_6 9 (-1) = z := ⟨_, rfl⟩
              rw [eμ_26] at hP
              have hf := bnd_eq hf _ eμ_26
              refine lv_aload_n hx hb dX7_goOnWith_68 rfl (lv_at hl 2 rfl) ?_
              refine lv_dup hx hb dX7_goOnWith_69 rfl ?_
              refine r_get hx hb hts i_X5 hown hT hP (inS hx1) (fs := fsS) (obS hx1) rfl 2 (by decide) q998 (fun _ h9 => h9) rfl dX7_goOnWith_70 ?_
              refine lv_aload_n hx hb dX7_goOnWith_73 rfl (lv_at hl 0 rfl) ?_
              refine r_get hx hb hts i_X2 hown hT hP (inP ho_6) (fs := (fsP g o_6)) (obP ho_6) rfl 12 (by decide) q142 (fun _ h9 => h9) rfl dX7_goOnWith_74 ?_
              refine lv_iadd hx hb dX7_goOnWith_77 ?_
              refine r_put hx hb hts i_X5 tyX5 tyX5_ok nmX5 hown hT hP hD hC hN hS (mtS hx1) (fs := fsS) (obS hx1) rfl 2 (by decide) q998 (fun _ h9 => h9) rfl (ty := .int) (x := (μ_26 x1 2) + (μ_26 o_6 12)) rfl rfl rfl (fun _ => rfl) (Nat.le_of_ble_eq_true rfl) dX7_goOnWith_78 (fun H locs hP hS => ?_)
              obtain ⟨μ_27, eμ_27⟩ : ∃ z, put μ_26 x1 2 ((μ_26 x1 2) + (μ_26 o_6 12)) = z := ⟨_, rfl⟩
              rw [eμ_27] at hP
              have hf := bnd_eq hf _ eμ_27
              refine lv_aload_n hx hb dX7_goOnWith_81 rfl (lv_at hl 1 rfl) ?_
              refine lv_aload_n hx hb dX7_goOnWith_82 rfl (lv_at hl 0 rfl) ?_
              refine lv_iconst (v := 0) hx hb dX7_goOnWith_83 (by decide) ?_
              refine lv_iconst (v := 0) hx hb dX7_goOnWith_84 (by decide) ?_
              obtain ⟨μ_30, hc_29, hf⟩ := bnO_some hf
              refine va_callv (va_runV (As := [.ref (g.ad o_6), .int 0, .int 0]) (rest := []) ⟨hx, hb, hml, hown, hts⟩ (c_X7_schedule l hg μ_27 H.size o_6 0 0 ho_6 hc_29) (cwV 3 hts (gd_V q381 q382 q383 q41 q384) rfl rfl rfl hd_X7_schedule ⟨Nat.le_of_ble_eq_true rfl, Nat.le_of_ble_eq_true rfl⟩) ⟨Pz.blind, r_recv hT hP inW (fs := (fsW g)) (obW g) rfl, fun U hU hW => ⟨rfl, Tb.warm hW hT, by rw [hU], by rw [hU]; exact hP⟩⟩ rfl rfl hl.1 rfl (lv_room (Nat.le_of_ble_eq_true rfl)) dX7_goOnWith_85 ⟨Nat.le_of_ble_eq_true rfl, Nat.le_of_ble_eq_true rfl⟩) hS (fun q _ h => Ag.sub rfl hS q h) (fun q h => Ag.sub rfl hS q h) (fun u9 t9 H locs ht9 hvm9 hw9 hB9 hz9 hk9 hS => ?_)
              have hP : Rg g μ_30 H := by rw [← ht9]; exact hB9
              refine lv_iinc (v := x2 + 1) (lv' := [(2, .int (x2 + 1)), (3, .ref (g.ad o_6)), (0, .ref (g.ad 0)), (1, .ref (g.ad x1))]) hx hb dX7_goOnWith_88 hl (k := 3) rfl rfl (by decide) rfl (fun ls hl => ?_)
              refine lv_goto (tgt := 2) hx hb dX7_goOnWith_91 (by decide) ?_
              exact ih μ_30 x1 (x2 + 1) _ _ _ hP hS (lv_sub hl [2, 3, 0] rfl) hx1 hf
            · have hf := (if_pos c_25).symm.trans hf
              exact W.vret hx hb hr (fun t9 ht hW => ⟨⟨(), rfl, trivial, by show Rg g r t9.heap; rw [ht, ← Option.some.inj hf]; exact hP⟩, hS.F ht⟩) hS.2.2 dX7_goOnWith_62
          · have hf := (if_pos c_22).symm.trans hf
            refine lv_aload_n hx hb dX7_goOnWith_37 rfl (lv_at hl 1 rfl) ?_
            refine lv_aload_n hx hb dX7_goOnWith_38 rfl (lv_at hl 2 rfl) ?_
            refine lv_iconst (v := 0) hx hb dX7_goOnWith_39 (by decide) ?_
            obtain ⟨r_31, hc_32, hf⟩ := bnO_some hf
            refine va_calli (va_runV (As := [.int 0]) (rest := [.ref (g.ad 0)]) ⟨hx, hb, hml, hown, hts⟩ (c_X5_row l hg μ x1 0 hx1 hc_32) (cwV 1 hts (gd_V q507 q508 q509 q53 q510) rfl rfl rfl hd_X5_row ⟨Nat.le_of_ble_eq_true rfl, Nat.le_of_ble_eq_true rfl⟩) ⟨Pz.blind, r_recv hT hP (inS hx1) (fs := fsS) (obS hx1) rfl, fun U hU hW => ⟨rfl, Tb.warm hW hT, by rw [hU]; exact hP⟩⟩ rfl rfl hl.1 rfl (lv_room (Nat.le_of_ble_eq_true rfl)) dX7_goOnWith_40 ⟨Nat.le_of_ble_eq_true rfl, Nat.le_of_ble_eq_true rfl⟩) hS (fun q _ h => h.elim) (fun q h => h.elim) (fun v9 u9 t9 H locs ht9 hvm9 hw9 hB9 hz9 hk9 hS => ?_)
            have hP := Rg.keep hP (fun q h => hk9 q h id)
            rw [hw9]
            obtain ⟨r_33, hc_34, hf⟩ := bnO_some hf
            refine va_callq (va_runV (As := [.int r_31]) (rest := []) ⟨hx, hb, hml, hown, hts⟩ (c_X7_firstIn l hg μ r_31  hc_34) (cwV 1 hts (gd_V q446 q448 q7 q41 q449) rfl rfl rfl hd_X7_firstIn ⟨Nat.le_of_ble_eq_true rfl, Nat.le_of_ble_eq_true rfl⟩) ⟨Pz.blind, r_recv hT hP inW (fs := (fsW g)) (obW g) rfl, fun U hU hW => ⟨rfl, Tb.warm hW hT, by rw [hU]; exact hP⟩⟩ rfl rfl hl.1 rfl (lv_room (Nat.le_of_ble_eq_true rfl)) dX7_goOnWith_43 ⟨Nat.le_of_ble_eq_true rfl, Nat.le_of_ble_eq_true rfl⟩) hS (fun q _ h => h.elim) (fun q h => h.elim) (fun v9 u9 t9 H locs ht9 hvm9 hw9 hB9 hz9 hk9 hS => ?_)
            have hP := Rg.keep hP (fun q h => hk9 q h id)
            rw [hw9]
            cases r_33 with
            | none =>
              dsimp only [csQ] at hf
              refine W.eq (g2 := F0 m 46 ls [.null]) rfl ?_
              refine lv_astore_nN (lv' := [(3, .null), (0, .ref (g.ad 0)), (1, .ref (g.ad x1)), (2, .int x2)]) hx hb dX7_goOnWith_46 rfl hl (by decide) rfl (fun ls hl => ?_)
              refine lv_aload_nN hx hb dX7_goOnWith_47 rfl (lv_at hl 0 rfl) ?_
              refine lv_ifnullN (tgt := 62) hx hb dX7_goOnWith_48 (by decide) ?_
              exact W.vret hx hb hr (fun t9 ht hW => ⟨⟨(), rfl, trivial, by show Rg g r t9.heap; rw [ht, ← Option.some.inj hf]; exact hP⟩, hS.F ht⟩) hS.2.2 dX7_goOnWith_62
            | some o_35 =>
              dsimp only [csQ] at hf
              obtain ⟨ho_35, hf⟩ := grd_some hf
              refine W.eq (g2 := F0 m 46 ls [.ref (g.ad o_35)]) rfl ?_
              refine lv_astore_n (lv' := [(3, .ref (g.ad o_35)), (0, .ref (g.ad 0)), (1, .ref (g.ad x1)), (2, .int x2)]) hx hb dX7_goOnWith_46 rfl hl (by decide) rfl (fun ls hl => ?_)
              refine lv_aload_n hx hb dX7_goOnWith_47 rfl (lv_at hl 0 rfl) ?_
              refine lv_ifnull hx hb dX7_goOnWith_48 ?_
              refine lv_aload_n hx hb dX7_goOnWith_51 rfl (lv_at hl 2 rfl) ?_
              refine lv_aload_n hx hb dX7_goOnWith_52 rfl (lv_at hl 0 rfl) ?_
              refine r_get hx hb hts i_X2 hown hT hP (inP ho_35) (fs := (fsP g o_35)) (obP ho_35) rfl 12 (by decide) q142 (fun _ h9 => h9) rfl dX7_goOnWith_53 ?_
              obtain ⟨r_36, hc_37, hf⟩ := bnO_some hf
              refine va_calli (va_runV (As := [.int (μ o_35 12)]) (rest := []) ⟨hx, hb, hml, hown, hts⟩ (c_X5_allows l hg μ x1 (μ o_35 12) hx1 hc_37) (cwV 1 hts (gd_V q511 q512 q513 q53 q514) rfl rfl rfl hd_X5_allows ⟨Nat.le_of_ble_eq_true rfl, Nat.le_of_ble_eq_true rfl⟩) ⟨Pz.blind, r_recv hT hP (inS hx1) (fs := fsS) (obS hx1) rfl, fun U hU hW => ⟨rfl, Tb.warm hW hT, by rw [hU]; exact hP⟩⟩ rfl rfl hl.1 rfl (lv_room (Nat.le_of_ble_eq_true rfl)) dX7_goOnWith_56 ⟨Nat.le_of_ble_eq_true rfl, Nat.le_of_ble_eq_true rfl⟩) hS (fun q _ h => h.elim) (fun q h => h.elim) (fun v9 u9 t9 H locs ht9 hvm9 hw9 hB9 hz9 hk9 hS => ?_)
              have hP := Rg.keep hP (fun q h => hk9 q h id)
              rw [hw9]
              refine lv_if_ne (tgt := 63) hx hb dX7_goOnWith_59 (by decide) (fun c_38 => ?_) (fun c_38 => ?_)
              · have hf := (if_neg c_38).symm.trans hf
                refine lv_aload_n hx hb dX7_goOnWith_63 rfl (lv_at hl 0 rfl) ?_
                refine lv_iconst (v := (-1)) hx hb dX7_goOnWith_64 (by decide) ?_
                refine r_put hx hb hts i_X2 tyX2 tyX2_ok nmX2 hown hT hP hD hC hN hS (mtP ho_35) (fs := (fsP g o_35)) (obP ho_35) rfl 9 (by decide) q136 (fun _ h9 => h9) rfl (ty := .int) (x := (-1)) rfl rfl rfl (fun _ => rfl) (Nat.le_of_ble_eq_true rfl) dX7_goOnWith_65 (fun H locs hP hS => ?_)
                obtain ⟨μ_39, eμ_39⟩ : ∃ z, put μ o_35 9 (-1) = z := ⟨_, rfl⟩
                rw [eμ_39] at hP
                have hf := bnd_eq hf _ eμ_39
                refine lv_aload_n hx hb dX7_goOnWith_68 rfl (lv_at hl 2 rfl) ?_
                refine lv_dup hx hb dX7_goOnWith_69 rfl ?_
                refine r_get hx hb hts i_X5 hown hT hP (inS hx1) (fs := fsS) (obS hx1) rfl 2 (by decide) q998 (fun _ h9 => h9) rfl dX7_goOnWith_70 ?_
                refine lv_aload_n hx hb dX7_goOnWith_73 rfl (lv_at hl 0 rfl) ?_
                refine r_get hx hb hts i_X2 hown hT hP (inP ho_35) (fs := (fsP g o_35)) (obP ho_35) rfl 12 (by decide) q142 (fun _ h9 => h9) rfl dX7_goOnWith_74 ?_
                refine lv_iadd hx hb dX7_goOnWith_77 ?_
                refine r_put hx hb hts i_X5 tyX5 tyX5_ok nmX5 hown hT hP hD hC hN hS (mtS hx1) (fs := fsS) (obS hx1) rfl 2 (by decide) q998 (fun _ h9 => h9) rfl (ty := .int) (x := (μ_39 x1 2) + (μ_39 o_35 12)) rfl rfl rfl (fun _ => rfl) (Nat.le_of_ble_eq_true rfl) dX7_goOnWith_78 (fun H locs hP hS => ?_)
                obtain ⟨μ_40, eμ_40⟩ : ∃ z, put μ_39 x1 2 ((μ_39 x1 2) + (μ_39 o_35 12)) = z := ⟨_, rfl⟩
                rw [eμ_40] at hP
                have hf := bnd_eq hf _ eμ_40
                refine lv_aload_n hx hb dX7_goOnWith_81 rfl (lv_at hl 1 rfl) ?_
                refine lv_aload_n hx hb dX7_goOnWith_82 rfl (lv_at hl 0 rfl) ?_
                refine lv_iconst (v := 0) hx hb dX7_goOnWith_83 (by decide) ?_
                refine lv_iconst (v := 0) hx hb dX7_goOnWith_84 (by decide) ?_
                obtain ⟨μ_43, hc_42, hf⟩ := bnO_some hf
                refine va_callv (va_runV (As := [.ref (g.ad o_35), .int 0, .int 0]) (rest := []) ⟨hx, hb, hml, hown, hts⟩ (c_X7_schedule l hg μ_40 H.size o_35 0 0 ho_35 hc_42) (cwV 3 hts (gd_V q381 q382 q383 q41 q384) rfl rfl rfl hd_X7_schedule ⟨Nat.le_of_ble_eq_true rfl, Nat.le_of_ble_eq_true rfl⟩) ⟨Pz.blind, r_recv hT hP inW (fs := (fsW g)) (obW g) rfl, fun U hU hW => ⟨rfl, Tb.warm hW hT, by rw [hU], by rw [hU]; exact hP⟩⟩ rfl rfl hl.1 rfl (lv_room (Nat.le_of_ble_eq_true rfl)) dX7_goOnWith_85 ⟨Nat.le_of_ble_eq_true rfl, Nat.le_of_ble_eq_true rfl⟩) hS (fun q _ h => Ag.sub rfl hS q h) (fun q h => Ag.sub rfl hS q h) (fun u9 t9 H locs ht9 hvm9 hw9 hB9 hz9 hk9 hS => ?_)
                have hP : Rg g μ_43 H := by rw [← ht9]; exact hB9
                refine lv_iinc (v := x2 + 1) (lv' := [(2, .int (x2 + 1)), (3, .ref (g.ad o_35)), (0, .ref (g.ad 0)), (1, .ref (g.ad x1))]) hx hb dX7_goOnWith_88 hl (k := 3) rfl rfl (by decide) rfl (fun ls hl => ?_)
                refine lv_goto (tgt := 2) hx hb dX7_goOnWith_91 (by decide) ?_
                exact ih μ_43 x1 (x2 + 1) _ _ _ hP hS (lv_sub hl [2, 3, 0] rfl) hx1 hf
              · have hf := (if_pos c_38).symm.trans hf
                exact W.vret hx hb hr (fun t9 ht hW => ⟨⟨(), rfl, trivial, by show Rg g r t9.heap; rw [ht, ← Option.some.inj hf]; exact hP⟩, hS.F ht⟩) hS.2.2 dX7_goOnWith_62
  have hl := lv_entry ([.ref (g.ad 0), .ref (g.ad st)]) (n := 4) (Nat.le_of_ble_eq_true rfl)
  rw [lg_entry_eq]
  generalize (lg_sl ([.ref (g.ad 0), .ref (g.ad st)]) ++ List.replicate (4 - (lg_sl ([.ref (g.ad 0), .ref (g.ad st)])).length) Slot.unset).toArray = ls at hl ⊢
  have hl : lv_has ls 4 [(0, .ref (g.ad 0)), (1, .ref (g.ad st))] := hl
  unfold f_X7_goOnWithS at hf
  refine lv_iconst (v := 0) hx hb dX7_goOnWith_0 (by decide) ?_
  refine lv_istore_n (lv' := [(2, .int 0), (0, .ref (g.ad 0)), (1, .ref (g.ad st))]) hx hb dX7_goOnWith_1 rfl hl (by decide) rfl (fun ls hl => ?_)
  exact L2 fu μ st 0 _ _ _ hP hS (lv_sub hl [1, 2, 0] rfl) hst hf
/-- "Sandglass$World" "goOnWith" "(LSandglass$Store;)V" -/
def b_X7_goOnWithN_2 (g : Fg) : Nat → Mem → Int32 → Option (Mem)
  | 0, _, _ => none
  | n + 1, μ, x2 => some μ
def f_X7_goOnWithN (g : Fg) (μ : Mem) : Option (Mem) := b_X7_goOnWithN_2 g fu μ 0
theorem hd_X7_goOnWithN : yX7_goOnWith.cls = RX7 ∧ yX7_goOnWith.cls ≠ "java/lang/invoke/MethodHandle" ∧ yX7_goOnWith.cls ≠ "java/lang/invoke/VarHandle" ∧ (parseMethodDescriptor yX7_goOnWith.desc).map (fun d => d.parameters.length) = some 1 := by decide +kernel
set_option maxHeartbeats 4000000 in
set_option maxRecDepth 100000 in
theorem c_X7_goOnWithN (l : Launch) {g : Geo} (hg : Good g) (μ : Mem) (sz : Nat) {r : Mem} (hf : f_X7_goOnWithN g.F μ  = some r) : Met l yX7_goOnWith (ws_ yX7_goOnWith cX7_goOnWith 4 (Option.none : Option Jvm.ClassFile.FieldType)) (rm_ 0 0 0 0) (Pz g [.ref (g.ad 0), .null] (fun H9 => H9.size = sz ∧ Rg g μ H9)) (va_Qv (fun _ : Unit => True) (fun _ t => Rg g r t.heap) (Ag g sz)) 0 0 (Ag g sz) := by
  refine Met.ofW (cc := cX7_goOnWith) (maxL := 4) (ret := (Option.none : Option Jvm.ClassFile.FieldType)) (by decide) rfl ?_
  intro p e s m args below meth c s₁ B hml hv
  obtain ⟨rfl, hT, hsz, hP⟩ := hv
  have hx := B.exec
  have hb := B.bytes
  have hr := B.returns
  have hts : ∀ w ∈ lw_all, w.before _ s = true := fun w h => atoms_spec (ws := (ws_ yX7_goOnWith cX7_goOnWith 4 (Option.none : Option Jvm.ClassFile.FieldType))) B.pre w (List.mem_cons_of_mem _ h)
  have hown : s.vm.findClass RX7 = some m.cls := findClass_of_methodNamed B.named
  have hlocks := B.notSynchronized
  subst hsz
  have hD := fun ν => Ag.apart hg s.heap.size ν
  have hC := hP.sh
  have hN := Ag.shr hg hP
  have hS : va_S (Ag g s.heap.size) s.heap s.heap [] := va_S.rf
  have L2 : ∀ (n : Nat) (μ : Mem) (x2 : Int32) (H : Heap) (locs : List Loc) (ls : Array Slot), Rg g μ H → va_S (Ag g s.heap.size) s.heap H locs → lv_has ls 4 [(0, .ref (g.ad 0)), (1, .null), (2, .int x2)] → b_X7_goOnWithN_2 g.F n μ x2 = some r → W p l e (headSpec (ws_ yX7_goOnWith cX7_goOnWith 4 (Option.none : Option Jvm.ClassFile.FieldType)) (rm_ 0 0 0 0)).room s m ([.ref (g.ad 0), .null] : List Value).toArray below meth c H locs 0 0 (MQ below (va_Qv (fun _ : Unit => True) (fun _ t => Rg g r t.heap) (Ag g s.heap.size)) ([.ref (g.ad 0), .null] : List Value).toArray s 0 0 (Ag g s.heap.size)) (F0 m 2 ls []) := by
    intro n
    induction n with
    | zero => intro μ x2 H locs ls hP hS hl  hf; cases hf
    | succ n ih =>
      intro μ x2 H locs ls hP hS hl  hf
      rw [b_X7_goOnWithN_2] at hf
      refine lv_aload_nN hx hb dX7_goOnWith_2 rfl (lv_at hl 1 rfl) ?_
      refine lv_ifnullN (tgt := 94) hx hb dX7_goOnWith_3 (by decide) ?_
      exact W.vret hx hb hr (fun t9 ht hW => ⟨⟨(), rfl, trivial, by show Rg g r t9.heap; rw [ht, ← Option.some.inj hf]; exact hP⟩, hS.F ht⟩) hS.2.2 dX7_goOnWith_94
  have hl := lv_entry ([.ref (g.ad 0), .null]) (n := 4) (Nat.le_of_ble_eq_true rfl)
  rw [lg_entry_eq]
  generalize (lg_sl ([.ref (g.ad 0), .null]) ++ List.replicate (4 - (lg_sl ([.ref (g.ad 0), .null])).length) Slot.unset).toArray = ls at hl ⊢
  have hl : lv_has ls 4 [(0, .ref (g.ad 0)), (1, .null)] := hl
  unfold f_X7_goOnWithN at hf
  refine lv_iconst (v := 0) hx hb dX7_goOnWith_0 (by decide) ?_
  refine lv_istore_n (lv' := [(2, .int 0), (0, .ref (g.ad 0)), (1, .null)]) hx hb dX7_goOnWith_1 rfl hl (by decide) rfl (fun ls hl => ?_)
  exact L2 fu μ 0 _ _ _ hP hS (lv_sub hl [1, 2, 0] rfl)  hf
/-- "Sandglass$World" "exchange" "(LSandglass$Proc;LSandglass$Store;IZ)V" -/
def b_X7_exchangeS_78 (g : Fg) (μ : Mem) (x1 : Nat) (x5 : Int32) (x6 : Int32) : Option (Mem) := bnO (f_X7_enter g μ x1 x6 3) fun μ_30 => bnd (put μ_30 x1 12 x5) fun μ_31 => some μ_31
def f_X7_exchangeS (g : Fg) (μ : Mem) (q : Nat) (st : Nat) (am : Int32) (ig : Int32) : Option (Mem) := if am ≤ (μ st 1) then (if ig = 0 then (bnO (f_X5_row g μ st ig) fun r_3 => bnO (f_X7_firstIn g μ r_3) fun r_5 => csQ r_5 (bnO (f_X5_allows g μ st am) fun r_8 => if r_8 = 0 then (b_X7_exchangeS_78 g μ q am r_3) else (bnd (put μ st 2 ((μ st 2) + am)) fun μ_11 => bnO (f_X7_goOnWithS g μ_11 st) fun μ_14 => some μ_14)) (fun o_7 => grd (1 ≤ o_7 ∧ o_7 < 25) (b_X7_exchangeS_78 g μ q am r_3))) else (bnO (f_X5_row g μ st ig) fun r_15 => bnO (f_X7_firstIn g μ r_15) fun r_17 => csQ r_17 (bnO (f_X5_allows g μ st (-am)) fun r_20 => if r_20 = 0 then (b_X7_exchangeS_78 g μ q (-am) r_15) else (bnd (put μ st 2 ((μ st 2) + (-am))) fun μ_23 => bnO (f_X7_goOnWithS g μ_23 st) fun μ_26 => some μ_26)) (fun o_19 => grd (1 ≤ o_19 ∧ o_19 < 25) (b_X7_exchangeS_78 g μ q (-am) r_15)))) else (bnd (put μ q 6 6) fun μ_27 => some μ_27)
theorem hd_X7_exchangeS : yX7_exchange.cls = RX7 ∧ yX7_exchange.cls ≠ "java/lang/invoke/MethodHandle" ∧ yX7_exchange.cls ≠ "java/lang/invoke/VarHandle" ∧ (parseMethodDescriptor yX7_exchange.desc).map (fun d => d.parameters.length) = some 4 := by decide +kernel
set_option maxHeartbeats 4000000 in
set_option maxRecDepth 100000 in
theorem c_X7_exchangeS (l : Launch) {g : Geo} (hg : Good g) (μ : Mem) (sz : Nat) (q : Nat) (st : Nat) (am : Int32) (ig : Int32) (hq : isP q) (hst : isS g st) {r : Mem} (hf : f_X7_exchangeS g.F μ q st am ig = some r) : Met l yX7_exchange (ws_ yX7_exchange cX7_exchange 7 (Option.none : Option Jvm.ClassFile.FieldType)) (rm_ 3 70 0 0) (Pz g [.ref (g.ad 0), .ref (g.ad q), .ref (g.ad st), .int am, .int ig] (fun H9 => H9.size = sz ∧ Rg g μ H9)) (va_Qv (fun _ : Unit => True) (fun _ t => Rg g r t.heap) (Ag g sz)) 0 0 (Ag g sz) := by
  refine Met.ofW (cc := cX7_exchange) (maxL := 7) (ret := (Option.none : Option Jvm.ClassFile.FieldType)) (by decide) rfl ?_
  intro p e s m args below meth c s₁ B hml hv
  obtain ⟨rfl, hT, hsz, hP⟩ := hv
  have hx := B.exec
  have hb := B.bytes
  have hr := B.returns
  have hts : ∀ w ∈ lw_all, w.before _ s = true := fun w h => atoms_spec (ws := (ws_ yX7_exchange cX7_exchange 7 (Option.none : Option Jvm.ClassFile.FieldType))) B.pre w (List.mem_cons_of_mem _ h)
  have hown : s.vm.findClass RX7 = some m.cls := findClass_of_methodNamed B.named
  have hlocks := B.notSynchronized
  subst hsz
  have hD := fun ν => Ag.apart hg s.heap.size ν
  have hC := hP.sh
  have hN := Ag.shr hg hP
  have hS : va_S (Ag g s.heap.size) s.heap s.heap [] := va_S.rf
  have L78 : ∀ (μ : Mem) (x1 : Nat) (x5 : Int32) (x6 : Int32) (H : Heap) (locs : List Loc) (ls : Array Slot), Rg g μ H → va_S (Ag g s.heap.size) s.heap H locs → lv_has ls 7 [(0, .ref (g.ad 0)), (1, .ref (g.ad x1)), (5, .int x5), (6, .int x6)] → isP x1 → b_X7_exchangeS_78 g.F μ x1 x5 x6 = some r → W p l e (headSpec (ws_ yX7_exchange cX7_exchange 7 (Option.none : Option Jvm.ClassFile.FieldType)) (rm_ 3 70 0 0)).room s m ([.ref (g.ad 0), .ref (g.ad q), .ref (g.ad st), .int am, .int ig] : List Value).toArray below meth c H locs 0 0 (MQ below (va_Qv (fun _ : Unit => True) (fun _ t => Rg g r t.heap) (Ag g s.heap.size)) ([.ref (g.ad 0), .ref (g.ad q), .ref (g.ad st), .int am, .int ig] : List Value).toArray s 0 0 (Ag g s.heap.size)) (F0 m 78 ls []) := by
    intro μ x1 x5 x6 H locs ls hP hS hl hx1 hf
    unfold b_X7_exchangeS_78 at hf
    refine lv_aload_n hx hb dX7_exchange_78 rfl (lv_at hl 0 rfl) ?_
    refine lv_aload_n hx hb dX7_exchange_79 rfl (lv_at hl 1 rfl) ?_
    refine lv_iload hx hb dX7_exchange_80 (lv_at hl 3 rfl) ?_
    refine lv_iconst (v := 3) hx hb dX7_exchange_82 (by decide) ?_
    obtain ⟨μ_30, hc_29, hf⟩ := bnO_some hf
    refine va_callv (va_runV (As := [.ref (g.ad x1), .int x6, .int 3]) (rest := []) ⟨hx, hb, hml, hown, hts⟩ (c_X7_enter l hg μ H.size x1 x6 3 hx1 hc_29) (cwV 3 hts (gd_V q442 q444 q6 q41 q445) rfl rfl rfl hd_X7_enter ⟨Nat.le_of_ble_eq_true rfl, Nat.le_of_ble_eq_true rfl⟩) ⟨Pz.blind, r_recv hT hP inW (fs := (fsW g)) (obW g) rfl, fun U hU hW => ⟨rfl, Tb.warm hW hT, by rw [hU], by rw [hU]; exact hP⟩⟩ rfl rfl hl.1 rfl (lv_room (Nat.le_of_ble_eq_true rfl)) dX7_exchange_83 ⟨Nat.le_of_ble_eq_true rfl, Nat.le_of_ble_eq_true rfl⟩) hS (fun q _ h => Ag.sub rfl hS q h) (fun q h => Ag.sub rfl hS q h) (fun u9 t9 H locs ht9 hvm9 hw9 hB9 hz9 hk9 hS => ?_)
    have hP : Rg g μ_30 H := by rw [← ht9]; exact hB9
    refine lv_aload_n hx hb dX7_exchange_86 rfl (lv_at hl 1 rfl) ?_
    refine lv_iload hx hb dX7_exchange_87 (lv_at hl 2 rfl) ?_
    refine r_put hx hb hts i_X2 tyX2 tyX2_ok nmX2 hown hT hP hD hC hN hS (mtP hx1) (fs := (fsP g x1)) (obP hx1) rfl 12 (by decide) q142 (fun _ h9 => h9) rfl (ty := .int) (x := x5) rfl rfl rfl (fun _ => rfl) (Nat.le_of_ble_eq_true rfl) dX7_exchange_89 (fun H locs hP hS => ?_)
    obtain ⟨μ_31, eμ_31⟩ : ∃ z, put μ_30 x1 12 x5 = z := ⟨_, rfl⟩
    rw [eμ_31] at hP
    have hf := bnd_eq hf _ eμ_31
    exact W.vret hx hb hr (fun t9 ht hW => ⟨⟨(), rfl, trivial, by show Rg g r t9.heap; rw [ht, ← Option.some.inj hf]; exact hP⟩, hS.F ht⟩) hS.2.2 dX7_exchange_92
  have hl := lv_entry ([.ref (g.ad 0), .ref (g.ad q), .ref (g.ad st), .int am, .int ig]) (n := 7) (Nat.le_of_ble_eq_true rfl)
  rw [lg_entry_eq]
  generalize (lg_sl ([.ref (g.ad 0), .ref (g.ad q), .ref (g.ad st), .int am, .int ig]) ++ List.replicate (7 - (lg_sl ([.ref (g.ad 0), .ref (g.ad q), .ref (g.ad st), .int am, .int ig])).length) Slot.unset).toArray = ls at hl ⊢
  have hl : lv_has ls 7 [(0, .ref (g.ad 0)), (1, .ref (g.ad q)), (2, .ref (g.ad st)), (3, .int am), (4, .int ig)] := hl
  unfold f_X7_exchangeS at hf
  refine lv_aload_n hx hb dX7_exchange_0 rfl (lv_at hl 2 rfl) ?_
  refine lv_ifnonnull (tgt := 5) hx hb dX7_exchange_1 (by decide) ?_
  refine lv_iload_n hx hb dX7_exchange_5 rfl (lv_at hl 3 rfl) ?_
  refine lv_aload_n hx hb dX7_exchange_6 rfl (lv_at hl 2 rfl) ?_
  refine r_get hx hb hts i_X5 hown hT hP (inS hst) (fs := fsS) (obS hst) rfl 1 (by decide) q996 (fun _ h9 => h9) rfl dX7_exchange_7 ?_
  refine lv_icmp_le (tgt := 20) hx hb dX7_exchange_10 (by decide) (fun c_1 => ?_) (fun c_1 => ?_)
  · have hf := (if_pos c_1).symm.trans hf
    refine lv_iload hx hb dX7_exchange_20 (lv_at hl 4 rfl) ?_
    refine lv_if_eq (tgt := 30) hx hb dX7_exchange_22 (by decide) (fun c_2 => ?_) (fun c_2 => ?_)
    · have hf := (if_pos c_2).symm.trans hf
      refine lv_iload_n hx hb dX7_exchange_30 rfl (lv_at hl 3 rfl) ?_
      refine lv_istore (lv' := [(5, .int am), (0, .ref (g.ad 0)), (1, .ref (g.ad q)), (2, .ref (g.ad st)), (3, .int am), (4, .int ig)]) hx hb dX7_exchange_31 hl (by decide) rfl (fun ls hl => ?_)
      refine lv_aload_n hx hb dX7_exchange_33 rfl (lv_at hl 3 rfl) ?_
      refine lv_iload hx hb dX7_exchange_34 (lv_at hl 5 rfl) ?_
      obtain ⟨r_3, hc_4, hf⟩ := bnO_some hf
      refine va_calli (va_runV (As := [.int ig]) (rest := []) ⟨hx, hb, hml, hown, hts⟩ (c_X5_row l hg μ st ig hst hc_4) (cwV 1 hts (gd_V q507 q508 q509 q53 q510) rfl rfl rfl hd_X5_row ⟨Nat.le_of_ble_eq_true rfl, Nat.le_of_ble_eq_true rfl⟩) ⟨Pz.blind, r_recv hT hP (inS hst) (fs := fsS) (obS hst) rfl, fun U hU hW => ⟨rfl, Tb.warm hW hT, by rw [hU]; exact hP⟩⟩ rfl rfl hl.1 rfl (lv_room (Nat.le_of_ble_eq_true rfl)) dX7_exchange_36 ⟨Nat.le_of_ble_eq_true rfl, Nat.le_of_ble_eq_true rfl⟩) hS (fun q _ h => h.elim) (fun q h => h.elim) (fun v9 u9 t9 H locs ht9 hvm9 hw9 hB9 hz9 hk9 hS => ?_)
      have hP := Rg.keep hP (fun q h => hk9 q h id)
      rw [hw9]
      refine lv_istore (lv' := [(6, .int r_3), (5, .int am), (0, .ref (g.ad 0)), (1, .ref (g.ad q)), (2, .ref (g.ad st)), (3, .int am), (4, .int ig)]) hx hb dX7_exchange_39 hl (by decide) rfl (fun ls hl => ?_)
      refine lv_aload_n hx hb dX7_exchange_41 rfl (lv_at hl 2 rfl) ?_
      refine lv_iload hx hb dX7_exchange_42 (lv_at hl 0 rfl) ?_
      obtain ⟨r_5, hc_6, hf⟩ := bnO_some hf
      refine va_callq (va_runV (As := [.int r_3]) (rest := []) ⟨hx, hb, hml, hown, hts⟩ (c_X7_firstIn l hg μ r_3  hc_6) (cwV 1 hts (gd_V q446 q448 q7 q41 q449) rfl rfl rfl hd_X7_firstIn ⟨Nat.le_of_ble_eq_true rfl, Nat.le_of_ble_eq_true rfl⟩) ⟨Pz.blind, r_recv hT hP inW (fs := (fsW g)) (obW g) rfl, fun U hU hW => ⟨rfl, Tb.warm hW hT, by rw [hU]; exact hP⟩⟩ rfl rfl hl.1 rfl (lv_room (Nat.le_of_ble_eq_true rfl)) dX7_exchange_44 ⟨Nat.le_of_ble_eq_true rfl, Nat.le_of_ble_eq_true rfl⟩) hS (fun q _ h => h.elim) (fun q h => h.elim) (fun v9 u9 t9 H locs ht9 hvm9 hw9 hB9 hz9 hk9 hS => ?_)
      have hP := Rg.keep hP (fun q h => hk9 q h id)
      rw [hw9]
      cases r_5 with
      | none =>
        dsimp only [csQ] at hf
        refine W.eq (g2 := F0 m 47 ls [.null]) rfl ?_
        refine lv_ifnonnullN hx hb dX7_exchange_47 ?_
        refine lv_aload_n hx hb dX7_exchange_50 rfl (lv_at hl 4 rfl) ?_
        refine lv_iload hx hb dX7_exchange_51 (lv_at hl 1 rfl) ?_
        obtain ⟨r_8, hc_9, hf⟩ := bnO_some hf
        refine va_calli (va_runV (As := [.int am]) (rest := []) ⟨hx, hb, hml, hown, hts⟩ (c_X5_allows l hg μ st am hst hc_9) (cwV 1 hts (gd_V q511 q512 q513 q53 q514) rfl rfl rfl hd_X5_allows ⟨Nat.le_of_ble_eq_true rfl, Nat.le_of_ble_eq_true rfl⟩) ⟨Pz.blind, r_recv hT hP (inS hst) (fs := fsS) (obS hst) rfl, fun U hU hW => ⟨rfl, Tb.warm hW hT, by rw [hU]; exact hP⟩⟩ rfl rfl hl.1 rfl (lv_room (Nat.le_of_ble_eq_true rfl)) dX7_exchange_53 ⟨Nat.le_of_ble_eq_true rfl, Nat.le_of_ble_eq_true rfl⟩) hS (fun q _ h => h.elim) (fun q h => h.elim) (fun v9 u9 t9 H locs ht9 hvm9 hw9 hB9 hz9 hk9 hS => ?_)
        have hP := Rg.keep hP (fun q h => hk9 q h id)
        rw [hw9]
        refine lv_if_eq (tgt := 78) hx hb dX7_exchange_56 (by decide) (fun c_10 => ?_) (fun c_10 => ?_)
        · have hf := (if_pos c_10).symm.trans hf
          exact L78 μ q am r_3 _ _ _ hP hS (lv_sub hl [2, 3, 1, 0] rfl) hq hf
        · have hf := (if_neg c_10).symm.trans hf
          refine lv_aload_n hx hb dX7_exchange_59 rfl (lv_at hl 4 rfl) ?_
          refine lv_dup hx hb dX7_exchange_60 rfl ?_
          refine r_get hx hb hts i_X5 hown hT hP (inS hst) (fs := fsS) (obS hst) rfl 2 (by decide) q998 (fun _ h9 => h9) rfl dX7_exchange_61 ?_
          refine lv_iload hx hb dX7_exchange_64 (lv_at hl 1 rfl) ?_
          refine lv_iadd hx hb dX7_exchange_66 ?_
          refine r_put hx hb hts i_X5 tyX5 tyX5_ok nmX5 hown hT hP hD hC hN hS (mtS hst) (fs := fsS) (obS hst) rfl 2 (by decide) q998 (fun _ h9 => h9) rfl (ty := .int) (x := (μ st 2) + am) rfl rfl rfl (fun _ => rfl) (Nat.le_of_ble_eq_true rfl) dX7_exchange_67 (fun H locs hP hS => ?_)
          obtain ⟨μ_11, eμ_11⟩ : ∃ z, put μ st 2 ((μ st 2) + am) = z := ⟨_, rfl⟩
          rw [eμ_11] at hP
          have hf := bnd_eq hf _ eμ_11
          refine lv_aload_n hx hb dX7_exchange_70 rfl (lv_at hl 2 rfl) ?_
          refine lv_aload_n hx hb dX7_exchange_71 rfl (lv_at hl 4 rfl) ?_
          obtain ⟨μ_14, hc_13, hf⟩ := bnO_some hf
          refine va_callv (va_runV (As := [.ref (g.ad st)]) (rest := []) ⟨hx, hb, hml, hown, hts⟩ (c_X7_goOnWithS l hg μ_11 H.size st hst hc_13) (cwV 1 hts (gd_V q516 q518 q16 q41 q519) rfl rfl rfl hd_X7_goOnWithS ⟨Nat.le_of_ble_eq_true rfl, Nat.le_of_ble_eq_true rfl⟩) ⟨Pz.blind, r_recv hT hP inW (fs := (fsW g)) (obW g) rfl, fun U hU hW => ⟨rfl, Tb.warm hW hT, by rw [hU], by rw [hU]; exact hP⟩⟩ rfl rfl hl.1 rfl (lv_room (Nat.le_of_ble_eq_true rfl)) dX7_exchange_72 ⟨Nat.le_of_ble_eq_true rfl, Nat.le_of_ble_eq_true rfl⟩) hS (fun q _ h => Ag.sub rfl hS q h) (fun q h => Ag.sub rfl hS q h) (fun u9 t9 H locs ht9 hvm9 hw9 hB9 hz9 hk9 hS => ?_)
          have hP : Rg g μ_14 H := by rw [← ht9]; exact hB9
          refine lv_goto (tgt := 92) hx hb dX7_exchange_75 (by decide) ?_
          exact W.vret hx hb hr (fun t9 ht hW => ⟨⟨(), rfl, trivial, by show Rg g r t9.heap; rw [ht, ← Option.some.inj hf]; exact hP⟩, hS.F ht⟩) hS.2.2 dX7_exchange_92
      | some o_7 =>
        dsimp only [csQ] at hf
        obtain ⟨ho_7, hf⟩ := grd_some hf
        refine W.eq (g2 := F0 m 47 ls [.ref (g.ad o_7)]) rfl ?_
        refine lv_ifnonnull (tgt := 78) hx hb dX7_exchange_47 (by decide) ?_
        exact L78 μ q am r_3 _ _ _ hP hS (lv_sub hl [2, 3, 1, 0] rfl) hq hf
    · have hf := (if_neg c_2).symm.trans hf
      refine lv_iload_n hx hb dX7_exchange_25 rfl (lv_at hl 3 rfl) ?_
      refine lv_ineg hx hb dX7_exchange_26 ?_
      refine lv_goto (tgt := 31) hx hb dX7_exchange_27 (by decide) ?_
      refine lv_istore (lv' := [(5, .int (-am)), (0, .ref (g.ad 0)), (1, .ref (g.ad q)), (2, .ref (g.ad st)), (3, .int am), (4, .int ig)]) hx hb dX7_exchange_31 hl (by decide) rfl (fun ls hl => ?_)
      refine lv_aload_n hx hb dX7_exchange_33 rfl (lv_at hl 3 rfl) ?_
      refine lv_iload hx hb dX7_exchange_34 (lv_at hl 5 rfl) ?_
      obtain ⟨r_15, hc_16, hf⟩ := bnO_some hf
      refine va_calli (va_runV (As := [.int ig]) (rest := []) ⟨hx, hb, hml, hown, hts⟩ (c_X5_row l hg μ st ig hst hc_16) (cwV 1 hts (gd_V q507 q508 q509 q53 q510) rfl rfl rfl hd_X5_row ⟨Nat.le_of_ble_eq_true rfl, Nat.le_of_ble_eq_true rfl⟩) ⟨Pz.blind, r_recv hT hP (inS hst) (fs := fsS) (obS hst) rfl, fun U hU hW => ⟨rfl, Tb.warm hW hT, by rw [hU]; exact hP⟩⟩ rfl rfl hl.1 rfl (lv_room (Nat.le_of_ble_eq_true rfl)) dX7_exchange_36 ⟨Nat.le_of_ble_eq_true rfl, Nat.le_of_ble_eq_true rfl⟩) hS (fun q _ h => h.elim) (fun q h => h.elim) (fun v9 u9 t9 H locs ht9 hvm9 hw9 hB9 hz9 hk9 hS => ?_)
      have hP := Rg.keep hP (fun q h => hk9 q h id)
      rw [hw9]
      refine lv_istore (lv' := [(6, .int r_15), (5, .int (-am)), (0, .ref (g.ad 0)), (1, .ref (g.ad q)), (2, .ref (g.ad st)), (3, .int am), (4, .int ig)]) hx hb dX7_exchange_39 hl (by decide) rfl (fun ls hl => ?_)
      refine lv_aload_n hx hb dX7_exchange_41 rfl (lv_at hl 2 rfl) ?_
      refine lv_iload hx hb dX7_exchange_42 (lv_at hl 0 rfl) ?_
      obtain ⟨r_17, hc_18, hf⟩ := bnO_some hf
      refine va_callq (va_runV (As := [.int r_15]) (rest := []) ⟨hx, hb, hml, hown, hts⟩ (c_X7_firstIn l hg μ r_15  hc_18) (cwV 1 hts (gd_V q446 q448 q7 q41 q449) rfl rfl rfl hd_X7_firstIn ⟨Nat.le_of_ble_eq_true rfl, Nat.le_of_ble_eq_true rfl⟩) ⟨Pz.blind, r_recv hT hP inW (fs := (fsW g)) (obW g) rfl, fun U hU hW => ⟨rfl, Tb.warm hW hT, by rw [hU]; exact hP⟩⟩ rfl rfl hl.1 rfl (lv_room (Nat.le_of_ble_eq_true rfl)) dX7_exchange_44 ⟨Nat.le_of_ble_eq_true rfl, Nat.le_of_ble_eq_true rfl⟩) hS (fun q _ h => h.elim) (fun q h => h.elim) (fun v9 u9 t9 H locs ht9 hvm9 hw9 hB9 hz9 hk9 hS => ?_)
      have hP := Rg.keep hP (fun q h => hk9 q h id)
      rw [hw9]
      cases r_17 with
      | none =>
        dsimp only [csQ] at hf
        refine W.eq (g2 := F0 m 47 ls [.null]) rfl ?_
        refine lv_ifnonnullN hx hb dX7_exchange_47 ?_
        refine lv_aload_n hx hb dX7_exchange_50 rfl (lv_at hl 4 rfl) ?_
        refine lv_iload hx hb dX7_exchange_51 (lv_at hl 1 rfl) ?_
        obtain ⟨r_20, hc_21, hf⟩ := bnO_some hf
        refine va_calli (va_runV (As := [.int (-am)]) (rest := []) ⟨hx, hb, hml, hown, hts⟩ (c_X5_allows l hg μ st (-am) hst hc_21) (cwV 1 hts (gd_V q511 q512 q513 q53 q514) rfl rfl rfl hd_X5_allows ⟨Nat.le_of_ble_eq_true rfl, Nat.le_of_ble_eq_true rfl⟩) ⟨Pz.blind, r_recv hT hP (inS hst) (fs := fsS) (obS hst) rfl, fun U hU hW => ⟨rfl, Tb.warm hW hT, by rw [hU]; exact hP⟩⟩ rfl rfl hl.1 rfl (lv_room (Nat.le_of_ble_eq_true rfl)) dX7_exchange_53 ⟨Nat.le_of_ble_eq_true rfl, Nat.le_of_ble_eq_true rfl⟩) hS (fun q _ h => h.elim) (fun q h => h.elim) (fun v9 u9 t9 H locs ht9 hvm9 hw9 hB9 hz9 hk9 hS => ?_)
        have hP := Rg.keep hP (fun q h => hk9 q h id)
        rw [hw9]
        refine lv_if_eq (tgt := 78) hx hb dX7_exchange_56 (by decide) (fun c_22 => ?_) (fun c_22 => ?_)
        · have hf := (if_pos c_22).symm.trans hf
          exact L78 μ q (-am) r_15 _ _ _ hP hS (lv_sub hl [2, 3, 1, 0] rfl) hq hf
        · have hf := (if_neg c_22).symm.trans hf
          refine lv_aload_n hx hb dX7_exchange_59 rfl (lv_at hl 4 rfl) ?_
          refine lv_dup hx hb dX7_exchange_60 rfl ?_
          refine r_get hx hb hts i_X5 hown hT hP (inS hst) (fs := fsS) (obS hst) rfl 2 (by decide) q998 (fun _ h9 => h9) rfl dX7_exchange_61 ?_
          refine lv_iload hx hb dX7_exchange_64 (lv_at hl 1 rfl) ?_
          refine lv_iadd hx hb dX7_exchange_66 ?_
          refine r_put hx hb hts i_X5 tyX5 tyX5_ok nmX5 hown hT hP hD hC hN hS (mtS hst) (fs := fsS) (obS hst) rfl 2 (by decide) q998 (fun _ h9 => h9) rfl (ty := .int) (x := (μ st 2) + (-am)) rfl rfl rfl (fun _ => rfl) (Nat.le_of_ble_eq_true rfl) dX7_exchange_67 (fun H locs hP hS => ?_)
          obtain ⟨μ_23, eμ_23⟩ : ∃ z, put μ st 2 ((μ st 2) + (-am)) = z := ⟨_, rfl⟩
          rw [eμ_23] at hP
          have hf := bnd_eq hf _ eμ_23
          refine lv_aload_n hx hb dX7_exchange_70 rfl (lv_at hl 2 rfl) ?_
          refine lv_aload_n hx hb dX7_exchange_71 rfl (lv_at hl 4 rfl) ?_
          obtain ⟨μ_26, hc_25, hf⟩ := bnO_some hf
          refine va_callv (va_runV (As := [.ref (g.ad st)]) (rest := []) ⟨hx, hb, hml, hown, hts⟩ (c_X7_goOnWithS l hg μ_23 H.size st hst hc_25) (cwV 1 hts (gd_V q516 q518 q16 q41 q519) rfl rfl rfl hd_X7_goOnWithS ⟨Nat.le_of_ble_eq_true rfl, Nat.le_of_ble_eq_true rfl⟩) ⟨Pz.blind, r_recv hT hP inW (fs := (fsW g)) (obW g) rfl, fun U hU hW => ⟨rfl, Tb.warm hW hT, by rw [hU], by rw [hU]; exact hP⟩⟩ rfl rfl hl.1 rfl (lv_room (Nat.le_of_ble_eq_true rfl)) dX7_exchange_72 ⟨Nat.le_of_ble_eq_true rfl, Nat.le_of_ble_eq_true rfl⟩) hS (fun q _ h => Ag.sub rfl hS q h) (fun q h => Ag.sub rfl hS q h) (fun u9 t9 H locs ht9 hvm9 hw9 hB9 hz9 hk9 hS => ?_)
          have hP : Rg g μ_26 H := by rw [← ht9]; exact hB9
          refine lv_goto (tgt := 92) hx hb dX7_exchange_75 (by decide) ?_
          exact W.vret hx hb hr (fun t9 ht hW => ⟨⟨(), rfl, trivial, by show Rg g r t9.heap; rw [ht, ← Option.some.inj hf]; exact hP⟩, hS.F ht⟩) hS.2.2 dX7_exchange_92
      | some o_19 =>
        dsimp only [csQ] at hf
        obtain ⟨ho_19, hf⟩ := grd_some hf
        refine W.eq (g2 := F0 m 47 ls [.ref (g.ad o_19)]) rfl ?_
        refine lv_ifnonnull (tgt := 78) hx hb dX7_exchange_47 (by decide) ?_
        exact L78 μ q (-am) r_15 _ _ _ hP hS (lv_sub hl [2, 3, 1, 0] rfl) hq hf
  · have hf := (if_neg c_1).symm.trans hf
    refine lv_aload_n hx hb dX7_exchange_13 rfl (lv_at hl 1 rfl) ?_
    refine lv_bipush (v := 6) hx hb dX7_exchange_14 (by decide) ?_
    refine r_put hx hb hts i_X2 tyX2 tyX2_ok nmX2 hown hT hP hD hC hN hS (mtP hq) (fs := (fsP g q)) (obP hq) rfl 6 (by decide) q128 (fun _ h9 => h9) rfl (ty := .int) (x := 6) rfl rfl rfl (fun _ => rfl) (Nat.le_of_ble_eq_true rfl) dX7_exchange_16 (fun H locs hP hS => ?_)
    obtain ⟨μ_27, eμ_27⟩ : ∃ z, put μ q 6 6 = z := ⟨_, rfl⟩
    rw [eμ_27] at hP
    have hf := bnd_eq hf _ eμ_27
    exact W.vret hx hb hr (fun t9 ht hW => ⟨⟨(), rfl, trivial, by show Rg g r t9.heap; rw [ht, ← Option.some.inj hf]; exact hP⟩, hS.F ht⟩) hS.2.2 dX7_exchange_19
/-- "Sandglass$World" "exchange" "(LSandglass$Proc;LSandglass$Store;IZ)V" -/
def f_X7_exchangeN (g : Fg) (μ : Mem) (q : Nat) (am : Int32) (ig : Int32) : Option (Mem) := some μ
theorem hd_X7_exchangeN : yX7_exchange.cls = RX7 ∧ yX7_exchange.cls ≠ "java/lang/invoke/MethodHandle" ∧ yX7_exchange.cls ≠ "java/lang/invoke/VarHandle" ∧ (parseMethodDescriptor yX7_exchange.desc).map (fun d => d.parameters.length) = some 4 := by decide +kernel
set_option maxHeartbeats 4000000 in
set_option maxRecDepth 100000 in
theorem c_X7_exchangeN (l : Launch) {g : Geo} (hg : Good g) (μ : Mem) (sz : Nat) (q : Nat) (am : Int32) (ig : Int32) (hq : isP q) {r : Mem} (hf : f_X7_exchangeN g.F μ q am ig = some r) : Met l yX7_exchange (ws_ yX7_exchange cX7_exchange 7 (Option.none : Option Jvm.ClassFile.FieldType)) (rm_ 0 0 0 0) (Pz g [.ref (g.ad 0), .ref (g.ad q), .null, .int am, .int ig] (fun H9 => H9.size = sz ∧ Rg g μ H9)) (va_Qv (fun _ : Unit => True) (fun _ t => Rg g r t.heap) (Ag g sz)) 0 0 (Ag g sz) := by
  refine Met.ofW (cc := cX7_exchange) (maxL := 7) (ret := (Option.none : Option Jvm.ClassFile.FieldType)) (by decide) rfl ?_
  intro p e s m args below meth c s₁ B hml hv
  obtain ⟨rfl, hT, hsz, hP⟩ := hv
  have hx := B.exec
  have hb := B.bytes
  have hr := B.returns
  have hts : ∀ w ∈ lw_all, w.before _ s = true := fun w h => atoms_spec (ws := (ws_ yX7_exchange cX7_exchange 7 (Option.none : Option Jvm.ClassFile.FieldType))) B.pre w (List.mem_cons_of_mem _ h)
  have hown : s.vm.findClass RX7 = some m.cls := findClass_of_methodNamed B.named
  have hlocks := B.notSynchronized
  subst hsz
  have hD := fun ν => Ag.apart hg s.heap.size ν
  have hC := hP.sh
  have hN := Ag.shr hg hP
  have hS : va_S (Ag g s.heap.size) s.heap s.heap [] := va_S.rf
  have hl := lv_entry ([.ref (g.ad 0), .ref (g.ad q), .null, .int am, .int ig]) (n := 7) (Nat.le_of_ble_eq_true rfl)
  rw [lg_entry_eq]
  generalize (lg_sl ([.ref (g.ad 0), .ref (g.ad q), .null, .int am, .int ig]) ++ List.replicate (7 - (lg_sl ([.ref (g.ad 0), .ref (g.ad q), .null, .int am, .int ig])).length) Slot.unset).toArray = ls at hl ⊢
  have hl : lv_has ls 7 [(0, .ref (g.ad 0)), (1, .ref (g.ad q)), (2, .null), (3, .int am), (4, .int ig)] := hl
  unfold f_X7_exchangeN at hf
  refine lv_aload_nN hx hb dX7_exchange_0 rfl (lv_at hl 2 rfl) ?_
  refine lv_ifnonnullN hx hb dX7_exchange_1 ?_
  exact W.vret hx hb hr (fun t9 ht hW => ⟨⟨(), rfl, trivial, by show Rg g r t9.heap; rw [ht, ← Option.some.inj hf]; exact hP⟩, hS.F ht⟩) hS.2.2 dX7_exchange_4
/-- "Sandglass$World" "skip" "(LSandglass$Proc;LSandglass$Store;I)V" -/
def f_X7_skipS (g : Fg) (μ : Mem) (q : Nat) (st : Nat) (le : Int32) : Option (Mem) := if le ≤ (μ st 2) then (some μ) else (bnd (put μ q 3 ((μ q 3) + 1)) fun μ_2 => some μ_2)
theorem hd_X7_skipS : yX7_skip.cls = RX7 ∧ yX7_skip.cls ≠ "java/lang/invoke/MethodHandle" ∧ yX7_skip.cls ≠ "java/lang/invoke/VarHandle" ∧ (parseMethodDescriptor yX7_skip.desc).map (fun d => d.parameters.length) = some 3 := by decide +kernel
set_option maxHeartbeats 4000000 in
set_option maxRecDepth 100000 in
theorem c_X7_skipS (l : Launch) {g : Geo} (hg : Good g) (μ : Mem) (sz : Nat) (q : Nat) (st : Nat) (le : Int32) (hq : isP q) (hst : isS g st) {r : Mem} (hf : f_X7_skipS g.F μ q st le = some r) : Met l yX7_skip (ws_ yX7_skip cX7_skip 4 (Option.none : Option Jvm.ClassFile.FieldType)) (rm_ 0 0 0 0) (Pz g [.ref (g.ad 0), .ref (g.ad q), .ref (g.ad st), .int le] (fun H9 => H9.size = sz ∧ Rg g μ H9)) (va_Qv (fun _ : Unit => True) (fun _ t => Rg g r t.heap) (Ag g sz)) 0 0 (Ag g sz) := by
  refine Met.ofW (cc := cX7_skip) (maxL := 4) (ret := (Option.none : Option Jvm.ClassFile.FieldType)) (by decide) rfl ?_
  intro p e s m args below meth c s₁ B hml hv
  obtain ⟨rfl, hT, hsz, hP⟩ := hv
  have hx := B.exec
  have hb := B.bytes
  have hr := B.returns
  have hts : ∀ w ∈ lw_all, w.before _ s = true := fun w h => atoms_spec (ws := (ws_ yX7_skip cX7_skip 4 (Option.none : Option Jvm.ClassFile.FieldType))) B.pre w (List.mem_cons_of_mem _ h)
  have hown : s.vm.findClass RX7 = some m.cls := findClass_of_methodNamed B.named
  have hlocks := B.notSynchronized
  subst hsz
  have hD := fun ν => Ag.apart hg s.heap.size ν
  have hC := hP.sh
  have hN := Ag.shr hg hP
  have hS : va_S (Ag g s.heap.size) s.heap s.heap [] := va_S.rf
  have hl := lv_entry ([.ref (g.ad 0), .ref (g.ad q), .ref (g.ad st), .int le]) (n := 4) (Nat.le_of_ble_eq_true rfl)
  rw [lg_entry_eq]
  generalize (lg_sl ([.ref (g.ad 0), .ref (g.ad q), .ref (g.ad st), .int le]) ++ List.replicate (4 - (lg_sl ([.ref (g.ad 0), .ref (g.ad q), .ref (g.ad st), .int le])).length) Slot.unset).toArray = ls at hl ⊢
  have hl : lv_has ls 4 [(0, .ref (g.ad 0)), (1, .ref (g.ad q)), (2, .ref (g.ad st)), (3, .int le)] := hl
  unfold f_X7_skipS at hf
  refine lv_aload_n hx hb dX7_skip_0 rfl (lv_at hl 2 rfl) ?_
  refine lv_ifnull hx hb dX7_skip_1 ?_
  refine lv_aload_n hx hb dX7_skip_4 rfl (lv_at hl 2 rfl) ?_
  refine r_get hx hb hts i_X5 hown hT hP (inS hst) (fs := fsS) (obS hst) rfl 2 (by decide) q998 (fun _ h9 => h9) rfl dX7_skip_5 ?_
  refine lv_iload_n hx hb dX7_skip_8 rfl (lv_at hl 3 rfl) ?_
  refine lv_icmp_ge (tgt := 22) hx hb dX7_skip_9 (by decide) (fun c_1 => ?_) (fun c_1 => ?_)
  · have hf := (if_pos c_1).symm.trans hf
    exact W.vret hx hb hr (fun t9 ht hW => ⟨⟨(), rfl, trivial, by show Rg g r t9.heap; rw [ht, ← Option.some.inj hf]; exact hP⟩, hS.F ht⟩) hS.2.2 dX7_skip_22
  · have hf := (if_neg c_1).symm.trans hf
    refine lv_aload_n hx hb dX7_skip_12 rfl (lv_at hl 1 rfl) ?_
    refine lv_dup hx hb dX7_skip_13 rfl ?_
    refine r_get hx hb hts i_X2 hown hT hP (inP hq) (fs := (fsP g q)) (obP hq) rfl 3 (by decide) q119 (fun _ h9 => h9) rfl dX7_skip_14 ?_
    refine lv_iconst (v := 1) hx hb dX7_skip_17 (by decide) ?_
    refine lv_iadd hx hb dX7_skip_18 ?_
    refine r_put hx hb hts i_X2 tyX2 tyX2_ok nmX2 hown hT hP hD hC hN hS (mtP hq) (fs := (fsP g q)) (obP hq) rfl 3 (by decide) q119 (fun _ h9 => h9) rfl (ty := .int) (x := (μ q 3) + 1) rfl rfl rfl (fun _ => rfl) (Nat.le_of_ble_eq_true rfl) dX7_skip_19 (fun H locs hP hS => ?_)
    obtain ⟨μ_2, eμ_2⟩ : ∃ z, put μ q 3 ((μ q 3) + 1) = z := ⟨_, rfl⟩
    rw [eμ_2] at hP
    have hf := bnd_eq hf _ eμ_2
    exact W.vret hx hb hr (fun t9 ht hW => ⟨⟨(), rfl, trivial, by show Rg g r t9.heap; rw [ht, ← Option.some.inj hf]; exact hP⟩, hS.F ht⟩) hS.2.2 dX7_skip_22
/-- "Sandglass$World" "skip" "(LSandglass$Proc;LSandglass$Store;I)V" -/
def f_X7_skipN (g : Fg) (μ : Mem) (q : Nat) (le : Int32) : Option (Mem) := some μ
theorem hd_X7_skipN : yX7_skip.cls = RX7 ∧ yX7_skip.cls ≠ "java/lang/invoke/MethodHandle" ∧ yX7_skip.cls ≠ "java/lang/invoke/VarHandle" ∧ (parseMethodDescriptor yX7_skip.desc).map (fun d => d.parameters.length) = some 3 := by decide +kernel
set_option maxHeartbeats 4000000 in
set_option maxRecDepth 100000 in
theorem c_X7_skipN (l : Launch) {g : Geo} (hg : Good g) (μ : Mem) (sz : Nat) (q : Nat) (le : Int32) (hq : isP q) {r : Mem} (hf : f_X7_skipN g.F μ q le = some r) : Met l yX7_skip (ws_ yX7_skip cX7_skip 4 (Option.none : Option Jvm.ClassFile.FieldType)) (rm_ 0 0 0 0) (Pz g [.ref (g.ad 0), .ref (g.ad q), .null, .int le] (fun H9 => H9.size = sz ∧ Rg g μ H9)) (va_Qv (fun _ : Unit => True) (fun _ t => Rg g r t.heap) (Ag g sz)) 0 0 (Ag g sz) := by
  refine Met.ofW (cc := cX7_skip) (maxL := 4) (ret := (Option.none : Option Jvm.ClassFile.FieldType)) (by decide) rfl ?_
  intro p e s m args below meth c s₁ B hml hv
  obtain ⟨rfl, hT, hsz, hP⟩ := hv
  have hx := B.exec
  have hb := B.bytes
  have hr := B.returns
  have hts : ∀ w ∈ lw_all, w.before _ s = true := fun w h => atoms_spec (ws := (ws_ yX7_skip cX7_skip 4 (Option.none : Option Jvm.ClassFile.FieldType))) B.pre w (List.mem_cons_of_mem _ h)
  have hown : s.vm.findClass RX7 = some m.cls := findClass_of_methodNamed B.named
  have hlocks := B.notSynchronized
  subst hsz
  have hD := fun ν => Ag.apart hg s.heap.size ν
  have hC := hP.sh
  have hN := Ag.shr hg hP
  have hS : va_S (Ag g s.heap.size) s.heap s.heap [] := va_S.rf
  have hl := lv_entry ([.ref (g.ad 0), .ref (g.ad q), .null, .int le]) (n := 4) (Nat.le_of_ble_eq_true rfl)
  rw [lg_entry_eq]
  generalize (lg_sl ([.ref (g.ad 0), .ref (g.ad q), .null, .int le]) ++ List.replicate (4 - (lg_sl ([.ref (g.ad 0), .ref (g.ad q), .null, .int le])).length) Slot.unset).toArray = ls at hl ⊢
  have hl : lv_has ls 4 [(0, .ref (g.ad 0)), (1, .ref (g.ad q)), (2, .null), (3, .int le)] := hl
  unfold f_X7_skipN at hf
  refine lv_aload_nN hx hb dX7_skip_0 rfl (lv_at hl 2 rfl) ?_
  refine lv_ifnullN (tgt := 22) hx hb dX7_skip_1 (by decide) ?_
  exact W.vret hx hb hr (fun t9 ht hW => ⟨⟨(), rfl, trivial, by show Rg g r t9.heap; rw [ht, ← Option.some.inj hf]; exact hP⟩, hS.F ht⟩) hS.2.2 dX7_skip_22
