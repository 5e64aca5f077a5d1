/-- "Sandglass$World" "happen" "()LSandglass$Proc;" -/
def b_X7_happen_111 (g : Fg) (μ : Mem) (lg : Log) (x1 : Nat) : Option (Mem × Log × Option Nat) := bnO (f_X2_isOver g μ x1) fun r_23 => if r_23 = 0 then (some (μ, lg, some x1)) else (bnO (f_X7_finish g μ x1 (μ x1 6)) fun μ_28 => some (μ_28, lg, some x1))
def b_X7_happen_96 (g : Fg) (μ : Mem) (lg : Log) (x1 : Nat) : Option (Mem × Log × Option Nat) := if (μ x1 6) = 8 then (bnd (put μ x1 6 6) fun μ_22 => b_X7_happen_111 g μ_22 lg x1) else (b_X7_happen_111 g μ lg x1)
def b_X7_happen_32 (g : Fg) : Nat → Mem → Log → Nat → Int32 → Option (Mem × Log × Option Nat)
  | 0, _, _, _, _ => none
  | n + 1, μ, lg, x1, x2 => if (μ x1 6) = 8 then (if 40 ≤ x2 then (b_X7_happen_96 g μ lg x1) else (bnO (f_X2_nextInstruction g μ x1) fun r_11 => csQ r_11 (bnd (put μ x1 6 5) fun μ_14 => b_X7_happen_32 g n μ_14 lg x1 (x2 + 1)) (fun o_13 => grd (138 ≤ o_13 ∧ o_13 < 266 ∧ (o_13 - 138) / 16 < g.sz 2 ∧ (o_13 - 138) % 16 < g.sz (10 + (o_13 - 138) / 16)) (bnd (put μ 0 8 ((μ 0 8) + 1)) fun μ_15 => bnd (put μ_15 x1 3 ((μ_15 x1 3) + 1)) fun μ_16 => bn2 (f_X7_obey g μ_16 lg x1 o_13) fun μ_19 lg_20 => b_X7_happen_32 g n μ_19 lg_20 x1 (x2 + 1))))) else (b_X7_happen_96 g μ lg x1)
def f_X7_happen (g : Fg) (μ : Mem) (lg : Log) : Option (Mem × Log × Option Nat) := bnO (f_X7_nextToGo g μ ) fun r_1 => csQ r_1 (some (μ, lg, none)) (fun o_3 => grd (1 ≤ o_3 ∧ o_3 < 25) (bnO (f_X7_goTo g μ (μ o_3 7)) fun μ_6 => bnd (put μ_6 o_3 7 (-1)) fun μ_7 => bnd (put μ_7 o_3 6 8) fun μ_8 => b_X7_happen_32 g fu μ_8 lg o_3 0))
theorem hd_X7_happen : yX7_happen.cls = RX7 ∧ yX7_happen.cls ≠ "java/lang/invoke/MethodHandle" ∧ yX7_happen.cls ≠ "java/lang/invoke/VarHandle" ∧ (parseMethodDescriptor yX7_happen.desc).map (fun d => d.parameters.length) = some 0 := by decide +kernel
set_option maxHeartbeats 4000000 in
set_option maxRecDepth 100000 in
theorem c_X7_happen (l : Launch) {g : Geo} (hg : Good g) (hz : g.tz 0 = 0) (μ : Mem) (lg : Log) (sz : Nat) {r : Mem × Log × Option Nat} (hf : f_X7_happen g.F μ lg  = some r) : Met l yX7_happen (ws_ yX7_happen cX7_happen 4 (some (.object "Sandglass$Proc"))) (rm_ 6 130 0 0) (Pz g [.ref (g.ad 0)] (fun H9 => H9.size = sz ∧ Rg g μ H9)) (va_Qq (fun (v : Option Nat) (_ : Unit) => v = r.2.2.map g.ad) (fun _ t => Rg g r.1 t.heap) (Ag g sz)) 0 0 (Ag g sz) := by
  refine Met.ofW (cc := cX7_happen) (maxL := 4) (ret := (some (.object "Sandglass$Proc"))) (by decide) rfl ?_
  intro p e s m args below meth c s₁ B hml hv
  obtain ⟨rfl, hT, hsz, hP⟩ := hv
  have hx := B.exec
  have hb := B.bytes
  have hr := B.returns
  have hts : ∀ w ∈ lw_all, w.before _ s = true := fun w h => atoms_spec (ws := (ws_ yX7_happen cX7_happen 4 (some (.object "Sandglass$Proc")))) B.pre w (List.mem_cons_of_mem _ h)
  have hown : s.vm.findClass RX7 = some m.cls := findClass_of_methodNamed B.named
  have hlocks := B.notSynchronized
  subst hsz
  have hD := fun ν => Ag.apart hg s.heap.size ν
  have hC := hP.sh
  have hN := Ag.shr hg hP
  have hS : va_S (Ag g s.heap.size) s.heap s.heap [] := va_S.rf
  have L111 : ∀ (μ : Mem) (lg : Log) (x1 : Nat) (H : Heap) (locs : List Loc) (ls : Array Slot), Rg g μ H → va_S (Ag g s.heap.size) s.heap H locs → lv_has ls 4 [(0, .ref (g.ad 0)), (1, .ref (g.ad x1))] → isP x1 → b_X7_happen_111 g.F μ lg x1 = some r → W p l e (headSpec (ws_ yX7_happen cX7_happen 4 (some (.object "Sandglass$Proc"))) (rm_ 6 130 0 0)).room s m ([.ref (g.ad 0)] : List Value).toArray below meth c H locs 0 0 (MQ below (va_Qq (fun (v : Option Nat) (_ : Unit) => v = r.2.2.map g.ad) (fun _ t => Rg g r.1 t.heap) (Ag g s.heap.size)) ([.ref (g.ad 0)] : List Value).toArray s 0 0 (Ag g s.heap.size)) (F0 m 111 ls []) := by
    intro μ lg x1 H locs ls hP hS hl hx1 hf
    unfold b_X7_happen_111 at hf
    refine lv_aload_n hx hb dX7_happen_111 rfl (lv_at hl 1 rfl) ?_
    obtain ⟨r_23, hc_24, hf⟩ := bnO_some hf
    refine va_calli (va_runV (As := []) (rest := []) ⟨hx, hb, hml, hown, hts⟩ (c_X2_isOver l hg μ x1 hx1 hc_24) (cwV 0 hts (gd_V q630 q631 q632 q42 q633) rfl rfl rfl hd_X2_isOver ⟨Nat.le_of_ble_eq_true rfl, Nat.le_of_ble_eq_true rfl⟩) ⟨Pz.blind, r_recv hT hP (inP hx1) (fs := (fsP g x1)) (obP hx1) rfl, fun U hU hW => ⟨rfl, Tb.warm hW hT, by rw [hU]; exact hP⟩⟩ rfl rfl hl.1 rfl (lv_room (Nat.le_of_ble_eq_true rfl)) dX7_happen_112 ⟨Nat.le_of_ble_eq_true rfl, Nat.le_of_ble_eq_true rfl⟩) hS (fun q _ h => h.elim) (fun q h => h.elim) (fun v9 u9 t9 H locs ht9 hvm9 hw9 hB9 hz9 hk9 hS => ?_)
    have hP := Rg.keep hP (fun q h => hk9 q h id)
    rw [hw9]
    refine lv_if_eq (tgt := 127) hx hb dX7_happen_115 (by decide) (fun c_25 => ?_) (fun c_25 => ?_)
    · have hf := (if_pos c_25).symm.trans hf
      refine lv_aload_n hx hb dX7_happen_127 rfl (lv_at hl 1 rfl) ?_
      exact W.aret (v := .ref (g.ad x1)) (rt := .object "Sandglass$Proc") hx hb hr (Or.inl ⟨_, rfl⟩) (Or.inr ⟨_, rfl⟩) (fun t9 ht hW => ⟨⟨(some (g.ad x1)), (), rfl, by rw [← Option.some.inj hf]; rfl, by show Rg g r.1 t9.heap; rw [ht, ← Option.some.inj hf]; exact hP⟩, hS.F ht⟩) hS.2.2 dX7_happen_128
    · have hf := (if_neg c_25).symm.trans hf
      refine lv_aload_n hx hb dX7_happen_118 rfl (lv_at hl 0 rfl) ?_
      refine lv_aload_n hx hb dX7_happen_119 rfl (lv_at hl 1 rfl) ?_
      refine lv_aload_n hx hb dX7_happen_120 rfl (lv_at hl 1 rfl) ?_
      refine r_get hx hb hts i_X2 hown hT hP (inP hx1) (fs := (fsP g x1)) (obP hx1) rfl 6 (by decide) q128 (fun _ h9 => h9) rfl dX7_happen_121 ?_
      obtain ⟨μ_28, hc_27, hf⟩ := bnO_some hf
      refine va_callv (va_runV (As := [.ref (g.ad x1), .int (μ x1 6)]) (rest := []) ⟨hx, hb, hml, hown, hts⟩ (c_X7_finish l hg μ H.size x1 (μ x1 6) hx1 hc_27) (cwV 2 hts (gd_V q634 q635 q636 q41 q637) rfl rfl rfl hd_X7_finish ⟨Nat.le_of_ble_eq_true rfl, Nat.le_of_ble_eq_true rfl⟩) ⟨Pz.blind, r_recv hT hP inW (fs := (fsW g)) (obW g) rfl, fun U hU hW => ⟨rfl, Tb.warm hW hT, by rw [hU], by rw [hU]; exact hP⟩⟩ rfl rfl hl.1 rfl (lv_room (Nat.le_of_ble_eq_true rfl)) dX7_happen_124 ⟨Nat.le_of_ble_eq_true rfl, Nat.le_of_ble_eq_true rfl⟩) hS (fun q _ h => Ag.sub rfl hS q h) (fun q h => Ag.sub rfl hS q h) (fun u9 t9 H locs ht9 hvm9 hw9 hB9 hz9 hk9 hS => ?_)
      have hP : Rg g μ_28 H := by rw [← ht9]; exact hB9
      refine lv_aload_n hx hb dX7_happen_127 rfl (lv_at hl 1 rfl) ?_
      exact W.aret (v := .ref (g.ad x1)) (rt := .object "Sandglass$Proc") hx hb hr (Or.inl ⟨_, rfl⟩) (Or.inr ⟨_, rfl⟩) (fun t9 ht hW => ⟨⟨(some (g.ad x1)), (), rfl, by rw [← Option.some.inj hf]; rfl, by show Rg g r.1 t9.heap; rw [ht, ← Option.some.inj hf]; exact hP⟩, hS.F ht⟩) hS.2.2 dX7_happen_128
  have L96 : ∀ (μ : Mem) (lg : Log) (x1 : Nat) (H : Heap) (locs : List Loc) (ls : Array Slot), Rg g μ H → va_S (Ag g s.heap.size) s.heap H locs → lv_has ls 4 [(0, .ref (g.ad 0)), (1, .ref (g.ad x1))] → isP x1 → b_X7_happen_96 g.F μ lg x1 = some r → W p l e (headSpec (ws_ yX7_happen cX7_happen 4 (some (.object "Sandglass$Proc"))) (rm_ 6 130 0 0)).room s m ([.ref (g.ad 0)] : List Value).toArray below meth c H locs 0 0 (MQ below (va_Qq (fun (v : Option Nat) (_ : Unit) => v = r.2.2.map g.ad) (fun _ t => Rg g r.1 t.heap) (Ag g s.heap.size)) ([.ref (g.ad 0)] : List Value).toArray s 0 0 (Ag g s.heap.size)) (F0 m 96 ls []) := by
    intro μ lg x1 H locs ls hP hS hl hx1 hf
    unfold b_X7_happen_96 at hf
    refine lv_aload_n hx hb dX7_happen_96 rfl (lv_at hl 1 rfl) ?_
    refine r_get hx hb hts i_X2 hown hT hP (inP hx1) (fs := (fsP g x1)) (obP hx1) rfl 6 (by decide) q128 (fun _ h9 => h9) rfl dX7_happen_97 ?_
    refine lv_bipush (v := 8) hx hb dX7_happen_100 (by decide) ?_
    refine lv_icmp_ne (tgt := 111) hx hb dX7_happen_102 (by decide) (fun c_21 => ?_) (fun c_21 => ?_)
    · have hf := (if_neg c_21).symm.trans hf
      exact L111 μ lg x1 _ _ _ hP hS (lv_sub hl [0, 1] rfl) hx1 hf
    · have hf := (if_pos c_21).symm.trans hf
      refine lv_aload_n hx hb dX7_happen_105 rfl (lv_at hl 1 rfl) ?_
      refine lv_bipush (v := 6) hx hb dX7_happen_106 (by decide) ?_
      refine r_put hx hb hts i_X2 tyX2 tyX2_ok nmX2 hown hT hP hD hC hN hS (mtP hx1) (fs := (fsP g x1)) (obP hx1) rfl 6 (by decide) q128 (fun _ h9 => h9) rfl (ty := .int) (x := 6) rfl rfl rfl (fun _ => rfl) (Nat.le_of_ble_eq_true rfl) dX7_happen_108 (fun H locs hP hS => ?_)
      obtain ⟨μ_22, eμ_22⟩ : ∃ z, put μ x1 6 6 = z := ⟨_, rfl⟩
      rw [eμ_22] at hP
      have hf := bnd_eq hf _ eμ_22
      exact L111 μ_22 lg x1 _ _ _ hP hS (lv_sub hl [0, 1] rfl) hx1 hf
  have L32 : ∀ (n : Nat) (μ : Mem) (lg : Log) (x1 : Nat) (x2 : Int32) (H : Heap) (locs : List Loc) (ls : Array Slot), Rg g μ H → va_S (Ag g s.heap.size) s.heap H locs → lv_has ls 4 [(0, .ref (g.ad 0)), (1, .ref (g.ad x1)), (2, .int x2)] → isP x1 → b_X7_happen_32 g.F n μ lg x1 x2 = some r → W p l e (headSpec (ws_ yX7_happen cX7_happen 4 (some (.object "Sandglass$Proc"))) (rm_ 6 130 0 0)).room s m ([.ref (g.ad 0)] : List Value).toArray below meth c H locs 0 0 (MQ below (va_Qq (fun (v : Option Nat) (_ : Unit) => v = r.2.2.map g.ad) (fun _ t => Rg g r.1 t.heap) (Ag g s.heap.size)) ([.ref (g.ad 0)] : List Value).toArray s 0 0 (Ag g s.heap.size)) (F0 m 32 ls []) := by
    intro n
    induction n with
    | zero => intro μ lg x1 x2 H locs ls hP hS hl hx1 hf; cases hf
    | succ n ih =>
      intro μ lg x1 x2 H locs ls hP hS hl hx1 hf
      rw [b_X7_happen_32] at hf
      refine lv_aload_n hx hb dX7_happen_32 rfl (lv_at hl 1 rfl) ?_
      refine r_get hx hb hts i_X2 hown hT hP (inP hx1) (fs := (fsP g x1)) (obP hx1) rfl 6 (by decide) q128 (fun _ h9 => h9) rfl dX7_happen_33 ?_
      refine lv_bipush (v := 8) hx hb dX7_happen_36 (by decide) ?_
      refine lv_icmp_ne (tgt := 96) hx hb dX7_happen_38 (by decide) (fun c_9 => ?_) (fun c_9 => ?_)
      · have hf := (if_neg c_9).symm.trans hf
        exact L96 μ lg x1 _ _ _ hP hS (lv_sub hl [0, 1] rfl) hx1 hf
      · have hf := (if_pos c_9).symm.trans hf
        refine lv_iload_n hx hb dX7_happen_41 rfl (lv_at hl 2 rfl) ?_
        refine lv_bipush (v := 40) hx hb dX7_happen_42 (by decide) ?_
        refine lv_icmp_ge (tgt := 96) hx hb dX7_happen_44 (by decide) (fun c_10 => ?_) (fun c_10 => ?_)
        · have hf := (if_pos c_10).symm.trans hf
          exact L96 μ lg x1 _ _ _ hP hS (lv_sub hl [0, 1] rfl) hx1 hf
        · have hf := (if_neg c_10).symm.trans hf
          refine lv_aload_n hx hb dX7_happen_47 rfl (lv_at hl 1 rfl) ?_
          obtain ⟨r_11, hc_12, hf⟩ := bnO_some hf
          refine va_callq (va_runV (As := []) (rest := []) ⟨hx, hb, hml, hown, hts⟩ (c_X2_nextInstruction l hg μ x1 hx1 hc_12) (cwV 0 hts (gd_V q411 q412 q413 q42 q414) rfl rfl rfl hd_X2_nextInstruction ⟨Nat.le_of_ble_eq_true rfl, Nat.le_of_ble_eq_true rfl⟩) ⟨Pz.blind, r_recv hT hP (inP hx1) (fs := (fsP g x1)) (obP hx1) rfl, fun U hU hW => ⟨rfl, Tb.warm hW hT, by rw [hU]; exact hP⟩⟩ rfl rfl hl.1 rfl (lv_room (Nat.le_of_ble_eq_true rfl)) dX7_happen_48 ⟨Nat.le_of_ble_eq_true rfl, Nat.le_of_ble_eq_true rfl⟩) hS (fun q _ h => h.elim) (fun q h => h.elim) (fun v9 u9 t9 H locs ht9 hvm9 hw9 hB9 hz9 hk9 hS => ?_)
          have hP := Rg.keep hP (fun q h => hk9 q h id)
          rw [hw9]
          cases r_11 with
          | none =>
            dsimp only [csQ] at hf
            refine W.eq (g2 := F0 m 51 ls [.null]) rfl ?_
            refine lv_astore_nN (lv' := [(3, .null), (0, .ref (g.ad 0)), (1, .ref (g.ad x1)), (2, .int x2)]) hx hb dX7_happen_51 rfl hl (by decide) rfl (fun ls hl => ?_)
            refine lv_aload_nN hx hb dX7_happen_52 rfl (lv_at hl 0 rfl) ?_
            refine lv_ifnonnullN hx hb dX7_happen_53 ?_
            refine lv_aload_n hx hb dX7_happen_56 rfl (lv_at hl 2 rfl) ?_
            refine lv_iconst (v := 5) hx hb dX7_happen_57 (by decide) ?_
            refine r_put hx hb hts i_X2 tyX2 tyX2_ok nmX2 hown hT hP hD hC hN hS (mtP hx1) (fs := (fsP g x1)) (obP hx1) rfl 6 (by decide) q128 (fun _ h9 => h9) rfl (ty := .int) (x := 5) rfl rfl rfl (fun _ => rfl) (Nat.le_of_ble_eq_true rfl) dX7_happen_58 (fun H locs hP hS => ?_)
            obtain ⟨μ_14, eμ_14⟩ : ∃ z, put μ x1 6 5 = z := ⟨_, rfl⟩
            rw [eμ_14] at hP
            have hf := bnd_eq hf _ eμ_14
            refine lv_goto (tgt := 90) hx hb dX7_happen_61 (by decide) ?_
            refine lv_iinc (v := x2 + 1) (lv' := [(2, .int (x2 + 1)), (3, .null), (0, .ref (g.ad 0)), (1, .ref (g.ad x1))]) hx hb dX7_happen_90 hl (k := 3) rfl rfl (by decide) rfl (fun ls hl => ?_)
            refine lv_goto (tgt := 32) hx hb dX7_happen_93 (by decide) ?_
            exact ih μ_14 lg x1 (x2 + 1) _ _ _ hP hS (lv_sub hl [2, 3, 0] rfl) hx1 hf
          | some o_13 =>
            dsimp only [csQ] at hf
            obtain ⟨ho_13, hf⟩ := grd_some hf
            refine W.eq (g2 := F0 m 51 ls [.ref (g.ad o_13)]) rfl ?_
            refine lv_astore_n (lv' := [(3, .ref (g.ad o_13)), (0, .ref (g.ad 0)), (1, .ref (g.ad x1)), (2, .int x2)]) hx hb dX7_happen_51 rfl hl (by decide) rfl (fun ls hl => ?_)
            refine lv_aload_n hx hb dX7_happen_52 rfl (lv_at hl 0 rfl) ?_
            refine lv_ifnonnull (tgt := 64) hx hb dX7_happen_53 (by decide) ?_
            refine lv_aload_n hx hb dX7_happen_64 rfl (lv_at hl 1 rfl) ?_
            refine lv_dup hx hb dX7_happen_65 rfl ?_
            refine r_get hx hb hts i_X7 hown hT hP inW (fs := (fsW g)) (obW g) rfl 8 (by decide) q201 (fun _ h9 => h9) rfl dX7_happen_66 ?_
            refine lv_iconst (v := 1) hx hb dX7_happen_69 (by decide) ?_
            refine lv_iadd hx hb dX7_happen_70 ?_
            refine r_put hx hb hts i_X7 tyX7 tyX7_ok nmX7 hown hT hP hD hC hN hS mtW (fs := (fsW g)) (obW g) rfl 8 (by decide) q201 (fun _ h9 => h9) rfl (ty := .int) (x := (μ 0 8) + 1) rfl rfl rfl (fun _ => rfl) (Nat.le_of_ble_eq_true rfl) dX7_happen_71 (fun H locs hP hS => ?_)
            obtain ⟨μ_15, eμ_15⟩ : ∃ z, put μ 0 8 ((μ 0 8) + 1) = z := ⟨_, rfl⟩
            rw [eμ_15] at hP
            have hf := bnd_eq hf _ eμ_15
            refine lv_aload_n hx hb dX7_happen_74 rfl (lv_at hl 2 rfl) ?_
            refine lv_dup hx hb dX7_happen_75 rfl ?_
            refine r_get hx hb hts i_X2 hown hT hP (inP hx1) (fs := (fsP g x1)) (obP hx1) rfl 3 (by decide) q119 (fun _ h9 => h9) rfl dX7_happen_76 ?_
            refine lv_iconst (v := 1) hx hb dX7_happen_79 (by decide) ?_
            refine lv_iadd hx hb dX7_happen_80 ?_
            refine r_put hx hb hts i_X2 tyX2 tyX2_ok nmX2 hown hT hP hD hC hN hS (mtP hx1) (fs := (fsP g x1)) (obP hx1) rfl 3 (by decide) q119 (fun _ h9 => h9) rfl (ty := .int) (x := (μ_15 x1 3) + 1) rfl rfl rfl (fun _ => rfl) (Nat.le_of_ble_eq_true rfl) dX7_happen_81 (fun H locs hP hS => ?_)
            obtain ⟨μ_16, eμ_16⟩ : ∃ z, put μ_15 x1 3 ((μ_15 x1 3) + 1) = z := ⟨_, rfl⟩
            rw [eμ_16] at hP
            have hf := bnd_eq hf _ eμ_16
            refine lv_aload_n hx hb dX7_happen_84 rfl (lv_at hl 1 rfl) ?_
            refine lv_aload_n hx hb dX7_happen_85 rfl (lv_at hl 2 rfl) ?_
            refine lv_aload_n hx hb dX7_happen_86 rfl (lv_at hl 0 rfl) ?_
            obtain ⟨μ_19, lg_20, hc_18, hf⟩ := bn2_some hf
            refine va_callv (va_runV (As := [.ref (g.ad x1), .ref (g.ad o_13)]) (rest := []) ⟨hx, hb, hml, hown, hts⟩ (c_X7_obey l hg hz μ_16 lg H.size x1 o_13 hx1 ho_13 hc_18) (cwV 2 hts (gd_V q422 q424 q2 q41 q425) rfl rfl rfl hd_X7_obey ⟨Nat.le_of_ble_eq_true rfl, Nat.le_of_ble_eq_true rfl⟩) ⟨Pz.blind, r_recv hT hP inW (fs := (fsW g)) (obW g) rfl, fun U hU hW => ⟨rfl, Tb.warm hW hT, by rw [hU], by rw [hU]; exact hP⟩⟩ rfl rfl hl.1 rfl (lv_room (Nat.le_of_ble_eq_true rfl)) dX7_happen_87 ⟨Nat.le_of_ble_eq_true rfl, Nat.le_of_ble_eq_true rfl⟩) hS (fun q _ h => Ag.sub rfl hS q h) (fun q h => Ag.sub rfl hS q h) (fun u9 t9 H locs ht9 hvm9 hw9 hB9 hz9 hk9 hS => ?_)
            have hP : Rg g μ_19 H := by rw [← ht9]; exact hB9
            refine lv_iinc (v := x2 + 1) (lv' := [(2, .int (x2 + 1)), (3, .ref (g.ad o_13)), (0, .ref (g.ad 0)), (1, .ref (g.ad x1))]) hx hb dX7_happen_90 hl (k := 3) rfl rfl (by decide) rfl (fun ls hl => ?_)
            refine lv_goto (tgt := 32) hx hb dX7_happen_93 (by decide) ?_
            exact ih μ_19 lg_20 x1 (x2 + 1) _ _ _ hP hS (lv_sub hl [2, 3, 0] rfl) hx1 hf
  have hl := lv_entry ([.ref (g.ad 0)]) (n := 4) (Nat.le_of_ble_eq_true rfl)
  rw [lg_entry_eq]
  generalize (lg_sl ([.ref (g.ad 0)]) ++ List.replicate (4 - (lg_sl ([.ref (g.ad 0)])).length) Slot.unset).toArray = ls at hl ⊢
  have hl : lv_has ls 4 [(0, .ref (g.ad 0))] := hl
  unfold f_X7_happen at hf
  refine lv_aload_n hx hb dX7_happen_0 rfl (lv_at hl 0 rfl) ?_
  obtain ⟨r_1, hc_2, hf⟩ := bnO_some hf
  refine va_callq (va_runV (As := []) (rest := []) ⟨hx, hb, hml, hown, hts⟩ (c_X7_nextToGo l hg μ   hc_2) (cwV 0 hts (gd_V q393 q394 q395 q41 q396) rfl rfl rfl hd_X7_nextToGo ⟨Nat.le_of_ble_eq_true rfl, Nat.le_of_ble_eq_true rfl⟩) ⟨Pz.blind, r_recv hT hP inW (fs := (fsW g)) (obW g) rfl, fun U hU hW => ⟨rfl, Tb.warm hW hT, by rw [hU]; exact hP⟩⟩ rfl rfl hl.1 rfl (lv_room (Nat.le_of_ble_eq_true rfl)) dX7_happen_1 ⟨Nat.le_of_ble_eq_true rfl, Nat.le_of_ble_eq_true rfl⟩) hS (fun q _ h => h.elim) (fun q h => h.elim) (fun v9 u9 t9 H locs ht9 hvm9 hw9 hB9 hz9 hk9 hS => ?_)
  have hP := Rg.keep hP (fun q h => hk9 q h id)
  rw [hw9]
  cases r_1 with
  | none =>
    dsimp only [csQ] at hf
    refine W.eq (g2 := F0 m 4 ls [.null]) rfl ?_
    refine lv_astore_nN (lv' := [(1, .null), (0, .ref (g.ad 0))]) hx hb dX7_happen_4 rfl hl (by decide) rfl (fun ls hl => ?_)
    refine lv_aload_nN hx hb dX7_happen_5 rfl (lv_at hl 0 rfl) ?_
    refine lv_ifnonnullN hx hb dX7_happen_6 ?_
    refine lv_null hx hb dX7_happen_9 ?_
    exact W.aret (v := .null) (rt := .object "Sandglass$Proc") hx hb hr (Or.inl ⟨_, rfl⟩) (Or.inl rfl) (fun t9 ht hW => ⟨⟨none, (), rfl, by rw [← Option.some.inj hf]; rfl, by show Rg g r.1 t9.heap; rw [ht, ← Option.some.inj hf]; exact hP⟩, hS.F ht⟩) hS.2.2 dX7_happen_10
  | some o_3 =>
    dsimp only [csQ] at hf
    obtain ⟨ho_3, hf⟩ := grd_some hf
    refine W.eq (g2 := F0 m 4 ls [.ref (g.ad o_3)]) rfl ?_
    refine lv_astore_n (lv' := [(1, .ref (g.ad o_3)), (0, .ref (g.ad 0))]) hx hb dX7_happen_4 rfl hl (by decide) rfl (fun ls hl => ?_)
    refine lv_aload_n hx hb dX7_happen_5 rfl (lv_at hl 0 rfl) ?_
    refine lv_ifnonnull (tgt := 11) hx hb dX7_happen_6 (by decide) ?_
    refine lv_aload_n hx hb dX7_happen_11 rfl (lv_at hl 1 rfl) ?_
    refine lv_aload_n hx hb dX7_happen_12 rfl (lv_at hl 0 rfl) ?_
    refine r_get hx hb hts i_X2 hown hT hP (inP ho_3) (fs := (fsP g o_3)) (obP ho_3) rfl 7 (by decide) q131 (fun _ h9 => h9) rfl dX7_happen_13 ?_
    obtain ⟨μ_6, hc_5, hf⟩ := bnO_some hf
    refine va_callv (va_runV (As := [.int (μ o_3 7)]) (rest := []) ⟨hx, hb, hml, hown, hts⟩ (c_X7_goTo l hg μ H.size (μ o_3 7)  hc_5) (cwV 1 hts (gd_V q401 q402 q403 q41 q404) rfl rfl rfl hd_X7_goTo ⟨Nat.le_of_ble_eq_true rfl, Nat.le_of_ble_eq_true rfl⟩) ⟨Pz.blind, r_recv hT hP inW (fs := (fsW g)) (obW g) rfl, fun U hU hW => ⟨rfl, Tb.warm hW hT, by rw [hU], by rw [hU]; exact hP⟩⟩ rfl rfl hl.1 rfl (lv_room (Nat.le_of_ble_eq_true rfl)) dX7_happen_16 ⟨Nat.le_of_ble_eq_true rfl, Nat.le_of_ble_eq_true rfl⟩) hS (fun q _ h => Ag.sub rfl hS q h) (fun q h => Ag.sub rfl hS q h) (fun u9 t9 H locs ht9 hvm9 hw9 hB9 hz9 hk9 hS => ?_)
    have hP : Rg g μ_6 H := by rw [← ht9]; exact hB9
    refine lv_aload_n hx hb dX7_happen_19 rfl (lv_at hl 0 rfl) ?_
    refine lv_iconst (v := (-1)) hx hb dX7_happen_20 (by decide) ?_
    refine r_put hx hb hts i_X2 tyX2 tyX2_ok nmX2 hown hT hP hD hC hN hS (mtP ho_3) (fs := (fsP g o_3)) (obP ho_3) rfl 7 (by decide) q131 (fun _ h9 => h9) rfl (ty := .int) (x := (-1)) rfl rfl rfl (fun _ => rfl) (Nat.le_of_ble_eq_true rfl) dX7_happen_21 (fun H locs hP hS => ?_)
    obtain ⟨μ_7, eμ_7⟩ : ∃ z, put μ_6 o_3 7 (-1) = z := ⟨_, rfl⟩
    rw [eμ_7] at hP
    have hf := bnd_eq hf _ eμ_7
    refine lv_aload_n hx hb dX7_happen_24 rfl (lv_at hl 0 rfl) ?_
    refine lv_bipush (v := 8) hx hb dX7_happen_25 (by decide) ?_
    refine r_put hx hb hts i_X2 tyX2 tyX2_ok nmX2 hown hT hP hD hC hN hS (mtP ho_3) (fs := (fsP g o_3)) (obP ho_3) rfl 6 (by decide) q128 (fun _ h9 => h9) rfl (ty := .int) (x := 8) rfl rfl rfl (fun _ => rfl) (Nat.le_of_ble_eq_true rfl) dX7_happen_27 (fun H locs hP hS => ?_)
    obtain ⟨μ_8, eμ_8⟩ : ∃ z, put μ_7 o_3 6 8 = z := ⟨_, rfl⟩
    rw [eμ_8] at hP
    have hf := bnd_eq hf _ eμ_8
    refine lv_iconst (v := 0) hx hb dX7_happen_30 (by decide) ?_
    refine lv_istore_n (lv' := [(2, .int 0), (1, .ref (g.ad o_3)), (0, .ref (g.ad 0))]) hx hb dX7_happen_31 rfl hl (by decide) rfl (fun ls hl => ?_)
    exact L32 fu μ_8 lg o_3 0 _ _ _ hP hS (lv_sub hl [2, 1, 0] rfl) ho_3 hf
/-- "Sandglass$World" "runFor" "(I)I" -/
def b_X7_runFor_35 (g : Fg) (μ : Mem) (lg : Log) (x2 : Int32) (x3 : Int32) : Option (Mem × Log × Int32) := bnO (f_X7_hasEventBy g μ x2) fun r_10 => if r_10 = 0 then (bnO (f_X7_goTo g μ x2) fun μ_15 => some (μ_15, lg, x3)) else (some (μ, lg, x3))
def b_X7_runFor_9 (g : Fg) : Nat → Mem → Log → Int32 → Int32 → Option (Mem × Log × Int32)
  | 0, _, _, _, _ => none
  | n + 1, μ, lg, x2, x3 => if 400 ≤ x3 then (b_X7_runFor_35 g μ lg x2 x3) else (bnO (f_X7_hasEventBy g μ x2) fun r_2 => if r_2 = 0 then (b_X7_runFor_35 g μ lg x2 x3) else (bn3 (f_X7_happen g μ lg ) fun μ_7 lg_8 r_5 => b_X7_runFor_9 g n μ_7 lg_8 x2 (x3 + 1)))
def f_X7_runFor (g : Fg) (μ : Mem) (lg : Log) (ti : Int32) : Option (Mem × Log × Int32) := b_X7_runFor_9 g fu μ lg ((μ 0 6) + ti) 0
theorem hd_X7_runFor : yX7_runFor.cls = RX7 ∧ yX7_runFor.cls ≠ "java/lang/invoke/MethodHandle" ∧ yX7_runFor.cls ≠ "java/lang/invoke/VarHandle" ∧ (parseMethodDescriptor yX7_runFor.desc).map (fun d => d.parameters.length) = some 1 := by decide +kernel
set_option maxHeartbeats 4000000 in
set_option maxRecDepth 100000 in
theorem c_X7_runFor (l : Launch) {g : Geo} (hg : Good g) (hz : g.tz 0 = 0) (μ : Mem) (lg : Log) (sz : Nat) (ti : Int32) {r : Mem × Log × Int32} (hf : f_X7_runFor g.F μ lg ti = some r) : Met l yX7_runFor (ws_ yX7_runFor cX7_runFor 4 (some .int)) (rm_ 7 153 0 0) (Pz g [.ref (g.ad 0), .int ti] (fun H9 => H9.size = sz ∧ Rg g μ H9)) (va_Qi (fun (v : Int32) (_ : Unit) => v = r.2.2) (fun _ t => Rg g r.1 t.heap) (Ag g sz)) 0 0 (Ag g sz) := by
  refine Met.ofW (cc := cX7_runFor) (maxL := 4) (ret := (some .int)) (by decide) rfl ?_
  intro p e s m args below meth c s₁ B hml hv
  obtain ⟨rfl, hT, hsz, hP⟩ := hv
  have hx := B.exec
  have hb := B.bytes
  have hr := B.returns
  have hts : ∀ w ∈ lw_all, w.before _ s = true := fun w h => atoms_spec (ws := (ws_ yX7_runFor cX7_runFor 4 (some .int))) B.pre w (List.mem_cons_of_mem _ h)
  have hown : s.vm.findClass RX7 = some m.cls := findClass_of_methodNamed B.named
  have hlocks := B.notSynchronized
  subst hsz
  have hD := fun ν => Ag.apart hg s.heap.size ν
  have hC := hP.sh
  have hN := Ag.shr hg hP
  have hS : va_S (Ag g s.heap.size) s.heap s.heap [] := va_S.rf
  have L35 : ∀ (μ : Mem) (lg : Log) (x2 : Int32) (x3 : Int32) (H : Heap) (locs : List Loc) (ls : Array Slot), Rg g μ H → va_S (Ag g s.heap.size) s.heap H locs → lv_has ls 4 [(0, .ref (g.ad 0)), (2, .int x2), (3, .int x3)] → b_X7_runFor_35 g.F μ lg x2 x3 = some r → W p l e (headSpec (ws_ yX7_runFor cX7_runFor 4 (some .int)) (rm_ 7 153 0 0)).room s m ([.ref (g.ad 0), .int ti] : List Value).toArray below meth c H locs 0 0 (MQ below (va_Qi (fun (v : Int32) (_ : Unit) => v = r.2.2) (fun _ t => Rg g r.1 t.heap) (Ag g s.heap.size)) ([.ref (g.ad 0), .int ti] : List Value).toArray s 0 0 (Ag g s.heap.size)) (F0 m 35 ls []) := by
    intro μ lg x2 x3 H locs ls hP hS hl  hf
    unfold b_X7_runFor_35 at hf
    refine lv_aload_n hx hb dX7_runFor_35 rfl (lv_at hl 0 rfl) ?_
    refine lv_iload_n hx hb dX7_runFor_36 rfl (lv_at hl 1 rfl) ?_
    obtain ⟨r_10, hc_11, hf⟩ := bnO_some hf
    refine va_calli (va_runV (As := [.int x2]) (rest := []) ⟨hx, hb, hml, hown, hts⟩ (c_X7_hasEventBy l hg μ x2  hc_11) (cwV 1 hts (gd_V q799 q800 q801 q41 q802) rfl rfl rfl hd_X7_hasEventBy ⟨Nat.le_of_ble_eq_true rfl, Nat.le_of_ble_eq_true rfl⟩) ⟨Pz.blind, r_recv hT hP inW (fs := (fsW g)) (obW g) rfl, fun U hU hW => ⟨rfl, Tb.warm hW hT, by rw [hU]; exact hP⟩⟩ rfl rfl hl.1 rfl (lv_room (Nat.le_of_ble_eq_true rfl)) dX7_runFor_37 ⟨Nat.le_of_ble_eq_true rfl, Nat.le_of_ble_eq_true rfl⟩) hS (fun q _ h => h.elim) (fun q h => h.elim) (fun v9 u9 t9 H locs ht9 hvm9 hw9 hB9 hz9 hk9 hS => ?_)
    have hP := Rg.keep hP (fun q h => hk9 q h id)
    rw [hw9]
    refine lv_if_ne (tgt := 48) hx hb dX7_runFor_40 (by decide) (fun c_12 => ?_) (fun c_12 => ?_)
    · have hf := (if_neg c_12).symm.trans hf
      refine lv_iload_n hx hb dX7_runFor_48 rfl (lv_at hl 2 rfl) ?_
      exact W.iret (v := x3) hx hb hr (fun t9 ht hW => ⟨⟨x3, (), rfl, by show x3 = r.2.2; rw [← Option.some.inj hf], by show Rg g r.1 t9.heap; rw [ht, ← Option.some.inj hf]; exact hP⟩, hS.F ht⟩) hS.2.2 dX7_runFor_49
    · have hf := (if_pos c_12).symm.trans hf
      refine lv_aload_n hx hb dX7_runFor_43 rfl (lv_at hl 0 rfl) ?_
      refine lv_iload_n hx hb dX7_runFor_44 rfl (lv_at hl 1 rfl) ?_
      obtain ⟨μ_15, hc_14, hf⟩ := bnO_some hf
      refine va_callv (va_runV (As := [.int x2]) (rest := []) ⟨hx, hb, hml, hown, hts⟩ (c_X7_goTo l hg μ H.size x2  hc_14) (cwV 1 hts (gd_V q401 q402 q403 q41 q404) rfl rfl rfl hd_X7_goTo ⟨Nat.le_of_ble_eq_true rfl, Nat.le_of_ble_eq_true rfl⟩) ⟨Pz.blind, r_recv hT hP inW (fs := (fsW g)) (obW g) rfl, fun U hU hW => ⟨rfl, Tb.warm hW hT, by rw [hU], by rw [hU]; exact hP⟩⟩ rfl rfl hl.1 rfl (lv_room (Nat.le_of_ble_eq_true rfl)) dX7_runFor_45 ⟨Nat.le_of_ble_eq_true rfl, Nat.le_of_ble_eq_true rfl⟩) hS (fun q _ h => Ag.sub rfl hS q h) (fun q h => Ag.sub rfl hS q h) (fun u9 t9 H locs ht9 hvm9 hw9 hB9 hz9 hk9 hS => ?_)
      have hP : Rg g μ_15 H := by rw [← ht9]; exact hB9
      refine lv_iload_n hx hb dX7_runFor_48 rfl (lv_at hl 2 rfl) ?_
      exact W.iret (v := x3) hx hb hr (fun t9 ht hW => ⟨⟨x3, (), rfl, by show x3 = r.2.2; rw [← Option.some.inj hf], by show Rg g r.1 t9.heap; rw [ht, ← Option.some.inj hf]; exact hP⟩, hS.F ht⟩) hS.2.2 dX7_runFor_49
  have L9 : ∀ (n : Nat) (μ : Mem) (lg : Log) (x2 : Int32) (x3 : Int32) (H : Heap) (locs : List Loc) (ls : Array Slot), Rg g μ H → va_S (Ag g s.heap.size) s.heap H locs → lv_has ls 4 [(0, .ref (g.ad 0)), (2, .int x2), (3, .int x3)] → b_X7_runFor_9 g.F n μ lg x2 x3 = some r → W p l e (headSpec (ws_ yX7_runFor cX7_runFor 4 (some .int)) (rm_ 7 153 0 0)).room s m ([.ref (g.ad 0), .int ti] : List Value).toArray below meth c H locs 0 0 (MQ below (va_Qi (fun (v : Int32) (_ : Unit) => v = r.2.2) (fun _ t => Rg g r.1 t.heap) (Ag g s.heap.size)) ([.ref (g.ad 0), .int ti] : List Value).toArray s 0 0 (Ag g s.heap.size)) (F0 m 9 ls []) := by
    intro n
    induction n with
    | zero => intro μ lg x2 x3 H locs ls hP hS hl  hf; cases hf
    | succ n ih =>
      intro μ lg x2 x3 H locs ls hP hS hl  hf
      rw [b_X7_runFor_9] at hf
      refine lv_iload_n hx hb dX7_runFor_9 rfl (lv_at hl 2 rfl) ?_
      refine lv_sipush (v := 400) hx hb dX7_runFor_10 (by decide) ?_
      refine lv_icmp_ge (tgt := 35) hx hb dX7_runFor_13 (by decide) (fun c_1 => ?_) (fun c_1 => ?_)
      · have hf := (if_pos c_1).symm.trans hf
        exact L35 μ lg x2 x3 _ _ _ hP hS (lv_sub hl [0, 1, 2] rfl)  hf
      · have hf := (if_neg c_1).symm.trans hf
        refine lv_aload_n hx hb dX7_runFor_16 rfl (lv_at hl 0 rfl) ?_
        refine lv_iload_n hx hb dX7_runFor_17 rfl (lv_at hl 1 rfl) ?_
        obtain ⟨r_2, hc_3, hf⟩ := bnO_some hf
        refine va_calli (va_runV (As := [.int x2]) (rest := []) ⟨hx, hb, hml, hown, hts⟩ (c_X7_hasEventBy l hg μ x2  hc_3) (cwV 1 hts (gd_V q799 q800 q801 q41 q802) rfl rfl rfl hd_X7_hasEventBy ⟨Nat.le_of_ble_eq_true rfl, Nat.le_of_ble_eq_true rfl⟩) ⟨Pz.blind, r_recv hT hP inW (fs := (fsW g)) (obW g) rfl, fun U hU hW => ⟨rfl, Tb.warm hW hT, by rw [hU]; exact hP⟩⟩ rfl rfl hl.1 rfl (lv_room (Nat.le_of_ble_eq_true rfl)) dX7_runFor_18 ⟨Nat.le_of_ble_eq_true rfl, Nat.le_of_ble_eq_true rfl⟩) hS (fun q _ h => h.elim) (fun q h => h.elim) (fun v9 u9 t9 H locs ht9 hvm9 hw9 hB9 hz9 hk9 hS => ?_)
        have hP := Rg.keep hP (fun q h => hk9 q h id)
        rw [hw9]
        refine lv_if_eq (tgt := 35) hx hb dX7_runFor_21 (by decide) (fun c_4 => ?_) (fun c_4 => ?_)
        · have hf := (if_pos c_4).symm.trans hf
          exact L35 μ lg x2 x3 _ _ _ hP hS (lv_sub hl [0, 1, 2] rfl)  hf
        · have hf := (if_neg c_4).symm.trans hf
          refine lv_aload_n hx hb dX7_runFor_24 rfl (lv_at hl 0 rfl) ?_
          obtain ⟨μ_7, lg_8, r_5, hc_6, hf⟩ := bn3_some hf
          refine va_callq (va_runV (As := []) (rest := []) ⟨hx, hb, hml, hown, hts⟩ (c_X7_happen l hg hz μ lg H.size   hc_6) (cwV 0 hts (gd_V q789 q390 q391 q41 q392) rfl rfl rfl hd_X7_happen ⟨Nat.le_of_ble_eq_true rfl, Nat.le_of_ble_eq_true rfl⟩) ⟨Pz.blind, r_recv hT hP inW (fs := (fsW g)) (obW g) rfl, fun U hU hW => ⟨rfl, Tb.warm hW hT, by rw [hU], by rw [hU]; exact hP⟩⟩ rfl rfl hl.1 rfl (lv_room (Nat.le_of_ble_eq_true rfl)) dX7_runFor_25 ⟨Nat.le_of_ble_eq_true rfl, Nat.le_of_ble_eq_true rfl⟩) hS (fun q _ h => Ag.sub rfl hS q h) (fun q h => Ag.sub rfl hS q h) (fun v9 u9 t9 H locs ht9 hvm9 hw9 hB9 hz9 hk9 hS => ?_)
          have hP : Rg g μ_7 H := by rw [← ht9]; exact hB9
          rw [hw9]
          refine r_popQ hx hb dX7_runFor_28 ?_
          refine lv_iinc (v := x3 + 1) (lv' := [(3, .int (x3 + 1)), (0, .ref (g.ad 0)), (2, .int x2)]) hx hb dX7_runFor_29 hl (k := 2) rfl rfl (by decide) rfl (fun ls hl => ?_)
          refine lv_goto (tgt := 9) hx hb dX7_runFor_32 (by decide) ?_
          exact ih μ_7 lg_8 x2 (x3 + 1) _ _ _ hP hS (lv_sub hl [1, 2, 0] rfl)  hf
  have hl := lv_entry ([.ref (g.ad 0), .int ti]) (n := 4) (Nat.le_of_ble_eq_true rfl)
  rw [lg_entry_eq]
  generalize (lg_sl ([.ref (g.ad 0), .int ti]) ++ List.replicate (4 - (lg_sl ([.ref (g.ad 0), .int ti])).length) Slot.unset).toArray = ls at hl ⊢
  have hl : lv_has ls 4 [(0, .ref (g.ad 0)), (1, .int ti)] := hl
  unfold f_X7_runFor at hf
  refine lv_aload_n hx hb dX7_runFor_0 rfl (lv_at hl 0 rfl) ?_
  refine r_get hx hb hts i_X7 hown hT hP inW (fs := (fsW g)) (obW g) rfl 6 (by decide) q197 (fun _ h9 => h9) rfl dX7_runFor_1 ?_
  refine lv_iload_n hx hb dX7_runFor_4 rfl (lv_at hl 1 rfl) ?_
  refine lv_iadd hx hb dX7_runFor_5 ?_
  refine lv_istore_n (lv' := [(2, .int ((μ 0 6) + ti)), (0, .ref (g.ad 0)), (1, .int ti)]) hx hb dX7_runFor_6 rfl hl (by decide) rfl (fun ls hl => ?_)
  refine lv_iconst (v := 0) hx hb dX7_runFor_7 (by decide) ?_
  refine lv_istore_n (lv' := [(3, .int 0), (2, .int ((μ 0 6) + ti)), (0, .ref (g.ad 0)), (1, .int ti)]) hx hb dX7_runFor_8 rfl hl (by decide) rfl (fun ls hl => ?_)
  exact L9 fu μ lg ((μ 0 6) + ti) 0 _ _ _ hP hS (lv_sub hl [2, 1, 0] rfl)  hf
/-- "Sandglass$World" "runToEndOf" "(II)I" -/
def b_X7_runToEndOf_9 (g : Fg) : Nat → Mem → Log → Int32 → Option Nat → Int32 → Option (Mem × Log × Int32)
  | 0, _, _, _, _, _ => none
  | n + 1, μ, lg, x2, x3, x4 => csQ x3 (some (μ, lg, (-1))) (fun o_4 => grd (1 ≤ o_4 ∧ o_4 < 25) (if x2 ≤ x4 then (some (μ, lg, (-1))) else (bn3 (f_X7_happen g μ lg ) fun μ_8 lg_9 r_6 => bnO (f_X2_isOver g μ_8 o_4) fun r_11 => if r_11 = 0 then (b_X7_runToEndOf_9 g n μ_8 lg_9 x2 (some o_4) (x4 + 1)) else (some (μ_8, lg_9, μ_8 0 6)))))
def f_X7_runToEndOf (g : Fg) (μ : Mem) (lg : Log) (pr : Int32) (mo : Int32) : Option (Mem × Log × Int32) := bnO (f_X7_process g μ pr) fun r_1 => csQ r_1 (b_X7_runToEndOf_9 g fu μ lg mo none 0) (fun o_3 => grd (1 ≤ o_3 ∧ o_3 < 25) (b_X7_runToEndOf_9 g fu μ lg mo (some o_3) 0))
theorem hd_X7_runToEndOf : yX7_runToEndOf.cls = RX7 ∧ yX7_runToEndOf.cls ≠ "java/lang/invoke/MethodHandle" ∧ yX7_runToEndOf.cls ≠ "java/lang/invoke/VarHandle" ∧ (parseMethodDescriptor yX7_runToEndOf.desc).map (fun d => d.parameters.length) = some 2 := by decide +kernel
set_option maxHeartbeats 4000000 in
set_option maxRecDepth 100000 in
theorem c_X7_runToEndOf (l : Launch) {g : Geo} (hg : Good g) (hz : g.tz 0 = 0) (μ : Mem) (lg : Log) (sz : Nat) (pr : Int32) (mo : Int32) {r : Mem × Log × Int32} (hf : f_X7_runToEndOf g.F μ lg pr mo = some r) : Met l yX7_runToEndOf (ws_ yX7_runToEndOf cX7_runToEndOf 5 (some .int)) (rm_ 7 153 0 0) (Pz g [.ref (g.ad 0), .int pr, .int mo] (fun H9 => H9.size = sz ∧ Rg g μ H9)) (va_Qi (fun (v : Int32) (_ : Unit) => v = r.2.2) (fun _ t => Rg g r.1 t.heap) (Ag g sz)) 0 0 (Ag g sz) := by
  refine Met.ofW (cc := cX7_runToEndOf) (maxL := 5) (ret := (some .int)) (by decide) rfl ?_
  intro p e s m args below meth c s₁ B hml hv
  obtain ⟨rfl, hT, hsz, hP⟩ := hv
  have hx := B.exec
  have hb := B.bytes
  have hr := B.returns
  have hts : ∀ w ∈ lw_all, w.before _ s = true := fun w h => atoms_spec (ws := (ws_ yX7_runToEndOf cX7_runToEndOf 5 (some .int))) B.pre w (List.mem_cons_of_mem _ h)
  have hown : s.vm.findClass RX7 = some m.cls := findClass_of_methodNamed B.named
  have hlocks := B.notSynchronized
  subst hsz
  have hD := fun ν => Ag.apart hg s.heap.size ν
  have hC := hP.sh
  have hN := Ag.shr hg hP
  have hS : va_S (Ag g s.heap.size) s.heap s.heap [] := va_S.rf
  have L9 : ∀ (n : Nat) (μ : Mem) (lg : Log) (x2 : Int32) (x3 : Option Nat) (x4 : Int32) (H : Heap) (locs : List Loc) (ls : Array Slot), Rg g μ H → va_S (Ag g s.heap.size) s.heap H locs → lv_has ls 5 [(0, .ref (g.ad 0)), (2, .int x2), (3, va_rf (x3.map g.ad)), (4, .int x4)] → b_X7_runToEndOf_9 g.F n μ lg x2 x3 x4 = some r → W p l e (headSpec (ws_ yX7_runToEndOf cX7_runToEndOf 5 (some .int)) (rm_ 7 153 0 0)).room s m ([.ref (g.ad 0), .int pr, .int mo] : List Value).toArray below meth c H locs 0 0 (MQ below (va_Qi (fun (v : Int32) (_ : Unit) => v = r.2.2) (fun _ t => Rg g r.1 t.heap) (Ag g s.heap.size)) ([.ref (g.ad 0), .int pr, .int mo] : List Value).toArray s 0 0 (Ag g s.heap.size)) (F0 m 9 ls []) := by
    intro n
    induction n with
    | zero => intro μ lg x2 x3 x4 H locs ls hP hS hl  hf; cases hf
    | succ n ih =>
      intro μ lg x2 x3 x4 H locs ls hP hS hl  hf
      rw [b_X7_runToEndOf_9] at hf
      cases x3 with
      | none =>
        have hl : lv_has ls 5 [(0, .ref (g.ad 0)), (2, .int x2), (3, .null), (4, .int x4)] := hl
        dsimp only [csQ] at hf
        refine lv_aload_nN hx hb dX7_runToEndOf_9 rfl (lv_at hl 2 rfl) ?_
        refine lv_ifnullN (tgt := 42) hx hb dX7_runToEndOf_10 (by decide) ?_
        refine lv_iconst (v := (-1)) hx hb dX7_runToEndOf_42 (by decide) ?_
        exact W.iret (v := (-1)) hx hb hr (fun t9 ht hW => ⟨⟨(-1), (), rfl, by show (-1) = r.2.2; rw [← Option.some.inj hf], by show Rg g r.1 t9.heap; rw [ht, ← Option.some.inj hf]; exact hP⟩, hS.F ht⟩) hS.2.2 dX7_runToEndOf_43
      | some o_4 =>
        have hl : lv_has ls 5 [(0, .ref (g.ad 0)), (2, .int x2), (3, .ref (g.ad o_4)), (4, .int x4)] := hl
        dsimp only [csQ] at hf
        obtain ⟨ho_4, hf⟩ := grd_some hf
        refine lv_aload_n hx hb dX7_runToEndOf_9 rfl (lv_at hl 2 rfl) ?_
        refine lv_ifnull hx hb dX7_runToEndOf_10 ?_
        refine lv_iload hx hb dX7_runToEndOf_13 (lv_at hl 3 rfl) ?_
        refine lv_iload_n hx hb dX7_runToEndOf_15 rfl (lv_at hl 1 rfl) ?_
        refine lv_icmp_ge (tgt := 42) hx hb dX7_runToEndOf_16 (by decide) (fun c_5 => ?_) (fun c_5 => ?_)
        · have hf := (if_pos c_5).symm.trans hf
          refine lv_iconst (v := (-1)) hx hb dX7_runToEndOf_42 (by decide) ?_
          exact W.iret (v := (-1)) hx hb hr (fun t9 ht hW => ⟨⟨(-1), (), rfl, by show (-1) = r.2.2; rw [← Option.some.inj hf], by show Rg g r.1 t9.heap; rw [ht, ← Option.some.inj hf]; exact hP⟩, hS.F ht⟩) hS.2.2 dX7_runToEndOf_43
        · have hf := (if_neg c_5).symm.trans hf
          refine lv_aload_n hx hb dX7_runToEndOf_19 rfl (lv_at hl 0 rfl) ?_
          obtain ⟨μ_8, lg_9, r_6, hc_7, hf⟩ := bn3_some hf
          refine va_callq (va_runV (As := []) (rest := []) ⟨hx, hb, hml, hown, hts⟩ (c_X7_happen l hg hz μ lg H.size   hc_7) (cwV 0 hts (gd_V q789 q390 q391 q41 q392) rfl rfl rfl hd_X7_happen ⟨Nat.le_of_ble_eq_true rfl, Nat.le_of_ble_eq_true rfl⟩) ⟨Pz.blind, r_recv hT hP inW (fs := (fsW g)) (obW g) rfl, fun U hU hW => ⟨rfl, Tb.warm hW hT, by rw [hU], by rw [hU]; exact hP⟩⟩ rfl rfl hl.1 rfl (lv_room (Nat.le_of_ble_eq_true rfl)) dX7_runToEndOf_20 ⟨Nat.le_of_ble_eq_true rfl, Nat.le_of_ble_eq_true rfl⟩) hS (fun q _ h => Ag.sub rfl hS q h) (fun q h => Ag.sub rfl hS q h) (fun v9 u9 t9 H locs ht9 hvm9 hw9 hB9 hz9 hk9 hS => ?_)
          have hP : Rg g μ_8 H := by rw [← ht9]; exact hB9
          rw [hw9]
          refine r_popQ hx hb dX7_runToEndOf_23 ?_
          refine lv_aload_n hx hb dX7_runToEndOf_24 rfl (lv_at hl 2 rfl) ?_
          obtain ⟨r_11, hc_12, hf⟩ := bnO_some hf
          refine va_calli (va_runV (As := []) (rest := []) ⟨hx, hb, hml, hown, hts⟩ (c_X2_isOver l hg μ_8 o_4 ho_4 hc_12) (cwV 0 hts (gd_V q630 q631 q632 q42 q633) rfl rfl rfl hd_X2_isOver ⟨Nat.le_of_ble_eq_true rfl, Nat.le_of_ble_eq_true rfl⟩) ⟨Pz.blind, r_recv hT hP (inP ho_4) (fs := (fsP g o_4)) (obP ho_4) rfl, fun U hU hW => ⟨rfl, Tb.warm hW hT, by rw [hU]; exact hP⟩⟩ rfl rfl hl.1 rfl (lv_room (Nat.le_of_ble_eq_true rfl)) dX7_runToEndOf_25 ⟨Nat.le_of_ble_eq_true rfl, Nat.le_of_ble_eq_true rfl⟩) hS (fun q _ h => h.elim) (fun q h => h.elim) (fun v9 u9 t9 H locs ht9 hvm9 hw9 hB9 hz9 hk9 hS => ?_)
          have hP := Rg.keep hP (fun q h => hk9 q h id)
          rw [hw9]
          refine lv_if_eq (tgt := 36) hx hb dX7_runToEndOf_28 (by decide) (fun c_13 => ?_) (fun c_13 => ?_)
          · have hf := (if_pos c_13).symm.trans hf
            refine lv_iinc (v := x4 + 1) (lv' := [(4, .int (x4 + 1)), (0, .ref (g.ad 0)), (2, .int x2), (3, .ref (g.ad o_4))]) hx hb dX7_runToEndOf_36 hl (k := 3) rfl rfl (by decide) rfl (fun ls hl => ?_)
            refine lv_goto (tgt := 9) hx hb dX7_runToEndOf_39 (by decide) ?_
            exact ih μ_8 lg_9 x2 (some o_4) (x4 + 1) _ _ _ hP hS (lv_sub hl [1, 2, 3, 0] rfl)  hf
          · have hf := (if_neg c_13).symm.trans hf
            refine lv_aload_n hx hb dX7_runToEndOf_31 rfl (lv_at hl 0 rfl) ?_
            refine r_get hx hb hts i_X7 hown hT hP inW (fs := (fsW g)) (obW g) rfl 6 (by decide) q197 (fun _ h9 => h9) rfl dX7_runToEndOf_32 ?_
            exact W.iret (v := μ_8 0 6) hx hb hr (fun t9 ht hW => ⟨⟨μ_8 0 6, (), rfl, by show μ_8 0 6 = r.2.2; rw [← Option.some.inj hf], by show Rg g r.1 t9.heap; rw [ht, ← Option.some.inj hf]; exact hP⟩, hS.F ht⟩) hS.2.2 dX7_runToEndOf_35
  have hl := lv_entry ([.ref (g.ad 0), .int pr, .int mo]) (n := 5) (Nat.le_of_ble_eq_true rfl)
  rw [lg_entry_eq]
  generalize (lg_sl ([.ref (g.ad 0), .int pr, .int mo]) ++ List.replicate (5 - (lg_sl ([.ref (g.ad 0), .int pr, .int mo])).length) Slot.unset).toArray = ls at hl ⊢
  have hl : lv_has ls 5 [(0, .ref (g.ad 0)), (1, .int pr), (2, .int mo)] := hl
  unfold f_X7_runToEndOf at hf
  refine lv_aload_n hx hb dX7_runToEndOf_0 rfl (lv_at hl 0 rfl) ?_
  refine lv_iload_n hx hb dX7_runToEndOf_1 rfl (lv_at hl 1 rfl) ?_
  obtain ⟨r_1, hc_2, hf⟩ := bnO_some hf
  refine va_callq (va_runV (As := [.int pr]) (rest := []) ⟨hx, hb, hml, hown, hts⟩ (c_X7_process l hg μ pr  hc_2) (cwV 1 hts (gd_V q788 q652 q653 q41 q654) rfl rfl rfl hd_X7_process ⟨Nat.le_of_ble_eq_true rfl, Nat.le_of_ble_eq_true rfl⟩) ⟨Pz.blind, r_recv hT hP inW (fs := (fsW g)) (obW g) rfl, fun U hU hW => ⟨rfl, Tb.warm hW hT, by rw [hU]; exact hP⟩⟩ rfl rfl hl.1 rfl (lv_room (Nat.le_of_ble_eq_true rfl)) dX7_runToEndOf_2 ⟨Nat.le_of_ble_eq_true rfl, Nat.le_of_ble_eq_true rfl⟩) hS (fun q _ h => h.elim) (fun q h => h.elim) (fun v9 u9 t9 H locs ht9 hvm9 hw9 hB9 hz9 hk9 hS => ?_)
  have hP := Rg.keep hP (fun q h => hk9 q h id)
  rw [hw9]
  cases r_1 with
  | none =>
    dsimp only [csQ] at hf
    refine W.eq (g2 := F0 m 5 ls [.null]) rfl ?_
    refine lv_astore_nN (lv' := [(3, .null), (0, .ref (g.ad 0)), (1, .int pr), (2, .int mo)]) hx hb dX7_runToEndOf_5 rfl hl (by decide) rfl (fun ls hl => ?_)
    refine lv_iconst (v := 0) hx hb dX7_runToEndOf_6 (by decide) ?_
    refine lv_istore (lv' := [(4, .int 0), (3, .null), (0, .ref (g.ad 0)), (1, .int pr), (2, .int mo)]) hx hb dX7_runToEndOf_7 hl (by decide) rfl (fun ls hl => ?_)
    exact L9 fu μ lg mo none 0 _ _ _ hP hS (lv_sub hl [2, 4, 1, 0] rfl)  hf
  | some o_3 =>
    dsimp only [csQ] at hf
    obtain ⟨ho_3, hf⟩ := grd_some hf
    refine W.eq (g2 := F0 m 5 ls [.ref (g.ad o_3)]) rfl ?_
    refine lv_astore_n (lv' := [(3, .ref (g.ad o_3)), (0, .ref (g.ad 0)), (1, .int pr), (2, .int mo)]) hx hb dX7_runToEndOf_5 rfl hl (by decide) rfl (fun ls hl => ?_)
    refine lv_iconst (v := 0) hx hb dX7_runToEndOf_6 (by decide) ?_
    refine lv_istore (lv' := [(4, .int 0), (3, .ref (g.ad o_3)), (0, .ref (g.ad 0)), (1, .int pr), (2, .int mo)]) hx hb dX7_runToEndOf_7 hl (by decide) rfl (fun ls hl => ?_)
    exact L9 fu μ lg mo (some o_3) 0 _ _ _ hP hS (lv_sub hl [2, 4, 1, 0] rfl)  hf
