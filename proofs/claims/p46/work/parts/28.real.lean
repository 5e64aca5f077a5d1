/-! tell, obey, happen over a kernel with its tally -/
theorem tallyOne {g : Geo} {μ : Mem} {nu : Int32} (hY : g.tz 0 = 1) (h : nu = 0) : f_X7_tally g μ nu = some (some 268) := by
  subst h
  unfold f_X7_tally
  rw [hY]
  rfl
theorem pos_of {x : Int32} (h : 0 ≤ x) : ¬ x < 0 := by
  rw [Int32.le_iff_toInt_le] at h
  rw [Int32.lt_iff_toInt_lt]
  omega
/-- how obey, happen end: at most k numbers more were tallied -/
def hQ (g : Geo) (z b : Nat) (ν : Mem) (n k sz : Nat) (t : State) : Prop := ∃ X' : Tp, TI z X' (n + k) ∧ X'.1 1 = g.tz 1 ∧ Good (g.tw X') ∧ Ab (g.tw X') b ∧ Rg (g.tw X') ν t.heap ∧ Tn g g.T X' sz
theorem Tn.rf {g : Geo} {sz : Nat} : Tn g g.T g.T sz := fun k hk => Or.inl ⟨k, hk, rfl⟩
set_option maxHeartbeats 4000000 in
set_option maxRecDepth 100000 in
theorem h_X7_tell (l : Launch) {g : Geo} {z b : Nat} (hg : Good g) (hAb : Ab g b) (n : Nat) (hTI : TI z g.T n) (hn : n ≤ 1300) (μ : Mem) (sz : Nat) (x : Int32) (hx0 : ¬ x < 0) (hx1 : x ≤ 5000) : Met l yX7_tell (ws_ yX7_tell cX7_tell 3 none) (rm_ 7 154 3 523) (Pe g z b [.ref (g.ad 0), .ref (g.ad 268), .int x] (fun H9 => H9.size = sz ∧ Rg g μ H9)) (va_Qv (fun _ : Unit => True) (fun _ t => hQ g z b μ n 1 sz t) (At g sz)) 3 523 (At g sz) := by
  refine Met.ofW (cc := cX7_tell) (maxL := 3) (ret := none) (by decide) rfl ?_
  intro p e s m args below meth c s₁ B hml hv
  obtain ⟨rfl, ⟨hT, hE⟩, hsz, hP⟩ := hv
  have hx := B.exec
  have hb := B.bytes
  have hr := B.returns
  have hts : ∀ w ∈ lw_all, w.before _ s = true := fun w h => atoms_spec (ws := (ws_ yX7_tell cX7_tell 3 none)) B.pre w (List.mem_cons_of_mem _ h)
  have hown : s.vm.findClass RX7 = some m.cls := findClass_of_methodNamed B.named
  have hlocks := B.notSynchronized
  subst hsz
  have hY : g.tz 0 = 1 := hTI.1
  have hAtb := At.b hAb hY hE.2.2.1
  have hS : va_S (At g s.heap.size) s.heap s.heap [] := va_S.rf
  have hl := lv_entry ([.ref (g.ad 0), .ref (g.ad 268), .int x]) (n := 3) (Nat.le_of_ble_eq_true rfl)
  rw [lg_entry_eq]
  generalize (lg_sl ([.ref (g.ad 0), .ref (g.ad 268), .int x]) ++ List.replicate (3 - (lg_sl ([.ref (g.ad 0), .ref (g.ad 268), .int x])).length) Slot.unset).toArray = ls at hl ⊢
  have hl : lv_has ls 3 [(0, .ref (g.ad 0)), (1, .ref (g.ad 268)), (2, .int x)] := hl
  refine lv_aload_n hx hb dX7_tell_0 rfl (lv_at hl 1 rfl) ?_
  refine lv_ifnull hx hb dX7_tell_1 ?_
  refine lv_aload_n hx hb dX7_tell_4 rfl (lv_at hl 1 rfl) ?_
  refine lv_iload_n hx hb dX7_tell_5 rfl (lv_at hl 2 rfl) ?_
  refine va_callv (va_runV (As := [.int x]) (rest := []) ⟨hx, hb, hml, hown, hts⟩ (h_X6_take l (X := g.T) hg hAb μ s.heap.size n x hx0 hx1 hn hTI) (cwV 1 hts (gd_V q535 q536 q537 q54 q538) rfl rfl rfl hd_X6_take ⟨Nat.le_of_ble_eq_true rfl, Nat.le_of_ble_eq_true rfl⟩) ⟨Pe.blind, r_recv hT hP (inY (k := 268) ⟨rfl, hY⟩) (fs := (fun _ => fsY g)) (obY ⟨rfl, hY⟩) rfl, fun U hU hW => ⟨rfl, ⟨Tb.warm hW hT, Em.on hW hE (by rw [hU]; exact hS) hAtb⟩, by rw [hU], by rw [hU]; exact hP⟩⟩ rfl rfl hl.1 rfl (lv_room (Nat.le_of_ble_eq_true rfl)) dX7_tell_6 ⟨Nat.le_of_ble_eq_true rfl, Nat.le_of_ble_eq_true rfl⟩) hS (fun q _ h => At.subT (X := g.T) rfl hS rfl rfl Tk.self q h) (fun q h => At.subT (X := g.T) rfl hS rfl rfl Tk.self q h) (fun u9 t9 H locs ht9 hvm9 hw9 hB9 hz9 hk9 hS => ?_)
  exact W.vret hx hb hr (fun t8 ht hW => ⟨⟨(), rfl, trivial, by
    obtain ⟨X', a1, a2, a3, a4, a5, a6⟩ := hB9
    exact ⟨X', a1, a2, a3, a4, by rw [ht, ← ht9]; exact a5, a6⟩⟩, hS.F ht⟩) hS.2.2 dX7_tell_9
set_option maxHeartbeats 4000000 in
set_option maxRecDepth 100000 in
theorem h_X7_obey (l : Launch) {g : Geo} {z b : Nat} (hg : Good g) (hAb : Ab g b) (n : Nat) (hTI : TI z g.T n) (hn : n ≤ 1300) (μ : Mem) (lg : Log) (sz : Nat) (q : Nat) (nw : Nat) (hq : isP q) (hnw : isN g nw) {r : Mem × Log} (hf : f_X7_obey g.F μ lg q nw = some r) : Met l yX7_obey (ws_ yX7_obey cX7_obey 3 (Option.none : Option Jvm.ClassFile.FieldType)) (rm_ 8 176 3 523) (Pe g z b [.ref (g.ad 0), .ref (g.ad q), .ref (g.ad nw)] (fun H9 => H9.size = sz ∧ Rg g μ H9)) (va_Qv (fun _ : Unit => True) (fun _ t => hQ g z b r.1 n 1 sz t) (At g sz)) 3 523 (At g sz) := by
  refine Met.ofW (cc := cX7_obey) (maxL := 3) (ret := (Option.none : Option Jvm.ClassFile.FieldType)) (by decide) rfl ?_
  intro p e s m args below meth c s₁ B hml hv
  obtain ⟨rfl, ⟨hT, hE⟩, hsz, hP⟩ := hv
  have hx := B.exec
  have hb := B.bytes
  have hr := B.returns
  have hts : ∀ w ∈ lw_all, w.before _ s = true := fun w h => atoms_spec (ws := (ws_ yX7_obey cX7_obey 3 (Option.none : Option Jvm.ClassFile.FieldType))) B.pre w (List.mem_cons_of_mem _ h)
  have hown : s.vm.findClass RX7 = some m.cls := findClass_of_methodNamed B.named
  have hlocks := B.notSynchronized
  subst hsz
  have hY : g.tz 0 = 1 := hTI.1
  have hAtb := At.b hAb hY hE.2.2.1
  have hD := fun ν => At.apart (sz := s.heap.size) (X := g.T) hg hY rfl rfl Tk.self ν
  have hC := hP.sh'
  have hN := At.shr hg hY hP
  have hS : va_S (At g s.heap.size) s.heap s.heap [] := va_S.rf
  have hl := lv_entry ([.ref (g.ad 0), .ref (g.ad q), .ref (g.ad nw)]) (n := 3) (Nat.le_of_ble_eq_true rfl)
  rw [lg_entry_eq]
  generalize (lg_sl ([.ref (g.ad 0), .ref (g.ad q), .ref (g.ad nw)]) ++ List.replicate (3 - (lg_sl ([.ref (g.ad 0), .ref (g.ad q), .ref (g.ad nw)])).length) Slot.unset).toArray = ls at hl ⊢
  have hl : lv_has ls 3 [(0, .ref (g.ad 0)), (1, .ref (g.ad q)), (2, .ref (g.ad nw))] := hl
  unfold f_X7_obey at hf
  refine lv_aload_n hx hb dX7_obey_0 rfl (lv_at hl 2 rfl) ?_
  refine r_get hx hb hts i_X1 hown hT hP (inN hnw) (fs := (fun _ => fsS (g.sh nw))) (obN hnw) rfl 1 (by decide) q1118 (fun _ h9 => h9) rfl dX7_obey_1 ?_
  by_cases c_1 : (g.sh nw 1) = 0
  · have hf := (if_pos c_1).symm.trans hf
    rw [c_1]
    refine lv_tableIn (tgt := 72) hx hb dX7_obey_4 (by decide) (by decide) rfl (by decide) ?_
    refine lv_aload_n hx hb dX7_obey_72 rfl (lv_at hl 0 rfl) ?_
    refine lv_aload_n hx hb dX7_obey_73 rfl (lv_at hl 1 rfl) ?_
    refine lv_iconst (v := 1) hx hb dX7_obey_74 (by decide) ?_
    refine lv_aload_n hx hb dX7_obey_75 rfl (lv_at hl 2 rfl) ?_
    refine r_get hx hb hts i_X1 hown hT hP (inN hnw) (fs := (fun _ => fsS (g.sh nw))) (obN hnw) rfl 2 (by decide) q1120 (fun _ h9 => h9) rfl dX7_obey_76 ?_
    refine lv_aload_n hx hb dX7_obey_79 rfl (lv_at hl 2 rfl) ?_
    refine r_get hx hb hts i_X1 hown hT hP (inN hnw) (fs := (fun _ => fsS (g.sh nw))) (obN hnw) rfl 3 (by decide) q1122 (fun _ h9 => h9) rfl dX7_obey_80 ?_
    refine lv_if_ne (tgt := 90) hx hb dX7_obey_83 (by decide) (fun c_2 => ?_) (fun c_2 => ?_)
    · have hf := (if_neg c_2).symm.trans hf
      refine lv_aload_n hx hb dX7_obey_90 rfl (lv_at hl 0 rfl) ?_
      refine lv_aload_n hx hb dX7_obey_91 rfl (lv_at hl 2 rfl) ?_
      refine r_get hx hb hts i_X1 hown hT hP (inN hnw) (fs := (fun _ => fsS (g.sh nw))) (obN hnw) rfl 3 (by decide) q1122 (fun _ h9 => h9) rfl dX7_obey_92 ?_
      obtain ⟨μ_5, r_3, hc_4, hf⟩ := bn2_some hf
      refine va_calli (va_runV (As := [.int (g.sh nw 3)]) (rest := [.int (g.sh nw 2), .int 1, .ref (g.ad q), .ref (g.ad 0)]) ⟨hx, hb, hml, hown, hts⟩ (c_X7_drawBelow l hg μ s.heap.size (g.sh nw 3)  hc_4) (cwV 1 hts (gd_V q426 q428 q3 q41 q429) rfl rfl rfl hd_X7_drawBelow ⟨Nat.le_of_ble_eq_true rfl, Nat.le_of_ble_eq_true rfl⟩) ⟨Pz.blind, r_recv hT hP inW (fs := (fsW g)) (obW g) rfl, fun U hU hW => ⟨rfl, Tb.warm hW hT, by rw [hU], by rw [hU]; exact hP⟩⟩ rfl rfl hl.1 rfl (lv_room (Nat.le_of_ble_eq_true rfl)) dX7_obey_95 ⟨Nat.le_of_ble_eq_true rfl, Nat.le_of_ble_eq_true rfl⟩) hS (fun q _ h => At.sub (X := g.T) rfl hS rfl rfl q h) (fun q h => At.sub (X := g.T) rfl hS rfl rfl q h) (fun v9 u9 t9 H locs ht9 hvm9 hw9 hB9 hz9 hk9 hS => ?_)
      have hP : Rg g μ_5 H := by rw [← ht9]; exact hB9
      rw [hw9]
      refine lv_iadd hx hb dX7_obey_98 ?_
      obtain ⟨μ_8, hc_7, hf⟩ := bnO_some hf
      refine va_callv (va_runV (As := [.ref (g.ad q), .int 1, .int ((g.sh nw 2) + r_3)]) (rest := []) ⟨hx, hb, hml, hown, hts⟩ (c_X7_schedule l hg μ_5 H.size q 1 ((g.sh nw 2) + r_3) hq hc_7) (cwV 3 hts (gd_V q381 q382 q383 q41 q384) rfl rfl rfl hd_X7_schedule ⟨Nat.le_of_ble_eq_true rfl, Nat.le_of_ble_eq_true rfl⟩) ⟨Pz.blind, r_recv hT hP inW (fs := (fsW g)) (obW g) rfl, fun U hU hW => ⟨rfl, Tb.warm hW hT, by rw [hU], by rw [hU]; exact hP⟩⟩ rfl rfl hl.1 rfl (lv_room (Nat.le_of_ble_eq_true rfl)) dX7_obey_99 ⟨Nat.le_of_ble_eq_true rfl, Nat.le_of_ble_eq_true rfl⟩) hS (fun q _ h => At.sub (X := g.T) rfl hS rfl rfl q h) (fun q h => At.sub (X := g.T) rfl hS rfl rfl q h) (fun u9 t9 H locs ht9 hvm9 hw9 hB9 hz9 hk9 hS => ?_)
      have hP : Rg g μ_8 H := by rw [← ht9]; exact hB9
      refine lv_goto (tgt := 327) hx hb dX7_obey_102 (by decide) ?_
      refine W.widen (k := 3) (n := 523) (Nat.le_of_ble_eq_true rfl) (Nat.le_of_ble_eq_true rfl) ?_
      exact W.vret hx hb hr (fun t9 ht hW => ⟨⟨(), rfl, trivial, g.T, hTI.mono (Nat.le_succ _), rfl, hg, hAb, by show Rg g r.1 t9.heap; rw [ht, ← Option.some.inj hf]; exact hP, Tn.rf⟩, hS.F ht⟩) hS.2.2 dX7_obey_327
    · have hf := (if_pos c_2).symm.trans hf
      refine lv_iconst (v := 0) hx hb dX7_obey_86 (by decide) ?_
      refine lv_goto (tgt := 98) hx hb dX7_obey_87 (by decide) ?_
      refine lv_iadd hx hb dX7_obey_98 ?_
      obtain ⟨μ_11, hc_10, hf⟩ := bnO_some hf
      refine va_callv (va_runV (As := [.ref (g.ad q), .int 1, .int ((g.sh nw 2) + 0)]) (rest := []) ⟨hx, hb, hml, hown, hts⟩ (c_X7_schedule l hg μ s.heap.size q 1 ((g.sh nw 2) + 0) hq hc_10) (cwV 3 hts (gd_V q381 q382 q383 q41 q384) rfl rfl rfl hd_X7_schedule ⟨Nat.le_of_ble_eq_true rfl, Nat.le_of_ble_eq_true rfl⟩) ⟨Pz.blind, r_recv hT hP inW (fs := (fsW g)) (obW g) rfl, fun U hU hW => ⟨rfl, Tb.warm hW hT, by rw [hU], by rw [hU]; exact hP⟩⟩ rfl rfl hl.1 rfl (lv_room (Nat.le_of_ble_eq_true rfl)) dX7_obey_99 ⟨Nat.le_of_ble_eq_true rfl, Nat.le_of_ble_eq_true rfl⟩) hS (fun q _ h => At.sub (X := g.T) rfl hS rfl rfl q h) (fun q h => At.sub (X := g.T) rfl hS rfl rfl q h) (fun u9 t9 H locs ht9 hvm9 hw9 hB9 hz9 hk9 hS => ?_)
      have hP : Rg g μ_11 H := by rw [← ht9]; exact hB9
      refine lv_goto (tgt := 327) hx hb dX7_obey_102 (by decide) ?_
      refine W.widen (k := 3) (n := 523) (Nat.le_of_ble_eq_true rfl) (Nat.le_of_ble_eq_true rfl) ?_
      exact W.vret hx hb hr (fun t9 ht hW => ⟨⟨(), rfl, trivial, g.T, hTI.mono (Nat.le_succ _), rfl, hg, hAb, by show Rg g r.1 t9.heap; rw [ht, ← Option.some.inj hf]; exact hP, Tn.rf⟩, hS.F ht⟩) hS.2.2 dX7_obey_327
  have hf := (if_neg c_1).symm.trans hf
  by_cases c_12 : (g.sh nw 1) = 1
  · have hf := (if_pos c_12).symm.trans hf
    rw [c_12]
    refine lv_tableIn (tgt := 105) hx hb dX7_obey_4 (by decide) (by decide) rfl (by decide) ?_
    refine lv_aload_n hx hb dX7_obey_105 rfl (lv_at hl 0 rfl) ?_
    refine lv_aload_n hx hb dX7_obey_106 rfl (lv_at hl 1 rfl) ?_
    refine lv_aload_n hx hb dX7_obey_107 rfl (lv_at hl 0 rfl) ?_
    refine lv_aload_n hx hb dX7_obey_108 rfl (lv_at hl 2 rfl) ?_
    refine r_get hx hb hts i_X1 hown hT hP (inN hnw) (fs := (fun _ => fsS (g.sh nw))) (obN hnw) rfl 2 (by decide) q1120 (fun _ h9 => h9) rfl dX7_obey_109 ?_
    obtain ⟨r_13, hc_14, hf⟩ := bnO_some hf
    refine va_callq (va_runV (As := [.int (g.sh nw 2)]) (rest := [.ref (g.ad q), .ref (g.ad 0)]) ⟨hx, hb, hml, hown, hts⟩ (c_X7_resource l hg μ (g.sh nw 2)  hc_14) (cwV 1 hts (gd_V q430 q431 q432 q41 q433) rfl rfl rfl hd_X7_resource ⟨Nat.le_of_ble_eq_true rfl, Nat.le_of_ble_eq_true rfl⟩) ⟨Pz.blind, r_recv hT hP inW (fs := (fsW g)) (obW g) rfl, fun U hU hW => ⟨rfl, Tb.warm hW hT, by rw [hU]; exact hP⟩⟩ rfl rfl hl.1 rfl (lv_room (Nat.le_of_ble_eq_true rfl)) dX7_obey_112 ⟨Nat.le_of_ble_eq_true rfl, Nat.le_of_ble_eq_true rfl⟩) hS (fun q _ h => h.elim) (fun q h => h.elim) (fun v9 u9 t9 H locs ht9 hvm9 hw9 hB9 hz9 hk9 hS => ?_)
    have hP := Rg.keep hP (fun q h => hk9 q h id)
    rw [hw9]
    cases r_13 with
    | none =>
      dsimp only [csQ] at hf
      refine W.eq (g2 := F0 m 115 ls [.null, .ref (g.ad q), .ref (g.ad 0)]) rfl ?_
      refine lv_aload_n hx hb dX7_obey_115 rfl (lv_at hl 2 rfl) ?_
      refine r_get hx hb hts i_X1 hown hT hP (inN hnw) (fs := (fun _ => fsS (g.sh nw))) (obN hnw) rfl 3 (by decide) q1122 (fun _ h9 => h9) rfl dX7_obey_116 ?_
      obtain ⟨μ_18, hc_17, hf⟩ := bnO_some hf
      refine va_callv (va_runV (As := [.ref (g.ad q), .null, .int (g.sh nw 3)]) (rest := []) ⟨hx, hb, hml, hown, hts⟩ (c_X7_seizeN l hg μ H.size q (g.sh nw 3) hq hc_17) (cwV 3 hts (gd_V q434 q436 q4 q41 q437) rfl rfl rfl hd_X7_seizeN ⟨Nat.le_of_ble_eq_true rfl, Nat.le_of_ble_eq_true rfl⟩) ⟨Pz.blind, r_recv hT hP inW (fs := (fsW g)) (obW g) rfl, fun U hU hW => ⟨rfl, Tb.warm hW hT, by rw [hU], by rw [hU]; exact hP⟩⟩ rfl rfl hl.1 rfl (lv_room (Nat.le_of_ble_eq_true rfl)) dX7_obey_119 ⟨Nat.le_of_ble_eq_true rfl, Nat.le_of_ble_eq_true rfl⟩) hS (fun q _ h => At.sub (X := g.T) rfl hS rfl rfl q h) (fun q h => At.sub (X := g.T) rfl hS rfl rfl q h) (fun u9 t9 H locs ht9 hvm9 hw9 hB9 hz9 hk9 hS => ?_)
      have hP : Rg g μ_18 H := by rw [← ht9]; exact hB9
      refine lv_goto (tgt := 327) hx hb dX7_obey_122 (by decide) ?_
      refine W.widen (k := 3) (n := 523) (Nat.le_of_ble_eq_true rfl) (Nat.le_of_ble_eq_true rfl) ?_
      exact W.vret hx hb hr (fun t9 ht hW => ⟨⟨(), rfl, trivial, g.T, hTI.mono (Nat.le_succ _), rfl, hg, hAb, by show Rg g r.1 t9.heap; rw [ht, ← Option.some.inj hf]; exact hP, Tn.rf⟩, hS.F ht⟩) hS.2.2 dX7_obey_327
    | some o_15 =>
      dsimp only [csQ] at hf
      obtain ⟨ho_15, hf⟩ := grd_some hf
      refine W.eq (g2 := F0 m 115 ls [.ref (g.ad o_15), .ref (g.ad q), .ref (g.ad 0)]) rfl ?_
      refine lv_aload_n hx hb dX7_obey_115 rfl (lv_at hl 2 rfl) ?_
      refine r_get hx hb hts i_X1 hown hT hP (inN hnw) (fs := (fun _ => fsS (g.sh nw))) (obN hnw) rfl 3 (by decide) q1122 (fun _ h9 => h9) rfl dX7_obey_116 ?_
      obtain ⟨μ_21, hc_20, hf⟩ := bnO_some hf
      refine va_callv (va_runV (As := [.ref (g.ad q), .ref (g.ad o_15), .int (g.sh nw 3)]) (rest := []) ⟨hx, hb, hml, hown, hts⟩ (c_X7_seizeR l hg μ H.size q o_15 (g.sh nw 3) hq ho_15 hc_20) (cwV 3 hts (gd_V q434 q436 q4 q41 q437) rfl rfl rfl hd_X7_seizeR ⟨Nat.le_of_ble_eq_true rfl, Nat.le_of_ble_eq_true rfl⟩) ⟨Pz.blind, r_recv hT hP inW (fs := (fsW g)) (obW g) rfl, fun U hU hW => ⟨rfl, Tb.warm hW hT, by rw [hU], by rw [hU]; exact hP⟩⟩ rfl rfl hl.1 rfl (lv_room (Nat.le_of_ble_eq_true rfl)) dX7_obey_119 ⟨Nat.le_of_ble_eq_true rfl, Nat.le_of_ble_eq_true rfl⟩) hS (fun q _ h => At.sub (X := g.T) rfl hS rfl rfl q h) (fun q h => At.sub (X := g.T) rfl hS rfl rfl q h) (fun u9 t9 H locs ht9 hvm9 hw9 hB9 hz9 hk9 hS => ?_)
      have hP : Rg g μ_21 H := by rw [← ht9]; exact hB9
      refine lv_goto (tgt := 327) hx hb dX7_obey_122 (by decide) ?_
      refine W.widen (k := 3) (n := 523) (Nat.le_of_ble_eq_true rfl) (Nat.le_of_ble_eq_true rfl) ?_
      exact W.vret hx hb hr (fun t9 ht hW => ⟨⟨(), rfl, trivial, g.T, hTI.mono (Nat.le_succ _), rfl, hg, hAb, by show Rg g r.1 t9.heap; rw [ht, ← Option.some.inj hf]; exact hP, Tn.rf⟩, hS.F ht⟩) hS.2.2 dX7_obey_327
  have hf := (if_neg c_12).symm.trans hf
  by_cases c_22 : (g.sh nw 1) = 2
  · have hf := (if_pos c_22).symm.trans hf
    rw [c_22]
    refine lv_tableIn (tgt := 125) hx hb dX7_obey_4 (by decide) (by decide) rfl (by decide) ?_
    refine lv_aload_n hx hb dX7_obey_125 rfl (lv_at hl 0 rfl) ?_
    refine lv_aload_n hx hb dX7_obey_126 rfl (lv_at hl 1 rfl) ?_
    refine lv_aload_n hx hb dX7_obey_127 rfl (lv_at hl 0 rfl) ?_
    refine lv_aload_n hx hb dX7_obey_128 rfl (lv_at hl 2 rfl) ?_
    refine r_get hx hb hts i_X1 hown hT hP (inN hnw) (fs := (fun _ => fsS (g.sh nw))) (obN hnw) rfl 2 (by decide) q1120 (fun _ h9 => h9) rfl dX7_obey_129 ?_
    obtain ⟨r_23, hc_24, hf⟩ := bnO_some hf
    refine va_callq (va_runV (As := [.int (g.sh nw 2)]) (rest := [.ref (g.ad q), .ref (g.ad 0)]) ⟨hx, hb, hml, hown, hts⟩ (c_X7_resource l hg μ (g.sh nw 2)  hc_24) (cwV 1 hts (gd_V q430 q431 q432 q41 q433) rfl rfl rfl hd_X7_resource ⟨Nat.le_of_ble_eq_true rfl, Nat.le_of_ble_eq_true rfl⟩) ⟨Pz.blind, r_recv hT hP inW (fs := (fsW g)) (obW g) rfl, fun U hU hW => ⟨rfl, Tb.warm hW hT, by rw [hU]; exact hP⟩⟩ rfl rfl hl.1 rfl (lv_room (Nat.le_of_ble_eq_true rfl)) dX7_obey_132 ⟨Nat.le_of_ble_eq_true rfl, Nat.le_of_ble_eq_true rfl⟩) hS (fun q _ h => h.elim) (fun q h => h.elim) (fun v9 u9 t9 H locs ht9 hvm9 hw9 hB9 hz9 hk9 hS => ?_)
    have hP := Rg.keep hP (fun q h => hk9 q h id)
    rw [hw9]
    cases r_23 with
    | none =>
      dsimp only [csQ] at hf
      refine W.eq (g2 := F0 m 135 ls [.null, .ref (g.ad q), .ref (g.ad 0)]) rfl ?_
      refine lv_aload_n hx hb dX7_obey_135 rfl (lv_at hl 2 rfl) ?_
      refine r_get hx hb hts i_X1 hown hT hP (inN hnw) (fs := (fun _ => fsS (g.sh nw))) (obN hnw) rfl 3 (by decide) q1122 (fun _ h9 => h9) rfl dX7_obey_136 ?_
      obtain ⟨μ_28, hc_27, hf⟩ := bnO_some hf
      refine va_callv (va_runV (As := [.ref (g.ad q), .null, .int (g.sh nw 3)]) (rest := []) ⟨hx, hb, hml, hown, hts⟩ (c_X7_releaseN l hg μ H.size q (g.sh nw 3) hq hc_27) (cwV 3 hts (gd_V q492 q494 q14 q41 q495) rfl rfl rfl hd_X7_releaseN ⟨Nat.le_of_ble_eq_true rfl, Nat.le_of_ble_eq_true rfl⟩) ⟨Pz.blind, r_recv hT hP inW (fs := (fsW g)) (obW g) rfl, fun U hU hW => ⟨rfl, Tb.warm hW hT, by rw [hU], by rw [hU]; exact hP⟩⟩ rfl rfl hl.1 rfl (lv_room (Nat.le_of_ble_eq_true rfl)) dX7_obey_139 ⟨Nat.le_of_ble_eq_true rfl, Nat.le_of_ble_eq_true rfl⟩) hS (fun q _ h => At.sub (X := g.T) rfl hS rfl rfl q h) (fun q h => At.sub (X := g.T) rfl hS rfl rfl q h) (fun u9 t9 H locs ht9 hvm9 hw9 hB9 hz9 hk9 hS => ?_)
      have hP : Rg g μ_28 H := by rw [← ht9]; exact hB9
      refine lv_goto (tgt := 327) hx hb dX7_obey_142 (by decide) ?_
      refine W.widen (k := 3) (n := 523) (Nat.le_of_ble_eq_true rfl) (Nat.le_of_ble_eq_true rfl) ?_
      exact W.vret hx hb hr (fun t9 ht hW => ⟨⟨(), rfl, trivial, g.T, hTI.mono (Nat.le_succ _), rfl, hg, hAb, by show Rg g r.1 t9.heap; rw [ht, ← Option.some.inj hf]; exact hP, Tn.rf⟩, hS.F ht⟩) hS.2.2 dX7_obey_327
    | some o_25 =>
      dsimp only [csQ] at hf
      obtain ⟨ho_25, hf⟩ := grd_some hf
      refine W.eq (g2 := F0 m 135 ls [.ref (g.ad o_25), .ref (g.ad q), .ref (g.ad 0)]) rfl ?_
      refine lv_aload_n hx hb dX7_obey_135 rfl (lv_at hl 2 rfl) ?_
      refine r_get hx hb hts i_X1 hown hT hP (inN hnw) (fs := (fun _ => fsS (g.sh nw))) (obN hnw) rfl 3 (by decide) q1122 (fun _ h9 => h9) rfl dX7_obey_136 ?_
      obtain ⟨μ_31, hc_30, hf⟩ := bnO_some hf
      refine va_callv (va_runV (As := [.ref (g.ad q), .ref (g.ad o_25), .int (g.sh nw 3)]) (rest := []) ⟨hx, hb, hml, hown, hts⟩ (c_X7_releaseR l hg μ H.size q o_25 (g.sh nw 3) hq ho_25 hc_30) (cwV 3 hts (gd_V q492 q494 q14 q41 q495) rfl rfl rfl hd_X7_releaseR ⟨Nat.le_of_ble_eq_true rfl, Nat.le_of_ble_eq_true rfl⟩) ⟨Pz.blind, r_recv hT hP inW (fs := (fsW g)) (obW g) rfl, fun U hU hW => ⟨rfl, Tb.warm hW hT, by rw [hU], by rw [hU]; exact hP⟩⟩ rfl rfl hl.1 rfl (lv_room (Nat.le_of_ble_eq_true rfl)) dX7_obey_139 ⟨Nat.le_of_ble_eq_true rfl, Nat.le_of_ble_eq_true rfl⟩) hS (fun q _ h => At.sub (X := g.T) rfl hS rfl rfl q h) (fun q h => At.sub (X := g.T) rfl hS rfl rfl q h) (fun u9 t9 H locs ht9 hvm9 hw9 hB9 hz9 hk9 hS => ?_)
      have hP : Rg g μ_31 H := by rw [← ht9]; exact hB9
      refine lv_goto (tgt := 327) hx hb dX7_obey_142 (by decide) ?_
      refine W.widen (k := 3) (n := 523) (Nat.le_of_ble_eq_true rfl) (Nat.le_of_ble_eq_true rfl) ?_
      exact W.vret hx hb hr (fun t9 ht hW => ⟨⟨(), rfl, trivial, g.T, hTI.mono (Nat.le_succ _), rfl, hg, hAb, by show Rg g r.1 t9.heap; rw [ht, ← Option.some.inj hf]; exact hP, Tn.rf⟩, hS.F ht⟩) hS.2.2 dX7_obey_327
  have hf := (if_neg c_22).symm.trans hf
  by_cases c_32 : (g.sh nw 1) = 3
  · have hf := (if_pos c_32).symm.trans hf
    rw [c_32]
    refine lv_tableIn (tgt := 145) hx hb dX7_obey_4 (by decide) (by decide) rfl (by decide) ?_
    refine lv_aload_n hx hb dX7_obey_145 rfl (lv_at hl 0 rfl) ?_
    refine lv_aload_n hx hb dX7_obey_146 rfl (lv_at hl 1 rfl) ?_
    refine lv_aload_n hx hb dX7_obey_147 rfl (lv_at hl 0 rfl) ?_
    refine lv_aload_n hx hb dX7_obey_148 rfl (lv_at hl 2 rfl) ?_
    refine r_get hx hb hts i_X1 hown hT hP (inN hnw) (fs := (fun _ => fsS (g.sh nw))) (obN hnw) rfl 2 (by decide) q1120 (fun _ h9 => h9) rfl dX7_obey_149 ?_
    obtain ⟨r_33, hc_34, hf⟩ := bnO_some hf
    refine va_callq (va_runV (As := [.int (g.sh nw 2)]) (rest := [.ref (g.ad q), .ref (g.ad 0)]) ⟨hx, hb, hml, hown, hts⟩ (c_X7_store l hg μ (g.sh nw 2)  hc_34) (cwV 1 hts (gd_V q499 q500 q501 q41 q502) rfl rfl rfl hd_X7_store ⟨Nat.le_of_ble_eq_true rfl, Nat.le_of_ble_eq_true rfl⟩) ⟨Pz.blind, r_recv hT hP inW (fs := (fsW g)) (obW g) rfl, fun U hU hW => ⟨rfl, Tb.warm hW hT, by rw [hU]; exact hP⟩⟩ rfl rfl hl.1 rfl (lv_room (Nat.le_of_ble_eq_true rfl)) dX7_obey_152 ⟨Nat.le_of_ble_eq_true rfl, Nat.le_of_ble_eq_true rfl⟩) hS (fun q _ h => h.elim) (fun q h => h.elim) (fun v9 u9 t9 H locs ht9 hvm9 hw9 hB9 hz9 hk9 hS => ?_)
    have hP := Rg.keep hP (fun q h => hk9 q h id)
    rw [hw9]
    cases r_33 with
    | none =>
      dsimp only [csQ] at hf
      refine W.eq (g2 := F0 m 155 ls [.null, .ref (g.ad q), .ref (g.ad 0)]) rfl ?_
      refine lv_aload_n hx hb dX7_obey_155 rfl (lv_at hl 2 rfl) ?_
      refine r_get hx hb hts i_X1 hown hT hP (inN hnw) (fs := (fun _ => fsS (g.sh nw))) (obN hnw) rfl 3 (by decide) q1122 (fun _ h9 => h9) rfl dX7_obey_156 ?_
      refine lv_iconst (v := 0) hx hb dX7_obey_159 (by decide) ?_
      obtain ⟨μ_38, hc_37, hf⟩ := bnO_some hf
      refine va_callv (va_runV (As := [.ref (g.ad q), .null, .int (g.sh nw 3), .int 0]) (rest := []) ⟨hx, hb, hml, hown, hts⟩ (c_X7_exchangeN l hg μ H.size q (g.sh nw 3) 0 hq hc_37) (cwV 4 hts (gd_V q503 q505 q15 q41 q506) rfl rfl rfl hd_X7_exchangeN ⟨Nat.le_of_ble_eq_true rfl, Nat.le_of_ble_eq_true rfl⟩) ⟨Pz.blind, r_recv hT hP inW (fs := (fsW g)) (obW g) rfl, fun U hU hW => ⟨rfl, Tb.warm hW hT, by rw [hU], by rw [hU]; exact hP⟩⟩ rfl rfl hl.1 rfl (lv_room (Nat.le_of_ble_eq_true rfl)) dX7_obey_160 ⟨Nat.le_of_ble_eq_true rfl, Nat.le_of_ble_eq_true rfl⟩) hS (fun q _ h => At.sub (X := g.T) rfl hS rfl rfl q h) (fun q h => At.sub (X := g.T) rfl hS rfl rfl q h) (fun u9 t9 H locs ht9 hvm9 hw9 hB9 hz9 hk9 hS => ?_)
      have hP : Rg g μ_38 H := by rw [← ht9]; exact hB9
      refine lv_goto (tgt := 327) hx hb dX7_obey_163 (by decide) ?_
      refine W.widen (k := 3) (n := 523) (Nat.le_of_ble_eq_true rfl) (Nat.le_of_ble_eq_true rfl) ?_
      exact W.vret hx hb hr (fun t9 ht hW => ⟨⟨(), rfl, trivial, g.T, hTI.mono (Nat.le_succ _), rfl, hg, hAb, by show Rg g r.1 t9.heap; rw [ht, ← Option.some.inj hf]; exact hP, Tn.rf⟩, hS.F ht⟩) hS.2.2 dX7_obey_327
    | some o_35 =>
      dsimp only [csQ] at hf
      obtain ⟨ho_35, hf⟩ := grd_some hf
      refine W.eq (g2 := F0 m 155 ls [.ref (g.ad o_35), .ref (g.ad q), .ref (g.ad 0)]) rfl ?_
      refine lv_aload_n hx hb dX7_obey_155 rfl (lv_at hl 2 rfl) ?_
      refine r_get hx hb hts i_X1 hown hT hP (inN hnw) (fs := (fun _ => fsS (g.sh nw))) (obN hnw) rfl 3 (by decide) q1122 (fun _ h9 => h9) rfl dX7_obey_156 ?_
      refine lv_iconst (v := 0) hx hb dX7_obey_159 (by decide) ?_
      obtain ⟨μ_41, hc_40, hf⟩ := bnO_some hf
      refine va_callv (va_runV (As := [.ref (g.ad q), .ref (g.ad o_35), .int (g.sh nw 3), .int 0]) (rest := []) ⟨hx, hb, hml, hown, hts⟩ (c_X7_exchangeS l hg μ H.size q o_35 (g.sh nw 3) 0 hq ho_35 hc_40) (cwV 4 hts (gd_V q503 q505 q15 q41 q506) rfl rfl rfl hd_X7_exchangeS ⟨Nat.le_of_ble_eq_true rfl, Nat.le_of_ble_eq_true rfl⟩) ⟨Pz.blind, r_recv hT hP inW (fs := (fsW g)) (obW g) rfl, fun U hU hW => ⟨rfl, Tb.warm hW hT, by rw [hU], by rw [hU]; exact hP⟩⟩ rfl rfl hl.1 rfl (lv_room (Nat.le_of_ble_eq_true rfl)) dX7_obey_160 ⟨Nat.le_of_ble_eq_true rfl, Nat.le_of_ble_eq_true rfl⟩) hS (fun q _ h => At.sub (X := g.T) rfl hS rfl rfl q h) (fun q h => At.sub (X := g.T) rfl hS rfl rfl q h) (fun u9 t9 H locs ht9 hvm9 hw9 hB9 hz9 hk9 hS => ?_)
      have hP : Rg g μ_41 H := by rw [← ht9]; exact hB9
      refine lv_goto (tgt := 327) hx hb dX7_obey_163 (by decide) ?_
      refine W.widen (k := 3) (n := 523) (Nat.le_of_ble_eq_true rfl) (Nat.le_of_ble_eq_true rfl) ?_
      exact W.vret hx hb hr (fun t9 ht hW => ⟨⟨(), rfl, trivial, g.T, hTI.mono (Nat.le_succ _), rfl, hg, hAb, by show Rg g r.1 t9.heap; rw [ht, ← Option.some.inj hf]; exact hP, Tn.rf⟩, hS.F ht⟩) hS.2.2 dX7_obey_327
  have hf := (if_neg c_32).symm.trans hf
  by_cases c_42 : (g.sh nw 1) = 4
  · have hf := (if_pos c_42).symm.trans hf
    rw [c_42]
    refine lv_tableIn (tgt := 166) hx hb dX7_obey_4 (by decide) (by decide) rfl (by decide) ?_
    refine lv_aload_n hx hb dX7_obey_166 rfl (lv_at hl 0 rfl) ?_
    refine lv_aload_n hx hb dX7_obey_167 rfl (lv_at hl 1 rfl) ?_
    refine lv_aload_n hx hb dX7_obey_168 rfl (lv_at hl 0 rfl) ?_
    refine lv_aload_n hx hb dX7_obey_169 rfl (lv_at hl 2 rfl) ?_
    refine r_get hx hb hts i_X1 hown hT hP (inN hnw) (fs := (fun _ => fsS (g.sh nw))) (obN hnw) rfl 2 (by decide) q1120 (fun _ h9 => h9) rfl dX7_obey_170 ?_
    obtain ⟨r_43, hc_44, hf⟩ := bnO_some hf
    refine va_callq (va_runV (As := [.int (g.sh nw 2)]) (rest := [.ref (g.ad q), .ref (g.ad 0)]) ⟨hx, hb, hml, hown, hts⟩ (c_X7_store l hg μ (g.sh nw 2)  hc_44) (cwV 1 hts (gd_V q499 q500 q501 q41 q502) rfl rfl rfl hd_X7_store ⟨Nat.le_of_ble_eq_true rfl, Nat.le_of_ble_eq_true rfl⟩) ⟨Pz.blind, r_recv hT hP inW (fs := (fsW g)) (obW g) rfl, fun U hU hW => ⟨rfl, Tb.warm hW hT, by rw [hU]; exact hP⟩⟩ rfl rfl hl.1 rfl (lv_room (Nat.le_of_ble_eq_true rfl)) dX7_obey_173 ⟨Nat.le_of_ble_eq_true rfl, Nat.le_of_ble_eq_true rfl⟩) hS (fun q _ h => h.elim) (fun q h => h.elim) (fun v9 u9 t9 H locs ht9 hvm9 hw9 hB9 hz9 hk9 hS => ?_)
    have hP := Rg.keep hP (fun q h => hk9 q h id)
    rw [hw9]
    cases r_43 with
    | none =>
      dsimp only [csQ] at hf
      refine W.eq (g2 := F0 m 176 ls [.null, .ref (g.ad q), .ref (g.ad 0)]) rfl ?_
      refine lv_aload_n hx hb dX7_obey_176 rfl (lv_at hl 2 rfl) ?_
      refine r_get hx hb hts i_X1 hown hT hP (inN hnw) (fs := (fun _ => fsS (g.sh nw))) (obN hnw) rfl 3 (by decide) q1122 (fun _ h9 => h9) rfl dX7_obey_177 ?_
      refine lv_iconst (v := 1) hx hb dX7_obey_180 (by decide) ?_
      obtain ⟨μ_48, hc_47, hf⟩ := bnO_some hf
      refine va_callv (va_runV (As := [.ref (g.ad q), .null, .int (g.sh nw 3), .int 1]) (rest := []) ⟨hx, hb, hml, hown, hts⟩ (c_X7_exchangeN l hg μ H.size q (g.sh nw 3) 1 hq hc_47) (cwV 4 hts (gd_V q503 q505 q15 q41 q506) rfl rfl rfl hd_X7_exchangeN ⟨Nat.le_of_ble_eq_true rfl, Nat.le_of_ble_eq_true rfl⟩) ⟨Pz.blind, r_recv hT hP inW (fs := (fsW g)) (obW g) rfl, fun U hU hW => ⟨rfl, Tb.warm hW hT, by rw [hU], by rw [hU]; exact hP⟩⟩ rfl rfl hl.1 rfl (lv_room (Nat.le_of_ble_eq_true rfl)) dX7_obey_181 ⟨Nat.le_of_ble_eq_true rfl, Nat.le_of_ble_eq_true rfl⟩) hS (fun q _ h => At.sub (X := g.T) rfl hS rfl rfl q h) (fun q h => At.sub (X := g.T) rfl hS rfl rfl q h) (fun u9 t9 H locs ht9 hvm9 hw9 hB9 hz9 hk9 hS => ?_)
      have hP : Rg g μ_48 H := by rw [← ht9]; exact hB9
      refine lv_goto (tgt := 327) hx hb dX7_obey_184 (by decide) ?_
      refine W.widen (k := 3) (n := 523) (Nat.le_of_ble_eq_true rfl) (Nat.le_of_ble_eq_true rfl) ?_
      exact W.vret hx hb hr (fun t9 ht hW => ⟨⟨(), rfl, trivial, g.T, hTI.mono (Nat.le_succ _), rfl, hg, hAb, by show Rg g r.1 t9.heap; rw [ht, ← Option.some.inj hf]; exact hP, Tn.rf⟩, hS.F ht⟩) hS.2.2 dX7_obey_327
    | some o_45 =>
      dsimp only [csQ] at hf
      obtain ⟨ho_45, hf⟩ := grd_some hf
      refine W.eq (g2 := F0 m 176 ls [.ref (g.ad o_45), .ref (g.ad q), .ref (g.ad 0)]) rfl ?_
      refine lv_aload_n hx hb dX7_obey_176 rfl (lv_at hl 2 rfl) ?_
      refine r_get hx hb hts i_X1 hown hT hP (inN hnw) (fs := (fun _ => fsS (g.sh nw))) (obN hnw) rfl 3 (by decide) q1122 (fun _ h9 => h9) rfl dX7_obey_177 ?_
      refine lv_iconst (v := 1) hx hb dX7_obey_180 (by decide) ?_
      obtain ⟨μ_51, hc_50, hf⟩ := bnO_some hf
      refine va_callv (va_runV (As := [.ref (g.ad q), .ref (g.ad o_45), .int (g.sh nw 3), .int 1]) (rest := []) ⟨hx, hb, hml, hown, hts⟩ (c_X7_exchangeS l hg μ H.size q o_45 (g.sh nw 3) 1 hq ho_45 hc_50) (cwV 4 hts (gd_V q503 q505 q15 q41 q506) rfl rfl rfl hd_X7_exchangeS ⟨Nat.le_of_ble_eq_true rfl, Nat.le_of_ble_eq_true rfl⟩) ⟨Pz.blind, r_recv hT hP inW (fs := (fsW g)) (obW g) rfl, fun U hU hW => ⟨rfl, Tb.warm hW hT, by rw [hU], by rw [hU]; exact hP⟩⟩ rfl rfl hl.1 rfl (lv_room (Nat.le_of_ble_eq_true rfl)) dX7_obey_181 ⟨Nat.le_of_ble_eq_true rfl, Nat.le_of_ble_eq_true rfl⟩) hS (fun q _ h => At.sub (X := g.T) rfl hS rfl rfl q h) (fun q h => At.sub (X := g.T) rfl hS rfl rfl q h) (fun u9 t9 H locs ht9 hvm9 hw9 hB9 hz9 hk9 hS => ?_)
      have hP : Rg g μ_51 H := by rw [← ht9]; exact hB9
      refine lv_goto (tgt := 327) hx hb dX7_obey_184 (by decide) ?_
      refine W.widen (k := 3) (n := 523) (Nat.le_of_ble_eq_true rfl) (Nat.le_of_ble_eq_true rfl) ?_
      exact W.vret hx hb hr (fun t9 ht hW => ⟨⟨(), rfl, trivial, g.T, hTI.mono (Nat.le_succ _), rfl, hg, hAb, by show Rg g r.1 t9.heap; rw [ht, ← Option.some.inj hf]; exact hP, Tn.rf⟩, hS.F ht⟩) hS.2.2 dX7_obey_327
  have hf := (if_neg c_42).symm.trans hf
  by_cases c_52 : (g.sh nw 1) = 5
  · have hf := (if_pos c_52).symm.trans hf
    rw [c_52]
    refine lv_tableIn (tgt := 187) hx hb dX7_obey_4 (by decide) (by decide) rfl (by decide) ?_
    refine lv_aload_n hx hb dX7_obey_187 rfl (lv_at hl 0 rfl) ?_
    refine lv_bipush (v := 14) hx hb dX7_obey_188 (by decide) ?_
    refine lv_aload_n hx hb dX7_obey_190 rfl (lv_at hl 2 rfl) ?_
    refine r_get hx hb hts i_X1 hown hT hP (inN hnw) (fs := (fun _ => fsS (g.sh nw))) (obN hnw) rfl 2 (by decide) q1120 (fun _ h9 => h9) rfl dX7_obey_191 ?_
    refine lv_iadd hx hb dX7_obey_194 ?_
    obtain ⟨μ_55, hc_54, hf⟩ := bnO_some hf
    refine va_callv (va_runV (As := [.int (14 + (g.sh nw 2))]) (rest := []) ⟨hx, hb, hml, hown, hts⟩ (c_X7_wakeAll l hg μ s.heap.size (14 + (g.sh nw 2))  hc_54) (cwV 1 hts (gd_V q520 q522 q17 q41 q523) rfl rfl rfl hd_X7_wakeAll ⟨Nat.le_of_ble_eq_true rfl, Nat.le_of_ble_eq_true rfl⟩) ⟨Pz.blind, r_recv hT hP inW (fs := (fsW g)) (obW g) rfl, fun U hU hW => ⟨rfl, Tb.warm hW hT, by rw [hU], by rw [hU]; exact hP⟩⟩ rfl rfl hl.1 rfl (lv_room (Nat.le_of_ble_eq_true rfl)) dX7_obey_195 ⟨Nat.le_of_ble_eq_true rfl, Nat.le_of_ble_eq_true rfl⟩) hS (fun q _ h => At.sub (X := g.T) rfl hS rfl rfl q h) (fun q h => At.sub (X := g.T) rfl hS rfl rfl q h) (fun u9 t9 H locs ht9 hvm9 hw9 hB9 hz9 hk9 hS => ?_)
    have hP : Rg g μ_55 H := by rw [← ht9]; exact hB9
    refine lv_goto (tgt := 327) hx hb dX7_obey_198 (by decide) ?_
    refine W.widen (k := 3) (n := 523) (Nat.le_of_ble_eq_true rfl) (Nat.le_of_ble_eq_true rfl) ?_
    exact W.vret hx hb hr (fun t9 ht hW => ⟨⟨(), rfl, trivial, g.T, hTI.mono (Nat.le_succ _), rfl, hg, hAb, by show Rg g r.1 t9.heap; rw [ht, ← Option.some.inj hf]; exact hP, Tn.rf⟩, hS.F ht⟩) hS.2.2 dX7_obey_327
  have hf := (if_neg c_52).symm.trans hf
  by_cases c_56 : (g.sh nw 1) = 6
  · have hf := (if_pos c_56).symm.trans hf
    rw [c_56]
    refine lv_tableIn (tgt := 201) hx hb dX7_obey_4 (by decide) (by decide) rfl (by decide) ?_
    refine lv_aload_n hx hb dX7_obey_201 rfl (lv_at hl 0 rfl) ?_
    refine lv_aload_n hx hb dX7_obey_202 rfl (lv_at hl 1 rfl) ?_
    refine lv_bipush (v := 14) hx hb dX7_obey_203 (by decide) ?_
    refine lv_aload_n hx hb dX7_obey_205 rfl (lv_at hl 2 rfl) ?_
    refine r_get hx hb hts i_X1 hown hT hP (inN hnw) (fs := (fun _ => fsS (g.sh nw))) (obN hnw) rfl 2 (by decide) q1120 (fun _ h9 => h9) rfl dX7_obey_206 ?_
    refine lv_iadd hx hb dX7_obey_209 ?_
    refine lv_iconst (v := 4) hx hb dX7_obey_210 (by decide) ?_
    obtain ⟨μ_59, hc_58, hf⟩ := bnO_some hf
    refine va_callv (va_runV (As := [.ref (g.ad q), .int (14 + (g.sh nw 2)), .int 4]) (rest := []) ⟨hx, hb, hml, hown, hts⟩ (c_X7_enter l hg μ s.heap.size q (14 + (g.sh nw 2)) 4 hq hc_58) (cwV 3 hts (gd_V q442 q444 q6 q41 q445) rfl rfl rfl hd_X7_enter ⟨Nat.le_of_ble_eq_true rfl, Nat.le_of_ble_eq_true rfl⟩) ⟨Pz.blind, r_recv hT hP inW (fs := (fsW g)) (obW g) rfl, fun U hU hW => ⟨rfl, Tb.warm hW hT, by rw [hU], by rw [hU]; exact hP⟩⟩ rfl rfl hl.1 rfl (lv_room (Nat.le_of_ble_eq_true rfl)) dX7_obey_211 ⟨Nat.le_of_ble_eq_true rfl, Nat.le_of_ble_eq_true rfl⟩) hS (fun q _ h => At.sub (X := g.T) rfl hS rfl rfl q h) (fun q h => At.sub (X := g.T) rfl hS rfl rfl q h) (fun u9 t9 H locs ht9 hvm9 hw9 hB9 hz9 hk9 hS => ?_)
    have hP : Rg g μ_59 H := by rw [← ht9]; exact hB9
    refine lv_goto (tgt := 327) hx hb dX7_obey_214 (by decide) ?_
    refine W.widen (k := 3) (n := 523) (Nat.le_of_ble_eq_true rfl) (Nat.le_of_ble_eq_true rfl) ?_
    exact W.vret hx hb hr (fun t9 ht hW => ⟨⟨(), rfl, trivial, g.T, hTI.mono (Nat.le_succ _), rfl, hg, hAb, by show Rg g r.1 t9.heap; rw [ht, ← Option.some.inj hf]; exact hP, Tn.rf⟩, hS.F ht⟩) hS.2.2 dX7_obey_327
  have hf := (if_neg c_56).symm.trans hf
  by_cases c_60 : (g.sh nw 1) = 7
  · have hf := (if_pos c_60).symm.trans hf
    rw [c_60]
    refine lv_tableIn (tgt := 217) hx hb dX7_obey_4 (by decide) (by decide) rfl (by decide) ?_
    refine lv_aload_n hx hb dX7_obey_217 rfl (lv_at hl 0 rfl) ?_
    refine lv_aload_n hx hb dX7_obey_218 rfl (lv_at hl 0 rfl) ?_
    refine lv_aload_n hx hb dX7_obey_219 rfl (lv_at hl 2 rfl) ?_
    refine r_get hx hb hts i_X1 hown hT hP (inN hnw) (fs := (fun _ => fsS (g.sh nw))) (obN hnw) rfl 2 (by decide) q1120 (fun _ h9 => h9) rfl dX7_obey_220 ?_
    obtain ⟨r_61, hc_62, hf⟩ := bnO_some hf
    refine va_callq (va_runV (As := [.int (g.sh nw 2)]) (rest := [.ref (g.ad 0)]) ⟨hx, hb, hml, hown, hts⟩ (c_X7_script l hg μ (g.sh nw 2)  hc_62) (cwV 1 hts (gd_V q524 q322 q323 q41 q324) rfl rfl rfl hd_X7_script ⟨Nat.le_of_ble_eq_true rfl, Nat.le_of_ble_eq_true rfl⟩) ⟨Pz.blind, r_recv hT hP inW (fs := (fsW g)) (obW g) rfl, fun U hU hW => ⟨rfl, Tb.warm hW hT, by rw [hU]; exact hP⟩⟩ rfl rfl hl.1 rfl (lv_room (Nat.le_of_ble_eq_true rfl)) dX7_obey_223 ⟨Nat.le_of_ble_eq_true rfl, Nat.le_of_ble_eq_true rfl⟩) hS (fun q _ h => h.elim) (fun q h => h.elim) (fun v9 u9 t9 H locs ht9 hvm9 hw9 hB9 hz9 hk9 hS => ?_)
    have hP := Rg.keep hP (fun q h => hk9 q h id)
    rw [hw9]
    cases r_61 with
    | none =>
      dsimp only [csQ] at hf
      refine W.eq (g2 := F0 m 226 ls [.null, .ref (g.ad 0)]) rfl ?_
      refine lv_aload_n hx hb dX7_obey_226 rfl (lv_at hl 2 rfl) ?_
      refine r_get hx hb hts i_X1 hown hT hP (inN hnw) (fs := (fun _ => fsS (g.sh nw))) (obN hnw) rfl 3 (by decide) q1122 (fun _ h9 => h9) rfl dX7_obey_227 ?_
      refine lv_iconst (v := 0) hx hb dX7_obey_230 (by decide) ?_
      obtain ⟨μ_66, hc_65, hf⟩ := bnO_some hf
      refine va_callv (va_runV (As := [.null, .int (g.sh nw 3), .int 0]) (rest := []) ⟨hx, hb, hml, hown, hts⟩ (c_X7_beginN l hg μ H.size (g.sh nw 3) 0  hc_65) (cwV 3 hts (gd_V q525 q378 q379 q41 q380) rfl rfl rfl hd_X7_beginN ⟨Nat.le_of_ble_eq_true rfl, Nat.le_of_ble_eq_true rfl⟩) ⟨Pz.blind, r_recv hT hP inW (fs := (fsW g)) (obW g) rfl, fun U hU hW => ⟨rfl, Tb.warm hW hT, by rw [hU], by rw [hU]; exact hP⟩⟩ rfl rfl hl.1 rfl (lv_room (Nat.le_of_ble_eq_true rfl)) dX7_obey_231 ⟨Nat.le_of_ble_eq_true rfl, Nat.le_of_ble_eq_true rfl⟩) hS (fun q _ h => At.sub (X := g.T) rfl hS rfl rfl q h) (fun q h => At.sub (X := g.T) rfl hS rfl rfl q h) (fun u9 t9 H locs ht9 hvm9 hw9 hB9 hz9 hk9 hS => ?_)
      have hP : Rg g μ_66 H := by rw [← ht9]; exact hB9
      refine lv_goto (tgt := 327) hx hb dX7_obey_234 (by decide) ?_
      refine W.widen (k := 3) (n := 523) (Nat.le_of_ble_eq_true rfl) (Nat.le_of_ble_eq_true rfl) ?_
      exact W.vret hx hb hr (fun t9 ht hW => ⟨⟨(), rfl, trivial, g.T, hTI.mono (Nat.le_succ _), rfl, hg, hAb, by show Rg g r.1 t9.heap; rw [ht, ← Option.some.inj hf]; exact hP, Tn.rf⟩, hS.F ht⟩) hS.2.2 dX7_obey_327
    | some o_63 =>
      dsimp only [csQ] at hf
      obtain ⟨ho_63, hf⟩ := grd_some hf
      refine W.eq (g2 := F0 m 226 ls [.ref (g.ad o_63), .ref (g.ad 0)]) rfl ?_
      refine lv_aload_n hx hb dX7_obey_226 rfl (lv_at hl 2 rfl) ?_
      refine r_get hx hb hts i_X1 hown hT hP (inN hnw) (fs := (fun _ => fsS (g.sh nw))) (obN hnw) rfl 3 (by decide) q1122 (fun _ h9 => h9) rfl dX7_obey_227 ?_
      refine lv_iconst (v := 0) hx hb dX7_obey_230 (by decide) ?_
      obtain ⟨μ_69, hc_68, hf⟩ := bnO_some hf
      refine va_callv (va_runV (As := [.ref (g.ad o_63), .int (g.sh nw 3), .int 0]) (rest := []) ⟨hx, hb, hml, hown, hts⟩ (c_X7_beginC l hg μ H.size o_63 (g.sh nw 3) 0 ho_63 hc_68) (cwV 3 hts (gd_V q525 q378 q379 q41 q380) rfl rfl rfl hd_X7_beginC ⟨Nat.le_of_ble_eq_true rfl, Nat.le_of_ble_eq_true rfl⟩) ⟨Pz.blind, r_recv hT hP inW (fs := (fsW g)) (obW g) rfl, fun U hU hW => ⟨rfl, Tb.warm hW hT, by rw [hU], by rw [hU]; exact hP⟩⟩ rfl rfl hl.1 rfl (lv_room (Nat.le_of_ble_eq_true rfl)) dX7_obey_231 ⟨Nat.le_of_ble_eq_true rfl, Nat.le_of_ble_eq_true rfl⟩) hS (fun q _ h => At.sub (X := g.T) rfl hS rfl rfl q h) (fun q h => At.sub (X := g.T) rfl hS rfl rfl q h) (fun u9 t9 H locs ht9 hvm9 hw9 hB9 hz9 hk9 hS => ?_)
      have hP : Rg g μ_69 H := by rw [← ht9]; exact hB9
      refine lv_goto (tgt := 327) hx hb dX7_obey_234 (by decide) ?_
      refine W.widen (k := 3) (n := 523) (Nat.le_of_ble_eq_true rfl) (Nat.le_of_ble_eq_true rfl) ?_
      exact W.vret hx hb hr (fun t9 ht hW => ⟨⟨(), rfl, trivial, g.T, hTI.mono (Nat.le_succ _), rfl, hg, hAb, by show Rg g r.1 t9.heap; rw [ht, ← Option.some.inj hf]; exact hP, Tn.rf⟩, hS.F ht⟩) hS.2.2 dX7_obey_327
  have hf := (if_neg c_60).symm.trans hf
  by_cases c_70 : (g.sh nw 1) = 8
  · have hf := (if_pos c_70).symm.trans hf
    rw [c_70]
    refine lv_tableIn (tgt := 237) hx hb dX7_obey_4 (by decide) (by decide) rfl (by decide) ?_
    refine lv_aload_n hx hb dX7_obey_237 rfl (lv_at hl 1 rfl) ?_
    refine lv_aload_n hx hb dX7_obey_238 rfl (lv_at hl 0 rfl) ?_
    refine r_get hx hb hts i_X7 hown hT hP inW (fs := (fsW g)) (obW g) rfl 6 (by decide) q197 (fun _ h9 => h9) rfl dX7_obey_239 ?_
    refine rh_put hY hx hb hts i_X2 tyX2 tyX2_ok nmX2 hown hT hP hD hC hN hS (mtP hq) (fs := (fsP g q)) (obP hq) rfl 4 (by decide) q122 (fun _ h9 => h9) rfl (ty := .int) (x := μ 0 6) rfl rfl rfl (fun _ => rfl) (Nat.le_of_ble_eq_true rfl) dX7_obey_242 (fun H locs hP hS => ?_)
    obtain ⟨μ_71, eμ_71⟩ : ∃ z, put μ q 4 (μ 0 6) = z := ⟨_, rfl⟩
    rw [eμ_71] at hP
    have hf := bnd_eq hf _ eμ_71
    refine lv_goto (tgt := 327) hx hb dX7_obey_245 (by decide) ?_
    refine W.widen (k := 3) (n := 523) (Nat.le_of_ble_eq_true rfl) (Nat.le_of_ble_eq_true rfl) ?_
    exact W.vret hx hb hr (fun t9 ht hW => ⟨⟨(), rfl, trivial, g.T, hTI.mono (Nat.le_succ _), rfl, hg, hAb, by show Rg g r.1 t9.heap; rw [ht, ← Option.some.inj hf]; exact hP, Tn.rf⟩, hS.F ht⟩) hS.2.2 dX7_obey_327
  have hf := (if_neg c_70).symm.trans hf
  by_cases c_72 : (g.sh nw 1) = 9
  · have hf := (if_pos c_72).symm.trans hf
    rw [c_72]
    refine lv_tableIn (tgt := 248) hx hb dX7_obey_4 (by decide) (by decide) rfl (by decide) ?_
    refine lv_aload_n hx hb dX7_obey_248 rfl (lv_at hl 0 rfl) ?_
    refine lv_aload_n hx hb dX7_obey_249 rfl (lv_at hl 0 rfl) ?_
    refine lv_aload_n hx hb dX7_obey_250 rfl (lv_at hl 2 rfl) ?_
    refine r_get hx hb hts i_X1 hown hT hP (inN hnw) (fs := (fun _ => fsS (g.sh nw))) (obN hnw) rfl 2 (by decide) q1120 (fun _ h9 => h9) rfl dX7_obey_251 ?_
    obtain ⟨hgd, hf⟩ := grd_some hf
    refine va_callq (va_runV (As := [.int (g.sh nw 2)]) (rest := [.ref (g.ad 0)]) ⟨hx, hb, hml, hown, hts⟩ (c_X7_tally l hg μ (g.sh nw 2) (tallyOne hY hgd.1)) (cwV 1 hts (gd_V q526 q527 q528 q41 q529) rfl rfl rfl hd_X7_tally ⟨Nat.le_of_ble_eq_true rfl, Nat.le_of_ble_eq_true rfl⟩) ⟨Pz.blind, r_recv hT hP inW (fs := (fsW g)) (obW g) rfl, fun U hU hW => ⟨rfl, Tb.warm hW hT, by rw [hU]; exact hP⟩⟩ rfl rfl hl.1 rfl (lv_room (Nat.le_of_ble_eq_true rfl)) dX7_obey_254 ⟨Nat.le_of_ble_eq_true rfl, Nat.le_of_ble_eq_true rfl⟩) hS (fun q _ h => h.elim) (fun q h => h.elim) (fun v9 u9 t9 H locs ht9 hvm9 hw9 hB9 hz9 hk9 hS => ?_)
    have hP := Rg.keep hP (fun q h => hk9 q h id)
    rw [hw9]
    refine W.eq (g2 := F0 m 257 ls [.ref (g.ad 268), .ref (g.ad 0)]) rfl ?_
    refine lv_aload_n hx hb dX7_obey_257 rfl (lv_at hl 0 rfl) ?_
    refine r_get hx hb hts i_X7 hown hT hP inW (fs := (fsW g)) (obW g) rfl 6 (by decide) q197 (fun _ h9 => h9) rfl dX7_obey_258 ?_
    refine lv_aload_n hx hb dX7_obey_261 rfl (lv_at hl 1 rfl) ?_
    refine r_get hx hb hts i_X2 hown hT hP (inP hq) (fs := (fsP g q)) (obP hq) rfl 4 (by decide) q122 (fun _ h9 => h9) rfl dX7_obey_262 ?_
    refine lv_isub hx hb dX7_obey_265 ?_
    have hS8 := hS.1
    refine va_callv (va_runV (As := [.ref (g.ad 268), .int ((μ 0 6) - (μ q 4))]) (rest := []) ⟨hx, hb, hml, hown, hts⟩ (h_X7_tell l hg hAb n hTI hn μ H.size ((μ 0 6) - (μ q 4)) (pos_of hgd.2.1) hgd.2.2) (cwV 2 hts (gd_V q531 q533 q18 q41 q534) rfl rfl rfl hd_X7_tellN ⟨Nat.le_of_ble_eq_true rfl, Nat.le_of_ble_eq_true rfl⟩) ⟨Pe.blind, r_recv hT hP inW (fs := (fsW g)) (obW g) rfl, fun U hU hW => ⟨rfl, ⟨Tb.warm hW hT, Em.on hW hE (by rw [hU]; exact hS) hAtb⟩, by rw [hU], by rw [hU]; exact hP⟩⟩ rfl rfl hl.1 rfl (lv_room (Nat.le_of_ble_eq_true rfl)) dX7_obey_266 ⟨Nat.le_of_ble_eq_true rfl, Nat.le_of_ble_eq_true rfl⟩) hS (fun q _ h => At.subT (X := g.T) rfl hS rfl rfl Tk.self q h) (fun q h => At.subT (X := g.T) rfl hS rfl rfl Tk.self q h) (fun u9 t9 H locs ht9 hvm9 hw9 hB9 hz9 hk9 hS => ?_)
    obtain ⟨lg_73, elg_73⟩ : ∃ z, lg ++ [(g.sh nw 2, (μ 0 6) - (μ q 4))] = z := ⟨_, rfl⟩
    have hf := bnd_eq hf _ elg_73
    refine lv_goto (tgt := 327) hx hb dX7_obey_269 (by decide) ?_
    exact W.vret hx hb hr (fun t8 ht hW => ⟨⟨(), rfl, trivial, by
      obtain ⟨X', a1, a2, a3, a4, a5, a6⟩ := hB9
      exact ⟨X', a1, a2, a3, a4, by rw [ht, ← ht9, ← Option.some.inj hf]; exact a5, fun k hk => by
        rcases a6 k hk with h9 | h9
        · exact Or.inl h9
        · exact Or.inr (Nat.le_trans hS8 h9)⟩⟩, hS.F ht⟩) hS.2.2 dX7_obey_327
  have hf := (if_neg c_72).symm.trans hf
  by_cases c_74 : (g.sh nw 1) = 10
  · have hf := (if_pos c_74).symm.trans hf
    rw [c_74]
    refine lv_tableIn (tgt := 272) hx hb dX7_obey_4 (by decide) (by decide) rfl (by decide) ?_
    refine lv_aload_n hx hb dX7_obey_272 rfl (lv_at hl 0 rfl) ?_
    refine lv_aload_n hx hb dX7_obey_273 rfl (lv_at hl 1 rfl) ?_
    refine lv_aload_n hx hb dX7_obey_274 rfl (lv_at hl 2 rfl) ?_
    obtain ⟨μ_77, hc_76, hf⟩ := bnO_some hf
    refine va_callv (va_runV (As := [.ref (g.ad q), .ref (g.ad nw)]) (rest := []) ⟨hx, hb, hml, hown, hts⟩ (c_X7_goAgain l hg μ s.heap.size q nw hq hnw hc_76) (cwV 2 hts (gd_V q622 q624 q23 q41 q625) rfl rfl rfl hd_X7_goAgain ⟨Nat.le_of_ble_eq_true rfl, Nat.le_of_ble_eq_true rfl⟩) ⟨Pz.blind, r_recv hT hP inW (fs := (fsW g)) (obW g) rfl, fun U hU hW => ⟨rfl, Tb.warm hW hT, by rw [hU], by rw [hU]; exact hP⟩⟩ rfl rfl hl.1 rfl (lv_room (Nat.le_of_ble_eq_true rfl)) dX7_obey_275 ⟨Nat.le_of_ble_eq_true rfl, Nat.le_of_ble_eq_true rfl⟩) hS (fun q _ h => At.sub (X := g.T) rfl hS rfl rfl q h) (fun q h => At.sub (X := g.T) rfl hS rfl rfl q h) (fun u9 t9 H locs ht9 hvm9 hw9 hB9 hz9 hk9 hS => ?_)
    have hP : Rg g μ_77 H := by rw [← ht9]; exact hB9
    refine lv_goto (tgt := 327) hx hb dX7_obey_278 (by decide) ?_
    refine W.widen (k := 3) (n := 523) (Nat.le_of_ble_eq_true rfl) (Nat.le_of_ble_eq_true rfl) ?_
    exact W.vret hx hb hr (fun t9 ht hW => ⟨⟨(), rfl, trivial, g.T, hTI.mono (Nat.le_succ _), rfl, hg, hAb, by show Rg g r.1 t9.heap; rw [ht, ← Option.some.inj hf]; exact hP, Tn.rf⟩, hS.F ht⟩) hS.2.2 dX7_obey_327
  have hf := (if_neg c_74).symm.trans hf
  by_cases c_78 : (g.sh nw 1) = 11
  · have hf := (if_pos c_78).symm.trans hf
    rw [c_78]
    refine lv_tableIn (tgt := 281) hx hb dX7_obey_4 (by decide) (by decide) rfl (by decide) ?_
    refine lv_aload_n hx hb dX7_obey_281 rfl (lv_at hl 0 rfl) ?_
    refine lv_aload_n hx hb dX7_obey_282 rfl (lv_at hl 1 rfl) ?_
    refine lv_iconst (v := 1) hx hb dX7_obey_283 (by decide) ?_
    refine lv_aload_n hx hb dX7_obey_284 rfl (lv_at hl 1 rfl) ?_
    refine r_get hx hb hts i_X2 hown hT hP (inP hq) (fs := (fsP g q)) (obP hq) rfl 5 (by decide) q125 (fun _ h9 => h9) rfl dX7_obey_285 ?_
    obtain ⟨μ_81, hc_80, hf⟩ := bnO_some hf
    refine va_callv (va_runV (As := [.ref (g.ad q), .int 1, .int (μ q 5)]) (rest := []) ⟨hx, hb, hml, hown, hts⟩ (c_X7_schedule l hg μ s.heap.size q 1 (μ q 5) hq hc_80) (cwV 3 hts (gd_V q381 q382 q383 q41 q384) rfl rfl rfl hd_X7_schedule ⟨Nat.le_of_ble_eq_true rfl, Nat.le_of_ble_eq_true rfl⟩) ⟨Pz.blind, r_recv hT hP inW (fs := (fsW g)) (obW g) rfl, fun U hU hW => ⟨rfl, Tb.warm hW hT, by rw [hU], by rw [hU]; exact hP⟩⟩ rfl rfl hl.1 rfl (lv_room (Nat.le_of_ble_eq_true rfl)) dX7_obey_288 ⟨Nat.le_of_ble_eq_true rfl, Nat.le_of_ble_eq_true rfl⟩) hS (fun q _ h => At.sub (X := g.T) rfl hS rfl rfl q h) (fun q h => At.sub (X := g.T) rfl hS rfl rfl q h) (fun u9 t9 H locs ht9 hvm9 hw9 hB9 hz9 hk9 hS => ?_)
    have hP : Rg g μ_81 H := by rw [← ht9]; exact hB9
    refine lv_aload_n hx hb dX7_obey_291 rfl (lv_at hl 1 rfl) ?_
    refine lv_iconst (v := 0) hx hb dX7_obey_292 (by decide) ?_
    refine rh_put hY hx hb hts i_X2 tyX2 tyX2_ok nmX2 hown hT hP hD hC hN hS (mtP hq) (fs := (fsP g q)) (obP hq) rfl 5 (by decide) q125 (fun _ h9 => h9) rfl (ty := .int) (x := 0) rfl rfl rfl (fun _ => rfl) (Nat.le_of_ble_eq_true rfl) dX7_obey_293 (fun H locs hP hS => ?_)
    obtain ⟨μ_82, eμ_82⟩ : ∃ z, put μ_81 q 5 0 = z := ⟨_, rfl⟩
    rw [eμ_82] at hP
    have hf := bnd_eq hf _ eμ_82
    refine lv_goto (tgt := 327) hx hb dX7_obey_296 (by decide) ?_
    refine W.widen (k := 3) (n := 523) (Nat.le_of_ble_eq_true rfl) (Nat.le_of_ble_eq_true rfl) ?_
    exact W.vret hx hb hr (fun t9 ht hW => ⟨⟨(), rfl, trivial, g.T, hTI.mono (Nat.le_succ _), rfl, hg, hAb, by show Rg g r.1 t9.heap; rw [ht, ← Option.some.inj hf]; exact hP, Tn.rf⟩, hS.F ht⟩) hS.2.2 dX7_obey_327
  have hf := (if_neg c_78).symm.trans hf
  by_cases c_83 : (g.sh nw 1) = 12
  · have hf := (if_pos c_83).symm.trans hf
    rw [c_83]
    refine lv_tableIn (tgt := 299) hx hb dX7_obey_4 (by decide) (by decide) rfl (by decide) ?_
    refine lv_aload_n hx hb dX7_obey_299 rfl (lv_at hl 1 rfl) ?_
    refine lv_aload_n hx hb dX7_obey_300 rfl (lv_at hl 2 rfl) ?_
    refine r_get hx hb hts i_X1 hown hT hP (inN hnw) (fs := (fun _ => fsS (g.sh nw))) (obN hnw) rfl 2 (by decide) q1120 (fun _ h9 => h9) rfl dX7_obey_301 ?_
    refine rh_put hY hx hb hts i_X2 tyX2 tyX2_ok nmX2 hown hT hP hD hC hN hS (mtP hq) (fs := (fsP g q)) (obP hq) rfl 2 (by decide) q116 (fun _ h9 => h9) rfl (ty := .int) (x := g.sh nw 2) rfl rfl rfl (fun _ => rfl) (Nat.le_of_ble_eq_true rfl) dX7_obey_304 (fun H locs hP hS => ?_)
    obtain ⟨μ_84, eμ_84⟩ : ∃ z, put μ q 2 (g.sh nw 2) = z := ⟨_, rfl⟩
    rw [eμ_84] at hP
    have hf := bnd_eq hf _ eμ_84
    refine lv_goto (tgt := 327) hx hb dX7_obey_307 (by decide) ?_
    refine W.widen (k := 3) (n := 523) (Nat.le_of_ble_eq_true rfl) (Nat.le_of_ble_eq_true rfl) ?_
    exact W.vret hx hb hr (fun t9 ht hW => ⟨⟨(), rfl, trivial, g.T, hTI.mono (Nat.le_succ _), rfl, hg, hAb, by show Rg g r.1 t9.heap; rw [ht, ← Option.some.inj hf]; exact hP, Tn.rf⟩, hS.F ht⟩) hS.2.2 dX7_obey_327
  have hf := (if_neg c_83).symm.trans hf
  refine lv_tableOut (tgt := 310) hx hb dX7_obey_4 (sw_out13 c_1 c_12 c_22 c_32 c_42 c_52 c_56 c_60 c_70 c_72 c_74 c_78 c_83) (by decide) ?_
  refine lv_aload_n hx hb dX7_obey_310 rfl (lv_at hl 0 rfl) ?_
  refine lv_aload_n hx hb dX7_obey_311 rfl (lv_at hl 1 rfl) ?_
  refine lv_aload_n hx hb dX7_obey_312 rfl (lv_at hl 0 rfl) ?_
  refine lv_aload_n hx hb dX7_obey_313 rfl (lv_at hl 2 rfl) ?_
  refine r_get hx hb hts i_X1 hown hT hP (inN hnw) (fs := (fun _ => fsS (g.sh nw))) (obN hnw) rfl 2 (by decide) q1120 (fun _ h9 => h9) rfl dX7_obey_314 ?_
  obtain ⟨r_85, hc_86, hf⟩ := bnO_some hf
  refine va_callq (va_runV (As := [.int (g.sh nw 2)]) (rest := [.ref (g.ad q), .ref (g.ad 0)]) ⟨hx, hb, hml, hown, hts⟩ (c_X7_store l hg μ (g.sh nw 2)  hc_86) (cwV 1 hts (gd_V q499 q500 q501 q41 q502) rfl rfl rfl hd_X7_store ⟨Nat.le_of_ble_eq_true rfl, Nat.le_of_ble_eq_true rfl⟩) ⟨Pz.blind, r_recv hT hP inW (fs := (fsW g)) (obW g) rfl, fun U hU hW => ⟨rfl, Tb.warm hW hT, by rw [hU]; exact hP⟩⟩ rfl rfl hl.1 rfl (lv_room (Nat.le_of_ble_eq_true rfl)) dX7_obey_317 ⟨Nat.le_of_ble_eq_true rfl, Nat.le_of_ble_eq_true rfl⟩) hS (fun q _ h => h.elim) (fun q h => h.elim) (fun v9 u9 t9 H locs ht9 hvm9 hw9 hB9 hz9 hk9 hS => ?_)
  have hP := Rg.keep hP (fun q h => hk9 q h id)
  rw [hw9]
  cases r_85 with
  | none =>
    dsimp only [csQ] at hf
    refine W.eq (g2 := F0 m 320 ls [.null, .ref (g.ad q), .ref (g.ad 0)]) rfl ?_
    refine lv_aload_n hx hb dX7_obey_320 rfl (lv_at hl 2 rfl) ?_
    refine r_get hx hb hts i_X1 hown hT hP (inN hnw) (fs := (fun _ => fsS (g.sh nw))) (obN hnw) rfl 3 (by decide) q1122 (fun _ h9 => h9) rfl dX7_obey_321 ?_
    obtain ⟨μ_90, hc_89, hf⟩ := bnO_some hf
    refine va_callv (va_runV (As := [.ref (g.ad q), .null, .int (g.sh nw 3)]) (rest := []) ⟨hx, hb, hml, hown, hts⟩ (c_X7_skipN l hg μ H.size q (g.sh nw 3) hq hc_89) (cwV 3 hts (gd_V q626 q628 q24 q41 q629) rfl rfl rfl hd_X7_skipN ⟨Nat.le_of_ble_eq_true rfl, Nat.le_of_ble_eq_true rfl⟩) ⟨Pz.blind, r_recv hT hP inW (fs := (fsW g)) (obW g) rfl, fun U hU hW => ⟨rfl, Tb.warm hW hT, by rw [hU], by rw [hU]; exact hP⟩⟩ rfl rfl hl.1 rfl (lv_room (Nat.le_of_ble_eq_true rfl)) dX7_obey_324 ⟨Nat.le_of_ble_eq_true rfl, Nat.le_of_ble_eq_true rfl⟩) hS (fun q _ h => At.sub (X := g.T) rfl hS rfl rfl q h) (fun q h => At.sub (X := g.T) rfl hS rfl rfl q h) (fun u9 t9 H locs ht9 hvm9 hw9 hB9 hz9 hk9 hS => ?_)
    have hP : Rg g μ_90 H := by rw [← ht9]; exact hB9
    refine W.widen (k := 3) (n := 523) (Nat.le_of_ble_eq_true rfl) (Nat.le_of_ble_eq_true rfl) ?_
    exact W.vret hx hb hr (fun t9 ht hW => ⟨⟨(), rfl, trivial, g.T, hTI.mono (Nat.le_succ _), rfl, hg, hAb, by show Rg g r.1 t9.heap; rw [ht, ← Option.some.inj hf]; exact hP, Tn.rf⟩, hS.F ht⟩) hS.2.2 dX7_obey_327
  | some o_87 =>
    dsimp only [csQ] at hf
    obtain ⟨ho_87, hf⟩ := grd_some hf
    refine W.eq (g2 := F0 m 320 ls [.ref (g.ad o_87), .ref (g.ad q), .ref (g.ad 0)]) rfl ?_
    refine lv_aload_n hx hb dX7_obey_320 rfl (lv_at hl 2 rfl) ?_
    refine r_get hx hb hts i_X1 hown hT hP (inN hnw) (fs := (fun _ => fsS (g.sh nw))) (obN hnw) rfl 3 (by decide) q1122 (fun _ h9 => h9) rfl dX7_obey_321 ?_
    obtain ⟨μ_93, hc_92, hf⟩ := bnO_some hf
    refine va_callv (va_runV (As := [.ref (g.ad q), .ref (g.ad o_87), .int (g.sh nw 3)]) (rest := []) ⟨hx, hb, hml, hown, hts⟩ (c_X7_skipS l hg μ H.size q o_87 (g.sh nw 3) hq ho_87 hc_92) (cwV 3 hts (gd_V q626 q628 q24 q41 q629) rfl rfl rfl hd_X7_skipS ⟨Nat.le_of_ble_eq_true rfl, Nat.le_of_ble_eq_true rfl⟩) ⟨Pz.blind, r_recv hT hP inW (fs := (fsW g)) (obW g) rfl, fun U hU hW => ⟨rfl, Tb.warm hW hT, by rw [hU], by rw [hU]; exact hP⟩⟩ rfl rfl hl.1 rfl (lv_room (Nat.le_of_ble_eq_true rfl)) dX7_obey_324 ⟨Nat.le_of_ble_eq_true rfl, Nat.le_of_ble_eq_true rfl⟩) hS (fun q _ h => At.sub (X := g.T) rfl hS rfl rfl q h) (fun q h => At.sub (X := g.T) rfl hS rfl rfl q h) (fun u9 t9 H locs ht9 hvm9 hw9 hB9 hz9 hk9 hS => ?_)
    have hP : Rg g μ_93 H := by rw [← ht9]; exact hB9
    refine W.widen (k := 3) (n := 523) (Nat.le_of_ble_eq_true rfl) (Nat.le_of_ble_eq_true rfl) ?_
    exact W.vret hx hb hr (fun t9 ht hW => ⟨⟨(), rfl, trivial, g.T, hTI.mono (Nat.le_succ _), rfl, hg, hAb, by show Rg g r.1 t9.heap; rw [ht, ← Option.some.inj hf]; exact hP, Tn.rf⟩, hS.F ht⟩) hS.2.2 dX7_obey_327
