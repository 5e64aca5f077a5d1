/-! the law's loop: what is asked last, whether all is sound -/
theorem Psnd.blind {g : Geo} {sz au ar : Nat} {un ro : Nat → Int32} {μ : Mem} {av : List Value} : FrameBlind (va_Pc av (fun U => Tb g U ∧ U.heap.size = sz ∧ Rg g μ U.heap ∧ va_P g.D vwCl [(au, .inl (g.cy 0, 2, .inl un))] U.heap ∧ va_P g.D vwCl [(ar, .inl (g.cy 0, 2, .inl ro))] U.heap)) := fun _ _ _ _ h => ⟨h.1, Tb.call h.2.1, h.2.2⟩
set_option maxHeartbeats 8000000 in
set_option maxRecDepth 100000 in
theorem law_c6 (l : Launch) {z : Nat} {D : va_G} {cy : Nat → ClassId} {bs L : Nat} {xs : Nat → Int32} (hL : L ≤ 260) {p : Program} {e9 : Env} {s : State} {m : MethodId} {below : List Frame} {meth : Method} {c : Code} {Qx : State → Prop} (hx : p.tables.exec = Jvm.exec) (hb : c.code = code) (hml : c.maxLocals = 14) (hts : ∀ w ∈ lw_all, w.before #[Value.ref bs] s = true) (hown : s.vm.findClass RL = some m.cls) (hT : T3 D (tysB cy) s) (hE : Em D z s.heap.size (cy 2) s) (hX : Tx s) (hXs : va_X bs L xs s s.heap) (hbl : bs < s.heap.size) {g0 g : Geo} {X : Tp} {K : Kx} {T N : Int} {μ κ : Mem} {cs : va_W} {fa sn sim k n : Nat} {xv : Int32} (hTb : Tb (g0.tw X) s) (hfa : (g0.tw X).ad 272 = fa) (hC : Cfg (g0.tw X).F K) (hz0 : (g0.tw X).sz 0 = 2) (hI : Inv (g0.tw X).F K (fun _ => False) 99 T N κ) (hT5 : T + 40 ≤ 5000) (hTI : TI z X n) (hn : n ≤ 1300) (hz1 : (g0.tw X).sz 1 = 2) {un ro : Nat} {fs : List Value} {fu fr : Nat → Int32} (hf3 : fs[3]? = some (.ref un)) (hf5 : fs[5]? = some (.ref ro)) (hcs : cs = [(sim, .inr (10, fs)), (un, .inl ((g0.tw X).cy 0, 2, .inl fu)), (ro, .inl ((g0.tw X).cy 0, 2, .inl fr))]) (hun : ∀ r, r < 2 → fu r = K.2.1 r) (hro : ∀ r, r < 2 → fr r = K.2.2 r) {c9 s9 : Nat} (hc9 : c9 ≤ 500000) (hs9 : s9 ≤ 7000000) {dg : Int64} {bz : Int32} {dv : UInt64} (hdg : f_X8_digest (g0.tw X) κ = some dg) (hdv : fp_nn dv) (hk : k < 30) {H : Heap} {locs : List Loc} {ls : Array Slot} (hLW : LW s.heap.size (g0.tw X) g κ μ cs H) (hS : va_S (fun q => s.heap.size ≤ q) s.heap H locs) (hl : lv_has ls 14 [(13, .int bz), (11, .long dg), (5, .int xv), (4, .int (nI k)), (3, .ref sim), (2, .int (nI sn)), (1, .ref fa), (0, .ref bs)])
    (kont : ∀ (H : Heap) (locs : List Loc) (ls : Array Slot), LW s.heap.size (g0.tw X) g κ μ cs H → va_S (fun q => s.heap.size ≤ q) s.heap H locs → lv_has ls 14 [(4, .int (nI (k + 1))), (3, .ref sim), (2, .int (nI sn)), (1, .ref fa), (0, .ref bs)] → W p l e9 room_1 s m #[Value.ref bs] below meth c H locs (c9 + 1) (s9 + 8) Qx (F0 m 231 ls [])) : W p l e9 room_1 s m #[Value.ref bs] below meth c H locs c9 s9 Qx (F0 m 612 ls [.double dv]) := by
  subst hcs
  generalize hAe : (fun q : Nat => s.heap.size ≤ q) = A at kont hS
  have hA : ∀ q : Nat, s.heap.size ≤ q → A q := fun q h => by rw [← hAe]; exact h
  have htf := ti_facts hTI hn
  have hlc : lg_cmp dg dg = 0 := (lg_cmp_eq dg dg).mpr rfl
  refine lv_dconst0 hx hb dL_law_612 ?_
  refine lv_dcmp hx hb dL_law_613 ?_
  refine lv_if_lt (tgt := 670) hx hb dL_law_614 (by decide) (fun h8 => absurd h8 (fp_cmpv hdv)) (fun _ => ?_)
  refine lv_aload_n hx hb dL_law_617 rfl (lv_at hl 6 rfl) ?_
  refine lv_iconst (v := 0) hx hb dL_law_618 (by decide) ?_
  refine va_calli (va_runV (As := [.int 0]) (rest := []) ⟨hx, hb, hml, hown, hts⟩ (c_X8_tallied l hLW.1.1 hLW.2.2.2.2.2.1 κ 0 (t_tallied hLW.2.2.2.2.1)) (cwV 1 hts (gd_V q720 q721 q722 q37 q723) rfl rfl rfl hd_X8_tallied ⟨Nat.le_of_ble_eq_true rfl, Nat.le_of_ble_eq_true rfl⟩) ⟨Pz.blind, rcvL hTb hLW hfa, fun U hU hW => ⟨by rw [hfa], Tb.warm hW hTb, by rw [hU]; exact hLW.1.2.2⟩⟩ rfl rfl hl.1 rfl (lv_room (Nat.le_of_ble_eq_true rfl)) dL_law_619 ⟨by show _ ≤ 600104; omega, by show _ ≤ 7301314; omega⟩) hS (fun q _ h => h.elim) (fun q h => h.elim) (fun v9 u9 t9 H locs ht9 hvm9 hw9 hB9 hz9 hk9 hS => ?_)
  have hLW := LW.keep hLW (fun q h => hk9 q h id)
  rw [hw9]
  clear hw9 hB9 ht9 hz9 hk9
  refine lv_aload_n hx hb dL_law_622 rfl (lv_at hl 6 rfl) ?_
  refine lv_iconst (v := 0) hx hb dL_law_623 (by decide) ?_
  refine va_calli (va_runV (As := [.int 0]) (rest := [.int ((g0.tw X).ts 1000 1)]) ⟨hx, hb, hml, hown, hts⟩ (c_X8_batches l hLW.1.1 hLW.2.2.2.2.2.1 κ 0 (t_batches hLW.2.2.2.2.1)) (cwV 1 hts (gd_V q735 q736 q737 q37 q738) rfl rfl rfl hd_X8_batches ⟨Nat.le_of_ble_eq_true rfl, Nat.le_of_ble_eq_true rfl⟩) ⟨Pz.blind, rcvL hTb hLW hfa, fun U hU hW => ⟨by rw [hfa], Tb.warm hW hTb, by rw [hU]; exact hLW.1.2.2⟩⟩ rfl rfl hl.1 rfl (lv_room (Nat.le_of_ble_eq_true rfl)) dL_law_624 ⟨by show _ ≤ 600104; omega, by show _ ≤ 7301314; omega⟩) hS (fun q _ h => h.elim) (fun q h => h.elim) (fun v9 u9 t9 H locs ht9 hvm9 hw9 hB9 hz9 hk9 hS => ?_)
  have hLW := LW.keep hLW (fun q h => hk9 q h id)
  rw [hw9]
  clear hw9 hB9 ht9 hz9 hk9
  refine lv_icmp_lt (tgt := 670) hx hb dL_law_627 (by decide) (fun h8 => absurd h8 htf.1) (fun _ => ?_)
  refine lv_aload_n hx hb dL_law_630 rfl (lv_at hl 6 rfl) ?_
  refine lv_iconst (v := 0) hx hb dL_law_631 (by decide) ?_
  refine lv_iconst (v := 1) hx hb dL_law_632 (by decide) ?_
  refine va_calli (va_runV (As := [.int 0, .int 1]) (rest := []) ⟨hx, hb, hml, hown, hts⟩ (c_X8_ofTally l hLW.1.1 hLW.2.2.2.2.2.1 κ 0 1 (t_ofTally hLW.2.2.2.2.1 (w := 1) (by decide))) (cwV 2 hts (gd_V q730 q731 q732 q37 q733) rfl rfl rfl hd_X8_ofTally ⟨Nat.le_of_ble_eq_true rfl, Nat.le_of_ble_eq_true rfl⟩) ⟨Pz.blind, rcvL hTb hLW hfa, fun U hU hW => ⟨by rw [hfa], Tb.warm hW hTb, by rw [hU]; exact hLW.1.2.2⟩⟩ rfl rfl hl.1 rfl (lv_room (Nat.le_of_ble_eq_true rfl)) dL_law_633 ⟨by show _ ≤ 600104; omega, by show _ ≤ 7301314; omega⟩) hS (fun q _ h => h.elim) (fun q h => h.elim) (fun v9 u9 t9 H locs ht9 hvm9 hw9 hB9 hz9 hk9 hS => ?_)
  have hLW := LW.keep hLW (fun q h => hk9 q h id)
  rw [hw9]
  clear hw9 hB9 ht9 hz9 hk9
  refine lv_aload_n hx hb dL_law_636 rfl (lv_at hl 6 rfl) ?_
  refine lv_iconst (v := 0) hx hb dL_law_637 (by decide) ?_
  refine lv_iconst (v := 2) hx hb dL_law_638 (by decide) ?_
  refine va_calli (va_runV (As := [.int 0, .int 2]) (rest := [.int ((g0.tw X).ts 1000 (2 + 1))]) ⟨hx, hb, hml, hown, hts⟩ (c_X8_ofTally l hLW.1.1 hLW.2.2.2.2.2.1 κ 0 2 (t_ofTally hLW.2.2.2.2.1 (w := 2) (by decide))) (cwV 2 hts (gd_V q730 q731 q732 q37 q733) rfl rfl rfl hd_X8_ofTally ⟨Nat.le_of_ble_eq_true rfl, Nat.le_of_ble_eq_true rfl⟩) ⟨Pz.blind, rcvL hTb hLW hfa, fun U hU hW => ⟨by rw [hfa], Tb.warm hW hTb, by rw [hU]; exact hLW.1.2.2⟩⟩ rfl rfl hl.1 rfl (lv_room (Nat.le_of_ble_eq_true rfl)) dL_law_639 ⟨by show _ ≤ 600104; omega, by show _ ≤ 7301314; omega⟩) hS (fun q _ h => h.elim) (fun q h => h.elim) (fun v9 u9 t9 H locs ht9 hvm9 hw9 hB9 hz9 hk9 hS => ?_)
  have hLW := LW.keep hLW (fun q h => hk9 q h id)
  rw [hw9]
  clear hw9 hB9 ht9 hz9 hk9
  refine lv_icmp_gt (tgt := 670) hx hb dL_law_642 (by decide) (fun h8 => absurd h8 htf.2) (fun _ => ?_)
  refine lv_aload_n hx hb dL_law_645 rfl (lv_at hl 6 rfl) ?_
  refine va_calll (va_runV (As := []) (rest := []) ⟨hx, hb, hml, hown, hts⟩ (c_X8_digest l hLW.1.1 hLW.2.2.2.2.2.1 κ hdg) (cwV 0 hts (gd_V q803 q804 q805 q37 q806) rfl rfl rfl hd_X8_digest ⟨Nat.le_of_ble_eq_true rfl, Nat.le_of_ble_eq_true rfl⟩) ⟨Pz.blind, rcvL hTb hLW hfa, fun U hU hW => ⟨by rw [hfa], Tb.warm hW hTb, by rw [hU]; exact hLW.1.2.2⟩⟩ rfl rfl hl.1 rfl (lv_room (Nat.le_of_ble_eq_true rfl)) dL_law_646 ⟨by show _ ≤ 600104; omega, by show _ ≤ 7301314; omega⟩) hS (fun q _ h => h.elim) (fun q h => h.elim) (fun v9 u9 t9 H locs ht9 hvm9 hw9 hB9 hz9 hk9 hS => ?_)
  have hLW := LW.keep hLW (fun q h => hk9 q h id)
  rw [hw9]
  clear hw9 hB9 ht9 hz9 hk9
  refine lv_lload hx hb dL_law_649 (lv_at hl 1 rfl) ?_
  refine W.lcmp hx hb dL_law_651 ?_
  refine lv_if_ne (tgt := 670) hx hb dL_law_652 (by decide) (fun h8 => absurd hlc h8) (fun _ => ?_)
  refine lv_aload_n hx hb dL_law_655 rfl (lv_at hl 6 rfl) ?_
  refine lv_aload_n hx hb dL_law_656 rfl (lv_at hl 4 rfl) ?_
  refine va_get hx hb hts i_X9 hown hTb.1 hLW.2.2.2.1.1 0 rfl rfl 3 (by decide) (hts _ q1150) (fun _ h9 => h9) hf3 dL_law_657 ?_
  refine lv_aload_n hx hb dL_law_660 rfl (lv_at hl 4 rfl) ?_
  refine va_get hx hb hts i_X9 hown hTb.1 hLW.2.2.2.1.1 0 rfl rfl 5 (by decide) (hts _ q1153) (fun _ h9 => h9) hf5 dL_law_661 ?_
  have hAz : ∀ q : Nat, H.size ≤ q → A q := fun q h => hA q (Nat.le_trans hS.1 h)
  have hPu := P1 (P_mem hLW.2.2.2.1.1 (q := (un, .inl ((g0.tw X).cy 0, 2, .inl fu))) (List.mem_cons_of_mem _ List.mem_cons_self))
  have hPr := P1 (P_mem hLW.2.2.2.1.1 (q := (ro, .inl ((g0.tw X).cy 0, 2, .inl fr))) (List.mem_cons_of_mem _ (List.mem_cons_of_mem _ List.mem_cons_self)))
  refine va_calli (va_runS (As := [.ref fa, .ref un, .ref ro]) (rest := []) ⟨hx, hb, hml, hown, hts⟩ (c_L_isSound l hLW.1.1 hLW.2.2.2.2.2.1 κ H.size un ro fu fr (l_isSound hC hz0 hz1 hI (by omega) hun hro)) (va_cwS 3 hts (gd_S q1250 q1251 q36 q1252) rfl rfl rfl hd_L_isSound.2 ⟨Nat.le_of_ble_eq_true rfl, Nat.le_of_ble_eq_true rfl⟩) ⟨Psnd.blind, fun U hU hW => ⟨by rw [hfa], Tb.warm hW hTb, by rw [hU], by rw [hU]; exact hLW.1.2.2, by rw [hU]; exact hPu, by rw [hU]; exact hPr⟩⟩ rfl rfl hl.1 rfl (lv_room (Nat.le_of_ble_eq_true rfl)) dL_law_664 ⟨by show _ ≤ 600104; omega, by show _ ≤ 7301314; omega⟩) hS (fun q _ h => hAz q h) hAz (fun v9 u9 t9 H locs ht9 hvm9 hw9 hB9 hz9 hk9 hS => ?_)
  have hLW := LW.keep hLW (fun q h => hk9 q h (Nat.not_le.mpr h))
  rw [hw9]
  clear hw9 hB9 ht9 hz9 hk9
  refine lv_if_ne (tgt := 672) hx hb dL_law_667 (by decide) (fun _ => ?_) (fun h8 => absurd h8 (by decide))
  refine lv_iinc (v := nI (k + 1)) (lv' := [(4, .int (nI (k + 1))), (13, .int bz), (11, .long dg), (5, .int xv), (3, .ref sim), (2, .int (nI sn)), (1, .ref fa), (0, .ref bs)]) hx hb dL_law_672 hl (k := 3) rfl (nI_1 k) (by decide) rfl (fun ls hl => ?_)
  refine lv_goto (tgt := 231) hx hb dL_law_675 (by decide) ?_
  exact kont _ _ ls hLW hS (lv_sub hl [0, 4, 5, 6, 7] rfl)
