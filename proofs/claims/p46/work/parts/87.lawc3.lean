/-! the law's loop: a cancelling -/
set_option maxHeartbeats 8000000 in
set_option maxRecDepth 100000 in
theorem law_c3 (l : Launch) {z : Nat} {D : va_G} {cy : Nat → ClassId} {bs L : Nat} {xs : Nat → Int32} (hL : L ≤ 260) {p : Program} {e9 : Env} {s : State} {m : MethodId} {below : List Frame} {meth : Method} {c : Code} {Qx : State → Prop} (hx : p.tables.exec = Jvm.exec) (hb : c.code = code) (hml : c.maxLocals = 14) (hts : ∀ w ∈ lw_all, w.before #[Value.ref bs] s = true) (hown : s.vm.findClass RL = some m.cls) (hT : T3 D (tysB cy) s) (hE : Em D z s.heap.size (cy 2) s) (hX : Tx s) (hXs : va_X bs L xs s s.heap) (hbl : bs < s.heap.size) {g0 g : Geo} {X : Tp} {K : Kx} {T N : Int} {μ κ : Mem} {cs : va_W} {fa sn sim k c0 pn kd : Nat} {xv : Int32} (hTb : Tb (g0.tw X) s) (hfa : (g0.tw X).ad 272 = fa) (hC : Cfg (g0.tw X).F K) (hz0 : (g0.tw X).sz 0 = 2) (hI : Inv (g0.tw X).F K (fun _ => False) 99 T N κ) (hT5 : T ≤ 100000) (hN5 : N + 360 < 2000000000) (h5 : κ 0 5 = nI c0) (hc24 : c0 ≤ 24) (hpn : pn < c0) (h4 : (κ (pn + 1) 6).toInt < 5) {c9 s9 : Nat} (hc9 : c9 ≤ 600000) (hs9 : s9 ≤ 7300000) {H : Heap} {locs : List Loc} {ls : Array Slot} (hLW : LW s.heap.size (g0.tw X) g κ μ cs H) (hS : va_S (fun q => s.heap.size ≤ q) s.heap H locs) (hl : lv_has ls 14 [(10, .int (nI kd)), (9, .int (κ 0 8)), (8, .int (κ 0 6)), (7, .int (κ (pn + 1) 6)), (6, .int (nI pn)), (5, .int xv), (4, .int (nI k)), (3, .ref sim), (2, .int (nI sn)), (1, .ref fa), (0, .ref bs)])
    (kont : ∀ (κ' : Mem) (c1 : Nat) (H : Heap) (locs : List Loc) (ls : Array Slot), LW s.heap.size (g0.tw X) g κ' μ cs H → Inv (g0.tw X).F K (fun _ => False) 99 T (N + 360) κ' → κ' 0 5 = nI c1 → c0 ≤ c1 → c1 ≤ 24 → κ' 0 6 = κ 0 6 → κ' 0 8 = κ 0 8 → va_S (fun q => s.heap.size ≤ q) s.heap H locs → lv_has ls 14 [(5, .int xv), (4, .int (nI k)), (3, .ref sim), (2, .int (nI sn)), (1, .ref fa), (0, .ref bs)] → W p l e9 room_1 s m #[Value.ref bs] below meth c H locs c9 s9 Qx (F0 m 575 ls [])) : W p l e9 room_1 s m #[Value.ref bs] below meth c H locs c9 s9 Qx (F0 m 393 ls []) := by
  generalize hAe : (fun q : Nat => s.heap.size ≤ q) = A at kont hS
  have hA : ∀ q : Nat, s.heap.size ≤ q → A q := fun q h => by rw [← hAe]; exact h
  refine lv_iconst (v := 0) hx hb dL_law_393 (by decide) ?_
  refine lv_istore (lv' := [(11, .int 0), (10, .int (nI kd)), (9, .int (κ 0 8)), (8, .int (κ 0 6)), (7, .int (κ (pn + 1) 6)), (6, .int (nI pn)), (5, .int xv), (4, .int (nI k)), (3, .ref sim), (2, .int (nI sn)), (1, .ref fa), (0, .ref bs)]) hx hb dL_law_394 hl (by decide) rfl (fun ls hl => ?_)
  refine lv_iconst (v := 0) hx hb dL_law_396 (by decide) ?_
  refine lv_istore (lv' := [(12, .int 0), (11, .int 0), (10, .int (nI kd)), (9, .int (κ 0 8)), (8, .int (κ 0 6)), (7, .int (κ (pn + 1) 6)), (6, .int (nI pn)), (5, .int xv), (4, .int (nI k)), (3, .ref sim), (2, .int (nI sn)), (1, .ref fa), (0, .ref bs)]) hx hb dL_law_397 hl (by decide) rfl (fun ls hl => ?_)
  refine lv_iload hx hb dL_law_399 (lv_at hl 0 rfl) ?_
  refine lv_iconst (v := 2) hx hb dL_law_401 (by decide) ?_
  refine lv_icmp_ge (tgt := 424) hx hb dL_law_402 (by decide) (fun h9 => absurd h9 (by decide)) (fun _ => ?_)
  refine lv_iload hx hb dL_law_405 (lv_at hl 1 rfl) ?_
  refine lv_aload_n hx hb dL_law_407 rfl (lv_at hl 11 rfl) ?_
  refine lv_iload hx hb dL_law_408 (lv_at hl 6 rfl) ?_
  refine lv_iload hx hb dL_law_410 (lv_at hl 0 rfl) ?_
  refine va_calli (va_runV (As := [.int (nI pn), .int 0]) (rest := [.int 0]) ⟨hx, hb, hml, hown, hts⟩ (c_X8_holds l hLW.1.1 hLW.2.2.2.2.2.1 κ (nI pn) 0 (q_holds (F := (g0.tw X).F) h5 hc24 hpn (r := 0) (by show 0 < (g0.tw X).sz 0; omega) hC.1 (hI.cst.2.1 0 (by show 0 < (g0.tw X).sz 0; omega)).1)) (cwV 2 hts (gd_V q705 q706 q707 q37 q708) rfl rfl rfl hd_X8_holds ⟨Nat.le_of_ble_eq_true rfl, Nat.le_of_ble_eq_true rfl⟩) ⟨Pz.blind, rcvL hTb hLW hfa, fun U hU hW => ⟨by rw [hfa], Tb.warm hW hTb, by rw [hU]; exact hLW.1.2.2⟩⟩ rfl rfl hl.1 rfl (lv_room (Nat.le_of_ble_eq_true rfl)) dL_law_412 ⟨by show _ ≤ 600104; omega, by show _ ≤ 7301314; omega⟩) hS (fun q _ h => h.elim) (fun q h => h.elim) (fun v9 u9 t9 H locs ht9 hvm9 hw9 hB9 hz9 hk9 hS => ?_)
  have hLW := LW.keep hLW (fun q h => hk9 q h id)
  rw [hw9]
  clear hw9 hB9 ht9 hz9 hk9
  refine lv_iadd hx hb dL_law_415 ?_
  refine lv_istore (lv' := [(11, .int (0 + (κ (pn + 49) 0))), (12, .int 0), (10, .int (nI kd)), (9, .int (κ 0 8)), (8, .int (κ 0 6)), (7, .int (κ (pn + 1) 6)), (6, .int (nI pn)), (5, .int xv), (4, .int (nI k)), (3, .ref sim), (2, .int (nI sn)), (1, .ref fa), (0, .ref bs)]) hx hb dL_law_416 hl (by decide) rfl (fun ls hl => ?_)
  refine lv_iinc (v := 1) (lv' := [(12, .int 1), (11, .int (0 + (κ (pn + 49) 0))), (10, .int (nI kd)), (9, .int (κ 0 8)), (8, .int (κ 0 6)), (7, .int (κ (pn + 1) 6)), (6, .int (nI pn)), (5, .int xv), (4, .int (nI k)), (3, .ref sim), (2, .int (nI sn)), (1, .ref fa), (0, .ref bs)]) hx hb dL_law_418 hl (k := 1) rfl rfl (by decide) rfl (fun ls hl => ?_)
  refine lv_goto (tgt := 399) hx hb dL_law_421 (by decide) ?_
  refine lv_iload hx hb dL_law_399 (lv_at hl 0 rfl) ?_
  refine lv_iconst (v := 2) hx hb dL_law_401 (by decide) ?_
  refine lv_icmp_ge (tgt := 424) hx hb dL_law_402 (by decide) (fun h9 => absurd h9 (by decide)) (fun _ => ?_)
  refine lv_iload hx hb dL_law_405 (lv_at hl 1 rfl) ?_
  refine lv_aload_n hx hb dL_law_407 rfl (lv_at hl 11 rfl) ?_
  refine lv_iload hx hb dL_law_408 (lv_at hl 6 rfl) ?_
  refine lv_iload hx hb dL_law_410 (lv_at hl 0 rfl) ?_
  refine va_calli (va_runV (As := [.int (nI pn), .int 1]) (rest := [.int (0 + (κ (pn + 49) 0))]) ⟨hx, hb, hml, hown, hts⟩ (c_X8_holds l hLW.1.1 hLW.2.2.2.2.2.1 κ (nI pn) 1 (q_holds (F := (g0.tw X).F) h5 hc24 hpn (r := 1) (by show 1 < (g0.tw X).sz 0; omega) hC.1 (hI.cst.2.1 1 (by show 1 < (g0.tw X).sz 0; omega)).1)) (cwV 2 hts (gd_V q705 q706 q707 q37 q708) rfl rfl rfl hd_X8_holds ⟨Nat.le_of_ble_eq_true rfl, Nat.le_of_ble_eq_true rfl⟩) ⟨Pz.blind, rcvL hTb hLW hfa, fun U hU hW => ⟨by rw [hfa], Tb.warm hW hTb, by rw [hU]; exact hLW.1.2.2⟩⟩ rfl rfl hl.1 rfl (lv_room (Nat.le_of_ble_eq_true rfl)) dL_law_412 ⟨by show _ ≤ 600104; omega, by show _ ≤ 7301314; omega⟩) hS (fun q _ h => h.elim) (fun q h => h.elim) (fun v9 u9 t9 H locs ht9 hvm9 hw9 hB9 hz9 hk9 hS => ?_)
  have hLW := LW.keep hLW (fun q h => hk9 q h id)
  rw [hw9]
  clear hw9 hB9 ht9 hz9 hk9
  refine lv_iadd hx hb dL_law_415 ?_
  refine lv_istore (lv' := [(11, .int ((0 + (κ (pn + 49) 0)) + (κ (pn + 49) 1))), (12, .int 1), (10, .int (nI kd)), (9, .int (κ 0 8)), (8, .int (κ 0 6)), (7, .int (κ (pn + 1) 6)), (6, .int (nI pn)), (5, .int xv), (4, .int (nI k)), (3, .ref sim), (2, .int (nI sn)), (1, .ref fa), (0, .ref bs)]) hx hb dL_law_416 hl (by decide) rfl (fun ls hl => ?_)
  refine lv_iinc (v := 2) (lv' := [(12, .int 2), (11, .int ((0 + (κ (pn + 49) 0)) + (κ (pn + 49) 1))), (10, .int (nI kd)), (9, .int (κ 0 8)), (8, .int (κ 0 6)), (7, .int (κ (pn + 1) 6)), (6, .int (nI pn)), (5, .int xv), (4, .int (nI k)), (3, .ref sim), (2, .int (nI sn)), (1, .ref fa), (0, .ref bs)]) hx hb dL_law_418 hl (k := 1) rfl rfl (by decide) rfl (fun ls hl => ?_)
  refine lv_goto (tgt := 399) hx hb dL_law_421 (by decide) ?_
  refine lv_iload hx hb dL_law_399 (lv_at hl 0 rfl) ?_
  refine lv_iconst (v := 2) hx hb dL_law_401 (by decide) ?_
  refine lv_icmp_ge (tgt := 424) hx hb dL_law_402 (by decide) (fun _ => ?_) (fun h9 => absurd (by decide) h9)
  refine lv_aload_n hx hb dL_law_424 rfl (lv_at hl 11 rfl) ?_
  refine lv_iload hx hb dL_law_425 (lv_at hl 6 rfl) ?_
  obtain ⟨r, hf, hok⟩ := a_cancel (F := (g0.tw X).F) hC hz0 hI hT5 hN5 h5 hc24 hpn h4
  have hAg : ∀ q, Ag (g0.tw X) H.size q → A q := fun q h => h.elim (fun ⟨k, hk, e⟩ => hA q (by rw [e]; exact hLW.1.2.1.1 k (mem_mut.mp hk).1)) (fun h => hA q (Nat.le_trans hS.1 h))
  refine va_calli (va_runV (As := [.int (nI pn)]) (rest := []) ⟨hx, hb, hml, hown, hts⟩ (c_X8_cancel l hLW.1.1 hLW.2.2.2.2.2.1 κ H.size (nI pn) hf) (cwV 1 hts (gd_V q661 q662 q663 q37 q664) rfl rfl rfl hd_X8_cancel ⟨Nat.le_of_ble_eq_true rfl, Nat.le_of_ble_eq_true rfl⟩) ⟨Pz.blind, rcvL hTb hLW hfa, fun U hU hW => ⟨by rw [hfa], Tb.warm hW hTb, by rw [hU], by rw [hU]; exact hLW.1.2.2⟩⟩ rfl rfl hl.1 rfl (lv_room (Nat.le_of_ble_eq_true rfl)) dL_law_427 ⟨by show _ ≤ 600104; omega, by show _ ≤ 7301314; omega⟩) hS (fun q _ h => hAg q h) hAg (fun v9 u9 t9 H1 locs ht9 hvm9 hw9 hB9 hz9 hk9 hS => ?_)
  rw [ht9] at hB9
  have hLW := LW.act hLW hB9 hk9
  rw [hw9]
  clear hAg hB9 hk9 hw9 ht9 hz9
  have hst := hok.1.st
  obtain ⟨c1, hc1, e1⟩ : ∃ c1, c1 < 25 ∧ r.1 0 5 = nI c1 := ⟨(r.1 0 5).toInt.toNat, by omega, Int32.toInt_inj.mp (by rw [nI_toInt (by omega)]; omega)⟩
  have hcc : c0 ≤ c1 := by
    have h9 := hok.2.1.2.2.1
    rw [h5, e1, nI_toInt (by omega), nI_toInt (by omega)] at h9
    omega
  refine lv_iload hx hb dL_law_430 (lv_at hl 1 rfl) ?_
  refine lv_icmp_ne (tgt := 446) hx hb dL_law_432 (by decide) (fun h9 => absurd hok.2.2.2 h9) (fun _ => ?_)
  refine lv_aload_n hx hb dL_law_435 rfl (lv_at hl 11 rfl) ?_
  refine lv_iload hx hb dL_law_436 (lv_at hl 6 rfl) ?_
  refine va_calli (va_runV (As := [.int (nI pn)]) (rest := []) ⟨hx, hb, hml, hown, hts⟩ (c_X8_stateOf l hLW.1.1 hLW.2.2.2.2.2.1 r.1 (nI pn) (q_stateOf (F := (g0.tw X).F) e1 (by omega) (by omega))) (cwV 1 hts (gd_V q697 q698 q699 q37 q700) rfl rfl rfl hd_X8_stateOf ⟨Nat.le_of_ble_eq_true rfl, Nat.le_of_ble_eq_true rfl⟩) ⟨Pz.blind, rcvL hTb hLW hfa, fun U hU hW => ⟨by rw [hfa], Tb.warm hW hTb, by rw [hU]; exact hLW.1.2.2⟩⟩ rfl rfl hl.1 rfl (lv_room (Nat.le_of_ble_eq_true rfl)) dL_law_438 ⟨by show _ ≤ 600104; omega, by show _ ≤ 7301314; omega⟩) hS (fun q _ h => h.elim) (fun q h => h.elim) (fun v9 u9 t9 H locs ht9 hvm9 hw9 hB9 hz9 hk9 hS => ?_)
  have hLW := LW.keep hLW (fun q h => hk9 q h id)
  rw [hw9]
  clear hw9 hB9 ht9 hz9 hk9
  refine lv_bipush (v := 7) hx hb dL_law_441 (by decide) ?_
  refine lv_icmp_eq (tgt := 448) hx hb dL_law_443 (by decide) (fun _ => ?_) (fun h9 => absurd hok.2.2.1 h9)
  refine lv_goto (tgt := 575) hx hb dL_law_448 (by decide) ?_
  exact kont r.1 c1 _ _ ls hLW hok.1 e1 hcc (by omega) hok.2.1.1 hok.2.1.2.1 hS (lv_sub hl [7, 8, 9, 10, 11, 12] rfl)
