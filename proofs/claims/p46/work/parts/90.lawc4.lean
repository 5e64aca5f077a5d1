/-! the law's loop: an event -/
set_option maxHeartbeats 8000000 in
set_option maxRecDepth 100000 in
theorem law_c4 (l : Launch) {z : Nat} {D : va_G} {cy : Nat → ClassId} {bs L : Nat} {xs : Nat → Int32} (hL : L ≤ 260) {p : Program} {e9 : Env} {s : State} {m : MethodId} {below : List Frame} {meth : Method} {c : Code} {Qx : State → Prop} (hx : p.tables.exec = Jvm.exec) (hb : c.code = code) (hml : c.maxLocals = 14) (hts : ∀ w ∈ lw_all, w.before #[Value.ref bs] s = true) (hown : s.vm.findClass RL = some m.cls) (hT : T3 D (tysB cy) s) (hE : Em D z s.heap.size (cy 2) s) (hX : Tx s) (hXs : va_X bs L xs s s.heap) (hbl : bs < s.heap.size) {g0 g : Geo} {X : Tp} {K : Kx} {T N : Int} {μ κ : Mem} {cs : va_W} {fa sn sim k c0 pn kd n : Nat} {xv : Int32} (hTb : Tb (g0.tw X) s) (hTg : Tb g s) (hE2 : Em (g0.tw X).D z s.heap.size ((g0.tw X).cy 2) s) (hFF : g.F = (g0.tw X).F) (hfa : (g0.tw X).ad 272 = fa) (hC : Cfg (g0.tw X).F K) (hI : Inv (g0.tw X).F K (fun _ => False) 99 T N κ) (hT5 : T + 20 ≤ 5000) (hN5 : N + 4000 < 2000000000) (h80 : 0 ≤ (κ 0 8).toInt) (h81 : (κ 0 8).toInt ≤ 1000000) (hTI : TI z X n) (hn : n + 40 ≤ 1300) (hμ : Cst (g0.tw X).F K μ) (h5 : κ 0 5 = nI c0) (hc24 : c0 ≤ 24) (hpn : pn < c0) {c9 s9 : Nat} (hc9 : c9 ≤ 500000) (hs9 : s9 ≤ 7000000) {H : Heap} {locs : List Loc} {ls : Array Slot} (hLW : LW s.heap.size (g0.tw X) g κ μ cs H) (hS : va_S (fun q => s.heap.size ≤ q) s.heap H locs) (hl : lv_has ls 14 [(10, .int (nI kd)), (9, .int (κ 0 8)), (8, .int (κ 0 6)), (7, .int (κ (pn + 1) 6)), (6, .int (nI pn)), (5, .int xv), (4, .int (nI k)), (3, .ref sim), (2, .int (nI sn)), (1, .ref fa), (0, .ref bs)])
    (kont : ∀ (X' : Tp) (κ' μ' : Mem) (c1 : Nat) (H : Heap) (locs : List Loc) (ls : Array Slot), LW s.heap.size (g0.tw X') g κ' μ' cs H → Inv (g0.tw X).F K (fun _ => False) 99 (T + 20) (N + 4000) κ' → Cst (g0.tw X).F K μ' → TI z X' (n + 40) → κ' 0 5 = nI c1 → c0 ≤ c1 → c1 ≤ 24 → (κ 0 8).toInt ≤ (κ' 0 8).toInt → (κ' 0 8).toInt ≤ (κ 0 8).toInt + 40 → va_S (fun q => s.heap.size ≤ q) s.heap H locs → lv_has ls 14 [(5, .int xv), (4, .int (nI k)), (3, .ref sim), (2, .int (nI sn)), (1, .ref fa), (0, .ref bs)] → W p l e9 room_1 s m #[Value.ref bs] below meth c H locs (c9 + 120) (s9 + 20920) Qx (F0 m 575 ls [])) : W p l e9 room_1 s m #[Value.ref bs] below meth c H locs c9 s9 Qx (F0 m 451 ls []) := by
  generalize hAe : (fun q : Nat => s.heap.size ≤ q) = A at kont hS
  have hA : ∀ q : Nat, s.heap.size ≤ q → A q := fun q h => by rw [← hAe]; exact h
  have hAb : ∀ q, A q → s.heap.size ≤ q := fun q h => by rw [← hAe] at h; exact h
  refine lv_aload_n hx hb dL_law_451 rfl (lv_at hl 9 rfl) ?_
  refine va_calli (va_runV (As := []) (rest := []) ⟨hx, hb, hml, hown, hts⟩ (c_X8_events l hLW.1.1 hLW.2.2.2.2.2.1 κ (q_events (F := (g0.tw X).F))) (cwV 0 hts (gd_V q676 q677 q678 q37 q679) rfl rfl rfl hd_X8_events ⟨Nat.le_of_ble_eq_true rfl, Nat.le_of_ble_eq_true rfl⟩) ⟨Pz.blind, rcvL hTb hLW hfa, fun U hU hW => ⟨by rw [hfa], Tb.warm hW hTb, by rw [hU]; exact hLW.1.2.2⟩⟩ rfl rfl hl.1 rfl (lv_room (Nat.le_of_ble_eq_true rfl)) dL_law_452 ⟨by show _ ≤ 600104; omega, by show _ ≤ 7301314; omega⟩) hS (fun q _ h => h.elim) (fun q h => h.elim) (fun v9 u9 t9 H locs ht9 hvm9 hw9 hB9 hz9 hk9 hS => ?_)
  have hLW := LW.keep hLW (fun q h => hk9 q h id)
  rw [hw9]
  clear hw9 hB9 ht9 hz9 hk9
  have hct := ct_le (evs κ) 24
  refine lv_if_le (tgt := 575) hx hb dL_law_455 (by decide) (fun _ => ?_) (fun h9 => ?_)
  · refine W.widen (k := c9 + 120) (n := s9 + 20920) (Nat.le_add_right _ _) (Nat.le_add_right _ _) ?_
    exact kont X κ μ c0 _ _ ls hLW (hI.mono (by omega) (by omega)) hμ (hTI.mono (by omega)) h5 (Nat.le_refl _) hc24 (Int.le_refl _) (by omega) hS (lv_sub hl [5, 6, 7, 8, 9, 10] rfl)
  have hev : ¬ ct (evs κ) 24 = 0 := fun z => h9 (by rw [z]; decide)
  obtain ⟨x, q, hx1, hx2, hq24, hxI, hxt, hx0, hx7, hqc, hcc, hd1, hd2, hov⟩ := h_step hC hI hT5 hN5 hev h80 h81
  have hst := hxI.st
  obtain ⟨c1, hc1, e1⟩ : ∃ c1, c1 < 25 ∧ x.1 0 5 = nI c1 := ⟨(x.1 0 5).toInt.toNat, by omega, Int32.toInt_inj.mp (by rw [nI_toInt (by omega)]; omega)⟩
  have hc01 : c0 ≤ c1 := by
    rw [h5, e1, nI_toInt (by omega), nI_toInt (by omega)] at hcc
    omega
  have hq1 : q < c1 := by
    rw [e1, nI_toInt (by omega)] at hqc
    omega
  obtain ⟨nt, hnt, hntQ⟩ := q_nextTime (F := (g0.tw X).F) (μ := κ)
  have hxnt := hxt nt hntQ
  refine lv_aload_n hx hb dL_law_458 rfl (lv_at hl 9 rfl) ?_
  refine va_calli (va_runV (As := []) (rest := []) ⟨hx, hb, hml, hown, hts⟩ (c_X8_nextTime l hLW.1.1 hLW.2.2.2.2.2.1 κ hnt) (cwV 0 hts (gd_V q684 q685 q686 q37 q687) rfl rfl rfl hd_X8_nextTime ⟨Nat.le_of_ble_eq_true rfl, Nat.le_of_ble_eq_true rfl⟩) ⟨Pz.blind, rcvL hTb hLW hfa, fun U hU hW => ⟨by rw [hfa], Tb.warm hW hTb, by rw [hU]; exact hLW.1.2.2⟩⟩ rfl rfl hl.1 rfl (lv_room (Nat.le_of_ble_eq_true rfl)) dL_law_459 ⟨by show _ ≤ 600104; omega, by show _ ≤ 7301314; omega⟩) hS (fun q _ h => h.elim) (fun q h => h.elim) (fun v9 u9 t9 H locs ht9 hvm9 hw9 hB9 hz9 hk9 hS => ?_)
  have hLW := LW.keep hLW (fun q h => hk9 q h id)
  rw [hw9]
  clear hw9 hB9 ht9 hz9 hk9
  refine lv_istore (lv' := [(11, .int nt), (10, .int (nI kd)), (9, .int (κ 0 8)), (8, .int (κ 0 6)), (7, .int (κ (pn + 1) 6)), (6, .int (nI pn)), (5, .int xv), (4, .int (nI k)), (3, .ref sim), (2, .int (nI sn)), (1, .ref fa), (0, .ref bs)]) hx hb dL_law_462 hl (by decide) rfl (fun ls hl => ?_)
  refine lv_aload_n hx hb dL_law_464 rfl (lv_at hl 10 rfl) ?_
  refine lv_iload hx hb dL_law_465 (lv_at hl 5 rfl) ?_
  refine lv_iconst (v := 1) hx hb dL_law_467 (by decide) ?_
  obtain ⟨μ2, hR2, hA2⟩ := tr_mem (K := K) hLW.2.1.2.2 (by rw [hFF]; exact hμ) (by rw [hFF]; exact hI.cst)
  rw [hFF] at hA2
  obtain ⟨r, hf, hr1, hr2, hr3⟩ := h_end hC hI hA2 h5 hc24 hpn hx1 hxI
  have hLW := LW.trial hLW hR2 (fun _ _ _ => rfl)
  have hAgt : ∀ q, Ag g H.size q → A q := fun q h => h.elim (fun ⟨k, hk, e⟩ => hA q (by rw [e]; exact hLW.2.1.2.1.1 k (mem_mut.mp hk).1)) (fun h => hA q (Nat.le_trans hS.1 h))
  refine va_calli (va_runV (As := [.int (nI pn), .int 1]) (rest := []) ⟨hx, hb, hml, hown, hts⟩ (c_X8_endOf l hLW.2.1.1 hLW.1.1 hLW.2.2.1.1 hLW.2.2.1.2.1 hLW.2.2.2.2.2.2.1.1 hLW.2.2.2.2.2.1 hLW.2.2.2.2.2.2.2 μ2 κ H.size (nI pn) 1 (r := r) (by rw [hFF]; exact hf)) (cwV 2 hts (gd_V q760 q761 q762 q37 q763) rfl rfl rfl hd_X8_endOf ⟨Nat.le_of_ble_eq_true rfl, Nat.le_of_ble_eq_true rfl⟩) ⟨Pz2.blind, rcvL hTb hLW hfa, fun U hU hW => ⟨by rw [hfa], Tb.warm hW hTg, Tb.warm hW hTb, by rw [hU], by rw [hU]; exact hLW.2.1.2.2, by rw [hU]; exact hLW.1.2.2⟩⟩ rfl rfl hl.1 rfl (lv_room (Nat.le_of_ble_eq_true rfl)) dL_law_468 ⟨by show _ ≤ 600104; omega, by show _ ≤ 7301314; omega⟩) hS (fun q _ h => hAgt q h) hAgt (fun v9 u9 t9 H1 locs ht9 hvm9 hw9 hB9 hz9 hk9 hS => ?_)
  rw [ht9] at hB9
  have hLW := LW.trial hLW hB9 hk9
  rw [hw9]
  clear hAgt hB9 hk9 hw9 ht9 hz9
  refine lv_istore (lv' := [(12, .int r.2), (11, .int nt), (10, .int (nI kd)), (9, .int (κ 0 8)), (8, .int (κ 0 6)), (7, .int (κ (pn + 1) 6)), (6, .int (nI pn)), (5, .int xv), (4, .int (nI k)), (3, .ref sim), (2, .int (nI sn)), (1, .ref fa), (0, .ref bs)]) hx hb dL_law_471 hl (by decide) rfl (fun ls hl => ?_)
  refine lv_aload_n hx hb dL_law_473 rfl (lv_at hl 11 rfl) ?_
  have hAt : ∀ q, At (g0.tw X) H1.size q → A q := fun q h => hA q (At.b hLW.1.2.1 hLW.2.2.2.2.1 hS.1 q h)
  refine va_calli (va_runV (As := []) (rest := []) ⟨hx, hb, hml, hown, hts⟩ (h_X8_step l hLW.1.1 hLW.1.2.1 hLW.2.2.2.2.2.1 n hTI hn κ [] H1.size hx1 (k := q + 1) (lp_is hq24) hx2) (cwV 0 hts (gd_V q385 q386 q387 q37 q388) rfl rfl rfl hd_X8_step ⟨Nat.le_of_ble_eq_true rfl, Nat.le_of_ble_eq_true rfl⟩) ⟨Pe.blind, rcvL hTb hLW hfa, fun U hU hW => ⟨by rw [hfa], ⟨Tb.warm hW hTb, Em.on hW hE2 (by rw [hU]; exact hS) hAb⟩, by rw [hU], by rw [hU]; exact hLW.1.2.2⟩⟩ rfl rfl hl.1 rfl (lv_room (Nat.le_of_ble_eq_true rfl)) dL_law_474 ⟨by show _ ≤ 600104; omega, by show _ ≤ 7301314; omega⟩) hS (fun q _ h => hAt q h) hAt (fun v9 u9 t9 H1 locs ht9 hvm9 hw9 hB9 hz9 hk9 hS => ?_)
  obtain ⟨X', a1, a2, a3, a4, a5, a6⟩ := hB9
  rw [ht9] at a5
  have hLW := LW.real hLW a3 a4 a5 a1.1 (a2.trans hLW.2.2.2.2.2.1) a6 hk9
  rw [hw9]
  clear hAt hk9 hw9 ht9 hz9
  have hTb : Tb (g0.tw X') s := hTb
  have hfa : (g0.tw X').ad 272 = fa := hfa
  rw [hx0]
  refine lv_istore (lv' := [(13, .int (nI q)), (12, .int r.2), (11, .int nt), (10, .int (nI kd)), (9, .int (κ 0 8)), (8, .int (κ 0 6)), (7, .int (κ (pn + 1) 6)), (6, .int (nI pn)), (5, .int xv), (4, .int (nI k)), (3, .ref sim), (2, .int (nI sn)), (1, .ref fa), (0, .ref bs)]) hx hb dL_law_477 hl (by decide) rfl (fun ls hl => ?_)
  refine lv_aload_n hx hb dL_law_479 rfl (lv_at hl 12 rfl) ?_
  refine va_calli (va_runV (As := []) (rest := []) ⟨hx, hb, hml, hown, hts⟩ (c_X8_time l hLW.1.1 hLW.2.2.2.2.2.1 x.1 (r := x.1 0 6) rfl) (cwV 0 hts (gd_V q672 q673 q674 q37 q675) rfl rfl rfl hd_X8_time ⟨Nat.le_of_ble_eq_true rfl, Nat.le_of_ble_eq_true rfl⟩) ⟨Pz.blind, rcvL hTb hLW hfa, fun U hU hW => ⟨by rw [hfa], Tb.warm hW hTb, by rw [hU]; exact hLW.1.2.2⟩⟩ rfl rfl hl.1 rfl (lv_room (Nat.le_of_ble_eq_true rfl)) dL_law_480 ⟨by show _ ≤ 600104; omega, by show _ ≤ 7301314; omega⟩) hS (fun q _ h => h.elim) (fun q h => h.elim) (fun v9 u9 t9 H locs ht9 hvm9 hw9 hB9 hz9 hk9 hS => ?_)
  have hLW := LW.keep hLW (fun q h => hk9 q h id)
  rw [hw9]
  clear hw9 hB9 ht9 hz9 hk9
  refine lv_iload hx hb dL_law_483 (lv_at hl 2 rfl) ?_
  refine lv_icmp_ne (tgt := 573) hx hb dL_law_485 (by decide) (fun h8 => absurd hxnt h8) (fun _ => ?_)
  refine lv_aload_n hx hb dL_law_488 rfl (lv_at hl 12 rfl) ?_
  refine va_calli (va_runV (As := []) (rest := []) ⟨hx, hb, hml, hown, hts⟩ (c_X8_done l hLW.1.1 hLW.2.2.2.2.2.1 x.1 (r := x.1 0 8) rfl) (cwV 0 hts (gd_V q693 q694 q695 q37 q696) rfl rfl rfl hd_X8_done ⟨Nat.le_of_ble_eq_true rfl, Nat.le_of_ble_eq_true rfl⟩) ⟨Pz.blind, rcvL hTb hLW hfa, fun U hU hW => ⟨by rw [hfa], Tb.warm hW hTb, by rw [hU]; exact hLW.1.2.2⟩⟩ rfl rfl hl.1 rfl (lv_room (Nat.le_of_ble_eq_true rfl)) dL_law_489 ⟨by show _ ≤ 600104; omega, by show _ ≤ 7301314; omega⟩) hS (fun q _ h => h.elim) (fun q h => h.elim) (fun v9 u9 t9 H locs ht9 hvm9 hw9 hB9 hz9 hk9 hS => ?_)
  have hLW := LW.keep hLW (fun q h => hk9 q h id)
  rw [hw9]
  clear hw9 hB9 ht9 hz9 hk9
  refine lv_iload hx hb dL_law_492 (lv_at hl 4 rfl) ?_
  refine lv_icmp_lt (tgt := 573) hx hb dL_law_494 (by decide) (fun h8 => absurd (ti_ltI.mp h8) (by omega)) (fun _ => ?_)
  refine lv_aload_n hx hb dL_law_497 rfl (lv_at hl 12 rfl) ?_
  refine va_calli (va_runV (As := []) (rest := []) ⟨hx, hb, hml, hown, hts⟩ (c_X8_done l hLW.1.1 hLW.2.2.2.2.2.1 x.1 (r := x.1 0 8) rfl) (cwV 0 hts (gd_V q693 q694 q695 q37 q696) rfl rfl rfl hd_X8_done ⟨Nat.le_of_ble_eq_true rfl, Nat.le_of_ble_eq_true rfl⟩) ⟨Pz.blind, rcvL hTb hLW hfa, fun U hU hW => ⟨by rw [hfa], Tb.warm hW hTb, by rw [hU]; exact hLW.1.2.2⟩⟩ rfl rfl hl.1 rfl (lv_room (Nat.le_of_ble_eq_true rfl)) dL_law_498 ⟨by show _ ≤ 600104; omega, by show _ ≤ 7301314; omega⟩) hS (fun q _ h => h.elim) (fun q h => h.elim) (fun v9 u9 t9 H locs ht9 hvm9 hw9 hB9 hz9 hk9 hS => ?_)
  have hLW := LW.keep hLW (fun q h => hk9 q h id)
  rw [hw9]
  clear hw9 hB9 ht9 hz9 hk9
  refine lv_iload hx hb dL_law_501 (lv_at hl 4 rfl) ?_
  refine lv_bipush (v := 40) hx hb dL_law_503 (by decide) ?_
  refine lv_iadd hx hb dL_law_505 ?_
  have h40 : (κ 0 8 + 40).toInt = (κ 0 8).toInt + 40 := ti_add (by rw [show (40 : Int32).toInt = 40 from rfl]; omega) (by rw [show (40 : Int32).toInt = 40 from rfl]; omega)
  refine lv_icmp_gt (tgt := 573) hx hb dL_law_506 (by decide) (fun h8 => absurd (ti_ltI.mp h8) (by rw [h40]; omega)) (fun _ => ?_)
  refine lv_iload hx hb dL_law_509 (lv_at hl 6 rfl) ?_
  refine lv_iconst (v := 4) hx hb dL_law_511 (by decide) ?_
  have h4t : (4 : Int32).toInt = 4 := rfl
  have h5t : (5 : Int32).toInt = 5 := rfl
  refine lv_icmp_le (tgt := 533) hx hb dL_law_512 (by decide) (fun h8 => ?_) (fun h8 => ?_)
  · rw [ti_le, h4t] at h8
    have hr3 := hr3 (by omega)
    refine lv_iload hx hb dL_law_533 (lv_at hl 6 rfl) ?_
    refine lv_iconst (v := 5) hx hb dL_law_535 (by decide) ?_
    refine lv_icmp_ge (tgt := 562) hx hb dL_law_536 (by decide) (fun h7 => absurd (ti_le.mp h7) (by rw [h5t]; omega)) (fun _ => ?_)
    refine lv_iload hx hb dL_law_539 (lv_at hl 1 rfl) ?_
    refine lv_aload_n hx hb dL_law_541 rfl (lv_at hl 12 rfl) ?_
    refine lv_iload hx hb dL_law_542 (lv_at hl 7 rfl) ?_
    refine va_calli (va_runV (As := [.int (nI pn)]) (rest := [.int r.2]) ⟨hx, hb, hml, hown, hts⟩ (c_X8_stateOf l hLW.1.1 hLW.2.2.2.2.2.1 x.1 (nI pn) (q_stateOf (F := (g0.tw X').F) e1 (by omega) (by omega))) (cwV 1 hts (gd_V q697 q698 q699 q37 q700) rfl rfl rfl hd_X8_stateOf ⟨Nat.le_of_ble_eq_true rfl, Nat.le_of_ble_eq_true rfl⟩) ⟨Pz.blind, rcvL hTb hLW hfa, fun U hU hW => ⟨by rw [hfa], Tb.warm hW hTb, by rw [hU]; exact hLW.1.2.2⟩⟩ rfl rfl hl.1 rfl (lv_room (Nat.le_of_ble_eq_true rfl)) dL_law_544 ⟨by show _ ≤ 600104; omega, by show _ ≤ 7301314; omega⟩) hS (fun q _ h => h.elim) (fun q h => h.elim) (fun v9 u9 t9 H locs ht9 hvm9 hw9 hB9 hz9 hk9 hS => ?_)
    have hLW := LW.keep hLW (fun q h => hk9 q h id)
    rw [hw9]
    clear hw9 hB9 ht9 hz9 hk9
    refine lv_iconst (v := 4) hx hb dL_law_547 (by decide) ?_
    refine lv_icmp_le (tgt := 558) hx hb dL_law_548 (by decide) (fun h7 => ?_) (fun h7 => ?_)
    · rw [ti_le, h4t] at h7
      refine lv_iconst (v := -1) hx hb dL_law_558 (by decide) ?_
      refine lv_icmp_ne (tgt := 573) hx hb dL_law_559 (by decide) (fun h6 => absurd (hr3.2 (by omega)) h6) (fun _ => ?_)
      refine lv_aload_n hx hb dL_law_562 rfl (lv_at hl 12 rfl) ?_
      refine lv_iload hx hb dL_law_563 (lv_at hl 0 rfl) ?_
      refine va_calli (va_runV (As := [.int (nI q)]) (rest := []) ⟨hx, hb, hml, hown, hts⟩ (c_X8_stateOf l hLW.1.1 hLW.2.2.2.2.2.1 x.1 (nI q) (q_stateOf (F := (g0.tw X').F) e1 (by omega) (by omega))) (cwV 1 hts (gd_V q697 q698 q699 q37 q700) rfl rfl rfl hd_X8_stateOf ⟨Nat.le_of_ble_eq_true rfl, Nat.le_of_ble_eq_true rfl⟩) ⟨Pz.blind, rcvL hTb hLW hfa, fun U hU hW => ⟨by rw [hfa], Tb.warm hW hTb, by rw [hU]; exact hLW.1.2.2⟩⟩ rfl rfl hl.1 rfl (lv_room (Nat.le_of_ble_eq_true rfl)) dL_law_565 ⟨by show _ ≤ 600104; omega, by show _ ≤ 7301314; omega⟩) hS (fun q _ h => h.elim) (fun q h => h.elim) (fun v9 u9 t9 H locs ht9 hvm9 hw9 hB9 hz9 hk9 hS => ?_)
      have hLW := LW.keep hLW (fun q h => hk9 q h id)
      rw [hw9]
      clear hw9 hB9 ht9 hz9 hk9
      refine lv_bipush (v := 7) hx hb dL_law_568 (by decide) ?_
      refine lv_icmp_ne (tgt := 575) hx hb dL_law_570 (by decide) (fun _ => ?_) (fun h8 => absurd h8 hx7)
      exact kont X' x.1 r.1 c1 _ _ ls hLW hxI hr1 a1 e1 hc01 (by omega) hd1 hd2 hS (lv_sub hl [8, 9, 10, 11, 12, 13] rfl)
    · rw [ti_le, h4t] at h7
      refine lv_aload_n hx hb dL_law_551 rfl (lv_at hl 12 rfl) ?_
      refine va_calli (va_runV (As := []) (rest := [.int r.2]) ⟨hx, hb, hml, hown, hts⟩ (c_X8_time l hLW.1.1 hLW.2.2.2.2.2.1 x.1 (r := x.1 0 6) rfl) (cwV 0 hts (gd_V q672 q673 q674 q37 q675) rfl rfl rfl hd_X8_time ⟨Nat.le_of_ble_eq_true rfl, Nat.le_of_ble_eq_true rfl⟩) ⟨Pz.blind, rcvL hTb hLW hfa, fun U hU hW => ⟨by rw [hfa], Tb.warm hW hTb, by rw [hU]; exact hLW.1.2.2⟩⟩ rfl rfl hl.1 rfl (lv_room (Nat.le_of_ble_eq_true rfl)) dL_law_552 ⟨by show _ ≤ 600104; omega, by show _ ≤ 7301314; omega⟩) hS (fun q _ h => h.elim) (fun q h => h.elim) (fun v9 u9 t9 H locs ht9 hvm9 hw9 hB9 hz9 hk9 hS => ?_)
      have hLW := LW.keep hLW (fun q h => hk9 q h id)
      rw [hw9]
      clear hw9 hB9 ht9 hz9 hk9
      refine lv_goto (tgt := 559) hx hb dL_law_555 (by decide) ?_
      refine lv_icmp_ne (tgt := 573) hx hb dL_law_559 (by decide) (fun h6 => absurd (hr3.1 (by omega)) h6) (fun _ => ?_)
      refine lv_aload_n hx hb dL_law_562 rfl (lv_at hl 12 rfl) ?_
      refine lv_iload hx hb dL_law_563 (lv_at hl 0 rfl) ?_
      refine va_calli (va_runV (As := [.int (nI q)]) (rest := []) ⟨hx, hb, hml, hown, hts⟩ (c_X8_stateOf l hLW.1.1 hLW.2.2.2.2.2.1 x.1 (nI q) (q_stateOf (F := (g0.tw X').F) e1 (by omega) (by omega))) (cwV 1 hts (gd_V q697 q698 q699 q37 q700) rfl rfl rfl hd_X8_stateOf ⟨Nat.le_of_ble_eq_true rfl, Nat.le_of_ble_eq_true rfl⟩) ⟨Pz.blind, rcvL hTb hLW hfa, fun U hU hW => ⟨by rw [hfa], Tb.warm hW hTb, by rw [hU]; exact hLW.1.2.2⟩⟩ rfl rfl hl.1 rfl (lv_room (Nat.le_of_ble_eq_true rfl)) dL_law_565 ⟨by show _ ≤ 600104; omega, by show _ ≤ 7301314; omega⟩) hS (fun q _ h => h.elim) (fun q h => h.elim) (fun v9 u9 t9 H locs ht9 hvm9 hw9 hB9 hz9 hk9 hS => ?_)
      have hLW := LW.keep hLW (fun q h => hk9 q h id)
      rw [hw9]
      clear hw9 hB9 ht9 hz9 hk9
      refine lv_bipush (v := 7) hx hb dL_law_568 (by decide) ?_
      refine lv_icmp_ne (tgt := 575) hx hb dL_law_570 (by decide) (fun _ => ?_) (fun h8 => absurd h8 hx7)
      exact kont X' x.1 r.1 c1 _ _ ls hLW hxI hr1 a1 e1 hc01 (by omega) hd1 hd2 hS (lv_sub hl [8, 9, 10, 11, 12, 13] rfl)
  · rw [ti_le, h4t] at h8
    have h46 : 4 < (κ (pn + 1) 6).toInt := by omega
    have hr2 := hr2 h46
    have hov2 := hov pn (by omega) h46
    refine lv_aload_n hx hb dL_law_515 rfl (lv_at hl 12 rfl) ?_
    refine lv_iload hx hb dL_law_516 (lv_at hl 7 rfl) ?_
    refine va_calli (va_runV (As := [.int (nI pn)]) (rest := []) ⟨hx, hb, hml, hown, hts⟩ (c_X8_stateOf l hLW.1.1 hLW.2.2.2.2.2.1 x.1 (nI pn) (q_stateOf (F := (g0.tw X').F) e1 (by omega) (by omega))) (cwV 1 hts (gd_V q697 q698 q699 q37 q700) rfl rfl rfl hd_X8_stateOf ⟨Nat.le_of_ble_eq_true rfl, Nat.le_of_ble_eq_true rfl⟩) ⟨Pz.blind, rcvL hTb hLW hfa, fun U hU hW => ⟨by rw [hfa], Tb.warm hW hTb, by rw [hU]; exact hLW.1.2.2⟩⟩ rfl rfl hl.1 rfl (lv_room (Nat.le_of_ble_eq_true rfl)) dL_law_518 ⟨by show _ ≤ 600104; omega, by show _ ≤ 7301314; omega⟩) hS (fun q _ h => h.elim) (fun q h => h.elim) (fun v9 u9 t9 H locs ht9 hvm9 hw9 hB9 hz9 hk9 hS => ?_)
    have hLW := LW.keep hLW (fun q h => hk9 q h id)
    rw [hw9]
    clear hw9 hB9 ht9 hz9 hk9
    refine lv_iload hx hb dL_law_521 (lv_at hl 6 rfl) ?_
    refine lv_icmp_ne (tgt := 573) hx hb dL_law_523 (by decide) (fun h7 => absurd (congrFun hov2 6) h7) (fun _ => ?_)
    refine lv_iload hx hb dL_law_526 (lv_at hl 1 rfl) ?_
    refine lv_iload hx hb dL_law_528 (lv_at hl 5 rfl) ?_
    refine lv_icmp_ne (tgt := 573) hx hb dL_law_530 (by decide) (fun h7 => absurd hr2 h7) (fun _ => ?_)
    refine lv_iload hx hb dL_law_533 (lv_at hl 6 rfl) ?_
    refine lv_iconst (v := 5) hx hb dL_law_535 (by decide) ?_
    refine lv_icmp_ge (tgt := 562) hx hb dL_law_536 (by decide) (fun _ => ?_) (fun h7 => absurd (ti_le.mpr (by rw [h5t]; omega)) h7)
    refine lv_aload_n hx hb dL_law_562 rfl (lv_at hl 12 rfl) ?_
    refine lv_iload hx hb dL_law_563 (lv_at hl 0 rfl) ?_
    refine va_calli (va_runV (As := [.int (nI q)]) (rest := []) ⟨hx, hb, hml, hown, hts⟩ (c_X8_stateOf l hLW.1.1 hLW.2.2.2.2.2.1 x.1 (nI q) (q_stateOf (F := (g0.tw X').F) e1 (by omega) (by omega))) (cwV 1 hts (gd_V q697 q698 q699 q37 q700) rfl rfl rfl hd_X8_stateOf ⟨Nat.le_of_ble_eq_true rfl, Nat.le_of_ble_eq_true rfl⟩) ⟨Pz.blind, rcvL hTb hLW hfa, fun U hU hW => ⟨by rw [hfa], Tb.warm hW hTb, by rw [hU]; exact hLW.1.2.2⟩⟩ rfl rfl hl.1 rfl (lv_room (Nat.le_of_ble_eq_true rfl)) dL_law_565 ⟨by show _ ≤ 600104; omega, by show _ ≤ 7301314; omega⟩) hS (fun q _ h => h.elim) (fun q h => h.elim) (fun v9 u9 t9 H locs ht9 hvm9 hw9 hB9 hz9 hk9 hS => ?_)
    have hLW := LW.keep hLW (fun q h => hk9 q h id)
    rw [hw9]
    clear hw9 hB9 ht9 hz9 hk9
    refine lv_bipush (v := 7) hx hb dL_law_568 (by decide) ?_
    refine lv_icmp_ne (tgt := 575) hx hb dL_law_570 (by decide) (fun _ => ?_) (fun h8 => absurd h8 hx7)
    exact kont X' x.1 r.1 c1 _ _ ls hLW hxI hr1 a1 e1 hc01 (by omega) hd1 hd2 hS (lv_sub hl [8, 9, 10, 11, 12, 13] rfl)
