/-! the law's loop: the checksum, how busy it would be -/
theorem ti_tz {z n : Nat} {X : Tp} (h : TI z X n) (hn : n ≤ 1300) : X.1 2 ≤ 10 := by
  obtain ⟨h0, m, k, o, ba, os, h1, h2, h3, h4, h5, h6, e0, e1, e8, e6, e7, hlg, h12, h13, h14, h15⟩ := h
  have hkm : k ≤ m := by
    rw [h4]
    have := Nat.le_mul_of_pos_right k h2
    omega
  omega
set_option maxHeartbeats 8000000 in
set_option maxRecDepth 100000 in
theorem law_c5 (l : Launch) {z : Nat} {D : va_G} {cy : Nat → ClassId} {bs L : Nat} {xs : Nat → Int32} (hL : L ≤ 260) {p : Program} {e9 : Env} {s : State} {m : MethodId} {below : List Frame} {meth : Method} {c : Code} {Qx : State → Prop} (hx : p.tables.exec = Jvm.exec) (hb : c.code = code) (hml : c.maxLocals = 14) (hts : ∀ w ∈ lw_all, w.before #[Value.ref bs] s = true) (hown : s.vm.findClass RL = some m.cls) (hT : T3 D (tysB cy) s) (hE : Em D z s.heap.size (cy 2) s) (hX : Tx s) (hXs : va_X bs L xs s s.heap) (hbl : bs < s.heap.size) {g0 g : Geo} {X : Tp} {K : Kx} {T N : Int} {μ κ : Mem} {cs : va_W} {fa sn sim k n : Nat} {xv : Int32} (hTb : Tb (g0.tw X) s) (hfa : (g0.tw X).ad 272 = fa) (hC : Cfg (g0.tw X).F K) (hz0 : (g0.tw X).sz 0 = 2) (hI : Inv (g0.tw X).F K (fun _ => False) 99 T N κ) (hT5 : T + 40 ≤ 5000) (hTI : TI z X n) (hn : n ≤ 1300) (hTg : Tb g s) (hFF : g.F = (g0.tw X).F) (hN5 : N + 1600000 < 2000000000) (hμ : Cst (g0.tw X).F K μ) {c9 s9 : Nat} (hc9 : c9 ≤ 500000) (hs9 : s9 ≤ 7000000) {H : Heap} {locs : List Loc} {ls : Array Slot} (hLW : LW s.heap.size (g0.tw X) g κ μ cs H) (hS : va_S (fun q => s.heap.size ≤ q) s.heap H locs) (hl : lv_has ls 14 [(5, .int xv), (4, .int (nI k)), (3, .ref sim), (2, .int (nI sn)), (1, .ref fa), (0, .ref bs)])
    (kont : ∀ (dg : Int64) (bz : Int32) (μ' : Mem) (H : Heap) (locs : List Loc) (ls : Array Slot), f_X8_digest (g0.tw X) κ = some dg → LW s.heap.size (g0.tw X) g κ μ' cs H → Cst (g0.tw X).F K μ' → va_S (fun q => s.heap.size ≤ q) s.heap H locs → lv_has ls 14 [(13, .int bz), (11, .long dg), (5, .int xv), (4, .int (nI k)), (3, .ref sim), (2, .int (nI sn)), (1, .ref fa), (0, .ref bs)] → W p l e9 room_1 s m #[Value.ref bs] below meth c H locs c9 s9 Qx (F0 m 609 ls [.int 0, .ref fa])) : W p l e9 room_1 s m #[Value.ref bs] below meth c H locs c9 s9 Qx (F0 m 575 ls []) := by
  generalize hAe : (fun q : Nat => s.heap.size ≤ q) = A at kont hS
  have hA : ∀ q : Nat, s.heap.size ≤ q → A q := fun q h => by rw [← hAe]; exact h
  obtain ⟨dg, hdg, -⟩ := t_digest (g := g0.tw X) hC hI hTI hn (ti_tz hTI hn)
  refine lv_aload_n hx hb dL_law_575 rfl (lv_at hl 4 rfl) ?_
  refine va_calll (va_runV (As := []) (rest := []) ⟨hx, hb, hml, hown, hts⟩ (c_X8_digest l hLW.1.1 hLW.2.2.2.2.2.1 κ hdg) (cwV 0 hts (gd_V q803 q804 q805 q37 q806) rfl rfl rfl hd_X8_digest ⟨Nat.le_of_ble_eq_true rfl, Nat.le_of_ble_eq_true rfl⟩) ⟨Pz.blind, rcvL hTb hLW hfa, fun U hU hW => ⟨by rw [hfa], Tb.warm hW hTb, by rw [hU]; exact hLW.1.2.2⟩⟩ rfl rfl hl.1 rfl (lv_room (Nat.le_of_ble_eq_true rfl)) dL_law_576 ⟨by show _ ≤ 600104; omega, by show _ ≤ 7301314; omega⟩) hS (fun q _ h => h.elim) (fun q h => h.elim) (fun v9 u9 t9 H locs ht9 hvm9 hw9 hB9 hz9 hk9 hS => ?_)
  have hLW := LW.keep hLW (fun q h => hk9 q h id)
  rw [hw9]
  clear hw9 hB9 ht9 hz9 hk9
  refine lv_lstore (lv' := [(11, .long dg), (5, .int xv), (4, .int (nI k)), (3, .ref sim), (2, .int (nI sn)), (1, .ref fa), (0, .ref bs)]) hx hb dL_law_579 hl (by decide) rfl (fun ls hl => ?_)
  refine lv_aload_n hx hb dL_law_581 rfl (lv_at hl 5 rfl) ?_
  refine lv_iconst (v := 1) hx hb dL_law_582 (by decide) ?_
  refine lv_iload hx hb dL_law_583 (lv_at hl 1 rfl) ?_
  refine lv_iconst (v := 4) hx hb dL_law_585 (by decide) ?_
  refine lv_ishr hx hb dL_law_586 ?_
  obtain ⟨y31, ey31⟩ : ∃ y : Int32, y = (xv >>> (4 &&& 31)) := ⟨_, rfl⟩
  rw [← ey31]
  refine lv_bipush (v := 20) hx hb dL_law_587 (by decide) ?_
  refine va_calli (va_runS (As := [.int y31, .int 20]) (rest := [.int 1, .ref fa]) ⟨hx, hb, hml, hown, hts⟩ (k_L_below l (n := 20) (by decide) (by decide)) (va_cwS 2 hts (gd_S q924 q925 q36 q926) rfl rfl rfl hd_L_below.2 ⟨Nat.le_of_ble_eq_true rfl, Nat.le_of_ble_eq_true rfl⟩) ⟨Pb.blind, fun U hU hW => ⟨rfl, trivial⟩⟩ rfl rfl hl.1 rfl (lv_room (Nat.le_of_ble_eq_true rfl)) dL_law_589 ⟨by show _ ≤ 600104; omega, by show _ ≤ 7301314; omega⟩) hS (fun q _ h => h.elim) (fun q h => h.elim) (fun v9 u9 t9 H locs ht9 hvm9 hw9 hB9 hz9 hk9 hS => ?_)
  have hLW := LW.keep hLW (fun q h => hk9 q h id)
  obtain ⟨j32, hj32, ej32⟩ := hw9
  rw [ej32]
  obtain ⟨μ2, hR2, hA2⟩ := tr_mem (K := K) hLW.2.1.2.2 (by rw [hFF]; exact hμ) (by rw [hFF]; exact hI.cst)
  rw [hFF] at hA2
  obtain ⟨r, hf, hr1, hr2⟩ := a_would (F := (g0.tw X).F) (r := 1) (ti := nI j32) hC hI hA2 (by show 1 < (g0.tw X).sz 0; omega) (by rw [nI_toInt (by omega)]; omega) (by rw [nI_toInt (by omega)]; omega) (by rw [nI_toInt (by omega)]; omega) hN5
  have hLW := LW.trial hLW hR2 (fun _ _ _ => rfl)
  have hAgt : ∀ q, Ag g H.size q → A q := fun q h => h.elim (fun ⟨k, hk, e⟩ => hA q (by rw [e]; exact hLW.2.1.2.1.1 k (mem_mut.mp hk).1)) (fun h => hA q (Nat.le_trans hS.1 h))
  refine va_calli (va_runV (As := [.int 1, .int (nI j32)]) (rest := []) ⟨hx, hb, hml, hown, hts⟩ (c_X8_wouldBeBusy l hLW.2.1.1 hLW.1.1 hLW.2.2.1.1 hLW.2.2.1.2.1 hLW.2.2.2.2.2.2.1.1 hLW.2.2.2.2.2.1 hLW.2.2.2.2.2.2.2 μ2 κ H.size 1 (nI j32) (r := r) (by rw [hFF]; exact hf)) (cwV 2 hts (gd_V q790 q791 q792 q37 q793) rfl rfl rfl hd_X8_wouldBeBusy ⟨Nat.le_of_ble_eq_true rfl, Nat.le_of_ble_eq_true rfl⟩) ⟨Pz2.blind, rcvL hTb hLW hfa, fun U hU hW => ⟨by rw [hfa], Tb.warm hW hTg, Tb.warm hW hTb, by rw [hU], by rw [hU]; exact hLW.2.1.2.2, by rw [hU]; exact hLW.1.2.2⟩⟩ rfl rfl hl.1 rfl (lv_room (Nat.le_of_ble_eq_true rfl)) dL_law_592 ⟨by show _ ≤ 600104; omega, by show _ ≤ 7301314; omega⟩) hS (fun q _ h => hAgt q h) hAgt (fun v9 u9 t9 H1 locs ht9 hvm9 hw9 hB9 hz9 hk9 hS => ?_)
  rw [ht9] at hB9
  have hLW := LW.trial hLW hB9 hk9
  rw [hw9]
  clear hAgt hB9 hk9 hw9 ht9 hz9
  refine lv_istore (lv' := [(13, .int r.2), (11, .long dg), (5, .int xv), (4, .int (nI k)), (3, .ref sim), (2, .int (nI sn)), (1, .ref fa), (0, .ref bs)]) hx hb dL_law_595 hl (by decide) rfl (fun ls hl => ?_)
  refine lv_iload hx hb dL_law_597 (lv_at hl 0 rfl) ?_
  refine lv_aload_n hx hb dL_law_599 rfl (lv_at hl 6 rfl) ?_
  refine lv_iconst (v := 1) hx hb dL_law_600 (by decide) ?_
  refine va_calli (va_runV (As := [.int 1]) (rest := [.int r.2]) ⟨hx, hb, hml, hown, hts⟩ (c_X8_busy l hLW.1.1 hLW.2.2.2.2.2.1 κ 1 (q_busy (F := (g0.tw X).F) (r := 1) (by show 1 < (g0.tw X).sz 0; omega) hC.1)) (cwV 1 hts (gd_V q716 q717 q718 q37 q719) rfl rfl rfl hd_X8_busy ⟨Nat.le_of_ble_eq_true rfl, Nat.le_of_ble_eq_true rfl⟩) ⟨Pz.blind, rcvL hTb hLW hfa, fun U hU hW => ⟨by rw [hfa], Tb.warm hW hTb, by rw [hU]; exact hLW.1.2.2⟩⟩ rfl rfl hl.1 rfl (lv_room (Nat.le_of_ble_eq_true rfl)) dL_law_601 ⟨by show _ ≤ 600104; omega, by show _ ≤ 7301314; omega⟩) hS (fun q _ h => h.elim) (fun q h => h.elim) (fun v9 u9 t9 H locs ht9 hvm9 hw9 hB9 hz9 hk9 hS => ?_)
  have hLW := LW.keep hLW (fun q h => hk9 q h id)
  rw [hw9]
  clear hw9 hB9 ht9 hz9 hk9
  refine lv_icmp_lt (tgt := 670) hx hb dL_law_604 (by decide) (fun h8 => absurd (ti_ltI.mp h8) (by omega)) (fun _ => ?_)
  refine lv_aload_n hx hb dL_law_607 rfl (lv_at hl 6 rfl) ?_
  refine lv_iconst (v := 0) hx hb dL_law_608 (by decide) ?_
  exact kont dg r.2 r.1 _ _ ls hdg hLW hr1 hS (lv_sub hl [0, 1, 2, 3, 4, 5, 6, 7] rfl)
