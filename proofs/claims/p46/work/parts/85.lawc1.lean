/-! the law's loop: what it reads first -/
set_option maxHeartbeats 8000000 in
set_option maxRecDepth 100000 in
theorem law_c1 (l : Launch) {z : Nat} {D : va_G} {cy : Nat → ClassId} {bs L : Nat} {xs : Nat → Int32} (hL : L ≤ 260) {p : Program} {e9 : Env} {s : State} {m : MethodId} {below : List Frame} {meth : Method} {c : Code} {Qx : State → Prop} (hx : p.tables.exec = Jvm.exec) (hb : c.code = code) (hml : c.maxLocals = 14) (hts : ∀ w ∈ lw_all, w.before #[Value.ref bs] s = true) (hown : s.vm.findClass RL = some m.cls) (hT : T3 D (tysB cy) s) (hE : Em D z s.heap.size (cy 2) s) (hX : Tx s) (hXs : va_X bs L xs s s.heap) (hbl : bs < s.heap.size) {g0 g : Geo} {X : Tp} {μ κ : Mem} {cs : va_W} {fa sn sim k c0 : Nat} (hTb : Tb (g0.tw X) s) (hfa : (g0.tw X).ad 272 = fa) (hk : k < 30) (h5 : κ 0 5 = nI c0) (hc1 : 1 ≤ c0) (hc24 : c0 ≤ 24) {c9 s9 : Nat} (hc9 : c9 ≤ 600000) (hs9 : s9 ≤ 7300000) {H : Heap} {locs : List Loc} {ls : Array Slot} (hLW : LW s.heap.size (g0.tw X) g κ μ cs H) (hS : va_S (fun q => s.heap.size ≤ q) s.heap H locs) (hl : lv_has ls 14 [(4, .int (nI k)), (3, .ref sim), (2, .int (nI sn)), (1, .ref fa), (0, .ref bs)])
    (kont : ∀ (xv : Int32) (pn kd : Nat) (H : Heap) (locs : List Loc) (ls : Array Slot), pn < c0 → kd < 6 → LW s.heap.size (g0.tw X) g κ μ cs H → va_S (fun q => s.heap.size ≤ q) s.heap H locs → lv_has ls 14 [(10, .int (nI kd)), (9, .int (κ 0 8)), (8, .int (κ 0 6)), (7, .int (κ (pn + 1) 6)), (6, .int (nI pn)), (5, .int xv), (4, .int (nI k)), (3, .ref sim), (2, .int (nI sn)), (1, .ref fa), (0, .ref bs)] → W p l e9 room_1 s m #[Value.ref bs] below meth c H locs c9 s9 Qx (F0 m 299 ls [])) : W p l e9 room_1 s m #[Value.ref bs] below meth c H locs c9 s9 Qx (F0 m 238 ls []) := by
  generalize hAe : (fun q : Nat => s.heap.size ≤ q) = A at kont hS
  have hbA : ¬ A bs := fun h => by rw [← hAe] at h; omega
  refine lv_aload_n hx hb dL_law_238 rfl (lv_at hl 4 rfl) ?_
  refine lv_iload hx hb dL_law_239 (lv_at hl 0 rfl) ?_
  refine lv_bipush (v := 16) hx hb dL_law_241 (by decide) ?_
  refine lv_irem hx hb dL_law_243 (by decide) ?_
  refine W.eq (g2 := F0 m 244 ls [.int (nI (k % 16)), .ref bs]) (by rw [← pk_rem (a := k) (d := 16) (by omega) (by decide) (by decide)]; rfl) ?_
  refine va_calli (va_runS (As := [.ref bs, .int (nI (k % 16))]) (rest := []) ⟨hx, hb, hml, hown, hts⟩ (k_L_cell l (b := bs) (L := L) (xs := xs) hL (k := (k % 16)) (by omega)) (va_cwS 2 hts (gd_S q928 q929 q36 q930) rfl rfl rfl hd_L_cell.2 ⟨Nat.le_of_ble_eq_true rfl, Nat.le_of_ble_eq_true rfl⟩) ⟨Pcell.blind, fun U hU hW => ⟨rfl, by show va_X bs L xs U U.heap; rw [hU]; exact (va_X.moved hW.alike hXs).kept (hS.2.1 _ hbl hbA)⟩⟩ rfl rfl hl.1 rfl (lv_room (Nat.le_of_ble_eq_true rfl)) dL_law_244 ⟨by show _ ≤ 600104; omega, by show _ ≤ 7301314; omega⟩) hS (fun q _ h => h.elim) (fun q h => h.elim) (fun x31 u9 t9 H locs ht9 hvm9 hw9 hB9 hz9 hk9 hS => ?_)
  have hLW := LW.keep hLW (fun q h => hk9 q h id)
  refine lv_iload hx hb dL_law_247 (lv_at hl 0 rfl) ?_
  refine lv_bipush (v := 16) hx hb dL_law_249 (by decide) ?_
  refine lv_idiv hx hb dL_law_251 (by decide) ?_
  refine lv_iconst (v := 3) hx hb dL_law_252 (by decide) ?_
  refine lv_imul hx hb dL_law_253 ?_
  refine lv_ishr hx hb dL_law_254 ?_
  obtain ⟨y32, ey32⟩ : ∃ y : Int32, y = (x31 >>> ((((nI k) / 16) * 3) &&& 31)) := ⟨_, rfl⟩
  rw [← ey32]
  obtain ⟨w33, ew33⟩ : ∃ w : Int32, w = y32 := ⟨_, rfl⟩
  rw [← ew33]
  refine lv_istore (lv' := [(5, .int w33), (4, .int (nI k)), (3, .ref sim), (2, .int (nI sn)), (1, .ref fa), (0, .ref bs)]) hx hb dL_law_255 hl (by decide) rfl (fun ls hl => ?_)
  refine lv_iload hx hb dL_law_257 (lv_at hl 0 rfl) ?_
  refine lv_iconst (v := 2) hx hb dL_law_259 (by decide) ?_
  refine lv_ishr hx hb dL_law_260 ?_
  obtain ⟨y34, ey34⟩ : ∃ y : Int32, y = (w33 >>> (2 &&& 31)) := ⟨_, rfl⟩
  rw [← ey34]
  refine lv_aload_n hx hb dL_law_261 rfl (lv_at hl 4 rfl) ?_
  refine va_calli (va_runV (As := []) (rest := [.int y34]) ⟨hx, hb, hml, hown, hts⟩ (c_X8_processes l hLW.1.1 hLW.2.2.2.2.2.1 κ (r := κ 0 5) rfl) (cwV 0 hts (gd_V q689 q690 q691 q37 q692) rfl rfl rfl hd_X8_processes ⟨Nat.le_of_ble_eq_true rfl, Nat.le_of_ble_eq_true rfl⟩) ⟨Pz.blind, rcvL hTb hLW hfa, fun U hU hW => ⟨by rw [hfa], Tb.warm hW hTb, by rw [hU]; exact hLW.1.2.2⟩⟩ rfl rfl hl.1 rfl (lv_room (Nat.le_of_ble_eq_true rfl)) dL_law_262 ⟨by show _ ≤ 600104; omega, by show _ ≤ 7301314; omega⟩) hS (fun q _ h => h.elim) (fun q h => h.elim) (fun v9 u9 t9 H locs ht9 hvm9 hw9 hB9 hz9 hk9 hS => ?_)
  have hLW := LW.keep hLW (fun q h => hk9 q h id)
  rw [hw9]
  clear hw9 hB9 ht9 hz9 hk9
  refine W.eq (g2 := F0 m 265 ls [.int (nI c0), .int y34]) (by rw [h5]) ?_
  refine va_calli (va_runS (As := [.int y34, .int (nI c0)]) (rest := []) ⟨hx, hb, hml, hown, hts⟩ (k_L_below l (n := c0) (by omega) (by omega)) (va_cwS 2 hts (gd_S q924 q925 q36 q926) rfl rfl rfl hd_L_below.2 ⟨Nat.le_of_ble_eq_true rfl, Nat.le_of_ble_eq_true rfl⟩) ⟨Pb.blind, fun U hU hW => ⟨rfl, trivial⟩⟩ rfl rfl hl.1 rfl (lv_room (Nat.le_of_ble_eq_true rfl)) dL_law_265 ⟨by show _ ≤ 600104; omega, by show _ ≤ 7301314; omega⟩) hS (fun q _ h => h.elim) (fun q h => h.elim) (fun v9 u9 t9 H locs ht9 hvm9 hw9 hB9 hz9 hk9 hS => ?_)
  have hLW := LW.keep hLW (fun q h => hk9 q h id)
  obtain ⟨j35, hj35, ej35⟩ := hw9
  rw [ej35]
  refine lv_istore (lv' := [(6, .int (nI j35)), (5, .int w33), (4, .int (nI k)), (3, .ref sim), (2, .int (nI sn)), (1, .ref fa), (0, .ref bs)]) hx hb dL_law_268 hl (by decide) rfl (fun ls hl => ?_)
  refine lv_aload_n hx hb dL_law_270 rfl (lv_at hl 5 rfl) ?_
  refine lv_iload hx hb dL_law_271 (lv_at hl 0 rfl) ?_
  refine va_calli (va_runV (As := [.int (nI j35)]) (rest := []) ⟨hx, hb, hml, hown, hts⟩ (c_X8_stateOf l hLW.1.1 hLW.2.2.2.2.2.1 κ (nI j35) (q_stateOf (F := (g0.tw X).F) h5 hc24 (by omega))) (cwV 1 hts (gd_V q697 q698 q699 q37 q700) rfl rfl rfl hd_X8_stateOf ⟨Nat.le_of_ble_eq_true rfl, Nat.le_of_ble_eq_true rfl⟩) ⟨Pz.blind, rcvL hTb hLW hfa, fun U hU hW => ⟨by rw [hfa], Tb.warm hW hTb, by rw [hU]; exact hLW.1.2.2⟩⟩ rfl rfl hl.1 rfl (lv_room (Nat.le_of_ble_eq_true rfl)) dL_law_273 ⟨by show _ ≤ 600104; omega, by show _ ≤ 7301314; omega⟩) hS (fun q _ h => h.elim) (fun q h => h.elim) (fun v9 u9 t9 H locs ht9 hvm9 hw9 hB9 hz9 hk9 hS => ?_)
  have hLW := LW.keep hLW (fun q h => hk9 q h id)
  rw [hw9]
  clear hw9 hB9 ht9 hz9 hk9
  refine lv_istore (lv' := [(7, .int (κ (j35 + 1) 6)), (6, .int (nI j35)), (5, .int w33), (4, .int (nI k)), (3, .ref sim), (2, .int (nI sn)), (1, .ref fa), (0, .ref bs)]) hx hb dL_law_276 hl (by decide) rfl (fun ls hl => ?_)
  refine lv_aload_n hx hb dL_law_278 rfl (lv_at hl 6 rfl) ?_
  refine va_calli (va_runV (As := []) (rest := []) ⟨hx, hb, hml, hown, hts⟩ (c_X8_time l hLW.1.1 hLW.2.2.2.2.2.1 κ (r := κ 0 6) rfl) (cwV 0 hts (gd_V q672 q673 q674 q37 q675) rfl rfl rfl hd_X8_time ⟨Nat.le_of_ble_eq_true rfl, Nat.le_of_ble_eq_true rfl⟩) ⟨Pz.blind, rcvL hTb hLW hfa, fun U hU hW => ⟨by rw [hfa], Tb.warm hW hTb, by rw [hU]; exact hLW.1.2.2⟩⟩ rfl rfl hl.1 rfl (lv_room (Nat.le_of_ble_eq_true rfl)) dL_law_279 ⟨by show _ ≤ 600104; omega, by show _ ≤ 7301314; omega⟩) hS (fun q _ h => h.elim) (fun q h => h.elim) (fun v9 u9 t9 H locs ht9 hvm9 hw9 hB9 hz9 hk9 hS => ?_)
  have hLW := LW.keep hLW (fun q h => hk9 q h id)
  rw [hw9]
  clear hw9 hB9 ht9 hz9 hk9
  refine lv_istore (lv' := [(8, .int (κ 0 6)), (7, .int (κ (j35 + 1) 6)), (6, .int (nI j35)), (5, .int w33), (4, .int (nI k)), (3, .ref sim), (2, .int (nI sn)), (1, .ref fa), (0, .ref bs)]) hx hb dL_law_282 hl (by decide) rfl (fun ls hl => ?_)
  refine lv_aload_n hx hb dL_law_284 rfl (lv_at hl 7 rfl) ?_
  refine va_calli (va_runV (As := []) (rest := []) ⟨hx, hb, hml, hown, hts⟩ (c_X8_done l hLW.1.1 hLW.2.2.2.2.2.1 κ (r := κ 0 8) rfl) (cwV 0 hts (gd_V q693 q694 q695 q37 q696) rfl rfl rfl hd_X8_done ⟨Nat.le_of_ble_eq_true rfl, Nat.le_of_ble_eq_true rfl⟩) ⟨Pz.blind, rcvL hTb hLW hfa, fun U hU hW => ⟨by rw [hfa], Tb.warm hW hTb, by rw [hU]; exact hLW.1.2.2⟩⟩ rfl rfl hl.1 rfl (lv_room (Nat.le_of_ble_eq_true rfl)) dL_law_285 ⟨by show _ ≤ 600104; omega, by show _ ≤ 7301314; omega⟩) hS (fun q _ h => h.elim) (fun q h => h.elim) (fun v9 u9 t9 H locs ht9 hvm9 hw9 hB9 hz9 hk9 hS => ?_)
  have hLW := LW.keep hLW (fun q h => hk9 q h id)
  rw [hw9]
  clear hw9 hB9 ht9 hz9 hk9
  refine lv_istore (lv' := [(9, .int (κ 0 8)), (8, .int (κ 0 6)), (7, .int (κ (j35 + 1) 6)), (6, .int (nI j35)), (5, .int w33), (4, .int (nI k)), (3, .ref sim), (2, .int (nI sn)), (1, .ref fa), (0, .ref bs)]) hx hb dL_law_288 hl (by decide) rfl (fun ls hl => ?_)
  refine lv_iload hx hb dL_law_290 (lv_at hl 4 rfl) ?_
  refine lv_bipush (v := 6) hx hb dL_law_292 (by decide) ?_
  refine va_calli (va_runS (As := [.int w33, .int 6]) (rest := []) ⟨hx, hb, hml, hown, hts⟩ (k_L_below l (n := 6) (by decide) (by decide)) (va_cwS 2 hts (gd_S q924 q925 q36 q926) rfl rfl rfl hd_L_below.2 ⟨Nat.le_of_ble_eq_true rfl, Nat.le_of_ble_eq_true rfl⟩) ⟨Pb.blind, fun U hU hW => ⟨rfl, trivial⟩⟩ rfl rfl hl.1 rfl (lv_room (Nat.le_of_ble_eq_true rfl)) dL_law_294 ⟨by show _ ≤ 600104; omega, by show _ ≤ 7301314; omega⟩) hS (fun q _ h => h.elim) (fun q h => h.elim) (fun v9 u9 t9 H locs ht9 hvm9 hw9 hB9 hz9 hk9 hS => ?_)
  have hLW := LW.keep hLW (fun q h => hk9 q h id)
  obtain ⟨j36, hj36, ej36⟩ := hw9
  rw [ej36]
  refine lv_istore (lv' := [(10, .int (nI j36)), (9, .int (κ 0 8)), (8, .int (κ 0 6)), (7, .int (κ (j35 + 1) 6)), (6, .int (nI j35)), (5, .int w33), (4, .int (nI k)), (3, .ref sim), (2, .int (nI sn)), (1, .ref fa), (0, .ref bs)]) hx hb dL_law_297 hl (by decide) rfl (fun ls hl => ?_)
  exact kont w33 j35 j36 H locs ls (by omega) (by omega) hLW hS (lv_sub hl [0, 1, 2, 3, 4, 5, 6, 7, 8, 9, 10] rfl)
