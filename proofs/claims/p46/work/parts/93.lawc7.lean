/-! the law's loop: what is done, by kind and state -/
set_option maxHeartbeats 8000000 in
set_option maxRecDepth 100000 in
theorem law_c7 (l : Launch) {z : Nat} {D : va_G} {cy : Nat → ClassId} {bs L : Nat} {xs : Nat → Int32} (hL : L ≤ 260) {p : Program} {e9 : Env} {s : State} {m : MethodId} {below : List Frame} {meth : Method} {c : Code} {Qx : State → Prop} (hx : p.tables.exec = Jvm.exec) (hb : c.code = code) (hml : c.maxLocals = 14) (hts : ∀ w ∈ lw_all, w.before #[Value.ref bs] s = true) (hown : s.vm.findClass RL = some m.cls) (hT : T3 D (tysB cy) s) (hE : Em D z s.heap.size (cy 2) s) (hX : Tx s) (hXs : va_X bs L xs s s.heap) (hbl : bs < s.heap.size) {g0 g : Geo} {X : Tp} {K : Kx} {T N : Int} {μ κ : Mem} {cs : va_W} {fa sn sim k c0 pn kd n : Nat} {xv : Int32} (hTb : Tb (g0.tw X) s) (hTg : Tb g s) (hE2 : Em (g0.tw X).D z s.heap.size ((g0.tw X).cy 2) s) (hFF : g.F = (g0.tw X).F) (hfa : (g0.tw X).ad 272 = fa) (hC : Cfg (g0.tw X).F K) (hI : Inv (g0.tw X).F K (fun _ => False) 99 T N κ) (hT5 : T + 20 ≤ 5000) (hN5 : N + 4000 < 2000000000) (h80 : 0 ≤ (κ 0 8).toInt) (h81 : (κ 0 8).toInt ≤ 1000000) (hTI : TI z X n) (hn : n + 40 ≤ 1300) (hμ : Cst (g0.tw X).F K μ) (h5 : κ 0 5 = nI c0) (hc24 : c0 ≤ 24) (hpn : pn < c0) {c9 s9 : Nat} (hc9 : c9 ≤ 500000) (hs9 : s9 ≤ 7000000) (hz0 : (g0.tw X).sz 0 = 2) {H : Heap} {locs : List Loc} {ls : Array Slot} (hLW : LW s.heap.size (g0.tw X) g κ μ cs H) (hS : va_S (fun q => s.heap.size ≤ q) s.heap H locs) (hl : lv_has ls 14 [(10, .int (nI kd)), (9, .int (κ 0 8)), (8, .int (κ 0 6)), (7, .int (κ (pn + 1) 6)), (6, .int (nI pn)), (5, .int xv), (4, .int (nI k)), (3, .ref sim), (2, .int (nI sn)), (1, .ref fa), (0, .ref bs)])
    (kont : ∀ (X' : Tp) (κ' μ' : Mem) (c1 : Nat) (H : Heap) (locs : List Loc) (ls : Array Slot), LW s.heap.size (g0.tw X') g κ' μ' cs H → Inv (g0.tw X).F K (fun _ => False) 99 (T + 20) (N + 4000) κ' → Cst (g0.tw X).F K μ' → TI z X' (n + 40) → κ' 0 5 = nI c1 → c0 ≤ c1 → c1 ≤ 24 → (κ 0 8).toInt ≤ (κ' 0 8).toInt → (κ' 0 8).toInt ≤ (κ 0 8).toInt + 40 → va_S (fun q => s.heap.size ≤ q) s.heap H locs → lv_has ls 14 [(5, .int xv), (4, .int (nI k)), (3, .ref sim), (2, .int (nI sn)), (1, .ref fa), (0, .ref bs)] → W p l e9 room_1 s m #[Value.ref bs] below meth c H locs (c9 + 120) (s9 + 20920) Qx (F0 m 575 ls [])) : W p l e9 room_1 s m #[Value.ref bs] below meth c H locs c9 s9 Qx (F0 m 299 ls []) := by
  have h5t : (5 : Int32).toInt = 5 := rfl
  have h0t : (0 : Int32).toInt = 0 := rfl
  have L381 : W p l e9 room_1 s m #[Value.ref bs] below meth c H locs c9 s9 Qx (F0 m 381 ls []) := by
    refine lv_iload hx hb dL_law_381 (lv_at hl 0 rfl) ?_
    refine lv_iconst (v := 1) hx hb dL_law_383 (by decide) ?_
    have L451 : W p l e9 room_1 s m #[Value.ref bs] below meth c H locs c9 s9 Qx (F0 m 451 ls []) := law_c4 l (z := z) (D := D) (cy := cy) hL hx hb hml hts hown hT hE hX hXs hbl hTb hTg hE2 hFF hfa hC hI hT5 hN5 h80 h81 hTI hn hμ h5 hc24 hpn hc9 hs9 hLW hS hl kont
    refine lv_icmp_ne (tgt := 451) hx hb dL_law_384 (by decide) (fun _ => L451) (fun _ => ?_)
    refine lv_iload hx hb dL_law_387 (lv_at hl 3 rfl) ?_
    refine lv_iconst (v := 5) hx hb dL_law_389 (by decide) ?_
    refine lv_icmp_ge (tgt := 451) hx hb dL_law_390 (by decide) (fun _ => L451) (fun h9 => ?_)
    rw [ti_le, h5t] at h9
    exact law_c3 l (z := z) (D := D) (cy := cy) hL hx hb hml hts hown hT hE hX hXs hbl hTb hfa hC hz0 hI (by omega) (by omega) h5 hc24 hpn (by omega) (by omega) (by omega) hLW hS hl (fun κ' c1 H locs ls hLW hI' e1 hcc h24 h6 h8 hS hl => by
      refine W.widen (k := c9 + 120) (n := s9 + 20920) (Nat.le_add_right _ _) (Nat.le_add_right _ _) ?_
      exact kont X κ' μ c1 H locs ls hLW (hI'.mono (by omega) (by omega)) hμ (hTI.mono (by omega)) e1 hcc h24 (by rw [h8]; exact Int.le_refl _) (by rw [h8]; omega) hS hl)
  refine lv_iload hx hb dL_law_299 (lv_at hl 0 rfl) ?_
  refine lv_if_ne (tgt := 381) hx hb dL_law_301 (by decide) (fun _ => L381) (fun _ => ?_)
  refine lv_iload hx hb dL_law_304 (lv_at hl 3 rfl) ?_
  refine lv_if_le (tgt := 381) hx hb dL_law_306 (by decide) (fun _ => L381) (fun h1 => ?_)
  rw [ti_le, h0t] at h1
  refine lv_iload hx hb dL_law_309 (lv_at hl 3 rfl) ?_
  refine lv_iconst (v := 5) hx hb dL_law_311 (by decide) ?_
  refine lv_icmp_ge (tgt := 381) hx hb dL_law_312 (by decide) (fun _ => L381) (fun h9 => ?_)
  rw [ti_le, h5t] at h9
  exact law_c2 l (z := z) (D := D) (cy := cy) hL hx hb hml hts hown hT hE hX hXs hbl hTb hfa hC hI (by omega) (by omega) h5 hc24 hpn (by omega) (by omega) (by omega) (by omega) hLW hS hl (fun κ' c1 H locs ls hLW hI' e1 hcc h24 h6 h8 hS hl => by
      refine W.widen (k := c9 + 120) (n := s9 + 20920) (Nat.le_add_right _ _) (Nat.le_add_right _ _) ?_
      exact kont X κ' μ c1 H locs ls hLW (hI'.mono (by omega) (by omega)) hμ (hTI.mono (by omega)) e1 hcc h24 (by rw [h8]; exact Int.le_refl _) (by rw [h8]; omega) hS hl)
