/-! the law's walk: luck, seven starts -/
theorem rcvL {b : Nat} {g0 g : Geo} {X : Tp} {κ μ : Mem} {cs : va_W} {s : State} {H : Heap} {fa : Nat} (hT : Tb (g0.tw X) s) (h : LW b (g0.tw X) g κ μ cs H) (hfa : (g0.tw X).ad 272 = fa) : ∃ cell : Cell, H[fa]? = some cell ∧ cell.vm.isStatics = false ∧ s.vm.findClass RX8 = some cell.cls := by
  have h1 := h.1.2.2.1 272 (inX h.2.2.2.2.2.1)
  rw [obX, hfa] at h1
  exact va_recv (q0 := 0) hT.1 (P1 h1) rfl rfl
set_option maxHeartbeats 8000000 in
set_option maxRecDepth 100000 in
theorem law_b (l : Launch) {z : Nat} {D : va_G} {cy : Nat → ClassId} {bs L : Nat} {xs : Nat → Int32} (hL : L ≤ 260) {p : Program} {e9 : Env} {s : State} {m : MethodId} {below : List Frame} {meth : Method} {c : Code} {Qx : State → Prop} (hx : p.tables.exec = Jvm.exec) (hb : c.code = code) (hml : c.maxLocals = 14) (hts : ∀ w ∈ lw_all, w.before #[Value.ref bs] s = true) (hown : s.vm.findClass RL = some m.cls) (hT : T3 D (tysB cy) s) (hE : Em D z s.heap.size (cy 2) s) (hX : Tx s) (hXs : va_X bs L xs s s.heap) (hbl : bs < s.heap.size) {g0 g : Geo} {X : Tp} {K : Kx} {μ : Mem} {cs : va_W} {fa sn sim : Nat} (hTb : Tb (g0.tw X) s) (hC : Cfg (g0.tw X).F K) (hf2 : (g0.tw X).sz 2 = sn) (h1s : 1 ≤ sn) (hsn : sn ≤ 3) (hfa : (g0.tw X).ad 272 = fa)
    (kont : ∀ (κ : Mem) (N : Int) (H : Heap) (locs : List Loc) (ls : Array Slot), LW s.heap.size (g0.tw X) g κ μ cs H → Inv (g0.tw X).F K (fun _ => False) 99 0 N κ → N ≤ 7 → (κ 0 5).toInt = 7 → κ 0 8 = 0 → va_S (fun q => s.heap.size ≤ q) s.heap H locs → lv_has ls 14 [(3, .ref sim), (2, .int (nI sn)), (1, .ref fa), (0, .ref bs)] → W p l e9 room_1 s m #[Value.ref bs] below meth c H locs 500 16000 Qx (F0 m 228 ls [])) :
    ∀ (κ : Mem) (H : Heap) (locs : List Loc) (ls : Array Slot), LW s.heap.size (g0.tw X) g κ μ cs H → Inv (g0.tw X).F K (fun _ => False) 99 0 0 κ → κ 0 5 = 0 → κ 0 8 = 0 → va_S (fun q => s.heap.size ≤ q) s.heap H locs → lv_has ls 14 [(2, .int (nI sn)), (1, .ref fa), (0, .ref bs)] → W p l e9 room_1 s m #[Value.ref bs] below meth c H locs 500 16000 Qx (F0 m 138 ls [.ref sim]) := by
  generalize hAe : (fun q : Nat => s.heap.size ≤ q) = A at kont ⊢
  have hA : ∀ q : Nat, s.heap.size ≤ q → A q := fun q h => by rw [← hAe]; exact h
  have hbA : ¬ A bs := fun h => by rw [← hAe] at h; omega
  have L165 : ∀ (n k : Nat) (κ : Mem) (N : Int) (H : Heap) (locs : List Loc) (ls : Array Slot), k + n = 7 → LW s.heap.size (g0.tw X) g κ μ cs H → Inv (g0.tw X).F K (fun _ => False) 99 0 N κ → N ≤ k → (κ 0 5).toInt = k → κ 0 8 = 0 → va_S A s.heap H locs → lv_has ls 14 [(4, .int (nI k)), (3, .ref sim), (2, .int (nI sn)), (1, .ref fa), (0, .ref bs)] → W p l e9 room_1 s m #[Value.ref bs] below meth c H locs 500 16000 Qx (F0 m 165 ls []) := by
    intro n
    induction n with
    | zero =>
      intro k κ N H locs ls hin hLW hI hN h5 h8 hS hl
      have hil : k = 7 := by omega
      refine lv_iload hx hb dL_law_165 (lv_at hl 0 rfl) ?_
      refine lv_bipush (v := 7) hx hb dL_law_167 (by decide) ?_
      refine lv_icmp_ge (tgt := 228) hx hb dL_law_169 (by decide) (fun _ => ?_) (fun h9 => absurd ((nI_leI (a := 7) (b := k) (by omega) (by omega)).mpr (by omega)) h9)
      exact kont κ N H locs ls hLW hI (by omega) (by omega) h8 hS (lv_sub hl [1, 2, 3, 4] rfl)
    | succ n ih =>
      intro k κ N H locs ls hin hLW hI hN h5 h8 hS hl
      have hk : k < 7 := by omega
      refine lv_iload hx hb dL_law_165 (lv_at hl 0 rfl) ?_
      refine lv_bipush (v := 7) hx hb dL_law_167 (by decide) ?_
      refine lv_icmp_ge (tgt := 228) hx hb dL_law_169 (by decide) (fun h9 => absurd ((nI_leI (a := 7) (b := k) (by omega) (by omega)).mp h9) (by omega)) (fun _ => ?_)
      refine lv_aload_n hx hb dL_law_172 rfl (lv_at hl 3 rfl) ?_
      refine lv_aload_n hx hb dL_law_173 rfl (lv_at hl 4 rfl) ?_
      refine lv_bipush (v := 6) hx hb dL_law_174 (by decide) ?_
      refine lv_iload hx hb dL_law_176 (lv_at hl 0 rfl) ?_
      refine lv_bipush (v := 9) hx hb dL_law_178 (by decide) ?_
      refine lv_irem hx hb dL_law_180 (by decide) ?_
      refine W.eq (g2 := F0 m 181 ls [.int (nI (k % 9)), .int 6, .ref bs, .ref fa]) (by rw [← pk_rem (a := k) (d := 9) (by omega) (by decide) (by decide)]; rfl) ?_
      refine lv_iadd hx hb dL_law_181 ?_
      refine W.eq (g2 := F0 m 182 ls [.int (nI (6 + (k % 9))), .ref bs, .ref fa]) (by rw [← nn_nI]; rfl) ?_
      refine va_calli (va_runS (As := [.ref bs, .int (nI (6 + (k % 9)))]) (rest := [.ref fa]) ⟨hx, hb, hml, hown, hts⟩ (k_L_cell l (b := bs) (L := L) (xs := xs) hL (k := (6 + (k % 9))) (by omega)) (va_cwS 2 hts (gd_S q928 q929 q36 q930) rfl rfl rfl hd_L_cell.2 ⟨Nat.le_of_ble_eq_true rfl, Nat.le_of_ble_eq_true rfl⟩) ⟨Pcell.blind, fun U hU hW => ⟨rfl, by show va_X bs L xs U U.heap; rw [hU]; exact (va_X.moved hW.alike hXs).kept (hS.2.1 _ hbl hbA)⟩⟩ rfl rfl hl.1 rfl (lv_room (Nat.le_of_ble_eq_true rfl)) dL_law_182 ⟨Nat.le_of_ble_eq_true rfl, Nat.le_of_ble_eq_true rfl⟩) hS (fun q _ h => h.elim) (fun q h => h.elim) (fun x31 u9 t9 H locs ht9 hvm9 hw9 hB9 hz9 hk9 hS => ?_)
      have hLW := LW.keep hLW (fun q h => hk9 q h id)
      refine lv_iload hx hb dL_law_185 (lv_at hl 0 rfl) ?_
      refine lv_iconst (v := 4) hx hb dL_law_187 (by decide) ?_
      refine lv_irem hx hb dL_law_188 (by decide) ?_
      refine W.eq (g2 := F0 m 189 ls [.int (nI (k % 4)), .int x31, .ref fa]) (by rw [← pk_rem (a := k) (d := 4) (by omega) (by decide) (by decide)]; rfl) ?_
      refine lv_ishr hx hb dL_law_189 ?_
      obtain ⟨y32, ey32⟩ : ∃ y : Int32, y = (x31 >>> ((nI (k % 4)) &&& 31)) := ⟨_, rfl⟩
      rw [← ey32]
      refine lv_iload_n hx hb dL_law_190 rfl (lv_at hl 2 rfl) ?_
      refine va_calli (va_runS (As := [.int y32, .int (nI sn)]) (rest := [.ref fa]) ⟨hx, hb, hml, hown, hts⟩ (k_L_below l (n := sn) (by omega) (by omega)) (va_cwS 2 hts (gd_S q924 q925 q36 q926) rfl rfl rfl hd_L_below.2 ⟨Nat.le_of_ble_eq_true rfl, Nat.le_of_ble_eq_true rfl⟩) ⟨Pb.blind, fun U hU hW => ⟨rfl, trivial⟩⟩ rfl rfl hl.1 rfl (lv_room (Nat.le_of_ble_eq_true rfl)) dL_law_191 ⟨Nat.le_of_ble_eq_true rfl, Nat.le_of_ble_eq_true rfl⟩) hS (fun q _ h => h.elim) (fun q h => h.elim) (fun v9 u9 t9 H locs ht9 hvm9 hw9 hB9 hz9 hk9 hS => ?_)
      have hLW := LW.keep hLW (fun q h => hk9 q h id)
      obtain ⟨j33, hj33, ej33⟩ := hw9
      rw [ej33]
      refine lv_aload_n hx hb dL_law_194 rfl (lv_at hl 4 rfl) ?_
      refine lv_iload hx hb dL_law_195 (lv_at hl 0 rfl) ?_
      refine va_calli (va_runS (As := [.ref bs, .int (nI k)]) (rest := [.int (nI j33), .ref fa]) ⟨hx, hb, hml, hown, hts⟩ (k_L_cell l (b := bs) (L := L) (xs := xs) hL (k := k) (by omega)) (va_cwS 2 hts (gd_S q928 q929 q36 q930) rfl rfl rfl hd_L_cell.2 ⟨Nat.le_of_ble_eq_true rfl, Nat.le_of_ble_eq_true rfl⟩) ⟨Pcell.blind, fun U hU hW => ⟨rfl, by show va_X bs L xs U U.heap; rw [hU]; exact (va_X.moved hW.alike hXs).kept (hS.2.1 _ hbl hbA)⟩⟩ rfl rfl hl.1 rfl (lv_room (Nat.le_of_ble_eq_true rfl)) dL_law_197 ⟨Nat.le_of_ble_eq_true rfl, Nat.le_of_ble_eq_true rfl⟩) hS (fun q _ h => h.elim) (fun q h => h.elim) (fun x34 u9 t9 H locs ht9 hvm9 hw9 hB9 hz9 hk9 hS => ?_)
      have hLW := LW.keep hLW (fun q h => hk9 q h id)
      refine lv_bipush (v := 10) hx hb dL_law_200 (by decide) ?_
      refine va_calli (va_runS (As := [.int x34, .int 10]) (rest := [.int (nI j33), .ref fa]) ⟨hx, hb, hml, hown, hts⟩ (k_L_below l (n := 10) (by decide) (by decide)) (va_cwS 2 hts (gd_S q924 q925 q36 q926) rfl rfl rfl hd_L_below.2 ⟨Nat.le_of_ble_eq_true rfl, Nat.le_of_ble_eq_true rfl⟩) ⟨Pb.blind, fun U hU hW => ⟨rfl, trivial⟩⟩ rfl rfl hl.1 rfl (lv_room (Nat.le_of_ble_eq_true rfl)) dL_law_202 ⟨Nat.le_of_ble_eq_true rfl, Nat.le_of_ble_eq_true rfl⟩) hS (fun q _ h => h.elim) (fun q h => h.elim) (fun v9 u9 t9 H locs ht9 hvm9 hw9 hB9 hz9 hk9 hS => ?_)
      have hLW := LW.keep hLW (fun q h => hk9 q h id)
      obtain ⟨j35, hj35, ej35⟩ := hw9
      rw [ej35]
      refine lv_aload_n hx hb dL_law_205 rfl (lv_at hl 4 rfl) ?_
      refine lv_iload hx hb dL_law_206 (lv_at hl 0 rfl) ?_
      refine lv_iconst (v := 3) hx hb dL_law_208 (by decide) ?_
      refine lv_iadd hx hb dL_law_209 ?_
      refine W.eq (g2 := F0 m 210 ls [.int (nI (k + 3)), .ref bs, .int (nI j35), .int (nI j33), .ref fa]) (by rw [← nn_nI]; rfl) ?_
      refine va_calli (va_runS (As := [.ref bs, .int (nI (k + 3))]) (rest := [.int (nI j35), .int (nI j33), .ref fa]) ⟨hx, hb, hml, hown, hts⟩ (k_L_cell l (b := bs) (L := L) (xs := xs) hL (k := (k + 3)) (by omega)) (va_cwS 2 hts (gd_S q928 q929 q36 q930) rfl rfl rfl hd_L_cell.2 ⟨Nat.le_of_ble_eq_true rfl, Nat.le_of_ble_eq_true rfl⟩) ⟨Pcell.blind, fun U hU hW => ⟨rfl, by show va_X bs L xs U U.heap; rw [hU]; exact (va_X.moved hW.alike hXs).kept (hS.2.1 _ hbl hbA)⟩⟩ rfl rfl hl.1 rfl (lv_room (Nat.le_of_ble_eq_true rfl)) dL_law_210 ⟨Nat.le_of_ble_eq_true rfl, Nat.le_of_ble_eq_true rfl⟩) hS (fun q _ h => h.elim) (fun q h => h.elim) (fun x36 u9 t9 H locs ht9 hvm9 hw9 hB9 hz9 hk9 hS => ?_)
      have hLW := LW.keep hLW (fun q h => hk9 q h id)
      refine lv_bipush (v := 12) hx hb dL_law_213 (by decide) ?_
      refine va_calli (va_runS (As := [.int x36, .int 12]) (rest := [.int (nI j35), .int (nI j33), .ref fa]) ⟨hx, hb, hml, hown, hts⟩ (k_L_below l (n := 12) (by decide) (by decide)) (va_cwS 2 hts (gd_S q924 q925 q36 q926) rfl rfl rfl hd_L_below.2 ⟨Nat.le_of_ble_eq_true rfl, Nat.le_of_ble_eq_true rfl⟩) ⟨Pb.blind, fun U hU hW => ⟨rfl, trivial⟩⟩ rfl rfl hl.1 rfl (lv_room (Nat.le_of_ble_eq_true rfl)) dL_law_215 ⟨Nat.le_of_ble_eq_true rfl, Nat.le_of_ble_eq_true rfl⟩) hS (fun q _ h => h.elim) (fun q h => h.elim) (fun v9 u9 t9 H locs ht9 hvm9 hw9 hB9 hz9 hk9 hS => ?_)
      have hLW := LW.keep hLW (fun q h => hk9 q h id)
      obtain ⟨j37, hj37, ej37⟩ := hw9
      rw [ej37]
      obtain ⟨r, hf, hok⟩ := a_start (F := (g0.tw X).F) (j := j33) (rk := nI j35) (de := nI j37) hC hI (by omega) (by decide) (by omega) (by show j33 < (g0.tw X).sz 2; omega) (by omega) (by rw [nI_toInt (by omega)]; omega) (by rw [nI_toInt (by omega)]; omega) (by rw [nI_toInt (by omega)]; omega) (by rw [nI_toInt (by omega)]; omega)
      have hAg : ∀ q, Ag (g0.tw X) H.size q → A q := fun q h => h.elim (fun ⟨k, hk, e⟩ => hA q (by rw [e]; exact hLW.1.2.1.1 k (mem_mut.mp hk).1)) (fun h => hA q (Nat.le_trans hS.1 h))
      refine va_calli (va_runV (As := [.int (nI j33), .int (nI j35), .int (nI j37)]) (rest := []) ⟨hx, hb, hml, hown, hts⟩ (c_X8_start l hLW.1.1 hLW.2.2.2.2.2.1 κ H.size (nI j33) (nI j35) (nI j37) hf) (cwV 3 hts (gd_V q313 q314 q315 q37 q316) rfl rfl rfl hd_X8_start ⟨Nat.le_of_ble_eq_true rfl, Nat.le_of_ble_eq_true rfl⟩) ⟨Pz.blind, rcvL hTb hLW hfa, fun U hU hW => ⟨by rw [hfa], Tb.warm hW hTb, by rw [hU], by rw [hU]; exact hLW.1.2.2⟩⟩ rfl rfl hl.1 rfl (lv_room (Nat.le_of_ble_eq_true rfl)) dL_law_218 ⟨Nat.le_of_ble_eq_true rfl, Nat.le_of_ble_eq_true rfl⟩) hS (fun q _ h => hAg q h) hAg (fun v9 u9 t9 H1 locs ht9 hvm9 hw9 hB9 hz9 hk9 hS => ?_)
      rw [ht9] at hB9
      have hLW := LW.act hLW hB9 hk9
      clear hAg
      clear hB9 hk9
      obtain ⟨vr, evr⟩ : ∃ v : Int32, v = v9 := ⟨_, rfl⟩
      rw [← evr]
      clear hw9 ht9 hz9
      refine lv_pop hx hb dL_law_221 rfl ?_
      refine lv_iinc (v := (nI (k + 1))) (lv' := [(4, .int (nI (k + 1))), (3, .ref sim), (2, .int (nI sn)), (1, .ref fa), (0, .ref bs)]) hx hb dL_law_222 hl (k := 0) rfl (nI_1 k) (by decide) rfl (fun ls hl => ?_)
      refine lv_goto (tgt := 165) hx hb dL_law_225 (by decide) ?_
      exact ih (k + 1) r.1 (N + 1) _ _ ls (by omega) hLW hok.1 (by omega) (by rw [hok.2.1, h5]; omega) (hok.2.2.2.trans h8) hS hl
  intro κ H locs ls hLW hI h5 h8 hS hl
  refine lv_astore_n (lv' := [(3, .ref sim), (2, .int (nI sn)), (1, .ref fa), (0, .ref bs)]) hx hb dL_law_138 rfl hl (by decide) rfl (fun ls hl => ?_)
  refine lv_aload_n hx hb dL_law_139 rfl (lv_at hl 0 rfl) ?_
  refine lv_ifnonnull (tgt := 145) hx hb dL_law_140 (by decide) ?_
  refine lv_aload_n hx hb dL_law_145 rfl (lv_at hl 2 rfl) ?_
  refine lv_aload_n hx hb dL_law_146 rfl (lv_at hl 3 rfl) ?_
  refine lv_bipush (v := 13) hx hb dL_law_147 (by decide) ?_
  refine va_calli (va_runS (As := [.ref bs, .int 13]) (rest := [.ref fa]) ⟨hx, hb, hml, hown, hts⟩ (k_L_cell l (b := bs) (L := L) (xs := xs) hL (k := 13) (by decide)) (va_cwS 2 hts (gd_S q928 q929 q36 q930) rfl rfl rfl hd_L_cell.2 ⟨Nat.le_of_ble_eq_true rfl, Nat.le_of_ble_eq_true rfl⟩) ⟨Pcell.blind, fun U hU hW => ⟨rfl, by show va_X bs L xs U U.heap; rw [hU]; exact (va_X.moved hW.alike hXs).kept (hS.2.1 _ hbl hbA)⟩⟩ rfl rfl hl.1 rfl (lv_room (Nat.le_of_ble_eq_true rfl)) dL_law_149 ⟨Nat.le_of_ble_eq_true rfl, Nat.le_of_ble_eq_true rfl⟩) hS (fun q _ h => h.elim) (fun q h => h.elim) (fun x31 u9 t9 H locs ht9 hvm9 hw9 hB9 hz9 hk9 hS => ?_)
  have hLW := LW.keep hLW (fun q h => hk9 q h id)
  refine lv_sipush (v := 10000) hx hb dL_law_152 (by decide) ?_
  refine va_calli (va_runS (As := [.int x31, .int 10000]) (rest := [.ref fa]) ⟨hx, hb, hml, hown, hts⟩ (k_L_below l (n := 10000) (by decide) (by decide)) (va_cwS 2 hts (gd_S q924 q925 q36 q926) rfl rfl rfl hd_L_below.2 ⟨Nat.le_of_ble_eq_true rfl, Nat.le_of_ble_eq_true rfl⟩) ⟨Pb.blind, fun U hU hW => ⟨rfl, trivial⟩⟩ rfl rfl hl.1 rfl (lv_room (Nat.le_of_ble_eq_true rfl)) dL_law_155 ⟨Nat.le_of_ble_eq_true rfl, Nat.le_of_ble_eq_true rfl⟩) hS (fun q _ h => h.elim) (fun q h => h.elim) (fun v9 u9 t9 H locs ht9 hvm9 hw9 hB9 hz9 hk9 hS => ?_)
  have hLW := LW.keep hLW (fun q h => hk9 q h id)
  obtain ⟨j32, hj32, ej32⟩ := hw9
  rw [ej32]
  obtain ⟨r, hf, hok⟩ := a_setLuck (F := (g0.tw X).F) (l := nI j32) hC hI (by rw [nI_toInt (by omega)]; omega) (by rw [nI_toInt (by omega)]; omega)
  have hAg : ∀ q, Ag (g0.tw X) H.size q → A q := fun q h => h.elim (fun ⟨k, hk, e⟩ => hA q (by rw [e]; exact hLW.1.2.1.1 k (mem_mut.mp hk).1)) (fun h => hA q (Nat.le_trans hS.1 h))
  refine va_calli (va_runV (As := [.int (nI j32)]) (rest := []) ⟨hx, hb, hml, hown, hts⟩ (c_X8_setLuck l hLW.1.1 hLW.2.2.2.2.2.1 κ H.size (nI j32) hf) (cwV 1 hts (gd_V q238 q239 q240 q37 q241) rfl rfl rfl hd_X8_setLuck ⟨Nat.le_of_ble_eq_true rfl, Nat.le_of_ble_eq_true rfl⟩) ⟨Pz.blind, rcvL hTb hLW hfa, fun U hU hW => ⟨by rw [hfa], Tb.warm hW hTb, by rw [hU], by rw [hU]; exact hLW.1.2.2⟩⟩ rfl rfl hl.1 rfl (lv_room (Nat.le_of_ble_eq_true rfl)) dL_law_158 ⟨Nat.le_of_ble_eq_true rfl, Nat.le_of_ble_eq_true rfl⟩) hS (fun q _ h => hAg q h) hAg (fun v9 u9 t9 H1 locs ht9 hvm9 hw9 hB9 hz9 hk9 hS => ?_)
  rw [ht9] at hB9
  have hLW := LW.act hLW hB9 hk9
  clear hAg
  clear hB9 hk9
  obtain ⟨vr, evr⟩ : ∃ v : Int32, v = v9 := ⟨_, rfl⟩
  rw [← evr]
  clear hw9 ht9 hz9
  refine lv_pop hx hb dL_law_161 rfl ?_
  refine lv_iconst (v := 0) hx hb dL_law_162 (by decide) ?_
  refine lv_istore (lv' := [(4, .int 0), (3, .ref sim), (2, .int (nI sn)), (1, .ref fa), (0, .ref bs)]) hx hb dL_law_163 hl (by decide) rfl (fun ls hl => ?_)
  exact L165 7 0 r.1 0 _ _ ls rfl hLW hok.1 (by omega) (by rw [hok.2.1 5 (by decide), h5]; rfl) ((hok.2.1 8 (by decide)).trans h8) hS hl
