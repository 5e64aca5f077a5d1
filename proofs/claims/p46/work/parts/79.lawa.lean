theorem BQ.mono {z b : Nat} {A A' : Nat → Prop} {D : va_G} {cy : Nat → ClassId} {sn fa sim : Nat} {ki0 : Int32} {t : State} (h : BQ z b A D cy sn fa ki0 sim t) (hA : ∀ q, A q → A' q) : BQ z b A' D cy sn fa ki0 sim t := by
  obtain ⟨un, ro, fs, ad, szf, shf, j4, j8, j12, j15, j19, a1, a2, a3, a4, a5, a6, a7, a8, a9, a10, a11, a12, a13, a14, a15⟩ := h
  exact ⟨un, ro, fs, ad, szf, shf, j4, j8, j12, j15, j19, a1, a2, a3, a4, a5, a6, a7, a8, a9, a10, a11, a12, a13, a14, a15.weaken (fun k q _ h => hA _ h)⟩
theorem Pbu.blind {g : Geo} {D : va_G} {z b sz bs L : Nat} {c2 : ClassId} {xs : Nat → Int32} {av : List Value} {PH : Heap → Prop} {ws : va_W} : FrameBlind (va_Pc av (fun U => ((Tb g U ∧ Em D z b c2 U) ∧ Tx U) ∧ U.heap.size = sz ∧ PH U.heap ∧ va_X bs L xs U U.heap ∧ va_P D vwCl ws U.heap)) := fun _ _ _ _ h => ⟨h.1, ⟨⟨Tb.call h.2.1.1.1, Em.call h.2.1.1.2⟩, Tx.call h.2.1.2⟩, h.2.2.1, h.2.2.2.1, va_X.moved (Vm.Alike.refl _) h.2.2.2.2.1, h.2.2.2.2.2⟩
/-! the law's walk, to build's end -/
set_option maxHeartbeats 8000000 in
set_option maxRecDepth 100000 in
theorem law_a (l : Launch) {z : Nat} {D : va_G} {cy : Nat → ClassId} {bs L : Nat} {xs : Nat → Int32} (hL : L ≤ 260) {p : Program} {e9 : Env} {s : State} {m : MethodId} {below : List Frame} {meth : Method} {c : Code} {Qx : State → Prop} (hx : p.tables.exec = Jvm.exec) (hb : c.code = code) (hml : c.maxLocals = 14) (hts : ∀ w ∈ lw_all, w.before #[Value.ref bs] s = true) (hown : s.vm.findClass RL = some m.cls) (hT : T3 D (tysB cy) s) (hE : Em D z s.heap.size (cy 2) s) (hX : Tx s) (hXs : va_X bs L xs s s.heap) (hbl : bs < s.heap.size)
    (kont : ∀ (sn fa sim j8 : Nat) (H : Heap) (locs : List Loc) (ls : Array Slot) (t : State), 1 ≤ sn → sn ≤ 3 → j8 < 3 → t.heap = H → BQ z s.heap.size (fun q => s.heap.size ≤ q) D cy sn fa (nI j8) sim t → va_S (fun q => s.heap.size ≤ q) s.heap H locs → lv_has ls 14 [(2, .int (nI sn)), (1, .ref fa), (0, .ref bs)] → W p l e9 room_1 s m #[Value.ref bs] below meth c H locs 500 16000 Qx (F0 m 138 ls [.ref sim])) : ∀ ls, lv_has ls 14 [(0, .ref bs)] → W p l e9 room_1 s m #[Value.ref bs] below meth c s.heap [] 0 0 Qx (F0 m 0 ls []) := by
  intro ls hl
  generalize hAe : (fun q : Nat => s.heap.size ≤ q) = A at kont
  have hA : ∀ q : Nat, s.heap.size ≤ q → A q := fun q h => by rw [← hAe]; exact h
  have hAb : ∀ q, A q → s.heap.size ≤ q := fun q h => by rw [← hAe] at h; exact h
  have hbA : ¬ A bs := fun h => by have := hAb _ h; omega
  have hS : va_S A s.heap s.heap [] := va_S.rf
  have hP : va_P D vwCl [] s.heap := P0
  have hD : va_D A [] := D0
  refine va_new (ci := 9) (fs := [.null, .null, .null, .null]) (C := RX8) (T := TX8) (N := 4) hx hb hts i_X8 tyX8 tyX8_ok hown (hts _ q62) (hts _ q63) (hts _ q37) hT.1 hP hD hS hA rfl (fun j hj => by rcases (show j = 0 ∨ j = 1 ∨ j = 2 ∨ j = 3 by omega) with rfl | rfl | rfl | rfl <;> rfl) (Nat.le_of_ble_eq_true rfl) (Nat.le_of_ble_eq_true rfl) dL_law_0 (fun fa H hP hD hS => ?_)
  have hP : va_P D vwCl [(fa, .inr (9, [.null, .null, .null, .null]))] H := hP
  have hD : va_D A [(fa, .inr (9, [.null, .null, .null, .null]))] := hD
  refine lv_dup hx hb dL_law_3 rfl ?_
  have hFc := Ff (w1 := [(fa, .inr (9, [.null, .null, .null, .null]))]) (w2 := []) hD hS hA
  refine va_callv (va_runI (As := []) (rest := [.ref fa]) ⟨hx, hb, hml, hown, hts⟩ (x_X8_init l (D := D) (tys := tysB cy) (z := z) (b := s.heap.size) (k0 := 0) (k1 := 1) (k2 := 2) rfl rfl rfl fa H.size) (cwI 0 hts (gd_code q66) rfl rfl rfl (hts _ q37) (hts _ q64) (hts _ q65) rfl hd_X8_init.2 ⟨Nat.le_of_ble_eq_true rfl, Nat.le_of_ble_eq_true rfl⟩) ⟨Xe.blind, fun U hU hW => ⟨rfl, Xe.warm hW hT hE hS hAb hU, by show U.heap.size = _; rw [hU], by rw [hU]; exact hP, hD.weaken (fun k q _ h => hAb _ h)⟩⟩ rfl rfl hl.1 rfl (lv_room (Nat.le_of_ble_eq_true rfl)) dL_law_4 ⟨Nat.le_of_ble_eq_true rfl, Nat.le_of_ble_eq_true rfl⟩) hS (fun q _ h => hFc q h) hFc (fun u9 t9 H1 locs ht9 hvm9 hw9 hB9 hz9 hk9 hS => ?_)
  obtain ⟨sl, tl, w, rl, st, row, tr, trl, tst, trow, ttl, ad, ad2, pl, pl2, hp1, hp2, hP1, hD1⟩ := hB9
  rw [ht9] at hP1
  obtain ⟨hK, hKa⟩ := kb_init hp1 hp2 hP1 hD1 (fun q h => hAb q (hFc q h))
  have h272 : Bg.ad (ad0 fa sl tl w rl st row tr trl tst trow ttl z ad ad2, S0 D cy) 272 = fa := rfl
  generalize ad0 fa sl tl w rl st row tr trl tst trow ttl z ad ad2 = az at hK hKa h272
  have hKA : ∀ p, Ka (az, S0 D cy) p → A p := fun p hp => hFc p (hKa p hp)
  have hKs := hK.st
  have hP : va_P D vwCl ([] ++ KL z (az, S0 D cy) mem0) H1 := hK.ls
  have hD : va_D A ([] ++ KL z (az, S0 D cy) mem0) := hK.ld hKA
  clear hP1 hD1 hK hKa hp1 hp2
  generalize H1 = H at hP hS ⊢
  refine lv_astore_n (lv' := [(1, .ref fa), (0, .ref bs)]) hx hb dL_law_7 rfl hl (by decide) rfl (fun ls hl => ?_)
  refine lv_iconst (v := 1) hx hb dL_law_8 (by decide) ?_
  refine lv_aload_n hx hb dL_law_9 rfl (lv_at hl 1 rfl) ?_
  refine lv_bipush (v := 14) hx hb dL_law_10 (by decide) ?_
  refine va_calli (va_runS (As := [.ref bs, .int 14]) (rest := [.int 1]) ⟨hx, hb, hml, hown, hts⟩ (k_L_cell l (b := bs) (L := L) (xs := xs) hL (k := 14) (by decide)) (va_cwS 2 hts (gd_S q928 q929 q36 q930) rfl rfl rfl hd_L_cell.2 ⟨Nat.le_of_ble_eq_true rfl, Nat.le_of_ble_eq_true rfl⟩) ⟨Pcell.blind, fun U hU hW => ⟨rfl, by show va_X bs L xs U U.heap; rw [hU]; exact (va_X.moved hW.alike hXs).kept (hS.2.1 _ hbl hbA)⟩⟩ rfl rfl hl.1 rfl (lv_room (Nat.le_of_ble_eq_true rfl)) dL_law_12 ⟨Nat.le_of_ble_eq_true rfl, Nat.le_of_ble_eq_true rfl⟩) hS (fun q _ h => h.elim) (fun q h => h.elim) (fun x31 u9 t9 H locs ht9 hvm9 hw9 hB9 hz9 hk9 hS => ?_)
  have hP := P_keep hP (fun q h => hk9 q h id)
  refine lv_iconst (v := 3) hx hb dL_law_15 (by decide) ?_
  refine va_calli (va_runS (As := [.int x31, .int 3]) (rest := [.int 1]) ⟨hx, hb, hml, hown, hts⟩ (k_L_below l (n := 3) (by decide) (by decide)) (va_cwS 2 hts (gd_S q924 q925 q36 q926) rfl rfl rfl hd_L_below.2 ⟨Nat.le_of_ble_eq_true rfl, Nat.le_of_ble_eq_true rfl⟩) ⟨Pb.blind, fun U hU hW => ⟨rfl, trivial⟩⟩ rfl rfl hl.1 rfl (lv_room (Nat.le_of_ble_eq_true rfl)) dL_law_16 ⟨Nat.le_of_ble_eq_true rfl, Nat.le_of_ble_eq_true rfl⟩) hS (fun q _ h => h.elim) (fun q h => h.elim) (fun v9 u9 t9 H locs ht9 hvm9 hw9 hB9 hz9 hk9 hS => ?_)
  have hP := P_keep hP (fun q h => hk9 q h id)
  obtain ⟨j32, hj32, ej32⟩ := hw9
  rw [ej32]
  refine lv_iadd hx hb dL_law_19 ?_
  refine W.eq (g2 := F0 m 20 ls [.int (nI (j32 + 1))]) (by rw [lit_nI 1]) ?_
  refine lv_istore_n (lv' := [(2, .int (nI (j32 + 1))), (1, .ref fa), (0, .ref bs)]) hx hb dL_law_20 rfl hl (by decide) rfl (fun ls hl => ?_)
  refine lv_aload_n hx hb dL_law_21 rfl (lv_at hl 1 rfl) ?_
  refine lv_aload_n hx hb dL_law_22 rfl (lv_at hl 2 rfl) ?_
  refine lv_iload_n hx hb dL_law_23 rfl (lv_at hl 0 rfl) ?_
  refine lv_bipush (v := 17) hx hb dL_law_24 (by decide) ?_
  refine va_newa (atype := .int) (ty := .int) (N' := 17) (a0 := (17, .inl (fun _ => 0))) hx hb (hts _ q187) rfl hT.1 hP hD hS hA (fun _ => rfl) (by decide) rfl (Nat.le_of_ble_eq_true rfl) (Nat.le_of_ble_eq_true rfl) (Nat.le_of_ble_eq_true rfl) dL_law_26 (fun q33 cA H hK9 hP hD hS => ?_)
  have e9 : cA = cy 0 := RAi hK9 (show (tysB cy)[0]? = some (cy 0, .int) from rfl)
  rw [e9] at hP hD
  have hP := Pnw hP
  have hD := Dnw hD
  have hP : va_P D vwCl ((q33, .inl (cy 0, 17, .inl (fun _ => 0))) :: KL z (az, (S0 D cy)) mem0) H := hP
  have hD : va_D A ((q33, .inl (cy 0, 17, .inl (fun _ => 0))) :: KL z (az, (S0 D cy)) mem0) := hD
  refine lv_dup hx hb dL_law_28 rfl ?_
  refine lv_iconst (v := 0) hx hb dL_law_29 (by decide) ?_
  refine lv_iconst (v := 0) hx hb dL_law_30 (by decide) ?_
  refine va_iast hx hb hT.1 hP hD hS 0 0 rfl rfl (vp_in_nI (n := 0) (N := 17) (by decide) (by decide)) dL_law_31 (fun H locs hP hD hS => ?_)
  have hP : va_P D vwCl ((q33, .inl (cy 0, 17, .inl (upd (fun _ => 0) (0 : Int32).toNatClampNeg 0))) :: KL z (az, (S0 D cy)) mem0) H := hP
  have hD : va_D A ((q33, .inl (cy 0, 17, .inl (upd (fun _ => 0) (0 : Int32).toNatClampNeg 0))) :: KL z (az, (S0 D cy)) mem0) := hD
  refine lv_dup hx hb dL_law_32 rfl ?_
  refine lv_iconst (v := 1) hx hb dL_law_33 (by decide) ?_
  refine lv_iconst (v := 0) hx hb dL_law_34 (by decide) ?_
  refine va_iast hx hb hT.1 hP hD hS 0 0 rfl rfl (vp_in_nI (n := 1) (N := 17) (by decide) (by decide)) dL_law_35 (fun H locs hP hD hS => ?_)
  have hP : va_P D vwCl ((q33, .inl (cy 0, 17, .inl (upd (upd (fun _ => 0) (0 : Int32).toNatClampNeg 0) (1 : Int32).toNatClampNeg 0))) :: KL z (az, (S0 D cy)) mem0) H := hP
  have hD : va_D A ((q33, .inl (cy 0, 17, .inl (upd (upd (fun _ => 0) (0 : Int32).toNatClampNeg 0) (1 : Int32).toNatClampNeg 0))) :: KL z (az, (S0 D cy)) mem0) := hD
  refine lv_dup hx hb dL_law_36 rfl ?_
  refine lv_iconst (v := 2) hx hb dL_law_37 (by decide) ?_
  refine lv_iconst (v := 0) hx hb dL_law_38 (by decide) ?_
  refine va_iast hx hb hT.1 hP hD hS 0 0 rfl rfl (vp_in_nI (n := 2) (N := 17) (by decide) (by decide)) dL_law_39 (fun H locs hP hD hS => ?_)
  have hP : va_P D vwCl ((q33, .inl (cy 0, 17, .inl (upd (upd (upd (fun _ => 0) (0 : Int32).toNatClampNeg 0) (1 : Int32).toNatClampNeg 0) (2 : Int32).toNatClampNeg 0))) :: KL z (az, (S0 D cy)) mem0) H := hP
  have hD : va_D A ((q33, .inl (cy 0, 17, .inl (upd (upd (upd (fun _ => 0) (0 : Int32).toNatClampNeg 0) (1 : Int32).toNatClampNeg 0) (2 : Int32).toNatClampNeg 0))) :: KL z (az, (S0 D cy)) mem0) := hD
  refine lv_dup hx hb dL_law_40 rfl ?_
  refine lv_iconst (v := 3) hx hb dL_law_41 (by decide) ?_
  refine lv_iconst (v := 1) hx hb dL_law_42 (by decide) ?_
  refine va_iast hx hb hT.1 hP hD hS 0 0 rfl rfl (vp_in_nI (n := 3) (N := 17) (by decide) (by decide)) dL_law_43 (fun H locs hP hD hS => ?_)
  have hP : va_P D vwCl ((q33, .inl (cy 0, 17, .inl (upd (upd (upd (upd (fun _ => 0) (0 : Int32).toNatClampNeg 0) (1 : Int32).toNatClampNeg 0) (2 : Int32).toNatClampNeg 0) (3 : Int32).toNatClampNeg 1))) :: KL z (az, (S0 D cy)) mem0) H := hP
  have hD : va_D A ((q33, .inl (cy 0, 17, .inl (upd (upd (upd (upd (fun _ => 0) (0 : Int32).toNatClampNeg 0) (1 : Int32).toNatClampNeg 0) (2 : Int32).toNatClampNeg 0) (3 : Int32).toNatClampNeg 1))) :: KL z (az, (S0 D cy)) mem0) := hD
  refine lv_dup hx hb dL_law_44 rfl ?_
  refine lv_iconst (v := 4) hx hb dL_law_45 (by decide) ?_
  refine lv_iconst (v := 1) hx hb dL_law_46 (by decide) ?_
  refine va_iast hx hb hT.1 hP hD hS 0 0 rfl rfl (vp_in_nI (n := 4) (N := 17) (by decide) (by decide)) dL_law_47 (fun H locs hP hD hS => ?_)
  have hP : va_P D vwCl ((q33, .inl (cy 0, 17, .inl (upd (upd (upd (upd (upd (fun _ => 0) (0 : Int32).toNatClampNeg 0) (1 : Int32).toNatClampNeg 0) (2 : Int32).toNatClampNeg 0) (3 : Int32).toNatClampNeg 1) (4 : Int32).toNatClampNeg 1))) :: KL z (az, (S0 D cy)) mem0) H := hP
  have hD : va_D A ((q33, .inl (cy 0, 17, .inl (upd (upd (upd (upd (upd (fun _ => 0) (0 : Int32).toNatClampNeg 0) (1 : Int32).toNatClampNeg 0) (2 : Int32).toNatClampNeg 0) (3 : Int32).toNatClampNeg 1) (4 : Int32).toNatClampNeg 1))) :: KL z (az, (S0 D cy)) mem0) := hD
  refine lv_dup hx hb dL_law_48 rfl ?_
  refine lv_iconst (v := 5) hx hb dL_law_49 (by decide) ?_
  refine lv_iconst (v := 2) hx hb dL_law_50 (by decide) ?_
  refine va_iast hx hb hT.1 hP hD hS 0 0 rfl rfl (vp_in_nI (n := 5) (N := 17) (by decide) (by decide)) dL_law_51 (fun H locs hP hD hS => ?_)
  have hP : va_P D vwCl ((q33, .inl (cy 0, 17, .inl (upd (upd (upd (upd (upd (upd (fun _ => 0) (0 : Int32).toNatClampNeg 0) (1 : Int32).toNatClampNeg 0) (2 : Int32).toNatClampNeg 0) (3 : Int32).toNatClampNeg 1) (4 : Int32).toNatClampNeg 1) (5 : Int32).toNatClampNeg 2))) :: KL z (az, (S0 D cy)) mem0) H := hP
  have hD : va_D A ((q33, .inl (cy 0, 17, .inl (upd (upd (upd (upd (upd (upd (fun _ => 0) (0 : Int32).toNatClampNeg 0) (1 : Int32).toNatClampNeg 0) (2 : Int32).toNatClampNeg 0) (3 : Int32).toNatClampNeg 1) (4 : Int32).toNatClampNeg 1) (5 : Int32).toNatClampNeg 2))) :: KL z (az, (S0 D cy)) mem0) := hD
  refine lv_dup hx hb dL_law_52 rfl ?_
  refine lv_bipush (v := 6) hx hb dL_law_53 (by decide) ?_
  refine lv_iconst (v := 3) hx hb dL_law_55 (by decide) ?_
  refine va_iast hx hb hT.1 hP hD hS 0 0 rfl rfl (vp_in_nI (n := 6) (N := 17) (by decide) (by decide)) dL_law_56 (fun H locs hP hD hS => ?_)
  have hP : va_P D vwCl ((q33, .inl (cy 0, 17, .inl (upd (upd (upd (upd (upd (upd (upd (fun _ => 0) (0 : Int32).toNatClampNeg 0) (1 : Int32).toNatClampNeg 0) (2 : Int32).toNatClampNeg 0) (3 : Int32).toNatClampNeg 1) (4 : Int32).toNatClampNeg 1) (5 : Int32).toNatClampNeg 2) (6 : Int32).toNatClampNeg 3))) :: KL z (az, (S0 D cy)) mem0) H := hP
  have hD : va_D A ((q33, .inl (cy 0, 17, .inl (upd (upd (upd (upd (upd (upd (upd (fun _ => 0) (0 : Int32).toNatClampNeg 0) (1 : Int32).toNatClampNeg 0) (2 : Int32).toNatClampNeg 0) (3 : Int32).toNatClampNeg 1) (4 : Int32).toNatClampNeg 1) (5 : Int32).toNatClampNeg 2) (6 : Int32).toNatClampNeg 3))) :: KL z (az, (S0 D cy)) mem0) := hD
  refine lv_dup hx hb dL_law_57 rfl ?_
  refine lv_bipush (v := 7) hx hb dL_law_58 (by decide) ?_
  refine lv_iconst (v := 4) hx hb dL_law_60 (by decide) ?_
  refine va_iast hx hb hT.1 hP hD hS 0 0 rfl rfl (vp_in_nI (n := 7) (N := 17) (by decide) (by decide)) dL_law_61 (fun H locs hP hD hS => ?_)
  have hP : va_P D vwCl ((q33, .inl (cy 0, 17, .inl (upd (upd (upd (upd (upd (upd (upd (upd (fun _ => 0) (0 : Int32).toNatClampNeg 0) (1 : Int32).toNatClampNeg 0) (2 : Int32).toNatClampNeg 0) (3 : Int32).toNatClampNeg 1) (4 : Int32).toNatClampNeg 1) (5 : Int32).toNatClampNeg 2) (6 : Int32).toNatClampNeg 3) (7 : Int32).toNatClampNeg 4))) :: KL z (az, (S0 D cy)) mem0) H := hP
  have hD : va_D A ((q33, .inl (cy 0, 17, .inl (upd (upd (upd (upd (upd (upd (upd (upd (fun _ => 0) (0 : Int32).toNatClampNeg 0) (1 : Int32).toNatClampNeg 0) (2 : Int32).toNatClampNeg 0) (3 : Int32).toNatClampNeg 1) (4 : Int32).toNatClampNeg 1) (5 : Int32).toNatClampNeg 2) (6 : Int32).toNatClampNeg 3) (7 : Int32).toNatClampNeg 4))) :: KL z (az, (S0 D cy)) mem0) := hD
  refine lv_dup hx hb dL_law_62 rfl ?_
  refine lv_bipush (v := 8) hx hb dL_law_63 (by decide) ?_
  refine lv_iconst (v := 5) hx hb dL_law_65 (by decide) ?_
  refine va_iast hx hb hT.1 hP hD hS 0 0 rfl rfl (vp_in_nI (n := 8) (N := 17) (by decide) (by decide)) dL_law_66 (fun H locs hP hD hS => ?_)
  have hP : va_P D vwCl ((q33, .inl (cy 0, 17, .inl (upd (upd (upd (upd (upd (upd (upd (upd (upd (fun _ => 0) (0 : Int32).toNatClampNeg 0) (1 : Int32).toNatClampNeg 0) (2 : Int32).toNatClampNeg 0) (3 : Int32).toNatClampNeg 1) (4 : Int32).toNatClampNeg 1) (5 : Int32).toNatClampNeg 2) (6 : Int32).toNatClampNeg 3) (7 : Int32).toNatClampNeg 4) (8 : Int32).toNatClampNeg 5))) :: KL z (az, (S0 D cy)) mem0) H := hP
  have hD : va_D A ((q33, .inl (cy 0, 17, .inl (upd (upd (upd (upd (upd (upd (upd (upd (upd (fun _ => 0) (0 : Int32).toNatClampNeg 0) (1 : Int32).toNatClampNeg 0) (2 : Int32).toNatClampNeg 0) (3 : Int32).toNatClampNeg 1) (4 : Int32).toNatClampNeg 1) (5 : Int32).toNatClampNeg 2) (6 : Int32).toNatClampNeg 3) (7 : Int32).toNatClampNeg 4) (8 : Int32).toNatClampNeg 5))) :: KL z (az, (S0 D cy)) mem0) := hD
  refine lv_dup hx hb dL_law_67 rfl ?_
  refine lv_bipush (v := 9) hx hb dL_law_68 (by decide) ?_
  refine lv_bipush (v := 6) hx hb dL_law_70 (by decide) ?_
  refine va_iast hx hb hT.1 hP hD hS 0 0 rfl rfl (vp_in_nI (n := 9) (N := 17) (by decide) (by decide)) dL_law_72 (fun H locs hP hD hS => ?_)
  have hP : va_P D vwCl ((q33, .inl (cy 0, 17, .inl (upd (upd (upd (upd (upd (upd (upd (upd (upd (upd (fun _ => 0) (0 : Int32).toNatClampNeg 0) (1 : Int32).toNatClampNeg 0) (2 : Int32).toNatClampNeg 0) (3 : Int32).toNatClampNeg 1) (4 : Int32).toNatClampNeg 1) (5 : Int32).toNatClampNeg 2) (6 : Int32).toNatClampNeg 3) (7 : Int32).toNatClampNeg 4) (8 : Int32).toNatClampNeg 5) (9 : Int32).toNatClampNeg 6))) :: KL z (az, (S0 D cy)) mem0) H := hP
  have hD : va_D A ((q33, .inl (cy 0, 17, .inl (upd (upd (upd (upd (upd (upd (upd (upd (upd (upd (fun _ => 0) (0 : Int32).toNatClampNeg 0) (1 : Int32).toNatClampNeg 0) (2 : Int32).toNatClampNeg 0) (3 : Int32).toNatClampNeg 1) (4 : Int32).toNatClampNeg 1) (5 : Int32).toNatClampNeg 2) (6 : Int32).toNatClampNeg 3) (7 : Int32).toNatClampNeg 4) (8 : Int32).toNatClampNeg 5) (9 : Int32).toNatClampNeg 6))) :: KL z (az, (S0 D cy)) mem0) := hD
  refine lv_dup hx hb dL_law_73 rfl ?_
  refine lv_bipush (v := 10) hx hb dL_law_74 (by decide) ?_
  refine lv_bipush (v := 7) hx hb dL_law_76 (by decide) ?_
  refine va_iast hx hb hT.1 hP hD hS 0 0 rfl rfl (vp_in_nI (n := 10) (N := 17) (by decide) (by decide)) dL_law_78 (fun H locs hP hD hS => ?_)
  have hP : va_P D vwCl ((q33, .inl (cy 0, 17, .inl (upd (upd (upd (upd (upd (upd (upd (upd (upd (upd (upd (fun _ => 0) (0 : Int32).toNatClampNeg 0) (1 : Int32).toNatClampNeg 0) (2 : Int32).toNatClampNeg 0) (3 : Int32).toNatClampNeg 1) (4 : Int32).toNatClampNeg 1) (5 : Int32).toNatClampNeg 2) (6 : Int32).toNatClampNeg 3) (7 : Int32).toNatClampNeg 4) (8 : Int32).toNatClampNeg 5) (9 : Int32).toNatClampNeg 6) (10 : Int32).toNatClampNeg 7))) :: KL z (az, (S0 D cy)) mem0) H := hP
  have hD : va_D A ((q33, .inl (cy 0, 17, .inl (upd (upd (upd (upd (upd (upd (upd (upd (upd (upd (upd (fun _ => 0) (0 : Int32).toNatClampNeg 0) (1 : Int32).toNatClampNeg 0) (2 : Int32).toNatClampNeg 0) (3 : Int32).toNatClampNeg 1) (4 : Int32).toNatClampNeg 1) (5 : Int32).toNatClampNeg 2) (6 : Int32).toNatClampNeg 3) (7 : Int32).toNatClampNeg 4) (8 : Int32).toNatClampNeg 5) (9 : Int32).toNatClampNeg 6) (10 : Int32).toNatClampNeg 7))) :: KL z (az, (S0 D cy)) mem0) := hD
  refine lv_dup hx hb dL_law_79 rfl ?_
  refine lv_bipush (v := 11) hx hb dL_law_80 (by decide) ?_
  refine lv_bipush (v := 8) hx hb dL_law_82 (by decide) ?_
  refine va_iast hx hb hT.1 hP hD hS 0 0 rfl rfl (vp_in_nI (n := 11) (N := 17) (by decide) (by decide)) dL_law_84 (fun H locs hP hD hS => ?_)
  have hP : va_P D vwCl ((q33, .inl (cy 0, 17, .inl (upd (upd (upd (upd (upd (upd (upd (upd (upd (upd (upd (upd (fun _ => 0) (0 : Int32).toNatClampNeg 0) (1 : Int32).toNatClampNeg 0) (2 : Int32).toNatClampNeg 0) (3 : Int32).toNatClampNeg 1) (4 : Int32).toNatClampNeg 1) (5 : Int32).toNatClampNeg 2) (6 : Int32).toNatClampNeg 3) (7 : Int32).toNatClampNeg 4) (8 : Int32).toNatClampNeg 5) (9 : Int32).toNatClampNeg 6) (10 : Int32).toNatClampNeg 7) (11 : Int32).toNatClampNeg 8))) :: KL z (az, (S0 D cy)) mem0) H := hP
  have hD : va_D A ((q33, .inl (cy 0, 17, .inl (upd (upd (upd (upd (upd (upd (upd (upd (upd (upd (upd (upd (fun _ => 0) (0 : Int32).toNatClampNeg 0) (1 : Int32).toNatClampNeg 0) (2 : Int32).toNatClampNeg 0) (3 : Int32).toNatClampNeg 1) (4 : Int32).toNatClampNeg 1) (5 : Int32).toNatClampNeg 2) (6 : Int32).toNatClampNeg 3) (7 : Int32).toNatClampNeg 4) (8 : Int32).toNatClampNeg 5) (9 : Int32).toNatClampNeg 6) (10 : Int32).toNatClampNeg 7) (11 : Int32).toNatClampNeg 8))) :: KL z (az, (S0 D cy)) mem0) := hD
  refine lv_dup hx hb dL_law_85 rfl ?_
  refine lv_bipush (v := 12) hx hb dL_law_86 (by decide) ?_
  refine lv_bipush (v := 9) hx hb dL_law_88 (by decide) ?_
  refine va_iast hx hb hT.1 hP hD hS 0 0 rfl rfl (vp_in_nI (n := 12) (N := 17) (by decide) (by decide)) dL_law_90 (fun H locs hP hD hS => ?_)
  have hP : va_P D vwCl ((q33, .inl (cy 0, 17, .inl (upd (upd (upd (upd (upd (upd (upd (upd (upd (upd (upd (upd (upd (fun _ => 0) (0 : Int32).toNatClampNeg 0) (1 : Int32).toNatClampNeg 0) (2 : Int32).toNatClampNeg 0) (3 : Int32).toNatClampNeg 1) (4 : Int32).toNatClampNeg 1) (5 : Int32).toNatClampNeg 2) (6 : Int32).toNatClampNeg 3) (7 : Int32).toNatClampNeg 4) (8 : Int32).toNatClampNeg 5) (9 : Int32).toNatClampNeg 6) (10 : Int32).toNatClampNeg 7) (11 : Int32).toNatClampNeg 8) (12 : Int32).toNatClampNeg 9))) :: KL z (az, (S0 D cy)) mem0) H := hP
  have hD : va_D A ((q33, .inl (cy 0, 17, .inl (upd (upd (upd (upd (upd (upd (upd (upd (upd (upd (upd (upd (upd (fun _ => 0) (0 : Int32).toNatClampNeg 0) (1 : Int32).toNatClampNeg 0) (2 : Int32).toNatClampNeg 0) (3 : Int32).toNatClampNeg 1) (4 : Int32).toNatClampNeg 1) (5 : Int32).toNatClampNeg 2) (6 : Int32).toNatClampNeg 3) (7 : Int32).toNatClampNeg 4) (8 : Int32).toNatClampNeg 5) (9 : Int32).toNatClampNeg 6) (10 : Int32).toNatClampNeg 7) (11 : Int32).toNatClampNeg 8) (12 : Int32).toNatClampNeg 9))) :: KL z (az, (S0 D cy)) mem0) := hD
  refine lv_dup hx hb dL_law_91 rfl ?_
  refine lv_bipush (v := 13) hx hb dL_law_92 (by decide) ?_
  refine lv_bipush (v := 10) hx hb dL_law_94 (by decide) ?_
  refine va_iast hx hb hT.1 hP hD hS 0 0 rfl rfl (vp_in_nI (n := 13) (N := 17) (by decide) (by decide)) dL_law_96 (fun H locs hP hD hS => ?_)
  have hP : va_P D vwCl ((q33, .inl (cy 0, 17, .inl (upd (upd (upd (upd (upd (upd (upd (upd (upd (upd (upd (upd (upd (upd (fun _ => 0) (0 : Int32).toNatClampNeg 0) (1 : Int32).toNatClampNeg 0) (2 : Int32).toNatClampNeg 0) (3 : Int32).toNatClampNeg 1) (4 : Int32).toNatClampNeg 1) (5 : Int32).toNatClampNeg 2) (6 : Int32).toNatClampNeg 3) (7 : Int32).toNatClampNeg 4) (8 : Int32).toNatClampNeg 5) (9 : Int32).toNatClampNeg 6) (10 : Int32).toNatClampNeg 7) (11 : Int32).toNatClampNeg 8) (12 : Int32).toNatClampNeg 9) (13 : Int32).toNatClampNeg 10))) :: KL z (az, (S0 D cy)) mem0) H := hP
  have hD : va_D A ((q33, .inl (cy 0, 17, .inl (upd (upd (upd (upd (upd (upd (upd (upd (upd (upd (upd (upd (upd (upd (fun _ => 0) (0 : Int32).toNatClampNeg 0) (1 : Int32).toNatClampNeg 0) (2 : Int32).toNatClampNeg 0) (3 : Int32).toNatClampNeg 1) (4 : Int32).toNatClampNeg 1) (5 : Int32).toNatClampNeg 2) (6 : Int32).toNatClampNeg 3) (7 : Int32).toNatClampNeg 4) (8 : Int32).toNatClampNeg 5) (9 : Int32).toNatClampNeg 6) (10 : Int32).toNatClampNeg 7) (11 : Int32).toNatClampNeg 8) (12 : Int32).toNatClampNeg 9) (13 : Int32).toNatClampNeg 10))) :: KL z (az, (S0 D cy)) mem0) := hD
  refine lv_dup hx hb dL_law_97 rfl ?_
  refine lv_bipush (v := 14) hx hb dL_law_98 (by decide) ?_
  refine lv_bipush (v := 11) hx hb dL_law_100 (by decide) ?_
  refine va_iast hx hb hT.1 hP hD hS 0 0 rfl rfl (vp_in_nI (n := 14) (N := 17) (by decide) (by decide)) dL_law_102 (fun H locs hP hD hS => ?_)
  have hP : va_P D vwCl ((q33, .inl (cy 0, 17, .inl (upd (upd (upd (upd (upd (upd (upd (upd (upd (upd (upd (upd (upd (upd (upd (fun _ => 0) (0 : Int32).toNatClampNeg 0) (1 : Int32).toNatClampNeg 0) (2 : Int32).toNatClampNeg 0) (3 : Int32).toNatClampNeg 1) (4 : Int32).toNatClampNeg 1) (5 : Int32).toNatClampNeg 2) (6 : Int32).toNatClampNeg 3) (7 : Int32).toNatClampNeg 4) (8 : Int32).toNatClampNeg 5) (9 : Int32).toNatClampNeg 6) (10 : Int32).toNatClampNeg 7) (11 : Int32).toNatClampNeg 8) (12 : Int32).toNatClampNeg 9) (13 : Int32).toNatClampNeg 10) (14 : Int32).toNatClampNeg 11))) :: KL z (az, (S0 D cy)) mem0) H := hP
  have hD : va_D A ((q33, .inl (cy 0, 17, .inl (upd (upd (upd (upd (upd (upd (upd (upd (upd (upd (upd (upd (upd (upd (upd (fun _ => 0) (0 : Int32).toNatClampNeg 0) (1 : Int32).toNatClampNeg 0) (2 : Int32).toNatClampNeg 0) (3 : Int32).toNatClampNeg 1) (4 : Int32).toNatClampNeg 1) (5 : Int32).toNatClampNeg 2) (6 : Int32).toNatClampNeg 3) (7 : Int32).toNatClampNeg 4) (8 : Int32).toNatClampNeg 5) (9 : Int32).toNatClampNeg 6) (10 : Int32).toNatClampNeg 7) (11 : Int32).toNatClampNeg 8) (12 : Int32).toNatClampNeg 9) (13 : Int32).toNatClampNeg 10) (14 : Int32).toNatClampNeg 11))) :: KL z (az, (S0 D cy)) mem0) := hD
  refine lv_dup hx hb dL_law_103 rfl ?_
  refine lv_bipush (v := 15) hx hb dL_law_104 (by decide) ?_
  refine lv_bipush (v := 12) hx hb dL_law_106 (by decide) ?_
  refine va_iast hx hb hT.1 hP hD hS 0 0 rfl rfl (vp_in_nI (n := 15) (N := 17) (by decide) (by decide)) dL_law_108 (fun H locs hP hD hS => ?_)
  have hP : va_P D vwCl ((q33, .inl (cy 0, 17, .inl (upd (upd (upd (upd (upd (upd (upd (upd (upd (upd (upd (upd (upd (upd (upd (upd (fun _ => 0) (0 : Int32).toNatClampNeg 0) (1 : Int32).toNatClampNeg 0) (2 : Int32).toNatClampNeg 0) (3 : Int32).toNatClampNeg 1) (4 : Int32).toNatClampNeg 1) (5 : Int32).toNatClampNeg 2) (6 : Int32).toNatClampNeg 3) (7 : Int32).toNatClampNeg 4) (8 : Int32).toNatClampNeg 5) (9 : Int32).toNatClampNeg 6) (10 : Int32).toNatClampNeg 7) (11 : Int32).toNatClampNeg 8) (12 : Int32).toNatClampNeg 9) (13 : Int32).toNatClampNeg 10) (14 : Int32).toNatClampNeg 11) (15 : Int32).toNatClampNeg 12))) :: KL z (az, (S0 D cy)) mem0) H := hP
  have hD : va_D A ((q33, .inl (cy 0, 17, .inl (upd (upd (upd (upd (upd (upd (upd (upd (upd (upd (upd (upd (upd (upd (upd (upd (fun _ => 0) (0 : Int32).toNatClampNeg 0) (1 : Int32).toNatClampNeg 0) (2 : Int32).toNatClampNeg 0) (3 : Int32).toNatClampNeg 1) (4 : Int32).toNatClampNeg 1) (5 : Int32).toNatClampNeg 2) (6 : Int32).toNatClampNeg 3) (7 : Int32).toNatClampNeg 4) (8 : Int32).toNatClampNeg 5) (9 : Int32).toNatClampNeg 6) (10 : Int32).toNatClampNeg 7) (11 : Int32).toNatClampNeg 8) (12 : Int32).toNatClampNeg 9) (13 : Int32).toNatClampNeg 10) (14 : Int32).toNatClampNeg 11) (15 : Int32).toNatClampNeg 12))) :: KL z (az, (S0 D cy)) mem0) := hD
  refine lv_dup hx hb dL_law_109 rfl ?_
  refine lv_bipush (v := 16) hx hb dL_law_110 (by decide) ?_
  refine lv_bipush (v := 13) hx hb dL_law_112 (by decide) ?_
  refine va_iast hx hb hT.1 hP hD hS 0 0 rfl rfl (vp_in_nI (n := 16) (N := 17) (by decide) (by decide)) dL_law_114 (fun H locs hP hD hS => ?_)
  have hP : va_P D vwCl ((q33, .inl (cy 0, 17, .inl (upd (upd (upd (upd (upd (upd (upd (upd (upd (upd (upd (upd (upd (upd (upd (upd (upd (fun _ => 0) (0 : Int32).toNatClampNeg 0) (1 : Int32).toNatClampNeg 0) (2 : Int32).toNatClampNeg 0) (3 : Int32).toNatClampNeg 1) (4 : Int32).toNatClampNeg 1) (5 : Int32).toNatClampNeg 2) (6 : Int32).toNatClampNeg 3) (7 : Int32).toNatClampNeg 4) (8 : Int32).toNatClampNeg 5) (9 : Int32).toNatClampNeg 6) (10 : Int32).toNatClampNeg 7) (11 : Int32).toNatClampNeg 8) (12 : Int32).toNatClampNeg 9) (13 : Int32).toNatClampNeg 10) (14 : Int32).toNatClampNeg 11) (15 : Int32).toNatClampNeg 12) (16 : Int32).toNatClampNeg 13))) :: KL z (az, (S0 D cy)) mem0) H := hP
  have hD : va_D A ((q33, .inl (cy 0, 17, .inl (upd (upd (upd (upd (upd (upd (upd (upd (upd (upd (upd (upd (upd (upd (upd (upd (upd (fun _ => 0) (0 : Int32).toNatClampNeg 0) (1 : Int32).toNatClampNeg 0) (2 : Int32).toNatClampNeg 0) (3 : Int32).toNatClampNeg 1) (4 : Int32).toNatClampNeg 1) (5 : Int32).toNatClampNeg 2) (6 : Int32).toNatClampNeg 3) (7 : Int32).toNatClampNeg 4) (8 : Int32).toNatClampNeg 5) (9 : Int32).toNatClampNeg 6) (10 : Int32).toNatClampNeg 7) (11 : Int32).toNatClampNeg 8) (12 : Int32).toNatClampNeg 9) (13 : Int32).toNatClampNeg 10) (14 : Int32).toNatClampNeg 11) (15 : Int32).toNatClampNeg 12) (16 : Int32).toNatClampNeg 13))) :: KL z (az, (S0 D cy)) mem0) := hD
  refine lv_iconst (v := 2) hx hb dL_law_115 (by decide) ?_
  refine va_newa (atype := .int) (ty := .int) (N' := 2) (a0 := (2, .inl (fun _ => 0))) hx hb (hts _ q187) rfl hT.1 hP hD hS hA (fun _ => rfl) (by decide) rfl (Nat.le_of_ble_eq_true rfl) (Nat.le_of_ble_eq_true rfl) (Nat.le_of_ble_eq_true rfl) dL_law_116 (fun q51 cA H hK9 hP hD hS => ?_)
  have e9 : cA = cy 0 := RAi hK9 (show (tysB cy)[0]? = some (cy 0, .int) from rfl)
  rw [e9] at hP hD
  have hP := Pnw hP
  have hD := Dnw hD
  have hP : va_P D vwCl ((q51, .inl (cy 0, 2, .inl (fun _ => 0))) :: (q33, .inl (cy 0, 17, .inl (upd (upd (upd (upd (upd (upd (upd (upd (upd (upd (upd (upd (upd (upd (upd (upd (upd (fun _ => 0) (0 : Int32).toNatClampNeg 0) (1 : Int32).toNatClampNeg 0) (2 : Int32).toNatClampNeg 0) (3 : Int32).toNatClampNeg 1) (4 : Int32).toNatClampNeg 1) (5 : Int32).toNatClampNeg 2) (6 : Int32).toNatClampNeg 3) (7 : Int32).toNatClampNeg 4) (8 : Int32).toNatClampNeg 5) (9 : Int32).toNatClampNeg 6) (10 : Int32).toNatClampNeg 7) (11 : Int32).toNatClampNeg 8) (12 : Int32).toNatClampNeg 9) (13 : Int32).toNatClampNeg 10) (14 : Int32).toNatClampNeg 11) (15 : Int32).toNatClampNeg 12) (16 : Int32).toNatClampNeg 13))) :: KL z (az, (S0 D cy)) mem0) H := hP
  have hD : va_D A ((q51, .inl (cy 0, 2, .inl (fun _ => 0))) :: (q33, .inl (cy 0, 17, .inl (upd (upd (upd (upd (upd (upd (upd (upd (upd (upd (upd (upd (upd (upd (upd (upd (upd (fun _ => 0) (0 : Int32).toNatClampNeg 0) (1 : Int32).toNatClampNeg 0) (2 : Int32).toNatClampNeg 0) (3 : Int32).toNatClampNeg 1) (4 : Int32).toNatClampNeg 1) (5 : Int32).toNatClampNeg 2) (6 : Int32).toNatClampNeg 3) (7 : Int32).toNatClampNeg 4) (8 : Int32).toNatClampNeg 5) (9 : Int32).toNatClampNeg 6) (10 : Int32).toNatClampNeg 7) (11 : Int32).toNatClampNeg 8) (12 : Int32).toNatClampNeg 9) (13 : Int32).toNatClampNeg 10) (14 : Int32).toNatClampNeg 11) (15 : Int32).toNatClampNeg 12) (16 : Int32).toNatClampNeg 13))) :: KL z (az, (S0 D cy)) mem0) := hD
  refine lv_dup hx hb dL_law_118 rfl ?_
  refine lv_iconst (v := 0) hx hb dL_law_119 (by decide) ?_
  refine lv_aload_n hx hb dL_law_120 rfl (lv_at hl 2 rfl) ?_
  refine lv_bipush (v := 12) hx hb dL_law_121 (by decide) ?_
  refine va_calli (va_runS (As := [.ref bs, .int 12]) (rest := [.int 0, .ref q51, .ref q51, .ref q33, .int (nI (j32 + 1)), .ref bs, .ref fa]) ⟨hx, hb, hml, hown, hts⟩ (k_L_cell l (b := bs) (L := L) (xs := xs) hL (k := 12) (by decide)) (va_cwS 2 hts (gd_S q928 q929 q36 q930) rfl rfl rfl hd_L_cell.2 ⟨Nat.le_of_ble_eq_true rfl, Nat.le_of_ble_eq_true rfl⟩) ⟨Pcell.blind, fun U hU hW => ⟨rfl, by show va_X bs L xs U U.heap; rw [hU]; exact (va_X.moved hW.alike hXs).kept (hS.2.1 _ hbl hbA)⟩⟩ rfl rfl hl.1 rfl (lv_room (Nat.le_of_ble_eq_true rfl)) dL_law_123 ⟨Nat.le_of_ble_eq_true rfl, Nat.le_of_ble_eq_true rfl⟩) hS (fun q _ h => h.elim) (fun q h => h.elim) (fun x52 u9 t9 H locs ht9 hvm9 hw9 hB9 hz9 hk9 hS => ?_)
  have hP := P_keep hP (fun q h => hk9 q h id)
  refine lv_iconst (v := 3) hx hb dL_law_126 (by decide) ?_
  refine va_calli (va_runS (As := [.int x52, .int 3]) (rest := [.int 0, .ref q51, .ref q51, .ref q33, .int (nI (j32 + 1)), .ref bs, .ref fa]) ⟨hx, hb, hml, hown, hts⟩ (k_L_below l (n := 3) (by decide) (by decide)) (va_cwS 2 hts (gd_S q924 q925 q36 q926) rfl rfl rfl hd_L_below.2 ⟨Nat.le_of_ble_eq_true rfl, Nat.le_of_ble_eq_true rfl⟩) ⟨Pb.blind, fun U hU hW => ⟨rfl, trivial⟩⟩ rfl rfl hl.1 rfl (lv_room (Nat.le_of_ble_eq_true rfl)) dL_law_127 ⟨Nat.le_of_ble_eq_true rfl, Nat.le_of_ble_eq_true rfl⟩) hS (fun q _ h => h.elim) (fun q h => h.elim) (fun v9 u9 t9 H locs ht9 hvm9 hw9 hB9 hz9 hk9 hS => ?_)
  have hP := P_keep hP (fun q h => hk9 q h id)
  obtain ⟨j53, hj53, ej53⟩ := hw9
  rw [ej53]
  refine va_iast hx hb hT.1 hP hD hS 0 0 rfl rfl (vp_in_nI (n := 0) (N := 2) (by decide) (by decide)) dL_law_130 (fun H locs hP hD hS => ?_)
  have hP : va_P D vwCl ((q51, .inl (cy 0, 2, .inl (upd (fun _ => 0) (0 : Int32).toNatClampNeg ((nI j53))))) :: (q33, .inl (cy 0, 17, .inl (upd (upd (upd (upd (upd (upd (upd (upd (upd (upd (upd (upd (upd (upd (upd (upd (upd (fun _ => 0) (0 : Int32).toNatClampNeg 0) (1 : Int32).toNatClampNeg 0) (2 : Int32).toNatClampNeg 0) (3 : Int32).toNatClampNeg 1) (4 : Int32).toNatClampNeg 1) (5 : Int32).toNatClampNeg 2) (6 : Int32).toNatClampNeg 3) (7 : Int32).toNatClampNeg 4) (8 : Int32).toNatClampNeg 5) (9 : Int32).toNatClampNeg 6) (10 : Int32).toNatClampNeg 7) (11 : Int32).toNatClampNeg 8) (12 : Int32).toNatClampNeg 9) (13 : Int32).toNatClampNeg 10) (14 : Int32).toNatClampNeg 11) (15 : Int32).toNatClampNeg 12) (16 : Int32).toNatClampNeg 13))) :: KL z (az, (S0 D cy)) mem0) H := hP
  have hD : va_D A ((q51, .inl (cy 0, 2, .inl (upd (fun _ => 0) (0 : Int32).toNatClampNeg ((nI j53))))) :: (q33, .inl (cy 0, 17, .inl (upd (upd (upd (upd (upd (upd (upd (upd (upd (upd (upd (upd (upd (upd (upd (upd (upd (fun _ => 0) (0 : Int32).toNatClampNeg 0) (1 : Int32).toNatClampNeg 0) (2 : Int32).toNatClampNeg 0) (3 : Int32).toNatClampNeg 1) (4 : Int32).toNatClampNeg 1) (5 : Int32).toNatClampNeg 2) (6 : Int32).toNatClampNeg 3) (7 : Int32).toNatClampNeg 4) (8 : Int32).toNatClampNeg 5) (9 : Int32).toNatClampNeg 6) (10 : Int32).toNatClampNeg 7) (11 : Int32).toNatClampNeg 8) (12 : Int32).toNatClampNeg 9) (13 : Int32).toNatClampNeg 10) (14 : Int32).toNatClampNeg 11) (15 : Int32).toNatClampNeg 12) (16 : Int32).toNatClampNeg 13))) :: KL z (az, (S0 D cy)) mem0) := hD
  rw [fun2_0] at hP hD
  have hP : va_P D vwCl ((q51, .inl (cy 0, 2, .inl (fun2 (nI j53) 0))) :: (q33, .inl (cy 0, 17, .inl (upd (upd (upd (upd (upd (upd (upd (upd (upd (upd (upd (upd (upd (upd (upd (upd (upd (fun _ => 0) (0 : Int32).toNatClampNeg 0) (1 : Int32).toNatClampNeg 0) (2 : Int32).toNatClampNeg 0) (3 : Int32).toNatClampNeg 1) (4 : Int32).toNatClampNeg 1) (5 : Int32).toNatClampNeg 2) (6 : Int32).toNatClampNeg 3) (7 : Int32).toNatClampNeg 4) (8 : Int32).toNatClampNeg 5) (9 : Int32).toNatClampNeg 6) (10 : Int32).toNatClampNeg 7) (11 : Int32).toNatClampNeg 8) (12 : Int32).toNatClampNeg 9) (13 : Int32).toNatClampNeg 10) (14 : Int32).toNatClampNeg 11) (15 : Int32).toNatClampNeg 12) (16 : Int32).toNatClampNeg 13))) :: KL z (az, (S0 D cy)) mem0) H := hP
  have hD : va_D A ((q51, .inl (cy 0, 2, .inl (fun2 (nI j53) 0))) :: (q33, .inl (cy 0, 17, .inl (upd (upd (upd (upd (upd (upd (upd (upd (upd (upd (upd (upd (upd (upd (upd (upd (upd (fun _ => 0) (0 : Int32).toNatClampNeg 0) (1 : Int32).toNatClampNeg 0) (2 : Int32).toNatClampNeg 0) (3 : Int32).toNatClampNeg 1) (4 : Int32).toNatClampNeg 1) (5 : Int32).toNatClampNeg 2) (6 : Int32).toNatClampNeg 3) (7 : Int32).toNatClampNeg 4) (8 : Int32).toNatClampNeg 5) (9 : Int32).toNatClampNeg 6) (10 : Int32).toNatClampNeg 7) (11 : Int32).toNatClampNeg 8) (12 : Int32).toNatClampNeg 9) (13 : Int32).toNatClampNeg 10) (14 : Int32).toNatClampNeg 11) (15 : Int32).toNatClampNeg 12) (16 : Int32).toNatClampNeg 13))) :: KL z (az, (S0 D cy)) mem0) := hD
  refine lv_dup hx hb dL_law_131 rfl ?_
  refine lv_iconst (v := 1) hx hb dL_law_132 (by decide) ?_
  refine lv_iconst (v := 2) hx hb dL_law_133 (by decide) ?_
  refine va_iast hx hb hT.1 hP hD hS 0 0 rfl rfl (vp_in_nI (n := 1) (N := 2) (by decide) (by decide)) dL_law_134 (fun H locs hP hD hS => ?_)
  have hP : va_P D vwCl ((q51, .inl (cy 0, 2, .inl (upd (fun2 (nI j53) 0) (1 : Int32).toNatClampNeg 2))) :: (q33, .inl (cy 0, 17, .inl (upd (upd (upd (upd (upd (upd (upd (upd (upd (upd (upd (upd (upd (upd (upd (upd (upd (fun _ => 0) (0 : Int32).toNatClampNeg 0) (1 : Int32).toNatClampNeg 0) (2 : Int32).toNatClampNeg 0) (3 : Int32).toNatClampNeg 1) (4 : Int32).toNatClampNeg 1) (5 : Int32).toNatClampNeg 2) (6 : Int32).toNatClampNeg 3) (7 : Int32).toNatClampNeg 4) (8 : Int32).toNatClampNeg 5) (9 : Int32).toNatClampNeg 6) (10 : Int32).toNatClampNeg 7) (11 : Int32).toNatClampNeg 8) (12 : Int32).toNatClampNeg 9) (13 : Int32).toNatClampNeg 10) (14 : Int32).toNatClampNeg 11) (15 : Int32).toNatClampNeg 12) (16 : Int32).toNatClampNeg 13))) :: KL z (az, (S0 D cy)) mem0) H := hP
  have hD : va_D A ((q51, .inl (cy 0, 2, .inl (upd (fun2 (nI j53) 0) (1 : Int32).toNatClampNeg 2))) :: (q33, .inl (cy 0, 17, .inl (upd (upd (upd (upd (upd (upd (upd (upd (upd (upd (upd (upd (upd (upd (upd (upd (upd (fun _ => 0) (0 : Int32).toNatClampNeg 0) (1 : Int32).toNatClampNeg 0) (2 : Int32).toNatClampNeg 0) (3 : Int32).toNatClampNeg 1) (4 : Int32).toNatClampNeg 1) (5 : Int32).toNatClampNeg 2) (6 : Int32).toNatClampNeg 3) (7 : Int32).toNatClampNeg 4) (8 : Int32).toNatClampNeg 5) (9 : Int32).toNatClampNeg 6) (10 : Int32).toNatClampNeg 7) (11 : Int32).toNatClampNeg 8) (12 : Int32).toNatClampNeg 9) (13 : Int32).toNatClampNeg 10) (14 : Int32).toNatClampNeg 11) (15 : Int32).toNatClampNeg 12) (16 : Int32).toNatClampNeg 13))) :: KL z (az, (S0 D cy)) mem0) := hD
  rw [fun2_1] at hP hD
  have hP : va_P D vwCl ((q51, .inl (cy 0, 2, .inl (fun2 (nI j53) 2))) :: (q33, .inl (cy 0, 17, .inl (upd (upd (upd (upd (upd (upd (upd (upd (upd (upd (upd (upd (upd (upd (upd (upd (upd (fun _ => 0) (0 : Int32).toNatClampNeg 0) (1 : Int32).toNatClampNeg 0) (2 : Int32).toNatClampNeg 0) (3 : Int32).toNatClampNeg 1) (4 : Int32).toNatClampNeg 1) (5 : Int32).toNatClampNeg 2) (6 : Int32).toNatClampNeg 3) (7 : Int32).toNatClampNeg 4) (8 : Int32).toNatClampNeg 5) (9 : Int32).toNatClampNeg 6) (10 : Int32).toNatClampNeg 7) (11 : Int32).toNatClampNeg 8) (12 : Int32).toNatClampNeg 9) (13 : Int32).toNatClampNeg 10) (14 : Int32).toNatClampNeg 11) (15 : Int32).toNatClampNeg 12) (16 : Int32).toNatClampNeg 13))) :: KL z (az, (S0 D cy)) mem0) H := hP
  have hD : va_D A ((q51, .inl (cy 0, 2, .inl (fun2 (nI j53) 2))) :: (q33, .inl (cy 0, 17, .inl (upd (upd (upd (upd (upd (upd (upd (upd (upd (upd (upd (upd (upd (upd (upd (upd (upd (fun _ => 0) (0 : Int32).toNatClampNeg 0) (1 : Int32).toNatClampNeg 0) (2 : Int32).toNatClampNeg 0) (3 : Int32).toNatClampNeg 1) (4 : Int32).toNatClampNeg 1) (5 : Int32).toNatClampNeg 2) (6 : Int32).toNatClampNeg 3) (7 : Int32).toNatClampNeg 4) (8 : Int32).toNatClampNeg 5) (9 : Int32).toNatClampNeg 6) (10 : Int32).toNatClampNeg 7) (11 : Int32).toNatClampNeg 8) (12 : Int32).toNatClampNeg 9) (13 : Int32).toNatClampNeg 10) (14 : Int32).toNatClampNeg 11) (15 : Int32).toNatClampNeg 12) (16 : Int32).toNatClampNeg 13))) :: KL z (az, (S0 D cy)) mem0) := hD
  obtain ⟨fc, efc⟩ : ∃ f : Nat → Int32, f = (upd (upd (upd (upd (upd (upd (upd (upd (upd (upd (upd (upd (upd (upd (upd (upd (upd (fun _ => 0) (0 : Int32).toNatClampNeg 0) (1 : Int32).toNatClampNeg 0) (2 : Int32).toNatClampNeg 0) (3 : Int32).toNatClampNeg 1) (4 : Int32).toNatClampNeg 1) (5 : Int32).toNatClampNeg 2) (6 : Int32).toNatClampNeg 3) (7 : Int32).toNatClampNeg 4) (8 : Int32).toNatClampNeg 5) (9 : Int32).toNatClampNeg 6) (10 : Int32).toNatClampNeg 7) (11 : Int32).toNatClampNeg 8) (12 : Int32).toNatClampNeg 9) (13 : Int32).toNatClampNeg 10) (14 : Int32).toNatClampNeg 11) (15 : Int32).toNatClampNeg 12) (16 : Int32).toNatClampNeg 13) := ⟨_, rfl⟩
  rw [← efc] at hP hD
  have hfc : ∀ r, r < 17 → ∃ w, w < 14 ∧ fc r = nI w := fun r hr => by
    rw [efc]
    rcases (show r = 0 ∨ r = 1 ∨ r = 2 ∨ r = 3 ∨ r = 4 ∨ r = 5 ∨ r = 6 ∨ r = 7 ∨ r = 8 ∨ r = 9 ∨ r = 10 ∨ r = 11 ∨ r = 12 ∨ r = 13 ∨ r = 14 ∨ r = 15 ∨ r = 16 by omega) with rfl | rfl | rfl | rfl | rfl | rfl | rfl | rfl | rfl | rfl | rfl | rfl | rfl | rfl | rfl | rfl | rfl
    · exact ⟨0, by decide, rfl⟩
    · exact ⟨0, by decide, rfl⟩
    · exact ⟨0, by decide, rfl⟩
    · exact ⟨1, by decide, rfl⟩
    · exact ⟨1, by decide, rfl⟩
    · exact ⟨2, by decide, rfl⟩
    · exact ⟨3, by decide, rfl⟩
    · exact ⟨4, by decide, rfl⟩
    · exact ⟨5, by decide, rfl⟩
    · exact ⟨6, by decide, rfl⟩
    · exact ⟨7, by decide, rfl⟩
    · exact ⟨8, by decide, rfl⟩
    · exact ⟨9, by decide, rfl⟩
    · exact ⟨10, by decide, rfl⟩
    · exact ⟨11, by decide, rfl⟩
    · exact ⟨12, by decide, rfl⟩
    · exact ⟨13, by decide, rfl⟩
  clear efc
  have hP : va_P D vwCl ((q51, .inl (cy 0, 2, .inl (fun2 (nI j53) 2))) :: (q33, .inl (cy 0, 17, .inl fc)) :: KL z (az, (S0 D cy)) mem0) H := hP
  have hD : va_D A ((q51, .inl (cy 0, 2, .inl (fun2 (nI j53) 2))) :: (q33, .inl (cy 0, 17, .inl fc)) :: KL z (az, (S0 D cy)) mem0) := hD
  have hKB := hKs.kb (Pr [(q51, .inl (cy 0, 2, .inl (fun2 (nI j53) 2))), (q33, .inl (cy 0, 17, .inl fc))] hP)
  have hAk : ∀ q, Ak (az, S0 D cy) H.size q → A q := fun q h => h.elim (hKA q) (fun h => hA q (Nat.le_trans hS.1 h))
  have hb1 : ¬ Ka (az, S0 D cy) bs := fun h => hbA (hKA _ h)
  have hb2 : ¬ Ka (az, S0 D cy) q33 := by
    rintro ⟨k, hk, e⟩
    exact Dx (w1 := [(q51, .inl (cy 0, 2, .inl (fun2 (nI j53) 2))), (q33, .inl (cy 0, 17, .inl fc))]) hD (p := (q33, .inl (cy 0, 17, .inl fc))) (List.mem_cons_of_mem _ List.mem_cons_self) (kl_mem (z := z) (μ := mem0) hk) e
  have hb3 : ¬ Ka (az, S0 D cy) q51 := by
    rintro ⟨k, hk, e⟩
    exact Dx (w1 := [(q51, .inl (cy 0, 2, .inl (fun2 (nI j53) 2))), (q33, .inl (cy 0, 17, .inl fc))]) hD (p := (q51, .inl (cy 0, 2, .inl (fun2 (nI j53) 2)))) List.mem_cons_self (kl_mem (z := z) (μ := mem0) hk) e
  have hPo : va_P D vwCl [(q33, .inl (cy 0, 17, .inl fc)), (q51, .inl (cy 0, 2, .inl (fun2 (nI j53) 2)))] H := P_of (fun q hq => P_mem hP (by
    simp only [List.mem_cons, List.not_mem_nil, or_false] at hq
    rcases hq with rfl | rfl
    · exact List.mem_cons_of_mem _ List.mem_cons_self
    · exact List.mem_cons_self))
  refine va_callq (va_runS (As := [.ref fa, .ref bs, .int (nI (j32 + 1)), .ref q33, .ref q51]) (rest := []) ⟨hx, hb, hml, hown, hts⟩ (k_L_build l (z := z) (b := s.heap.size) (ad0 := az) (D := D) (cy := cy) (fa := fa) (bs := bs) (L := L) (co := q33) (kd := q51) (sn := j32 + 1) (xs := xs) (fc := fc) (fk := fun2 (nI j53) 2) (ki0 := nI j53) hL (by omega) (by omega) rfl rfl (nI_pos (by omega)) (n_lt (j := 2) (by omega) (by decide)) hfc h272 hb1 hb2 hb3 H.size) (va_cwS 5 hts (gd_S q932 q933 q36 q934) rfl rfl rfl hd_L_build.2 ⟨Nat.le_of_ble_eq_true rfl, Nat.le_of_ble_eq_true rfl⟩) ⟨Pbu.blind, fun U hU hW => ⟨rfl, ⟨⟨T3.warm hW hT, Em.on hW hE (by rw [hU]; exact hS) hAb⟩, Tx.warm hW hX⟩, by rw [hU], by rw [hU]; exact hKB, by rw [hU]; exact (va_X.moved hW.alike hXs).kept (hS.2.1 _ hbl hbA), by rw [hU]; exact hPo⟩⟩ rfl rfl hl.1 rfl (lv_room (Nat.le_of_ble_eq_true rfl)) dL_law_135 ⟨Nat.le_of_ble_eq_true rfl, Nat.le_of_ble_eq_true rfl⟩) hS (fun q _ h => hAk q h) hAk (fun v9 sim t9 H1 locs ht9 hvm9 hw9 hB9 hz9 hk9 hS => ?_)
  rw [hw9]
  refine W.eq (g2 := F0 m 138 ls [.ref sim]) rfl ?_
  refine W.widen (k := 500) (n := 16000) (Nat.le_of_ble_eq_true rfl) (Nat.le_of_ble_eq_true rfl) ?_
  exact kont (j32 + 1) fa sim j53 H1 locs ls t9 (by omega) (by omega) (by omega) ht9 (hB9.mono hAk) hS hl
