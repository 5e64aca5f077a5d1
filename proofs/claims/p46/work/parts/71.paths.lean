/-! one instruction of the law's scripts: all that it may be -/
set_option maxHeartbeats 8000000 in
set_option maxRecDepth 100000 in
theorem build_code (l : Launch) {z b : Nat} {ad0 : Nat → Nat} {D : va_G} {cy : Nat → ClassId} {fa bs L co kd sn : Nat} {xs : Nat → Int32} {fc fk : Nat → Int32} (hL : L ≤ 260) (hs1 : 1 ≤ sn) (hs3 : sn ≤ 3)
    {p : Program} {e9 : Env} {s : State} {m : MethodId} {below : List Frame} {meth : Method} {c : Code} {Qx : State → Prop} {A : Nat → Prop} (hx : p.tables.exec = Jvm.exec) (hb : c.code = cL_build) (hml : c.maxLocals = 17) (hts : ∀ w ∈ lw_all, w.before ([.ref fa, .ref bs, .int (nI sn), .ref co, .ref kd] : List Value).toArray s = true) (hown : s.vm.findClass RL = some m.cls) (hT : Tb (Bg.r z (ad0, S0 D cy)) s) (hE : Em D z b (cy 2) s) (hX : Tx s) (hXs : va_X bs L xs s s.heap) (hbl : bs < s.heap.size) (hbA : ¬ A bs) (hAb : ∀ q, A q → b ≤ q) (hA : ∀ q : Nat, s.heap.size ≤ q → A q) (hPo : ∀ (H : Heap) (locs : List Loc), va_S A s.heap H locs → va_P D vwCl [(co, .inl (cy 0, 17, .inl fc)), (kd, .inl (cy 0, 2, .inl fk))] H)
    {ad : Nat → Nat} {szf : Nat → Nat} {shf μ : Mem} {trv : Nat → Int32} {q13 q10 q1 ha scr : Nat} {cO cP : ClassId} {fh fl fr fu : Nat → Int32} {fs : Nat → Option Nat} (hcO : AAr s cO cP (.array .int)) (hfu : ∀ r, r < 2 → ∃ w, 1 ≤ w ∧ w ≤ 3 ∧ fu r = nI w) {inr ln i k c0 : Nat} {cB cQ : ClassId} {fi : Nat → Option Nat} {xv : Int32} (hcB : AAr s cB cQ .int) (hfin : fs k = some inr) (hk : k < sn) (hi : i < ln) (hln : ln ≤ 8) (hc : c0 < 14) {cs ss : Nat} (hcs : cs ≤ 250) (hss : ss ≤ 12400) {H : Heap} {locs : List Loc} {ls : Array Slot} (hP : va_P D vwCl ((ha, .inl (cy 0, sn, .inl fh)) :: (inr, .inl (cB, ln, .inr (.inr (.inr (.inr fi))))) :: (scr, .inl (cO, sn, .inr (.inr (.inr (.inr fs))))) :: (q13, .inl (cy 0, 2, .inl fl)) :: (q10, .inl (cy 0, 2, .inl fr)) :: (q1, .inl (cy 0, 2, .inl fu)) :: KL z (ad, (D, cy, szf, shf, 1, trv)) μ) H) (hS : va_S A s.heap H locs) (hl : lv_has ls 17 [(14, .int (nI c0)), (13, .int xv), (12, .int (nI i)), (11, .int (nI k)), (10, .ref ha), (9, .ref scr), (8, .ref q13), (7, .ref q10), (6, .ref q1), (5, .int 2), (0, .ref fa), (1, .ref bs), (2, .int (nI sn)), (3, .ref co), (4, .ref kd)])
    (kont : ∀ (c9 a9 b9 : Int32) (H : Heap) (locs : List Loc) (ls : Array Slot), ICh sn c9 a9 b9 → va_P D vwCl ((ha, .inl (cy 0, sn, .inl fh)) :: (inr, .inl (cB, ln, .inr (.inr (.inr (.inr fi))))) :: (scr, .inl (cO, sn, .inr (.inr (.inr (.inr fs))))) :: (q13, .inl (cy 0, 2, .inl fl)) :: (q10, .inl (cy 0, 2, .inl fr)) :: (q1, .inl (cy 0, 2, .inl fu)) :: KL z (ad, (D, cy, szf, shf, 1, trv)) μ) H → va_S A s.heap H locs → lv_has ls 17 [(16, .int b9), (15, .int a9), (14, .int c9), (12, .int (nI i)), (11, .int (nI k)), (10, .ref ha), (9, .ref scr), (8, .ref q13), (7, .ref q10), (6, .ref q1), (5, .int 2), (0, .ref fa), (1, .ref bs), (2, .int (nI sn)), (3, .ref co), (4, .ref kd)] → W p l e9 (rm_ 8 280 250 12400) s m ([.ref fa, .ref bs, .int (nI sn), .ref co, .ref kd] : List Value).toArray below meth c H locs cs ss Qx (F0 m 564 ls [])) : W p l e9 (rm_ 8 280 250 12400) s m ([.ref fa, .ref bs, .int (nI sn), .ref co, .ref kd] : List Value).toArray below meth c H locs cs ss Qx (F0 m 306 ls []) := by
  rcases (show c0 = 0 ∨ c0 = 1 ∨ c0 = 2 ∨ c0 = 3 ∨ c0 = 4 ∨ c0 = 5 ∨ c0 = 6 ∨ c0 = 7 ∨ c0 = 8 ∨ c0 = 9 ∨ c0 = 10 ∨ c0 = 11 ∨ c0 = 12 ∨ c0 = 13 by omega) with rfl | rfl | rfl | rfl | rfl | rfl | rfl | rfl | rfl | rfl | rfl | rfl | rfl | rfl
  · have hl : lv_has ls 17 [(14, .int 0), (13, .int xv), (12, .int (nI i)), (11, .int (nI k)), (10, .ref ha), (9, .ref scr), (8, .ref q13), (7, .ref q10), (6, .ref q1), (5, .int 2), (0, .ref fa), (1, .ref bs), (2, .int (nI sn)), (3, .ref co), (4, .ref kd)] := hl
    refine lv_iconst (v := 0) hx hb dL_build_306 (by decide) ?_
    refine lv_istore (lv' := [(15, .int 0), (14, .int 0), (13, .int xv), (12, .int (nI i)), (11, .int (nI k)), (10, .ref ha), (9, .ref scr), (8, .ref q13), (7, .ref q10), (6, .ref q1), (5, .int 2), (0, .ref fa), (1, .ref bs), (2, .int (nI sn)), (3, .ref co), (4, .ref kd)]) hx hb dL_build_307 hl (by decide) rfl (fun ls hl => ?_)
    refine lv_iconst (v := 0) hx hb dL_build_309 (by decide) ?_
    refine lv_istore (lv' := [(16, .int 0), (15, .int 0), (14, .int 0), (13, .int xv), (12, .int (nI i)), (11, .int (nI k)), (10, .ref ha), (9, .ref scr), (8, .ref q13), (7, .ref q10), (6, .ref q1), (5, .int 2), (0, .ref fa), (1, .ref bs), (2, .int (nI sn)), (3, .ref co), (4, .ref kd)]) hx hb dL_build_310 hl (by decide) rfl (fun ls hl => ?_)
    refine lv_iload hx hb dL_build_312 (lv_at hl 2 rfl) ?_
    refine lv_if_ne (tgt := 359) hx hb dL_build_314 (by decide) (fun h9 => absurd (by decide) h9) (fun _ => ?_)
    refine lv_iload hx hb dL_build_317 (lv_at hl 3 rfl) ?_
    refine lv_iconst (v := 2) hx hb dL_build_319 (by decide) ?_
    refine lv_ishr hx hb dL_build_320 ?_
    obtain ⟨y1, ey1⟩ : ∃ y : Int32, y = (xv >>> (2 &&& 31)) := ⟨_, rfl⟩
    rw [← ey1]
    refine lv_bipush (v := 9) hx hb dL_build_321 (by decide) ?_
    refine va_calli (va_runS (As := [.int y1, .int 9]) (rest := []) ⟨hx, hb, hml, hown, hts⟩ (k_L_below l (n := 9) (by decide) (by decide)) (va_cwS 2 hts (gd_S q924 q925 q36 q926) rfl rfl rfl hd_L_below.2 ⟨Nat.le_of_ble_eq_true rfl, Nat.le_of_ble_eq_true rfl⟩) ⟨Pb.blind, fun U hU hW => ⟨rfl, trivial⟩⟩ rfl rfl hl.1 rfl (lv_room (Nat.le_of_ble_eq_true rfl)) dL_build_323 ⟨hcs, hss⟩) hS (fun q _ h => h.elim) (fun q h => h.elim) (fun v9 u9 t9 H locs ht9 hvm9 hw9 hB9 hz9 hk9 hS => ?_)
    have hP := P_keep hP (fun q h => hk9 q h id)
    obtain ⟨j2, hj2, ej2⟩ := hw9
    rw [ej2]
    refine lv_istore (lv' := [(15, .int (nI j2)), (16, .int 0), (14, .int 0), (13, .int xv), (12, .int (nI i)), (11, .int (nI k)), (10, .ref ha), (9, .ref scr), (8, .ref q13), (7, .ref q10), (6, .ref q1), (5, .int 2), (0, .ref fa), (1, .ref bs), (2, .int (nI sn)), (3, .ref co), (4, .ref kd)]) hx hb dL_build_326 hl (by decide) rfl (fun ls hl => ?_)
    refine lv_iload hx hb dL_build_328 (lv_at hl 3 rfl) ?_
    refine lv_iconst (v := 4) hx hb dL_build_330 (by decide) ?_
    refine lv_ishr hx hb dL_build_331 ?_
    obtain ⟨y3, ey3⟩ : ∃ y : Int32, y = (xv >>> (4 &&& 31)) := ⟨_, rfl⟩
    rw [← ey3]
    refine lv_iconst (v := 4) hx hb dL_build_332 (by decide) ?_
    refine va_calli (va_runS (As := [.int y3, .int 4]) (rest := []) ⟨hx, hb, hml, hown, hts⟩ (k_L_below l (n := 4) (by decide) (by decide)) (va_cwS 2 hts (gd_S q924 q925 q36 q926) rfl rfl rfl hd_L_below.2 ⟨Nat.le_of_ble_eq_true rfl, Nat.le_of_ble_eq_true rfl⟩) ⟨Pb.blind, fun U hU hW => ⟨rfl, trivial⟩⟩ rfl rfl hl.1 rfl (lv_room (Nat.le_of_ble_eq_true rfl)) dL_build_333 ⟨hcs, hss⟩) hS (fun q _ h => h.elim) (fun q h => h.elim) (fun v9 u9 t9 H locs ht9 hvm9 hw9 hB9 hz9 hk9 hS => ?_)
    have hP := P_keep hP (fun q h => hk9 q h id)
    obtain ⟨j4, hj4, ej4⟩ := hw9
    rw [ej4]
    refine lv_if_ne (tgt := 353) hx hb dL_build_336 (by decide) (fun hc336 => ?_) (fun hc336 => ?_)
    · have hc336 := nI_nz0 (by omega) hc336
      refine lv_iconst (v := 0) hx hb dL_build_353 (by decide) ?_
      refine lv_istore (lv' := [(16, .int 0), (15, .int (nI j2)), (14, .int 0), (13, .int xv), (12, .int (nI i)), (11, .int (nI k)), (10, .ref ha), (9, .ref scr), (8, .ref q13), (7, .ref q10), (6, .ref q1), (5, .int 2), (0, .ref fa), (1, .ref bs), (2, .int (nI sn)), (3, .ref co), (4, .ref kd)]) hx hb dL_build_354 hl (by decide) rfl (fun ls hl => ?_)
      refine lv_goto (tgt := 564) hx hb dL_build_356 (by decide) ?_
      exact kont 0 (nI j2) 0 H locs ls (Or.inl ⟨rfl, ⟨j2, by omega, rfl⟩, ⟨0, by decide, rfl⟩⟩) hP hS (lv_sub hl [0, 1, 2, 4, 5, 6, 7, 8, 9, 10, 11, 12, 13, 14, 15, 16] rfl)
    · have hc336 := nI_iz0 (by omega) hc336
      refine lv_iconst (v := 1) hx hb dL_build_339 (by decide) ?_
      refine lv_iload hx hb dL_build_340 (lv_at hl 3 rfl) ?_
      refine lv_iconst (v := 1) hx hb dL_build_342 (by decide) ?_
      refine lv_ishr hx hb dL_build_343 ?_
      obtain ⟨y5, ey5⟩ : ∃ y : Int32, y = (xv >>> (1 &&& 31)) := ⟨_, rfl⟩
      rw [← ey5]
      refine lv_bipush (v := 6) hx hb dL_build_344 (by decide) ?_
      refine va_calli (va_runS (As := [.int y5, .int 6]) (rest := [.int 1]) ⟨hx, hb, hml, hown, hts⟩ (k_L_below l (n := 6) (by decide) (by decide)) (va_cwS 2 hts (gd_S q924 q925 q36 q926) rfl rfl rfl hd_L_below.2 ⟨Nat.le_of_ble_eq_true rfl, Nat.le_of_ble_eq_true rfl⟩) ⟨Pb.blind, fun U hU hW => ⟨rfl, trivial⟩⟩ rfl rfl hl.1 rfl (lv_room (Nat.le_of_ble_eq_true rfl)) dL_build_346 ⟨hcs, hss⟩) hS (fun q _ h => h.elim) (fun q h => h.elim) (fun v9 u9 t9 H locs ht9 hvm9 hw9 hB9 hz9 hk9 hS => ?_)
      have hP := P_keep hP (fun q h => hk9 q h id)
      obtain ⟨j6, hj6, ej6⟩ := hw9
      rw [ej6]
      refine lv_iadd hx hb dL_build_349 ?_
      refine W.eq (g2 := F0 m 350 ls [.int (nI (j6 + 1))]) (by rw [lit_nI 1]) ?_
      refine lv_goto (tgt := 354) hx hb dL_build_350 (by decide) ?_
      refine lv_istore (lv' := [(16, .int (nI (j6 + 1))), (15, .int (nI j2)), (14, .int 0), (13, .int xv), (12, .int (nI i)), (11, .int (nI k)), (10, .ref ha), (9, .ref scr), (8, .ref q13), (7, .ref q10), (6, .ref q1), (5, .int 2), (0, .ref fa), (1, .ref bs), (2, .int (nI sn)), (3, .ref co), (4, .ref kd)]) hx hb dL_build_354 hl (by decide) rfl (fun ls hl => ?_)
      refine lv_goto (tgt := 564) hx hb dL_build_356 (by decide) ?_
      exact kont 0 (nI j2) (nI (j6 + 1)) H locs ls (Or.inl ⟨rfl, ⟨j2, by omega, rfl⟩, ⟨j6 + 1, by omega, rfl⟩⟩) hP hS (lv_sub hl [0, 1, 2, 4, 5, 6, 7, 8, 9, 10, 11, 12, 13, 14, 15, 16] rfl)
  · have hl : lv_has ls 17 [(14, .int 1), (13, .int xv), (12, .int (nI i)), (11, .int (nI k)), (10, .ref ha), (9, .ref scr), (8, .ref q13), (7, .ref q10), (6, .ref q1), (5, .int 2), (0, .ref fa), (1, .ref bs), (2, .int (nI sn)), (3, .ref co), (4, .ref kd)] := hl
    refine lv_iconst (v := 0) hx hb dL_build_306 (by decide) ?_
    refine lv_istore (lv' := [(15, .int 0), (14, .int 1), (13, .int xv), (12, .int (nI i)), (11, .int (nI k)), (10, .ref ha), (9, .ref scr), (8, .ref q13), (7, .ref q10), (6, .ref q1), (5, .int 2), (0, .ref fa), (1, .ref bs), (2, .int (nI sn)), (3, .ref co), (4, .ref kd)]) hx hb dL_build_307 hl (by decide) rfl (fun ls hl => ?_)
    refine lv_iconst (v := 0) hx hb dL_build_309 (by decide) ?_
    refine lv_istore (lv' := [(16, .int 0), (15, .int 0), (14, .int 1), (13, .int xv), (12, .int (nI i)), (11, .int (nI k)), (10, .ref ha), (9, .ref scr), (8, .ref q13), (7, .ref q10), (6, .ref q1), (5, .int 2), (0, .ref fa), (1, .ref bs), (2, .int (nI sn)), (3, .ref co), (4, .ref kd)]) hx hb dL_build_310 hl (by decide) rfl (fun ls hl => ?_)
    refine lv_iload hx hb dL_build_312 (lv_at hl 2 rfl) ?_
    refine lv_if_ne (tgt := 359) hx hb dL_build_314 (by decide) (fun _ => ?_) (fun h9 => absurd h9 (by decide))
    refine lv_iload hx hb dL_build_359 (lv_at hl 2 rfl) ?_
    refine lv_iconst (v := 3) hx hb dL_build_361 (by decide) ?_
    refine lv_icmp_ge (tgt := 413) hx hb dL_build_362 (by decide) (fun h9 => absurd h9 (by decide)) (fun _ => ?_)
    refine lv_iload hx hb dL_build_365 (lv_at hl 3 rfl) ?_
    refine lv_iconst (v := 3) hx hb dL_build_367 (by decide) ?_
    refine lv_ishr hx hb dL_build_368 ?_
    obtain ⟨y1, ey1⟩ : ∃ y : Int32, y = (xv >>> (3 &&& 31)) := ⟨_, rfl⟩
    rw [← ey1]
    refine lv_iload hx hb dL_build_369 (lv_at hl 11 rfl) ?_
    refine va_calli (va_runS (As := [.int y1, .int 2]) (rest := []) ⟨hx, hb, hml, hown, hts⟩ (k_L_below l (n := 2) (by decide) (by decide)) (va_cwS 2 hts (gd_S q924 q925 q36 q926) rfl rfl rfl hd_L_below.2 ⟨Nat.le_of_ble_eq_true rfl, Nat.le_of_ble_eq_true rfl⟩) ⟨Pb.blind, fun U hU hW => ⟨rfl, trivial⟩⟩ rfl rfl hl.1 rfl (lv_room (Nat.le_of_ble_eq_true rfl)) dL_build_371 ⟨hcs, hss⟩) hS (fun q _ h => h.elim) (fun q h => h.elim) (fun v9 u9 t9 H locs ht9 hvm9 hw9 hB9 hz9 hk9 hS => ?_)
    have hP := P_keep hP (fun q h => hk9 q h id)
    obtain ⟨j2, hj2, ej2⟩ := hw9
    rw [ej2]
    refine lv_istore (lv' := [(15, .int (nI j2)), (16, .int 0), (14, .int 1), (13, .int xv), (12, .int (nI i)), (11, .int (nI k)), (10, .ref ha), (9, .ref scr), (8, .ref q13), (7, .ref q10), (6, .ref q1), (5, .int 2), (0, .ref fa), (1, .ref bs), (2, .int (nI sn)), (3, .ref co), (4, .ref kd)]) hx hb dL_build_374 hl (by decide) rfl (fun ls hl => ?_)
    refine lv_iconst (v := 1) hx hb dL_build_376 (by decide) ?_
    refine lv_iload hx hb dL_build_377 (lv_at hl 3 rfl) ?_
    refine lv_iconst (v := 2) hx hb dL_build_379 (by decide) ?_
    refine lv_ishr hx hb dL_build_380 ?_
    obtain ⟨y3, ey3⟩ : ∃ y : Int32, y = (xv >>> (2 &&& 31)) := ⟨_, rfl⟩
    rw [← ey3]
    refine lv_aload hx hb dL_build_381 (lv_at hl 10 rfl) ?_
    refine lv_iload hx hb dL_build_383 (lv_at hl 0 rfl) ?_
    refine va_iald hx hb hT.1 hP 5 0 rfl rfl (vp_in_nI (by omega) (by omega)) dL_build_385 ?_
    obtain ⟨u4, hu4a, hu4b, eu4⟩ := hfu j2 (by omega)
    refine W.eq (g2 := F0 m 386 ls [.int (nI u4), .int y3, .int 1]) (by rw [nI_clamp (by omega), eu4]) ?_
    refine lv_iload hx hb dL_build_386 (lv_at hl 3 rfl) ?_
    refine lv_iconst (v := 5) hx hb dL_build_388 (by decide) ?_
    refine lv_ishr hx hb dL_build_389 ?_
    obtain ⟨y5, ey5⟩ : ∃ y : Int32, y = (xv >>> (5 &&& 31)) := ⟨_, rfl⟩
    rw [← ey5]
    refine lv_bipush (v := 9) hx hb dL_build_390 (by decide) ?_
    refine va_calli (va_runS (As := [.int y5, .int 9]) (rest := [.int (nI u4), .int y3, .int 1]) ⟨hx, hb, hml, hown, hts⟩ (k_L_below l (n := 9) (by decide) (by decide)) (va_cwS 2 hts (gd_S q924 q925 q36 q926) rfl rfl rfl hd_L_below.2 ⟨Nat.le_of_ble_eq_true rfl, Nat.le_of_ble_eq_true rfl⟩) ⟨Pb.blind, fun U hU hW => ⟨rfl, trivial⟩⟩ rfl rfl hl.1 rfl (lv_room (Nat.le_of_ble_eq_true rfl)) dL_build_392 ⟨hcs, hss⟩) hS (fun q _ h => h.elim) (fun q h => h.elim) (fun v9 u9 t9 H locs ht9 hvm9 hw9 hB9 hz9 hk9 hS => ?_)
    have hP := P_keep hP (fun q h => hk9 q h id)
    obtain ⟨j6, hj6, ej6⟩ := hw9
    rw [ej6]
    refine lv_if_ne (tgt := 402) hx hb dL_build_395 (by decide) (fun hc395 => ?_) (fun hc395 => ?_)
    · have hc395 := nI_nz0 (by omega) hc395
      refine lv_iconst (v := 0) hx hb dL_build_402 (by decide) ?_
      refine lv_iadd hx hb dL_build_403 ?_
      refine W.eq (g2 := F0 m 404 ls [.int (nI (u4 + 0)), .int y3, .int 1]) (by rw [← nn_nI]; rfl) ?_
      refine va_calli (va_runS (As := [.int y3, .int (nI (u4 + 0))]) (rest := [.int 1]) ⟨hx, hb, hml, hown, hts⟩ (k_L_below l (n := (u4 + 0)) (by omega) (by omega)) (va_cwS 2 hts (gd_S q924 q925 q36 q926) rfl rfl rfl hd_L_below.2 ⟨Nat.le_of_ble_eq_true rfl, Nat.le_of_ble_eq_true rfl⟩) ⟨Pb.blind, fun U hU hW => ⟨rfl, trivial⟩⟩ rfl rfl hl.1 rfl (lv_room (Nat.le_of_ble_eq_true rfl)) dL_build_404 ⟨hcs, hss⟩) hS (fun q _ h => h.elim) (fun q h => h.elim) (fun v9 u9 t9 H locs ht9 hvm9 hw9 hB9 hz9 hk9 hS => ?_)
      have hP := P_keep hP (fun q h => hk9 q h id)
      obtain ⟨j7, hj7, ej7⟩ := hw9
      rw [ej7]
      refine lv_iadd hx hb dL_build_407 ?_
      refine W.eq (g2 := F0 m 408 ls [.int (nI (j7 + 1))]) (by rw [lit_nI 1]) ?_
      refine lv_istore (lv' := [(16, .int (nI (j7 + 1))), (15, .int (nI j2)), (14, .int 1), (13, .int xv), (12, .int (nI i)), (11, .int (nI k)), (10, .ref ha), (9, .ref scr), (8, .ref q13), (7, .ref q10), (6, .ref q1), (5, .int 2), (0, .ref fa), (1, .ref bs), (2, .int (nI sn)), (3, .ref co), (4, .ref kd)]) hx hb dL_build_408 hl (by decide) rfl (fun ls hl => ?_)
      refine lv_goto (tgt := 564) hx hb dL_build_410 (by decide) ?_
      exact kont 1 (nI j2) (nI (j7 + 1)) H locs ls (Or.inr (Or.inl ⟨Or.inl rfl, ⟨j2, by omega, rfl⟩, ⟨j7 + 1, by omega, by omega, rfl⟩⟩)) hP hS (lv_sub hl [0, 1, 2, 4, 5, 6, 7, 8, 9, 10, 11, 12, 13, 14, 15, 16] rfl)
    · have hc395 := nI_iz0 (by omega) hc395
      refine lv_iconst (v := 1) hx hb dL_build_398 (by decide) ?_
      refine lv_goto (tgt := 403) hx hb dL_build_399 (by decide) ?_
      refine lv_iadd hx hb dL_build_403 ?_
      refine W.eq (g2 := F0 m 404 ls [.int (nI (u4 + 1)), .int y3, .int 1]) (by rw [← nn_nI]; rfl) ?_
      refine va_calli (va_runS (As := [.int y3, .int (nI (u4 + 1))]) (rest := [.int 1]) ⟨hx, hb, hml, hown, hts⟩ (k_L_below l (n := (u4 + 1)) (by omega) (by omega)) (va_cwS 2 hts (gd_S q924 q925 q36 q926) rfl rfl rfl hd_L_below.2 ⟨Nat.le_of_ble_eq_true rfl, Nat.le_of_ble_eq_true rfl⟩) ⟨Pb.blind, fun U hU hW => ⟨rfl, trivial⟩⟩ rfl rfl hl.1 rfl (lv_room (Nat.le_of_ble_eq_true rfl)) dL_build_404 ⟨hcs, hss⟩) hS (fun q _ h => h.elim) (fun q h => h.elim) (fun v9 u9 t9 H locs ht9 hvm9 hw9 hB9 hz9 hk9 hS => ?_)
      have hP := P_keep hP (fun q h => hk9 q h id)
      obtain ⟨j7, hj7, ej7⟩ := hw9
      rw [ej7]
      refine lv_iadd hx hb dL_build_407 ?_
      refine W.eq (g2 := F0 m 408 ls [.int (nI (j7 + 1))]) (by rw [lit_nI 1]) ?_
      refine lv_istore (lv' := [(16, .int (nI (j7 + 1))), (15, .int (nI j2)), (14, .int 1), (13, .int xv), (12, .int (nI i)), (11, .int (nI k)), (10, .ref ha), (9, .ref scr), (8, .ref q13), (7, .ref q10), (6, .ref q1), (5, .int 2), (0, .ref fa), (1, .ref bs), (2, .int (nI sn)), (3, .ref co), (4, .ref kd)]) hx hb dL_build_408 hl (by decide) rfl (fun ls hl => ?_)
      refine lv_goto (tgt := 564) hx hb dL_build_410 (by decide) ?_
      exact kont 1 (nI j2) (nI (j7 + 1)) H locs ls (Or.inr (Or.inl ⟨Or.inl rfl, ⟨j2, by omega, rfl⟩, ⟨j7 + 1, by omega, by omega, rfl⟩⟩)) hP hS (lv_sub hl [0, 1, 2, 4, 5, 6, 7, 8, 9, 10, 11, 12, 13, 14, 15, 16] rfl)
  · have hl : lv_has ls 17 [(14, .int 2), (13, .int xv), (12, .int (nI i)), (11, .int (nI k)), (10, .ref ha), (9, .ref scr), (8, .ref q13), (7, .ref q10), (6, .ref q1), (5, .int 2), (0, .ref fa), (1, .ref bs), (2, .int (nI sn)), (3, .ref co), (4, .ref kd)] := hl
    refine lv_iconst (v := 0) hx hb dL_build_306 (by decide) ?_
    refine lv_istore (lv' := [(15, .int 0), (14, .int 2), (13, .int xv), (12, .int (nI i)), (11, .int (nI k)), (10, .ref ha), (9, .ref scr), (8, .ref q13), (7, .ref q10), (6, .ref q1), (5, .int 2), (0, .ref fa), (1, .ref bs), (2, .int (nI sn)), (3, .ref co), (4, .ref kd)]) hx hb dL_build_307 hl (by decide) rfl (fun ls hl => ?_)
    refine lv_iconst (v := 0) hx hb dL_build_309 (by decide) ?_
    refine lv_istore (lv' := [(16, .int 0), (15, .int 0), (14, .int 2), (13, .int xv), (12, .int (nI i)), (11, .int (nI k)), (10, .ref ha), (9, .ref scr), (8, .ref q13), (7, .ref q10), (6, .ref q1), (5, .int 2), (0, .ref fa), (1, .ref bs), (2, .int (nI sn)), (3, .ref co), (4, .ref kd)]) hx hb dL_build_310 hl (by decide) rfl (fun ls hl => ?_)
    refine lv_iload hx hb dL_build_312 (lv_at hl 2 rfl) ?_
    refine lv_if_ne (tgt := 359) hx hb dL_build_314 (by decide) (fun _ => ?_) (fun h9 => absurd h9 (by decide))
    refine lv_iload hx hb dL_build_359 (lv_at hl 2 rfl) ?_
    refine lv_iconst (v := 3) hx hb dL_build_361 (by decide) ?_
    refine lv_icmp_ge (tgt := 413) hx hb dL_build_362 (by decide) (fun h9 => absurd h9 (by decide)) (fun _ => ?_)
    refine lv_iload hx hb dL_build_365 (lv_at hl 3 rfl) ?_
    refine lv_iconst (v := 3) hx hb dL_build_367 (by decide) ?_
    refine lv_ishr hx hb dL_build_368 ?_
    obtain ⟨y1, ey1⟩ : ∃ y : Int32, y = (xv >>> (3 &&& 31)) := ⟨_, rfl⟩
    rw [← ey1]
    refine lv_iload hx hb dL_build_369 (lv_at hl 11 rfl) ?_
    refine va_calli (va_runS (As := [.int y1, .int 2]) (rest := []) ⟨hx, hb, hml, hown, hts⟩ (k_L_below l (n := 2) (by decide) (by decide)) (va_cwS 2 hts (gd_S q924 q925 q36 q926) rfl rfl rfl hd_L_below.2 ⟨Nat.le_of_ble_eq_true rfl, Nat.le_of_ble_eq_true rfl⟩) ⟨Pb.blind, fun U hU hW => ⟨rfl, trivial⟩⟩ rfl rfl hl.1 rfl (lv_room (Nat.le_of_ble_eq_true rfl)) dL_build_371 ⟨hcs, hss⟩) hS (fun q _ h => h.elim) (fun q h => h.elim) (fun v9 u9 t9 H locs ht9 hvm9 hw9 hB9 hz9 hk9 hS => ?_)
    have hP := P_keep hP (fun q h => hk9 q h id)
    obtain ⟨j2, hj2, ej2⟩ := hw9
    rw [ej2]
    refine lv_istore (lv' := [(15, .int (nI j2)), (16, .int 0), (14, .int 2), (13, .int xv), (12, .int (nI i)), (11, .int (nI k)), (10, .ref ha), (9, .ref scr), (8, .ref q13), (7, .ref q10), (6, .ref q1), (5, .int 2), (0, .ref fa), (1, .ref bs), (2, .int (nI sn)), (3, .ref co), (4, .ref kd)]) hx hb dL_build_374 hl (by decide) rfl (fun ls hl => ?_)
    refine lv_iconst (v := 1) hx hb dL_build_376 (by decide) ?_
    refine lv_iload hx hb dL_build_377 (lv_at hl 3 rfl) ?_
    refine lv_iconst (v := 2) hx hb dL_build_379 (by decide) ?_
    refine lv_ishr hx hb dL_build_380 ?_
    obtain ⟨y3, ey3⟩ : ∃ y : Int32, y = (xv >>> (2 &&& 31)) := ⟨_, rfl⟩
    rw [← ey3]
    refine lv_aload hx hb dL_build_381 (lv_at hl 10 rfl) ?_
    refine lv_iload hx hb dL_build_383 (lv_at hl 0 rfl) ?_
    refine va_iald hx hb hT.1 hP 5 0 rfl rfl (vp_in_nI (by omega) (by omega)) dL_build_385 ?_
    obtain ⟨u4, hu4a, hu4b, eu4⟩ := hfu j2 (by omega)
    refine W.eq (g2 := F0 m 386 ls [.int (nI u4), .int y3, .int 1]) (by rw [nI_clamp (by omega), eu4]) ?_
    refine lv_iload hx hb dL_build_386 (lv_at hl 3 rfl) ?_
    refine lv_iconst (v := 5) hx hb dL_build_388 (by decide) ?_
    refine lv_ishr hx hb dL_build_389 ?_
    obtain ⟨y5, ey5⟩ : ∃ y : Int32, y = (xv >>> (5 &&& 31)) := ⟨_, rfl⟩
    rw [← ey5]
    refine lv_bipush (v := 9) hx hb dL_build_390 (by decide) ?_
    refine va_calli (va_runS (As := [.int y5, .int 9]) (rest := [.int (nI u4), .int y3, .int 1]) ⟨hx, hb, hml, hown, hts⟩ (k_L_below l (n := 9) (by decide) (by decide)) (va_cwS 2 hts (gd_S q924 q925 q36 q926) rfl rfl rfl hd_L_below.2 ⟨Nat.le_of_ble_eq_true rfl, Nat.le_of_ble_eq_true rfl⟩) ⟨Pb.blind, fun U hU hW => ⟨rfl, trivial⟩⟩ rfl rfl hl.1 rfl (lv_room (Nat.le_of_ble_eq_true rfl)) dL_build_392 ⟨hcs, hss⟩) hS (fun q _ h => h.elim) (fun q h => h.elim) (fun v9 u9 t9 H locs ht9 hvm9 hw9 hB9 hz9 hk9 hS => ?_)
    have hP := P_keep hP (fun q h => hk9 q h id)
    obtain ⟨j6, hj6, ej6⟩ := hw9
    rw [ej6]
    refine lv_if_ne (tgt := 402) hx hb dL_build_395 (by decide) (fun hc395 => ?_) (fun hc395 => ?_)
    · have hc395 := nI_nz0 (by omega) hc395
      refine lv_iconst (v := 0) hx hb dL_build_402 (by decide) ?_
      refine lv_iadd hx hb dL_build_403 ?_
      refine W.eq (g2 := F0 m 404 ls [.int (nI (u4 + 0)), .int y3, .int 1]) (by rw [← nn_nI]; rfl) ?_
      refine va_calli (va_runS (As := [.int y3, .int (nI (u4 + 0))]) (rest := [.int 1]) ⟨hx, hb, hml, hown, hts⟩ (k_L_below l (n := (u4 + 0)) (by omega) (by omega)) (va_cwS 2 hts (gd_S q924 q925 q36 q926) rfl rfl rfl hd_L_below.2 ⟨Nat.le_of_ble_eq_true rfl, Nat.le_of_ble_eq_true rfl⟩) ⟨Pb.blind, fun U hU hW => ⟨rfl, trivial⟩⟩ rfl rfl hl.1 rfl (lv_room (Nat.le_of_ble_eq_true rfl)) dL_build_404 ⟨hcs, hss⟩) hS (fun q _ h => h.elim) (fun q h => h.elim) (fun v9 u9 t9 H locs ht9 hvm9 hw9 hB9 hz9 hk9 hS => ?_)
      have hP := P_keep hP (fun q h => hk9 q h id)
      obtain ⟨j7, hj7, ej7⟩ := hw9
      rw [ej7]
      refine lv_iadd hx hb dL_build_407 ?_
      refine W.eq (g2 := F0 m 408 ls [.int (nI (j7 + 1))]) (by rw [lit_nI 1]) ?_
      refine lv_istore (lv' := [(16, .int (nI (j7 + 1))), (15, .int (nI j2)), (14, .int 2), (13, .int xv), (12, .int (nI i)), (11, .int (nI k)), (10, .ref ha), (9, .ref scr), (8, .ref q13), (7, .ref q10), (6, .ref q1), (5, .int 2), (0, .ref fa), (1, .ref bs), (2, .int (nI sn)), (3, .ref co), (4, .ref kd)]) hx hb dL_build_408 hl (by decide) rfl (fun ls hl => ?_)
      refine lv_goto (tgt := 564) hx hb dL_build_410 (by decide) ?_
      exact kont 2 (nI j2) (nI (j7 + 1)) H locs ls (Or.inr (Or.inl ⟨Or.inr rfl, ⟨j2, by omega, rfl⟩, ⟨j7 + 1, by omega, by omega, rfl⟩⟩)) hP hS (lv_sub hl [0, 1, 2, 4, 5, 6, 7, 8, 9, 10, 11, 12, 13, 14, 15, 16] rfl)
    · have hc395 := nI_iz0 (by omega) hc395
      refine lv_iconst (v := 1) hx hb dL_build_398 (by decide) ?_
      refine lv_goto (tgt := 403) hx hb dL_build_399 (by decide) ?_
      refine lv_iadd hx hb dL_build_403 ?_
      refine W.eq (g2 := F0 m 404 ls [.int (nI (u4 + 1)), .int y3, .int 1]) (by rw [← nn_nI]; rfl) ?_
      refine va_calli (va_runS (As := [.int y3, .int (nI (u4 + 1))]) (rest := [.int 1]) ⟨hx, hb, hml, hown, hts⟩ (k_L_below l (n := (u4 + 1)) (by omega) (by omega)) (va_cwS 2 hts (gd_S q924 q925 q36 q926) rfl rfl rfl hd_L_below.2 ⟨Nat.le_of_ble_eq_true rfl, Nat.le_of_ble_eq_true rfl⟩) ⟨Pb.blind, fun U hU hW => ⟨rfl, trivial⟩⟩ rfl rfl hl.1 rfl (lv_room (Nat.le_of_ble_eq_true rfl)) dL_build_404 ⟨hcs, hss⟩) hS (fun q _ h => h.elim) (fun q h => h.elim) (fun v9 u9 t9 H locs ht9 hvm9 hw9 hB9 hz9 hk9 hS => ?_)
      have hP := P_keep hP (fun q h => hk9 q h id)
      obtain ⟨j7, hj7, ej7⟩ := hw9
      rw [ej7]
      refine lv_iadd hx hb dL_build_407 ?_
      refine W.eq (g2 := F0 m 408 ls [.int (nI (j7 + 1))]) (by rw [lit_nI 1]) ?_
      refine lv_istore (lv' := [(16, .int (nI (j7 + 1))), (15, .int (nI j2)), (14, .int 2), (13, .int xv), (12, .int (nI i)), (11, .int (nI k)), (10, .ref ha), (9, .ref scr), (8, .ref q13), (7, .ref q10), (6, .ref q1), (5, .int 2), (0, .ref fa), (1, .ref bs), (2, .int (nI sn)), (3, .ref co), (4, .ref kd)]) hx hb dL_build_408 hl (by decide) rfl (fun ls hl => ?_)
      refine lv_goto (tgt := 564) hx hb dL_build_410 (by decide) ?_
      exact kont 2 (nI j2) (nI (j7 + 1)) H locs ls (Or.inr (Or.inl ⟨Or.inr rfl, ⟨j2, by omega, rfl⟩, ⟨j7 + 1, by omega, by omega, rfl⟩⟩)) hP hS (lv_sub hl [0, 1, 2, 4, 5, 6, 7, 8, 9, 10, 11, 12, 13, 14, 15, 16] rfl)
  · have hl : lv_has ls 17 [(14, .int 3), (13, .int xv), (12, .int (nI i)), (11, .int (nI k)), (10, .ref ha), (9, .ref scr), (8, .ref q13), (7, .ref q10), (6, .ref q1), (5, .int 2), (0, .ref fa), (1, .ref bs), (2, .int (nI sn)), (3, .ref co), (4, .ref kd)] := hl
    refine lv_iconst (v := 0) hx hb dL_build_306 (by decide) ?_
    refine lv_istore (lv' := [(15, .int 0), (14, .int 3), (13, .int xv), (12, .int (nI i)), (11, .int (nI k)), (10, .ref ha), (9, .ref scr), (8, .ref q13), (7, .ref q10), (6, .ref q1), (5, .int 2), (0, .ref fa), (1, .ref bs), (2, .int (nI sn)), (3, .ref co), (4, .ref kd)]) hx hb dL_build_307 hl (by decide) rfl (fun ls hl => ?_)
    refine lv_iconst (v := 0) hx hb dL_build_309 (by decide) ?_
    refine lv_istore (lv' := [(16, .int 0), (15, .int 0), (14, .int 3), (13, .int xv), (12, .int (nI i)), (11, .int (nI k)), (10, .ref ha), (9, .ref scr), (8, .ref q13), (7, .ref q10), (6, .ref q1), (5, .int 2), (0, .ref fa), (1, .ref bs), (2, .int (nI sn)), (3, .ref co), (4, .ref kd)]) hx hb dL_build_310 hl (by decide) rfl (fun ls hl => ?_)
    refine lv_iload hx hb dL_build_312 (lv_at hl 2 rfl) ?_
    refine lv_if_ne (tgt := 359) hx hb dL_build_314 (by decide) (fun _ => ?_) (fun h9 => absurd h9 (by decide))
    refine lv_iload hx hb dL_build_359 (lv_at hl 2 rfl) ?_
    refine lv_iconst (v := 3) hx hb dL_build_361 (by decide) ?_
    refine lv_icmp_ge (tgt := 413) hx hb dL_build_362 (by decide) (fun _ => ?_) (fun h9 => absurd (by decide) h9)
    refine lv_iload hx hb dL_build_413 (lv_at hl 2 rfl) ?_
    refine lv_iconst (v := 5) hx hb dL_build_415 (by decide) ?_
    refine lv_icmp_lt (tgt := 426) hx hb dL_build_416 (by decide) (fun _ => ?_) (fun h9 => absurd (by decide) h9)
    refine lv_iload hx hb dL_build_426 (lv_at hl 3 rfl) ?_
    refine lv_iconst (v := 3) hx hb dL_build_428 (by decide) ?_
    refine lv_ishr hx hb dL_build_429 ?_
    obtain ⟨y1, ey1⟩ : ∃ y : Int32, y = (xv >>> (3 &&& 31)) := ⟨_, rfl⟩
    rw [← ey1]
    refine lv_iconst (v := 2) hx hb dL_build_430 (by decide) ?_
    refine va_calli (va_runS (As := [.int y1, .int 2]) (rest := []) ⟨hx, hb, hml, hown, hts⟩ (k_L_below l (n := 2) (by decide) (by decide)) (va_cwS 2 hts (gd_S q924 q925 q36 q926) rfl rfl rfl hd_L_below.2 ⟨Nat.le_of_ble_eq_true rfl, Nat.le_of_ble_eq_true rfl⟩) ⟨Pb.blind, fun U hU hW => ⟨rfl, trivial⟩⟩ rfl rfl hl.1 rfl (lv_room (Nat.le_of_ble_eq_true rfl)) dL_build_431 ⟨hcs, hss⟩) hS (fun q _ h => h.elim) (fun q h => h.elim) (fun v9 u9 t9 H locs ht9 hvm9 hw9 hB9 hz9 hk9 hS => ?_)
    have hP := P_keep hP (fun q h => hk9 q h id)
    obtain ⟨j2, hj2, ej2⟩ := hw9
    rw [ej2]
    refine lv_istore (lv' := [(15, .int (nI j2)), (16, .int 0), (14, .int 3), (13, .int xv), (12, .int (nI i)), (11, .int (nI k)), (10, .ref ha), (9, .ref scr), (8, .ref q13), (7, .ref q10), (6, .ref q1), (5, .int 2), (0, .ref fa), (1, .ref bs), (2, .int (nI sn)), (3, .ref co), (4, .ref kd)]) hx hb dL_build_434 hl (by decide) rfl (fun ls hl => ?_)
    refine lv_iconst (v := 1) hx hb dL_build_436 (by decide) ?_
    refine lv_iload hx hb dL_build_437 (lv_at hl 3 rfl) ?_
    refine lv_iconst (v := 4) hx hb dL_build_439 (by decide) ?_
    refine lv_ishr hx hb dL_build_440 ?_
    obtain ⟨y3, ey3⟩ : ∃ y : Int32, y = (xv >>> (4 &&& 31)) := ⟨_, rfl⟩
    rw [← ey3]
    refine lv_iload hx hb dL_build_441 (lv_at hl 0 rfl) ?_
    refine lv_if_ne (tgt := 450) hx hb dL_build_443 (by decide) (fun hc443 => ?_) (fun hc443 => ?_)
    · have hc443 := nI_nz0 (by omega) hc443
      refine lv_iconst (v := 3) hx hb dL_build_450 (by decide) ?_
      refine va_calli (va_runS (As := [.int y3, .int 3]) (rest := [.int 1]) ⟨hx, hb, hml, hown, hts⟩ (k_L_below l (n := 3) (by decide) (by decide)) (va_cwS 2 hts (gd_S q924 q925 q36 q926) rfl rfl rfl hd_L_below.2 ⟨Nat.le_of_ble_eq_true rfl, Nat.le_of_ble_eq_true rfl⟩) ⟨Pb.blind, fun U hU hW => ⟨rfl, trivial⟩⟩ rfl rfl hl.1 rfl (lv_room (Nat.le_of_ble_eq_true rfl)) dL_build_451 ⟨hcs, hss⟩) hS (fun q _ h => h.elim) (fun q h => h.elim) (fun v9 u9 t9 H locs ht9 hvm9 hw9 hB9 hz9 hk9 hS => ?_)
      have hP := P_keep hP (fun q h => hk9 q h id)
      obtain ⟨j4, hj4, ej4⟩ := hw9
      rw [ej4]
      refine lv_iadd hx hb dL_build_454 ?_
      refine W.eq (g2 := F0 m 455 ls [.int (nI (j4 + 1))]) (by rw [lit_nI 1]) ?_
      refine lv_istore (lv' := [(16, .int (nI (j4 + 1))), (15, .int (nI j2)), (14, .int 3), (13, .int xv), (12, .int (nI i)), (11, .int (nI k)), (10, .ref ha), (9, .ref scr), (8, .ref q13), (7, .ref q10), (6, .ref q1), (5, .int 2), (0, .ref fa), (1, .ref bs), (2, .int (nI sn)), (3, .ref co), (4, .ref kd)]) hx hb dL_build_455 hl (by decide) rfl (fun ls hl => ?_)
      refine lv_goto (tgt := 564) hx hb dL_build_457 (by decide) ?_
      exact kont 3 (nI j2) (nI (j4 + 1)) H locs ls (Or.inr (Or.inr (Or.inl ⟨Or.inl rfl, ⟨j2, by omega, rfl⟩, ⟨j4 + 1, by omega, by omega, rfl⟩⟩))) hP hS (lv_sub hl [0, 1, 2, 4, 5, 6, 7, 8, 9, 10, 11, 12, 13, 14, 15, 16] rfl)
    · have hc443 := nI_iz0 (by omega) hc443
      refine lv_iconst (v := 4) hx hb dL_build_446 (by decide) ?_
      refine lv_goto (tgt := 451) hx hb dL_build_447 (by decide) ?_
      refine va_calli (va_runS (As := [.int y3, .int 4]) (rest := [.int 1]) ⟨hx, hb, hml, hown, hts⟩ (k_L_below l (n := 4) (by decide) (by decide)) (va_cwS 2 hts (gd_S q924 q925 q36 q926) rfl rfl rfl hd_L_below.2 ⟨Nat.le_of_ble_eq_true rfl, Nat.le_of_ble_eq_true rfl⟩) ⟨Pb.blind, fun U hU hW => ⟨rfl, trivial⟩⟩ rfl rfl hl.1 rfl (lv_room (Nat.le_of_ble_eq_true rfl)) dL_build_451 ⟨hcs, hss⟩) hS (fun q _ h => h.elim) (fun q h => h.elim) (fun v9 u9 t9 H locs ht9 hvm9 hw9 hB9 hz9 hk9 hS => ?_)
      have hP := P_keep hP (fun q h => hk9 q h id)
      obtain ⟨j4, hj4, ej4⟩ := hw9
      rw [ej4]
      refine lv_iadd hx hb dL_build_454 ?_
      refine W.eq (g2 := F0 m 455 ls [.int (nI (j4 + 1))]) (by rw [lit_nI 1]) ?_
      refine lv_istore (lv' := [(16, .int (nI (j4 + 1))), (15, .int (nI j2)), (14, .int 3), (13, .int xv), (12, .int (nI i)), (11, .int (nI k)), (10, .ref ha), (9, .ref scr), (8, .ref q13), (7, .ref q10), (6, .ref q1), (5, .int 2), (0, .ref fa), (1, .ref bs), (2, .int (nI sn)), (3, .ref co), (4, .ref kd)]) hx hb dL_build_455 hl (by decide) rfl (fun ls hl => ?_)
      refine lv_goto (tgt := 564) hx hb dL_build_457 (by decide) ?_
      exact kont 3 (nI j2) (nI (j4 + 1)) H locs ls (Or.inr (Or.inr (Or.inl ⟨Or.inl rfl, ⟨j2, by omega, rfl⟩, ⟨j4 + 1, by omega, by omega, rfl⟩⟩))) hP hS (lv_sub hl [0, 1, 2, 4, 5, 6, 7, 8, 9, 10, 11, 12, 13, 14, 15, 16] rfl)
  · have hl : lv_has ls 17 [(14, .int 4), (13, .int xv), (12, .int (nI i)), (11, .int (nI k)), (10, .ref ha), (9, .ref scr), (8, .ref q13), (7, .ref q10), (6, .ref q1), (5, .int 2), (0, .ref fa), (1, .ref bs), (2, .int (nI sn)), (3, .ref co), (4, .ref kd)] := hl
    refine lv_iconst (v := 0) hx hb dL_build_306 (by decide) ?_
    refine lv_istore (lv' := [(15, .int 0), (14, .int 4), (13, .int xv), (12, .int (nI i)), (11, .int (nI k)), (10, .ref ha), (9, .ref scr), (8, .ref q13), (7, .ref q10), (6, .ref q1), (5, .int 2), (0, .ref fa), (1, .ref bs), (2, .int (nI sn)), (3, .ref co), (4, .ref kd)]) hx hb dL_build_307 hl (by decide) rfl (fun ls hl => ?_)
    refine lv_iconst (v := 0) hx hb dL_build_309 (by decide) ?_
    refine lv_istore (lv' := [(16, .int 0), (15, .int 0), (14, .int 4), (13, .int xv), (12, .int (nI i)), (11, .int (nI k)), (10, .ref ha), (9, .ref scr), (8, .ref q13), (7, .ref q10), (6, .ref q1), (5, .int 2), (0, .ref fa), (1, .ref bs), (2, .int (nI sn)), (3, .ref co), (4, .ref kd)]) hx hb dL_build_310 hl (by decide) rfl (fun ls hl => ?_)
    refine lv_iload hx hb dL_build_312 (lv_at hl 2 rfl) ?_
    refine lv_if_ne (tgt := 359) hx hb dL_build_314 (by decide) (fun _ => ?_) (fun h9 => absurd h9 (by decide))
    refine lv_iload hx hb dL_build_359 (lv_at hl 2 rfl) ?_
    refine lv_iconst (v := 3) hx hb dL_build_361 (by decide) ?_
    refine lv_icmp_ge (tgt := 413) hx hb dL_build_362 (by decide) (fun _ => ?_) (fun h9 => absurd (by decide) h9)
    refine lv_iload hx hb dL_build_413 (lv_at hl 2 rfl) ?_
    refine lv_iconst (v := 5) hx hb dL_build_415 (by decide) ?_
    refine lv_icmp_lt (tgt := 426) hx hb dL_build_416 (by decide) (fun _ => ?_) (fun h9 => absurd (by decide) h9)
    refine lv_iload hx hb dL_build_426 (lv_at hl 3 rfl) ?_
    refine lv_iconst (v := 3) hx hb dL_build_428 (by decide) ?_
    refine lv_ishr hx hb dL_build_429 ?_
    obtain ⟨y1, ey1⟩ : ∃ y : Int32, y = (xv >>> (3 &&& 31)) := ⟨_, rfl⟩
    rw [← ey1]
    refine lv_iconst (v := 2) hx hb dL_build_430 (by decide) ?_
    refine va_calli (va_runS (As := [.int y1, .int 2]) (rest := []) ⟨hx, hb, hml, hown, hts⟩ (k_L_below l (n := 2) (by decide) (by decide)) (va_cwS 2 hts (gd_S q924 q925 q36 q926) rfl rfl rfl hd_L_below.2 ⟨Nat.le_of_ble_eq_true rfl, Nat.le_of_ble_eq_true rfl⟩) ⟨Pb.blind, fun U hU hW => ⟨rfl, trivial⟩⟩ rfl rfl hl.1 rfl (lv_room (Nat.le_of_ble_eq_true rfl)) dL_build_431 ⟨hcs, hss⟩) hS (fun q _ h => h.elim) (fun q h => h.elim) (fun v9 u9 t9 H locs ht9 hvm9 hw9 hB9 hz9 hk9 hS => ?_)
    have hP := P_keep hP (fun q h => hk9 q h id)
    obtain ⟨j2, hj2, ej2⟩ := hw9
    rw [ej2]
    refine lv_istore (lv' := [(15, .int (nI j2)), (16, .int 0), (14, .int 4), (13, .int xv), (12, .int (nI i)), (11, .int (nI k)), (10, .ref ha), (9, .ref scr), (8, .ref q13), (7, .ref q10), (6, .ref q1), (5, .int 2), (0, .ref fa), (1, .ref bs), (2, .int (nI sn)), (3, .ref co), (4, .ref kd)]) hx hb dL_build_434 hl (by decide) rfl (fun ls hl => ?_)
    refine lv_iconst (v := 1) hx hb dL_build_436 (by decide) ?_
    refine lv_iload hx hb dL_build_437 (lv_at hl 3 rfl) ?_
    refine lv_iconst (v := 4) hx hb dL_build_439 (by decide) ?_
    refine lv_ishr hx hb dL_build_440 ?_
    obtain ⟨y3, ey3⟩ : ∃ y : Int32, y = (xv >>> (4 &&& 31)) := ⟨_, rfl⟩
    rw [← ey3]
    refine lv_iload hx hb dL_build_441 (lv_at hl 0 rfl) ?_
    refine lv_if_ne (tgt := 450) hx hb dL_build_443 (by decide) (fun hc443 => ?_) (fun hc443 => ?_)
    · have hc443 := nI_nz0 (by omega) hc443
      refine lv_iconst (v := 3) hx hb dL_build_450 (by decide) ?_
      refine va_calli (va_runS (As := [.int y3, .int 3]) (rest := [.int 1]) ⟨hx, hb, hml, hown, hts⟩ (k_L_below l (n := 3) (by decide) (by decide)) (va_cwS 2 hts (gd_S q924 q925 q36 q926) rfl rfl rfl hd_L_below.2 ⟨Nat.le_of_ble_eq_true rfl, Nat.le_of_ble_eq_true rfl⟩) ⟨Pb.blind, fun U hU hW => ⟨rfl, trivial⟩⟩ rfl rfl hl.1 rfl (lv_room (Nat.le_of_ble_eq_true rfl)) dL_build_451 ⟨hcs, hss⟩) hS (fun q _ h => h.elim) (fun q h => h.elim) (fun v9 u9 t9 H locs ht9 hvm9 hw9 hB9 hz9 hk9 hS => ?_)
      have hP := P_keep hP (fun q h => hk9 q h id)
      obtain ⟨j4, hj4, ej4⟩ := hw9
      rw [ej4]
      refine lv_iadd hx hb dL_build_454 ?_
      refine W.eq (g2 := F0 m 455 ls [.int (nI (j4 + 1))]) (by rw [lit_nI 1]) ?_
      refine lv_istore (lv' := [(16, .int (nI (j4 + 1))), (15, .int (nI j2)), (14, .int 4), (13, .int xv), (12, .int (nI i)), (11, .int (nI k)), (10, .ref ha), (9, .ref scr), (8, .ref q13), (7, .ref q10), (6, .ref q1), (5, .int 2), (0, .ref fa), (1, .ref bs), (2, .int (nI sn)), (3, .ref co), (4, .ref kd)]) hx hb dL_build_455 hl (by decide) rfl (fun ls hl => ?_)
      refine lv_goto (tgt := 564) hx hb dL_build_457 (by decide) ?_
      exact kont 4 (nI j2) (nI (j4 + 1)) H locs ls (Or.inr (Or.inr (Or.inl ⟨Or.inr (Or.inl rfl), ⟨j2, by omega, rfl⟩, ⟨j4 + 1, by omega, by omega, rfl⟩⟩))) hP hS (lv_sub hl [0, 1, 2, 4, 5, 6, 7, 8, 9, 10, 11, 12, 13, 14, 15, 16] rfl)
    · have hc443 := nI_iz0 (by omega) hc443
      refine lv_iconst (v := 4) hx hb dL_build_446 (by decide) ?_
      refine lv_goto (tgt := 451) hx hb dL_build_447 (by decide) ?_
      refine va_calli (va_runS (As := [.int y3, .int 4]) (rest := [.int 1]) ⟨hx, hb, hml, hown, hts⟩ (k_L_below l (n := 4) (by decide) (by decide)) (va_cwS 2 hts (gd_S q924 q925 q36 q926) rfl rfl rfl hd_L_below.2 ⟨Nat.le_of_ble_eq_true rfl, Nat.le_of_ble_eq_true rfl⟩) ⟨Pb.blind, fun U hU hW => ⟨rfl, trivial⟩⟩ rfl rfl hl.1 rfl (lv_room (Nat.le_of_ble_eq_true rfl)) dL_build_451 ⟨hcs, hss⟩) hS (fun q _ h => h.elim) (fun q h => h.elim) (fun v9 u9 t9 H locs ht9 hvm9 hw9 hB9 hz9 hk9 hS => ?_)
      have hP := P_keep hP (fun q h => hk9 q h id)
      obtain ⟨j4, hj4, ej4⟩ := hw9
      rw [ej4]
      refine lv_iadd hx hb dL_build_454 ?_
      refine W.eq (g2 := F0 m 455 ls [.int (nI (j4 + 1))]) (by rw [lit_nI 1]) ?_
      refine lv_istore (lv' := [(16, .int (nI (j4 + 1))), (15, .int (nI j2)), (14, .int 4), (13, .int xv), (12, .int (nI i)), (11, .int (nI k)), (10, .ref ha), (9, .ref scr), (8, .ref q13), (7, .ref q10), (6, .ref q1), (5, .int 2), (0, .ref fa), (1, .ref bs), (2, .int (nI sn)), (3, .ref co), (4, .ref kd)]) hx hb dL_build_455 hl (by decide) rfl (fun ls hl => ?_)
      refine lv_goto (tgt := 564) hx hb dL_build_457 (by decide) ?_
      exact kont 4 (nI j2) (nI (j4 + 1)) H locs ls (Or.inr (Or.inr (Or.inl ⟨Or.inr (Or.inl rfl), ⟨j2, by omega, rfl⟩, ⟨j4 + 1, by omega, by omega, rfl⟩⟩))) hP hS (lv_sub hl [0, 1, 2, 4, 5, 6, 7, 8, 9, 10, 11, 12, 13, 14, 15, 16] rfl)
  · have hl : lv_has ls 17 [(14, .int 5), (13, .int xv), (12, .int (nI i)), (11, .int (nI k)), (10, .ref ha), (9, .ref scr), (8, .ref q13), (7, .ref q10), (6, .ref q1), (5, .int 2), (0, .ref fa), (1, .ref bs), (2, .int (nI sn)), (3, .ref co), (4, .ref kd)] := hl
    refine lv_iconst (v := 0) hx hb dL_build_306 (by decide) ?_
    refine lv_istore (lv' := [(15, .int 0), (14, .int 5), (13, .int xv), (12, .int (nI i)), (11, .int (nI k)), (10, .ref ha), (9, .ref scr), (8, .ref q13), (7, .ref q10), (6, .ref q1), (5, .int 2), (0, .ref fa), (1, .ref bs), (2, .int (nI sn)), (3, .ref co), (4, .ref kd)]) hx hb dL_build_307 hl (by decide) rfl (fun ls hl => ?_)
    refine lv_iconst (v := 0) hx hb dL_build_309 (by decide) ?_
    refine lv_istore (lv' := [(16, .int 0), (15, .int 0), (14, .int 5), (13, .int xv), (12, .int (nI i)), (11, .int (nI k)), (10, .ref ha), (9, .ref scr), (8, .ref q13), (7, .ref q10), (6, .ref q1), (5, .int 2), (0, .ref fa), (1, .ref bs), (2, .int (nI sn)), (3, .ref co), (4, .ref kd)]) hx hb dL_build_310 hl (by decide) rfl (fun ls hl => ?_)
    refine lv_iload hx hb dL_build_312 (lv_at hl 2 rfl) ?_
    refine lv_if_ne (tgt := 359) hx hb dL_build_314 (by decide) (fun _ => ?_) (fun h9 => absurd h9 (by decide))
    refine lv_iload hx hb dL_build_359 (lv_at hl 2 rfl) ?_
    refine lv_iconst (v := 3) hx hb dL_build_361 (by decide) ?_
    refine lv_icmp_ge (tgt := 413) hx hb dL_build_362 (by decide) (fun _ => ?_) (fun h9 => absurd (by decide) h9)
    refine lv_iload hx hb dL_build_413 (lv_at hl 2 rfl) ?_
    refine lv_iconst (v := 5) hx hb dL_build_415 (by decide) ?_
    refine lv_icmp_lt (tgt := 426) hx hb dL_build_416 (by decide) (fun h9 => absurd h9 (by decide)) (fun _ => ?_)
    refine lv_iload hx hb dL_build_419 (lv_at hl 2 rfl) ?_
    refine lv_bipush (v := 13) hx hb dL_build_421 (by decide) ?_
    refine lv_icmp_ne (tgt := 460) hx hb dL_build_423 (by decide) (fun _ => ?_) (fun h9 => absurd h9 (by decide))
    refine lv_iload hx hb dL_build_460 (lv_at hl 2 rfl) ?_
    refine lv_bipush (v := 7) hx hb dL_build_462 (by decide) ?_
    refine lv_icmp_ge (tgt := 480) hx hb dL_build_464 (by decide) (fun h9 => absurd h9 (by decide)) (fun _ => ?_)
    refine lv_iload hx hb dL_build_467 (lv_at hl 3 rfl) ?_
    refine lv_iconst (v := 3) hx hb dL_build_469 (by decide) ?_
    refine lv_ishr hx hb dL_build_470 ?_
    obtain ⟨y1, ey1⟩ : ∃ y : Int32, y = (xv >>> (3 &&& 31)) := ⟨_, rfl⟩
    rw [← ey1]
    refine lv_iconst (v := 2) hx hb dL_build_471 (by decide) ?_
    refine va_calli (va_runS (As := [.int y1, .int 2]) (rest := []) ⟨hx, hb, hml, hown, hts⟩ (k_L_below l (n := 2) (by decide) (by decide)) (va_cwS 2 hts (gd_S q924 q925 q36 q926) rfl rfl rfl hd_L_below.2 ⟨Nat.le_of_ble_eq_true rfl, Nat.le_of_ble_eq_true rfl⟩) ⟨Pb.blind, fun U hU hW => ⟨rfl, trivial⟩⟩ rfl rfl hl.1 rfl (lv_room (Nat.le_of_ble_eq_true rfl)) dL_build_472 ⟨hcs, hss⟩) hS (fun q _ h => h.elim) (fun q h => h.elim) (fun v9 u9 t9 H locs ht9 hvm9 hw9 hB9 hz9 hk9 hS => ?_)
    have hP := P_keep hP (fun q h => hk9 q h id)
    obtain ⟨j2, hj2, ej2⟩ := hw9
    rw [ej2]
    refine lv_istore (lv' := [(15, .int (nI j2)), (16, .int 0), (14, .int 5), (13, .int xv), (12, .int (nI i)), (11, .int (nI k)), (10, .ref ha), (9, .ref scr), (8, .ref q13), (7, .ref q10), (6, .ref q1), (5, .int 2), (0, .ref fa), (1, .ref bs), (2, .int (nI sn)), (3, .ref co), (4, .ref kd)]) hx hb dL_build_475 hl (by decide) rfl (fun ls hl => ?_)
    refine lv_goto (tgt := 564) hx hb dL_build_477 (by decide) ?_
    exact kont 5 (nI j2) 0 H locs ls (Or.inr (Or.inr (Or.inr (Or.inl ⟨Or.inl rfl, ⟨j2, by omega, rfl⟩⟩)))) hP hS (lv_sub hl [1, 0, 2, 4, 5, 6, 7, 8, 9, 10, 11, 12, 13, 14, 15, 16] rfl)
  · have hl : lv_has ls 17 [(14, .int 6), (13, .int xv), (12, .int (nI i)), (11, .int (nI k)), (10, .ref ha), (9, .ref scr), (8, .ref q13), (7, .ref q10), (6, .ref q1), (5, .int 2), (0, .ref fa), (1, .ref bs), (2, .int (nI sn)), (3, .ref co), (4, .ref kd)] := hl
    refine lv_iconst (v := 0) hx hb dL_build_306 (by decide) ?_
    refine lv_istore (lv' := [(15, .int 0), (14, .int 6), (13, .int xv), (12, .int (nI i)), (11, .int (nI k)), (10, .ref ha), (9, .ref scr), (8, .ref q13), (7, .ref q10), (6, .ref q1), (5, .int 2), (0, .ref fa), (1, .ref bs), (2, .int (nI sn)), (3, .ref co), (4, .ref kd)]) hx hb dL_build_307 hl (by decide) rfl (fun ls hl => ?_)
    refine lv_iconst (v := 0) hx hb dL_build_309 (by decide) ?_
    refine lv_istore (lv' := [(16, .int 0), (15, .int 0), (14, .int 6), (13, .int xv), (12, .int (nI i)), (11, .int (nI k)), (10, .ref ha), (9, .ref scr), (8, .ref q13), (7, .ref q10), (6, .ref q1), (5, .int 2), (0, .ref fa), (1, .ref bs), (2, .int (nI sn)), (3, .ref co), (4, .ref kd)]) hx hb dL_build_310 hl (by decide) rfl (fun ls hl => ?_)
    refine lv_iload hx hb dL_build_312 (lv_at hl 2 rfl) ?_
    refine lv_if_ne (tgt := 359) hx hb dL_build_314 (by decide) (fun _ => ?_) (fun h9 => absurd h9 (by decide))
    refine lv_iload hx hb dL_build_359 (lv_at hl 2 rfl) ?_
    refine lv_iconst (v := 3) hx hb dL_build_361 (by decide) ?_
    refine lv_icmp_ge (tgt := 413) hx hb dL_build_362 (by decide) (fun _ => ?_) (fun h9 => absurd (by decide) h9)
    refine lv_iload hx hb dL_build_413 (lv_at hl 2 rfl) ?_
    refine lv_iconst (v := 5) hx hb dL_build_415 (by decide) ?_
    refine lv_icmp_lt (tgt := 426) hx hb dL_build_416 (by decide) (fun h9 => absurd h9 (by decide)) (fun _ => ?_)
    refine lv_iload hx hb dL_build_419 (lv_at hl 2 rfl) ?_
    refine lv_bipush (v := 13) hx hb dL_build_421 (by decide) ?_
    refine lv_icmp_ne (tgt := 460) hx hb dL_build_423 (by decide) (fun _ => ?_) (fun h9 => absurd h9 (by decide))
    refine lv_iload hx hb dL_build_460 (lv_at hl 2 rfl) ?_
    refine lv_bipush (v := 7) hx hb dL_build_462 (by decide) ?_
    refine lv_icmp_ge (tgt := 480) hx hb dL_build_464 (by decide) (fun h9 => absurd h9 (by decide)) (fun _ => ?_)
    refine lv_iload hx hb dL_build_467 (lv_at hl 3 rfl) ?_
    refine lv_iconst (v := 3) hx hb dL_build_469 (by decide) ?_
    refine lv_ishr hx hb dL_build_470 ?_
    obtain ⟨y1, ey1⟩ : ∃ y : Int32, y = (xv >>> (3 &&& 31)) := ⟨_, rfl⟩
    rw [← ey1]
    refine lv_iconst (v := 2) hx hb dL_build_471 (by decide) ?_
    refine va_calli (va_runS (As := [.int y1, .int 2]) (rest := []) ⟨hx, hb, hml, hown, hts⟩ (k_L_below l (n := 2) (by decide) (by decide)) (va_cwS 2 hts (gd_S q924 q925 q36 q926) rfl rfl rfl hd_L_below.2 ⟨Nat.le_of_ble_eq_true rfl, Nat.le_of_ble_eq_true rfl⟩) ⟨Pb.blind, fun U hU hW => ⟨rfl, trivial⟩⟩ rfl rfl hl.1 rfl (lv_room (Nat.le_of_ble_eq_true rfl)) dL_build_472 ⟨hcs, hss⟩) hS (fun q _ h => h.elim) (fun q h => h.elim) (fun v9 u9 t9 H locs ht9 hvm9 hw9 hB9 hz9 hk9 hS => ?_)
    have hP := P_keep hP (fun q h => hk9 q h id)
    obtain ⟨j2, hj2, ej2⟩ := hw9
    rw [ej2]
    refine lv_istore (lv' := [(15, .int (nI j2)), (16, .int 0), (14, .int 6), (13, .int xv), (12, .int (nI i)), (11, .int (nI k)), (10, .ref ha), (9, .ref scr), (8, .ref q13), (7, .ref q10), (6, .ref q1), (5, .int 2), (0, .ref fa), (1, .ref bs), (2, .int (nI sn)), (3, .ref co), (4, .ref kd)]) hx hb dL_build_475 hl (by decide) rfl (fun ls hl => ?_)
    refine lv_goto (tgt := 564) hx hb dL_build_477 (by decide) ?_
    exact kont 6 (nI j2) 0 H locs ls (Or.inr (Or.inr (Or.inr (Or.inl ⟨Or.inr rfl, ⟨j2, by omega, rfl⟩⟩)))) hP hS (lv_sub hl [1, 0, 2, 4, 5, 6, 7, 8, 9, 10, 11, 12, 13, 14, 15, 16] rfl)
  · have hl : lv_has ls 17 [(14, .int 7), (13, .int xv), (12, .int (nI i)), (11, .int (nI k)), (10, .ref ha), (9, .ref scr), (8, .ref q13), (7, .ref q10), (6, .ref q1), (5, .int 2), (0, .ref fa), (1, .ref bs), (2, .int (nI sn)), (3, .ref co), (4, .ref kd)] := hl
    refine lv_iconst (v := 0) hx hb dL_build_306 (by decide) ?_
    refine lv_istore (lv' := [(15, .int 0), (14, .int 7), (13, .int xv), (12, .int (nI i)), (11, .int (nI k)), (10, .ref ha), (9, .ref scr), (8, .ref q13), (7, .ref q10), (6, .ref q1), (5, .int 2), (0, .ref fa), (1, .ref bs), (2, .int (nI sn)), (3, .ref co), (4, .ref kd)]) hx hb dL_build_307 hl (by decide) rfl (fun ls hl => ?_)
    refine lv_iconst (v := 0) hx hb dL_build_309 (by decide) ?_
    refine lv_istore (lv' := [(16, .int 0), (15, .int 0), (14, .int 7), (13, .int xv), (12, .int (nI i)), (11, .int (nI k)), (10, .ref ha), (9, .ref scr), (8, .ref q13), (7, .ref q10), (6, .ref q1), (5, .int 2), (0, .ref fa), (1, .ref bs), (2, .int (nI sn)), (3, .ref co), (4, .ref kd)]) hx hb dL_build_310 hl (by decide) rfl (fun ls hl => ?_)
    refine lv_iload hx hb dL_build_312 (lv_at hl 2 rfl) ?_
    refine lv_if_ne (tgt := 359) hx hb dL_build_314 (by decide) (fun _ => ?_) (fun h9 => absurd h9 (by decide))
    refine lv_iload hx hb dL_build_359 (lv_at hl 2 rfl) ?_
    refine lv_iconst (v := 3) hx hb dL_build_361 (by decide) ?_
    refine lv_icmp_ge (tgt := 413) hx hb dL_build_362 (by decide) (fun _ => ?_) (fun h9 => absurd (by decide) h9)
    refine lv_iload hx hb dL_build_413 (lv_at hl 2 rfl) ?_
    refine lv_iconst (v := 5) hx hb dL_build_415 (by decide) ?_
    refine lv_icmp_lt (tgt := 426) hx hb dL_build_416 (by decide) (fun h9 => absurd h9 (by decide)) (fun _ => ?_)
    refine lv_iload hx hb dL_build_419 (lv_at hl 2 rfl) ?_
    refine lv_bipush (v := 13) hx hb dL_build_421 (by decide) ?_
    refine lv_icmp_ne (tgt := 460) hx hb dL_build_423 (by decide) (fun _ => ?_) (fun h9 => absurd h9 (by decide))
    refine lv_iload hx hb dL_build_460 (lv_at hl 2 rfl) ?_
    refine lv_bipush (v := 7) hx hb dL_build_462 (by decide) ?_
    refine lv_icmp_ge (tgt := 480) hx hb dL_build_464 (by decide) (fun _ => ?_) (fun h9 => absurd (by decide) h9)
    refine lv_iload hx hb dL_build_480 (lv_at hl 2 rfl) ?_
    refine lv_bipush (v := 7) hx hb dL_build_482 (by decide) ?_
    refine lv_icmp_ne (tgt := 511) hx hb dL_build_484 (by decide) (fun h9 => absurd (by decide) h9) (fun _ => ?_)
    refine lv_iload hx hb dL_build_487 (lv_at hl 3 rfl) ?_
    refine lv_iconst (v := 3) hx hb dL_build_489 (by decide) ?_
    refine lv_ishr hx hb dL_build_490 ?_
    obtain ⟨y1, ey1⟩ : ∃ y : Int32, y = (xv >>> (3 &&& 31)) := ⟨_, rfl⟩
    rw [← ey1]
    refine lv_iload_n hx hb dL_build_491 rfl (lv_at hl 14 rfl) ?_
    refine va_calli (va_runS (As := [.int y1, .int (nI sn)]) (rest := []) ⟨hx, hb, hml, hown, hts⟩ (k_L_below l (n := sn) (by omega) (by omega)) (va_cwS 2 hts (gd_S q924 q925 q36 q926) rfl rfl rfl hd_L_below.2 ⟨Nat.le_of_ble_eq_true rfl, Nat.le_of_ble_eq_true rfl⟩) ⟨Pb.blind, fun U hU hW => ⟨rfl, trivial⟩⟩ rfl rfl hl.1 rfl (lv_room (Nat.le_of_ble_eq_true rfl)) dL_build_492 ⟨hcs, hss⟩) hS (fun q _ h => h.elim) (fun q h => h.elim) (fun v9 u9 t9 H locs ht9 hvm9 hw9 hB9 hz9 hk9 hS => ?_)
    have hP := P_keep hP (fun q h => hk9 q h id)
    obtain ⟨j2, hj2, ej2⟩ := hw9
    rw [ej2]
    refine lv_istore (lv' := [(15, .int (nI j2)), (16, .int 0), (14, .int 7), (13, .int xv), (12, .int (nI i)), (11, .int (nI k)), (10, .ref ha), (9, .ref scr), (8, .ref q13), (7, .ref q10), (6, .ref q1), (5, .int 2), (0, .ref fa), (1, .ref bs), (2, .int (nI sn)), (3, .ref co), (4, .ref kd)]) hx hb dL_build_495 hl (by decide) rfl (fun ls hl => ?_)
    refine lv_iload hx hb dL_build_497 (lv_at hl 3 rfl) ?_
    refine lv_iconst (v := 4) hx hb dL_build_499 (by decide) ?_
    refine lv_ishr hx hb dL_build_500 ?_
    obtain ⟨y3, ey3⟩ : ∃ y : Int32, y = (xv >>> (4 &&& 31)) := ⟨_, rfl⟩
    rw [← ey3]
    refine lv_bipush (v := 10) hx hb dL_build_501 (by decide) ?_
    refine va_calli (va_runS (As := [.int y3, .int 10]) (rest := []) ⟨hx, hb, hml, hown, hts⟩ (k_L_below l (n := 10) (by decide) (by decide)) (va_cwS 2 hts (gd_S q924 q925 q36 q926) rfl rfl rfl hd_L_below.2 ⟨Nat.le_of_ble_eq_true rfl, Nat.le_of_ble_eq_true rfl⟩) ⟨Pb.blind, fun U hU hW => ⟨rfl, trivial⟩⟩ rfl rfl hl.1 rfl (lv_room (Nat.le_of_ble_eq_true rfl)) dL_build_503 ⟨hcs, hss⟩) hS (fun q _ h => h.elim) (fun q h => h.elim) (fun v9 u9 t9 H locs ht9 hvm9 hw9 hB9 hz9 hk9 hS => ?_)
    have hP := P_keep hP (fun q h => hk9 q h id)
    obtain ⟨j4, hj4, ej4⟩ := hw9
    rw [ej4]
    refine lv_istore (lv' := [(16, .int (nI j4)), (15, .int (nI j2)), (14, .int 7), (13, .int xv), (12, .int (nI i)), (11, .int (nI k)), (10, .ref ha), (9, .ref scr), (8, .ref q13), (7, .ref q10), (6, .ref q1), (5, .int 2), (0, .ref fa), (1, .ref bs), (2, .int (nI sn)), (3, .ref co), (4, .ref kd)]) hx hb dL_build_506 hl (by decide) rfl (fun ls hl => ?_)
    refine lv_goto (tgt := 564) hx hb dL_build_508 (by decide) ?_
    exact kont 7 (nI j2) (nI j4) H locs ls (Or.inr (Or.inr (Or.inr (Or.inr (Or.inl ⟨rfl, ⟨j2, by omega, rfl⟩, ⟨j4, by omega, rfl⟩⟩))))) hP hS (lv_sub hl [0, 1, 2, 4, 5, 6, 7, 8, 9, 10, 11, 12, 13, 14, 15, 16] rfl)
  · have hl : lv_has ls 17 [(14, .int 8), (13, .int xv), (12, .int (nI i)), (11, .int (nI k)), (10, .ref ha), (9, .ref scr), (8, .ref q13), (7, .ref q10), (6, .ref q1), (5, .int 2), (0, .ref fa), (1, .ref bs), (2, .int (nI sn)), (3, .ref co), (4, .ref kd)] := hl
    refine lv_iconst (v := 0) hx hb dL_build_306 (by decide) ?_
    refine lv_istore (lv' := [(15, .int 0), (14, .int 8), (13, .int xv), (12, .int (nI i)), (11, .int (nI k)), (10, .ref ha), (9, .ref scr), (8, .ref q13), (7, .ref q10), (6, .ref q1), (5, .int 2), (0, .ref fa), (1, .ref bs), (2, .int (nI sn)), (3, .ref co), (4, .ref kd)]) hx hb dL_build_307 hl (by decide) rfl (fun ls hl => ?_)
    refine lv_iconst (v := 0) hx hb dL_build_309 (by decide) ?_
    refine lv_istore (lv' := [(16, .int 0), (15, .int 0), (14, .int 8), (13, .int xv), (12, .int (nI i)), (11, .int (nI k)), (10, .ref ha), (9, .ref scr), (8, .ref q13), (7, .ref q10), (6, .ref q1), (5, .int 2), (0, .ref fa), (1, .ref bs), (2, .int (nI sn)), (3, .ref co), (4, .ref kd)]) hx hb dL_build_310 hl (by decide) rfl (fun ls hl => ?_)
    refine lv_iload hx hb dL_build_312 (lv_at hl 2 rfl) ?_
    refine lv_if_ne (tgt := 359) hx hb dL_build_314 (by decide) (fun _ => ?_) (fun h9 => absurd h9 (by decide))
    refine lv_iload hx hb dL_build_359 (lv_at hl 2 rfl) ?_
    refine lv_iconst (v := 3) hx hb dL_build_361 (by decide) ?_
    refine lv_icmp_ge (tgt := 413) hx hb dL_build_362 (by decide) (fun _ => ?_) (fun h9 => absurd (by decide) h9)
    refine lv_iload hx hb dL_build_413 (lv_at hl 2 rfl) ?_
    refine lv_iconst (v := 5) hx hb dL_build_415 (by decide) ?_
    refine lv_icmp_lt (tgt := 426) hx hb dL_build_416 (by decide) (fun h9 => absurd h9 (by decide)) (fun _ => ?_)
    refine lv_iload hx hb dL_build_419 (lv_at hl 2 rfl) ?_
    refine lv_bipush (v := 13) hx hb dL_build_421 (by decide) ?_
    refine lv_icmp_ne (tgt := 460) hx hb dL_build_423 (by decide) (fun _ => ?_) (fun h9 => absurd h9 (by decide))
    refine lv_iload hx hb dL_build_460 (lv_at hl 2 rfl) ?_
    refine lv_bipush (v := 7) hx hb dL_build_462 (by decide) ?_
    refine lv_icmp_ge (tgt := 480) hx hb dL_build_464 (by decide) (fun _ => ?_) (fun h9 => absurd (by decide) h9)
    refine lv_iload hx hb dL_build_480 (lv_at hl 2 rfl) ?_
    refine lv_bipush (v := 7) hx hb dL_build_482 (by decide) ?_
    refine lv_icmp_ne (tgt := 511) hx hb dL_build_484 (by decide) (fun _ => ?_) (fun h9 => absurd h9 (by decide))
    refine lv_iload hx hb dL_build_511 (lv_at hl 2 rfl) ?_
    refine lv_bipush (v := 10) hx hb dL_build_513 (by decide) ?_
    refine lv_icmp_ne (tgt := 546) hx hb dL_build_515 (by decide) (fun _ => ?_) (fun h9 => absurd h9 (by decide))
    refine lv_iload hx hb dL_build_546 (lv_at hl 2 rfl) ?_
    refine lv_bipush (v := 12) hx hb dL_build_548 (by decide) ?_
    refine lv_icmp_ne (tgt := 564) hx hb dL_build_550 (by decide) (fun _ => ?_) (fun h9 => absurd h9 (by decide))
    exact kont 8 0 0 H locs ls (Or.inr (Or.inr (Or.inr (Or.inr (Or.inr (Or.inl (Or.inl rfl))))))) hP hS (lv_sub hl [0, 1, 2, 4, 5, 6, 7, 8, 9, 10, 11, 12, 13, 14, 15, 16] rfl)
  · have hl : lv_has ls 17 [(14, .int 9), (13, .int xv), (12, .int (nI i)), (11, .int (nI k)), (10, .ref ha), (9, .ref scr), (8, .ref q13), (7, .ref q10), (6, .ref q1), (5, .int 2), (0, .ref fa), (1, .ref bs), (2, .int (nI sn)), (3, .ref co), (4, .ref kd)] := hl
    refine lv_iconst (v := 0) hx hb dL_build_306 (by decide) ?_
    refine lv_istore (lv' := [(15, .int 0), (14, .int 9), (13, .int xv), (12, .int (nI i)), (11, .int (nI k)), (10, .ref ha), (9, .ref scr), (8, .ref q13), (7, .ref q10), (6, .ref q1), (5, .int 2), (0, .ref fa), (1, .ref bs), (2, .int (nI sn)), (3, .ref co), (4, .ref kd)]) hx hb dL_build_307 hl (by decide) rfl (fun ls hl => ?_)
    refine lv_iconst (v := 0) hx hb dL_build_309 (by decide) ?_
    refine lv_istore (lv' := [(16, .int 0), (15, .int 0), (14, .int 9), (13, .int xv), (12, .int (nI i)), (11, .int (nI k)), (10, .ref ha), (9, .ref scr), (8, .ref q13), (7, .ref q10), (6, .ref q1), (5, .int 2), (0, .ref fa), (1, .ref bs), (2, .int (nI sn)), (3, .ref co), (4, .ref kd)]) hx hb dL_build_310 hl (by decide) rfl (fun ls hl => ?_)
    refine lv_iload hx hb dL_build_312 (lv_at hl 2 rfl) ?_
    refine lv_if_ne (tgt := 359) hx hb dL_build_314 (by decide) (fun _ => ?_) (fun h9 => absurd h9 (by decide))
    refine lv_iload hx hb dL_build_359 (lv_at hl 2 rfl) ?_
    refine lv_iconst (v := 3) hx hb dL_build_361 (by decide) ?_
    refine lv_icmp_ge (tgt := 413) hx hb dL_build_362 (by decide) (fun _ => ?_) (fun h9 => absurd (by decide) h9)
    refine lv_iload hx hb dL_build_413 (lv_at hl 2 rfl) ?_
    refine lv_iconst (v := 5) hx hb dL_build_415 (by decide) ?_
    refine lv_icmp_lt (tgt := 426) hx hb dL_build_416 (by decide) (fun h9 => absurd h9 (by decide)) (fun _ => ?_)
    refine lv_iload hx hb dL_build_419 (lv_at hl 2 rfl) ?_
    refine lv_bipush (v := 13) hx hb dL_build_421 (by decide) ?_
    refine lv_icmp_ne (tgt := 460) hx hb dL_build_423 (by decide) (fun _ => ?_) (fun h9 => absurd h9 (by decide))
    refine lv_iload hx hb dL_build_460 (lv_at hl 2 rfl) ?_
    refine lv_bipush (v := 7) hx hb dL_build_462 (by decide) ?_
    refine lv_icmp_ge (tgt := 480) hx hb dL_build_464 (by decide) (fun _ => ?_) (fun h9 => absurd (by decide) h9)
    refine lv_iload hx hb dL_build_480 (lv_at hl 2 rfl) ?_
    refine lv_bipush (v := 7) hx hb dL_build_482 (by decide) ?_
    refine lv_icmp_ne (tgt := 511) hx hb dL_build_484 (by decide) (fun _ => ?_) (fun h9 => absurd h9 (by decide))
    refine lv_iload hx hb dL_build_511 (lv_at hl 2 rfl) ?_
    refine lv_bipush (v := 10) hx hb dL_build_513 (by decide) ?_
    refine lv_icmp_ne (tgt := 546) hx hb dL_build_515 (by decide) (fun _ => ?_) (fun h9 => absurd h9 (by decide))
    refine lv_iload hx hb dL_build_546 (lv_at hl 2 rfl) ?_
    refine lv_bipush (v := 12) hx hb dL_build_548 (by decide) ?_
    refine lv_icmp_ne (tgt := 564) hx hb dL_build_550 (by decide) (fun _ => ?_) (fun h9 => absurd h9 (by decide))
    exact kont 9 0 0 H locs ls (Or.inr (Or.inr (Or.inr (Or.inr (Or.inr (Or.inr (Or.inl ⟨rfl, rfl⟩))))))) hP hS (lv_sub hl [0, 1, 2, 4, 5, 6, 7, 8, 9, 10, 11, 12, 13, 14, 15, 16] rfl)
  · have hl : lv_has ls 17 [(14, .int 10), (13, .int xv), (12, .int (nI i)), (11, .int (nI k)), (10, .ref ha), (9, .ref scr), (8, .ref q13), (7, .ref q10), (6, .ref q1), (5, .int 2), (0, .ref fa), (1, .ref bs), (2, .int (nI sn)), (3, .ref co), (4, .ref kd)] := hl
    refine lv_iconst (v := 0) hx hb dL_build_306 (by decide) ?_
    refine lv_istore (lv' := [(15, .int 0), (14, .int 10), (13, .int xv), (12, .int (nI i)), (11, .int (nI k)), (10, .ref ha), (9, .ref scr), (8, .ref q13), (7, .ref q10), (6, .ref q1), (5, .int 2), (0, .ref fa), (1, .ref bs), (2, .int (nI sn)), (3, .ref co), (4, .ref kd)]) hx hb dL_build_307 hl (by decide) rfl (fun ls hl => ?_)
    refine lv_iconst (v := 0) hx hb dL_build_309 (by decide) ?_
    refine lv_istore (lv' := [(16, .int 0), (15, .int 0), (14, .int 10), (13, .int xv), (12, .int (nI i)), (11, .int (nI k)), (10, .ref ha), (9, .ref scr), (8, .ref q13), (7, .ref q10), (6, .ref q1), (5, .int 2), (0, .ref fa), (1, .ref bs), (2, .int (nI sn)), (3, .ref co), (4, .ref kd)]) hx hb dL_build_310 hl (by decide) rfl (fun ls hl => ?_)
    refine lv_iload hx hb dL_build_312 (lv_at hl 2 rfl) ?_
    refine lv_if_ne (tgt := 359) hx hb dL_build_314 (by decide) (fun _ => ?_) (fun h9 => absurd h9 (by decide))
    refine lv_iload hx hb dL_build_359 (lv_at hl 2 rfl) ?_
    refine lv_iconst (v := 3) hx hb dL_build_361 (by decide) ?_
    refine lv_icmp_ge (tgt := 413) hx hb dL_build_362 (by decide) (fun _ => ?_) (fun h9 => absurd (by decide) h9)
    refine lv_iload hx hb dL_build_413 (lv_at hl 2 rfl) ?_
    refine lv_iconst (v := 5) hx hb dL_build_415 (by decide) ?_
    refine lv_icmp_lt (tgt := 426) hx hb dL_build_416 (by decide) (fun h9 => absurd h9 (by decide)) (fun _ => ?_)
    refine lv_iload hx hb dL_build_419 (lv_at hl 2 rfl) ?_
    refine lv_bipush (v := 13) hx hb dL_build_421 (by decide) ?_
    refine lv_icmp_ne (tgt := 460) hx hb dL_build_423 (by decide) (fun _ => ?_) (fun h9 => absurd h9 (by decide))
    refine lv_iload hx hb dL_build_460 (lv_at hl 2 rfl) ?_
    refine lv_bipush (v := 7) hx hb dL_build_462 (by decide) ?_
    refine lv_icmp_ge (tgt := 480) hx hb dL_build_464 (by decide) (fun _ => ?_) (fun h9 => absurd (by decide) h9)
    refine lv_iload hx hb dL_build_480 (lv_at hl 2 rfl) ?_
    refine lv_bipush (v := 7) hx hb dL_build_482 (by decide) ?_
    refine lv_icmp_ne (tgt := 511) hx hb dL_build_484 (by decide) (fun _ => ?_) (fun h9 => absurd h9 (by decide))
    refine lv_iload hx hb dL_build_511 (lv_at hl 2 rfl) ?_
    refine lv_bipush (v := 10) hx hb dL_build_513 (by decide) ?_
    refine lv_icmp_ne (tgt := 546) hx hb dL_build_515 (by decide) (fun h9 => absurd (by decide) h9) (fun _ => ?_)
    refine lv_iload hx hb dL_build_518 (lv_at hl 3 rfl) ?_
    refine lv_iconst (v := 3) hx hb dL_build_520 (by decide) ?_
    refine lv_ishr hx hb dL_build_521 ?_
    obtain ⟨y1, ey1⟩ : ∃ y : Int32, y = (xv >>> (3 &&& 31)) := ⟨_, rfl⟩
    rw [← ey1]
    refine lv_aload hx hb dL_build_522 (lv_at hl 7 rfl) ?_
    refine lv_iload hx hb dL_build_524 (lv_at hl 5 rfl) ?_
    refine va_aldA hx hb hP 2 rfl hcO (vp_in_nI (by omega) (by omega)) dL_build_526 ?_
    refine W.eq (g2 := F0 m 527 ls [.ref inr, .int y1]) (by rw [nI_clamp (by omega), hfin]; rfl) ?_
    refine va_alenA hx hb hP 1 rfl hcB dL_build_527 ?_
    refine W.eq (g2 := F0 m 528 ls [.int (nI ln), .int y1]) (by rfl) ?_
    refine va_calli (va_runS (As := [.int y1, .int (nI ln)]) (rest := []) ⟨hx, hb, hml, hown, hts⟩ (k_L_below l (n := ln) (by omega) (by omega)) (va_cwS 2 hts (gd_S q924 q925 q36 q926) rfl rfl rfl hd_L_below.2 ⟨Nat.le_of_ble_eq_true rfl, Nat.le_of_ble_eq_true rfl⟩) ⟨Pb.blind, fun U hU hW => ⟨rfl, trivial⟩⟩ rfl rfl hl.1 rfl (lv_room (Nat.le_of_ble_eq_true rfl)) dL_build_528 ⟨hcs, hss⟩) hS (fun q _ h => h.elim) (fun q h => h.elim) (fun v9 u9 t9 H locs ht9 hvm9 hw9 hB9 hz9 hk9 hS => ?_)
    have hP := P_keep hP (fun q h => hk9 q h id)
    obtain ⟨j2, hj2, ej2⟩ := hw9
    rw [ej2]
    refine lv_istore (lv' := [(15, .int (nI j2)), (16, .int 0), (14, .int 10), (13, .int xv), (12, .int (nI i)), (11, .int (nI k)), (10, .ref ha), (9, .ref scr), (8, .ref q13), (7, .ref q10), (6, .ref q1), (5, .int 2), (0, .ref fa), (1, .ref bs), (2, .int (nI sn)), (3, .ref co), (4, .ref kd)]) hx hb dL_build_531 hl (by decide) rfl (fun ls hl => ?_)
    refine lv_iload hx hb dL_build_533 (lv_at hl 3 rfl) ?_
    refine lv_iconst (v := 5) hx hb dL_build_535 (by decide) ?_
    refine lv_ishr hx hb dL_build_536 ?_
    obtain ⟨y3, ey3⟩ : ∃ y : Int32, y = (xv >>> (5 &&& 31)) := ⟨_, rfl⟩
    rw [← ey3]
    refine lv_iconst (v := 4) hx hb dL_build_537 (by decide) ?_
    refine va_calli (va_runS (As := [.int y3, .int 4]) (rest := []) ⟨hx, hb, hml, hown, hts⟩ (k_L_below l (n := 4) (by decide) (by decide)) (va_cwS 2 hts (gd_S q924 q925 q36 q926) rfl rfl rfl hd_L_below.2 ⟨Nat.le_of_ble_eq_true rfl, Nat.le_of_ble_eq_true rfl⟩) ⟨Pb.blind, fun U hU hW => ⟨rfl, trivial⟩⟩ rfl rfl hl.1 rfl (lv_room (Nat.le_of_ble_eq_true rfl)) dL_build_538 ⟨hcs, hss⟩) hS (fun q _ h => h.elim) (fun q h => h.elim) (fun v9 u9 t9 H locs ht9 hvm9 hw9 hB9 hz9 hk9 hS => ?_)
    have hP := P_keep hP (fun q h => hk9 q h id)
    obtain ⟨j4, hj4, ej4⟩ := hw9
    rw [ej4]
    refine lv_istore (lv' := [(16, .int (nI j4)), (15, .int (nI j2)), (14, .int 10), (13, .int xv), (12, .int (nI i)), (11, .int (nI k)), (10, .ref ha), (9, .ref scr), (8, .ref q13), (7, .ref q10), (6, .ref q1), (5, .int 2), (0, .ref fa), (1, .ref bs), (2, .int (nI sn)), (3, .ref co), (4, .ref kd)]) hx hb dL_build_541 hl (by decide) rfl (fun ls hl => ?_)
    refine lv_goto (tgt := 564) hx hb dL_build_543 (by decide) ?_
    exact kont 10 (nI j2) (nI j4) H locs ls (Or.inr (Or.inr (Or.inr (Or.inr (Or.inr (Or.inr (Or.inr (Or.inl ⟨rfl, ⟨j2, by omega, rfl⟩, ⟨j4, by omega, rfl⟩⟩)))))))) hP hS (lv_sub hl [0, 1, 2, 4, 5, 6, 7, 8, 9, 10, 11, 12, 13, 14, 15, 16] rfl)
  · have hl : lv_has ls 17 [(14, .int 11), (13, .int xv), (12, .int (nI i)), (11, .int (nI k)), (10, .ref ha), (9, .ref scr), (8, .ref q13), (7, .ref q10), (6, .ref q1), (5, .int 2), (0, .ref fa), (1, .ref bs), (2, .int (nI sn)), (3, .ref co), (4, .ref kd)] := hl
    refine lv_iconst (v := 0) hx hb dL_build_306 (by decide) ?_
    refine lv_istore (lv' := [(15, .int 0), (14, .int 11), (13, .int xv), (12, .int (nI i)), (11, .int (nI k)), (10, .ref ha), (9, .ref scr), (8, .ref q13), (7, .ref q10), (6, .ref q1), (5, .int 2), (0, .ref fa), (1, .ref bs), (2, .int (nI sn)), (3, .ref co), (4, .ref kd)]) hx hb dL_build_307 hl (by decide) rfl (fun ls hl => ?_)
    refine lv_iconst (v := 0) hx hb dL_build_309 (by decide) ?_
    refine lv_istore (lv' := [(16, .int 0), (15, .int 0), (14, .int 11), (13, .int xv), (12, .int (nI i)), (11, .int (nI k)), (10, .ref ha), (9, .ref scr), (8, .ref q13), (7, .ref q10), (6, .ref q1), (5, .int 2), (0, .ref fa), (1, .ref bs), (2, .int (nI sn)), (3, .ref co), (4, .ref kd)]) hx hb dL_build_310 hl (by decide) rfl (fun ls hl => ?_)
    refine lv_iload hx hb dL_build_312 (lv_at hl 2 rfl) ?_
    refine lv_if_ne (tgt := 359) hx hb dL_build_314 (by decide) (fun _ => ?_) (fun h9 => absurd h9 (by decide))
    refine lv_iload hx hb dL_build_359 (lv_at hl 2 rfl) ?_
    refine lv_iconst (v := 3) hx hb dL_build_361 (by decide) ?_
    refine lv_icmp_ge (tgt := 413) hx hb dL_build_362 (by decide) (fun _ => ?_) (fun h9 => absurd (by decide) h9)
    refine lv_iload hx hb dL_build_413 (lv_at hl 2 rfl) ?_
    refine lv_iconst (v := 5) hx hb dL_build_415 (by decide) ?_
    refine lv_icmp_lt (tgt := 426) hx hb dL_build_416 (by decide) (fun h9 => absurd h9 (by decide)) (fun _ => ?_)
    refine lv_iload hx hb dL_build_419 (lv_at hl 2 rfl) ?_
    refine lv_bipush (v := 13) hx hb dL_build_421 (by decide) ?_
    refine lv_icmp_ne (tgt := 460) hx hb dL_build_423 (by decide) (fun _ => ?_) (fun h9 => absurd h9 (by decide))
    refine lv_iload hx hb dL_build_460 (lv_at hl 2 rfl) ?_
    refine lv_bipush (v := 7) hx hb dL_build_462 (by decide) ?_
    refine lv_icmp_ge (tgt := 480) hx hb dL_build_464 (by decide) (fun _ => ?_) (fun h9 => absurd (by decide) h9)
    refine lv_iload hx hb dL_build_480 (lv_at hl 2 rfl) ?_
    refine lv_bipush (v := 7) hx hb dL_build_482 (by decide) ?_
    refine lv_icmp_ne (tgt := 511) hx hb dL_build_484 (by decide) (fun _ => ?_) (fun h9 => absurd h9 (by decide))
    refine lv_iload hx hb dL_build_511 (lv_at hl 2 rfl) ?_
    refine lv_bipush (v := 10) hx hb dL_build_513 (by decide) ?_
    refine lv_icmp_ne (tgt := 546) hx hb dL_build_515 (by decide) (fun _ => ?_) (fun h9 => absurd h9 (by decide))
    refine lv_iload hx hb dL_build_546 (lv_at hl 2 rfl) ?_
    refine lv_bipush (v := 12) hx hb dL_build_548 (by decide) ?_
    refine lv_icmp_ne (tgt := 564) hx hb dL_build_550 (by decide) (fun _ => ?_) (fun h9 => absurd h9 (by decide))
    exact kont 11 0 0 H locs ls (Or.inr (Or.inr (Or.inr (Or.inr (Or.inr (Or.inl (Or.inr rfl))))))) hP hS (lv_sub hl [0, 1, 2, 4, 5, 6, 7, 8, 9, 10, 11, 12, 13, 14, 15, 16] rfl)
  · have hl : lv_has ls 17 [(14, .int 12), (13, .int xv), (12, .int (nI i)), (11, .int (nI k)), (10, .ref ha), (9, .ref scr), (8, .ref q13), (7, .ref q10), (6, .ref q1), (5, .int 2), (0, .ref fa), (1, .ref bs), (2, .int (nI sn)), (3, .ref co), (4, .ref kd)] := hl
    refine lv_iconst (v := 0) hx hb dL_build_306 (by decide) ?_
    refine lv_istore (lv' := [(15, .int 0), (14, .int 12), (13, .int xv), (12, .int (nI i)), (11, .int (nI k)), (10, .ref ha), (9, .ref scr), (8, .ref q13), (7, .ref q10), (6, .ref q1), (5, .int 2), (0, .ref fa), (1, .ref bs), (2, .int (nI sn)), (3, .ref co), (4, .ref kd)]) hx hb dL_build_307 hl (by decide) rfl (fun ls hl => ?_)
    refine lv_iconst (v := 0) hx hb dL_build_309 (by decide) ?_
    refine lv_istore (lv' := [(16, .int 0), (15, .int 0), (14, .int 12), (13, .int xv), (12, .int (nI i)), (11, .int (nI k)), (10, .ref ha), (9, .ref scr), (8, .ref q13), (7, .ref q10), (6, .ref q1), (5, .int 2), (0, .ref fa), (1, .ref bs), (2, .int (nI sn)), (3, .ref co), (4, .ref kd)]) hx hb dL_build_310 hl (by decide) rfl (fun ls hl => ?_)
    refine lv_iload hx hb dL_build_312 (lv_at hl 2 rfl) ?_
    refine lv_if_ne (tgt := 359) hx hb dL_build_314 (by decide) (fun _ => ?_) (fun h9 => absurd h9 (by decide))
    refine lv_iload hx hb dL_build_359 (lv_at hl 2 rfl) ?_
    refine lv_iconst (v := 3) hx hb dL_build_361 (by decide) ?_
    refine lv_icmp_ge (tgt := 413) hx hb dL_build_362 (by decide) (fun _ => ?_) (fun h9 => absurd (by decide) h9)
    refine lv_iload hx hb dL_build_413 (lv_at hl 2 rfl) ?_
    refine lv_iconst (v := 5) hx hb dL_build_415 (by decide) ?_
    refine lv_icmp_lt (tgt := 426) hx hb dL_build_416 (by decide) (fun h9 => absurd h9 (by decide)) (fun _ => ?_)
    refine lv_iload hx hb dL_build_419 (lv_at hl 2 rfl) ?_
    refine lv_bipush (v := 13) hx hb dL_build_421 (by decide) ?_
    refine lv_icmp_ne (tgt := 460) hx hb dL_build_423 (by decide) (fun _ => ?_) (fun h9 => absurd h9 (by decide))
    refine lv_iload hx hb dL_build_460 (lv_at hl 2 rfl) ?_
    refine lv_bipush (v := 7) hx hb dL_build_462 (by decide) ?_
    refine lv_icmp_ge (tgt := 480) hx hb dL_build_464 (by decide) (fun _ => ?_) (fun h9 => absurd (by decide) h9)
    refine lv_iload hx hb dL_build_480 (lv_at hl 2 rfl) ?_
    refine lv_bipush (v := 7) hx hb dL_build_482 (by decide) ?_
    refine lv_icmp_ne (tgt := 511) hx hb dL_build_484 (by decide) (fun _ => ?_) (fun h9 => absurd h9 (by decide))
    refine lv_iload hx hb dL_build_511 (lv_at hl 2 rfl) ?_
    refine lv_bipush (v := 10) hx hb dL_build_513 (by decide) ?_
    refine lv_icmp_ne (tgt := 546) hx hb dL_build_515 (by decide) (fun _ => ?_) (fun h9 => absurd h9 (by decide))
    refine lv_iload hx hb dL_build_546 (lv_at hl 2 rfl) ?_
    refine lv_bipush (v := 12) hx hb dL_build_548 (by decide) ?_
    refine lv_icmp_ne (tgt := 564) hx hb dL_build_550 (by decide) (fun h9 => absurd (by decide) h9) (fun _ => ?_)
    refine lv_iload hx hb dL_build_553 (lv_at hl 3 rfl) ?_
    refine lv_iconst (v := 3) hx hb dL_build_555 (by decide) ?_
    refine lv_ishr hx hb dL_build_556 ?_
    obtain ⟨y1, ey1⟩ : ∃ y : Int32, y = (xv >>> (3 &&& 31)) := ⟨_, rfl⟩
    rw [← ey1]
    refine lv_bipush (v := 10) hx hb dL_build_557 (by decide) ?_
    refine va_calli (va_runS (As := [.int y1, .int 10]) (rest := []) ⟨hx, hb, hml, hown, hts⟩ (k_L_below l (n := 10) (by decide) (by decide)) (va_cwS 2 hts (gd_S q924 q925 q36 q926) rfl rfl rfl hd_L_below.2 ⟨Nat.le_of_ble_eq_true rfl, Nat.le_of_ble_eq_true rfl⟩) ⟨Pb.blind, fun U hU hW => ⟨rfl, trivial⟩⟩ rfl rfl hl.1 rfl (lv_room (Nat.le_of_ble_eq_true rfl)) dL_build_559 ⟨hcs, hss⟩) hS (fun q _ h => h.elim) (fun q h => h.elim) (fun v9 u9 t9 H locs ht9 hvm9 hw9 hB9 hz9 hk9 hS => ?_)
    have hP := P_keep hP (fun q h => hk9 q h id)
    obtain ⟨j2, hj2, ej2⟩ := hw9
    rw [ej2]
    refine lv_istore (lv' := [(15, .int (nI j2)), (16, .int 0), (14, .int 12), (13, .int xv), (12, .int (nI i)), (11, .int (nI k)), (10, .ref ha), (9, .ref scr), (8, .ref q13), (7, .ref q10), (6, .ref q1), (5, .int 2), (0, .ref fa), (1, .ref bs), (2, .int (nI sn)), (3, .ref co), (4, .ref kd)]) hx hb dL_build_562 hl (by decide) rfl (fun ls hl => ?_)
    exact kont 12 (nI j2) 0 H locs ls (Or.inr (Or.inr (Or.inr (Or.inr (Or.inr (Or.inr (Or.inr (Or.inr (⟨rfl, ⟨j2, by omega, rfl⟩⟩))))))))) hP hS (lv_sub hl [1, 0, 2, 4, 5, 6, 7, 8, 9, 10, 11, 12, 13, 14, 15, 16] rfl)
  · have hl : lv_has ls 17 [(14, .int 13), (13, .int xv), (12, .int (nI i)), (11, .int (nI k)), (10, .ref ha), (9, .ref scr), (8, .ref q13), (7, .ref q10), (6, .ref q1), (5, .int 2), (0, .ref fa), (1, .ref bs), (2, .int (nI sn)), (3, .ref co), (4, .ref kd)] := hl
    refine lv_iconst (v := 0) hx hb dL_build_306 (by decide) ?_
    refine lv_istore (lv' := [(15, .int 0), (14, .int 13), (13, .int xv), (12, .int (nI i)), (11, .int (nI k)), (10, .ref ha), (9, .ref scr), (8, .ref q13), (7, .ref q10), (6, .ref q1), (5, .int 2), (0, .ref fa), (1, .ref bs), (2, .int (nI sn)), (3, .ref co), (4, .ref kd)]) hx hb dL_build_307 hl (by decide) rfl (fun ls hl => ?_)
    refine lv_iconst (v := 0) hx hb dL_build_309 (by decide) ?_
    refine lv_istore (lv' := [(16, .int 0), (15, .int 0), (14, .int 13), (13, .int xv), (12, .int (nI i)), (11, .int (nI k)), (10, .ref ha), (9, .ref scr), (8, .ref q13), (7, .ref q10), (6, .ref q1), (5, .int 2), (0, .ref fa), (1, .ref bs), (2, .int (nI sn)), (3, .ref co), (4, .ref kd)]) hx hb dL_build_310 hl (by decide) rfl (fun ls hl => ?_)
    refine lv_iload hx hb dL_build_312 (lv_at hl 2 rfl) ?_
    refine lv_if_ne (tgt := 359) hx hb dL_build_314 (by decide) (fun _ => ?_) (fun h9 => absurd h9 (by decide))
    refine lv_iload hx hb dL_build_359 (lv_at hl 2 rfl) ?_
    refine lv_iconst (v := 3) hx hb dL_build_361 (by decide) ?_
    refine lv_icmp_ge (tgt := 413) hx hb dL_build_362 (by decide) (fun _ => ?_) (fun h9 => absurd (by decide) h9)
    refine lv_iload hx hb dL_build_413 (lv_at hl 2 rfl) ?_
    refine lv_iconst (v := 5) hx hb dL_build_415 (by decide) ?_
    refine lv_icmp_lt (tgt := 426) hx hb dL_build_416 (by decide) (fun h9 => absurd h9 (by decide)) (fun _ => ?_)
    refine lv_iload hx hb dL_build_419 (lv_at hl 2 rfl) ?_
    refine lv_bipush (v := 13) hx hb dL_build_421 (by decide) ?_
    refine lv_icmp_ne (tgt := 460) hx hb dL_build_423 (by decide) (fun h9 => absurd (by decide) h9) (fun _ => ?_)
    refine lv_iload hx hb dL_build_426 (lv_at hl 3 rfl) ?_
    refine lv_iconst (v := 3) hx hb dL_build_428 (by decide) ?_
    refine lv_ishr hx hb dL_build_429 ?_
    obtain ⟨y1, ey1⟩ : ∃ y : Int32, y = (xv >>> (3 &&& 31)) := ⟨_, rfl⟩
    rw [← ey1]
    refine lv_iconst (v := 2) hx hb dL_build_430 (by decide) ?_
    refine va_calli (va_runS (As := [.int y1, .int 2]) (rest := []) ⟨hx, hb, hml, hown, hts⟩ (k_L_below l (n := 2) (by decide) (by decide)) (va_cwS 2 hts (gd_S q924 q925 q36 q926) rfl rfl rfl hd_L_below.2 ⟨Nat.le_of_ble_eq_true rfl, Nat.le_of_ble_eq_true rfl⟩) ⟨Pb.blind, fun U hU hW => ⟨rfl, trivial⟩⟩ rfl rfl hl.1 rfl (lv_room (Nat.le_of_ble_eq_true rfl)) dL_build_431 ⟨hcs, hss⟩) hS (fun q _ h => h.elim) (fun q h => h.elim) (fun v9 u9 t9 H locs ht9 hvm9 hw9 hB9 hz9 hk9 hS => ?_)
    have hP := P_keep hP (fun q h => hk9 q h id)
    obtain ⟨j2, hj2, ej2⟩ := hw9
    rw [ej2]
    refine lv_istore (lv' := [(15, .int (nI j2)), (16, .int 0), (14, .int 13), (13, .int xv), (12, .int (nI i)), (11, .int (nI k)), (10, .ref ha), (9, .ref scr), (8, .ref q13), (7, .ref q10), (6, .ref q1), (5, .int 2), (0, .ref fa), (1, .ref bs), (2, .int (nI sn)), (3, .ref co), (4, .ref kd)]) hx hb dL_build_434 hl (by decide) rfl (fun ls hl => ?_)
    refine lv_iconst (v := 1) hx hb dL_build_436 (by decide) ?_
    refine lv_iload hx hb dL_build_437 (lv_at hl 3 rfl) ?_
    refine lv_iconst (v := 4) hx hb dL_build_439 (by decide) ?_
    refine lv_ishr hx hb dL_build_440 ?_
    obtain ⟨y3, ey3⟩ : ∃ y : Int32, y = (xv >>> (4 &&& 31)) := ⟨_, rfl⟩
    rw [← ey3]
    refine lv_iload hx hb dL_build_441 (lv_at hl 0 rfl) ?_
    refine lv_if_ne (tgt := 450) hx hb dL_build_443 (by decide) (fun hc443 => ?_) (fun hc443 => ?_)
    · have hc443 := nI_nz0 (by omega) hc443
      refine lv_iconst (v := 3) hx hb dL_build_450 (by decide) ?_
      refine va_calli (va_runS (As := [.int y3, .int 3]) (rest := [.int 1]) ⟨hx, hb, hml, hown, hts⟩ (k_L_below l (n := 3) (by decide) (by decide)) (va_cwS 2 hts (gd_S q924 q925 q36 q926) rfl rfl rfl hd_L_below.2 ⟨Nat.le_of_ble_eq_true rfl, Nat.le_of_ble_eq_true rfl⟩) ⟨Pb.blind, fun U hU hW => ⟨rfl, trivial⟩⟩ rfl rfl hl.1 rfl (lv_room (Nat.le_of_ble_eq_true rfl)) dL_build_451 ⟨hcs, hss⟩) hS (fun q _ h => h.elim) (fun q h => h.elim) (fun v9 u9 t9 H locs ht9 hvm9 hw9 hB9 hz9 hk9 hS => ?_)
      have hP := P_keep hP (fun q h => hk9 q h id)
      obtain ⟨j4, hj4, ej4⟩ := hw9
      rw [ej4]
      refine lv_iadd hx hb dL_build_454 ?_
      refine W.eq (g2 := F0 m 455 ls [.int (nI (j4 + 1))]) (by rw [lit_nI 1]) ?_
      refine lv_istore (lv' := [(16, .int (nI (j4 + 1))), (15, .int (nI j2)), (14, .int 13), (13, .int xv), (12, .int (nI i)), (11, .int (nI k)), (10, .ref ha), (9, .ref scr), (8, .ref q13), (7, .ref q10), (6, .ref q1), (5, .int 2), (0, .ref fa), (1, .ref bs), (2, .int (nI sn)), (3, .ref co), (4, .ref kd)]) hx hb dL_build_455 hl (by decide) rfl (fun ls hl => ?_)
      refine lv_goto (tgt := 564) hx hb dL_build_457 (by decide) ?_
      exact kont 13 (nI j2) (nI (j4 + 1)) H locs ls (Or.inr (Or.inr (Or.inl ⟨Or.inr (Or.inr rfl), ⟨j2, by omega, rfl⟩, ⟨j4 + 1, by omega, by omega, rfl⟩⟩))) hP hS (lv_sub hl [0, 1, 2, 4, 5, 6, 7, 8, 9, 10, 11, 12, 13, 14, 15, 16] rfl)
    · have hc443 := nI_iz0 (by omega) hc443
      refine lv_iconst (v := 4) hx hb dL_build_446 (by decide) ?_
      refine lv_goto (tgt := 451) hx hb dL_build_447 (by decide) ?_
      refine va_calli (va_runS (As := [.int y3, .int 4]) (rest := [.int 1]) ⟨hx, hb, hml, hown, hts⟩ (k_L_below l (n := 4) (by decide) (by decide)) (va_cwS 2 hts (gd_S q924 q925 q36 q926) rfl rfl rfl hd_L_below.2 ⟨Nat.le_of_ble_eq_true rfl, Nat.le_of_ble_eq_true rfl⟩) ⟨Pb.blind, fun U hU hW => ⟨rfl, trivial⟩⟩ rfl rfl hl.1 rfl (lv_room (Nat.le_of_ble_eq_true rfl)) dL_build_451 ⟨hcs, hss⟩) hS (fun q _ h => h.elim) (fun q h => h.elim) (fun v9 u9 t9 H locs ht9 hvm9 hw9 hB9 hz9 hk9 hS => ?_)
      have hP := P_keep hP (fun q h => hk9 q h id)
      obtain ⟨j4, hj4, ej4⟩ := hw9
      rw [ej4]
      refine lv_iadd hx hb dL_build_454 ?_
      refine W.eq (g2 := F0 m 455 ls [.int (nI (j4 + 1))]) (by rw [lit_nI 1]) ?_
      refine lv_istore (lv' := [(16, .int (nI (j4 + 1))), (15, .int (nI j2)), (14, .int 13), (13, .int xv), (12, .int (nI i)), (11, .int (nI k)), (10, .ref ha), (9, .ref scr), (8, .ref q13), (7, .ref q10), (6, .ref q1), (5, .int 2), (0, .ref fa), (1, .ref bs), (2, .int (nI sn)), (3, .ref co), (4, .ref kd)]) hx hb dL_build_455 hl (by decide) rfl (fun ls hl => ?_)
      refine lv_goto (tgt := 564) hx hb dL_build_457 (by decide) ?_
      exact kont 13 (nI j2) (nI (j4 + 1)) H locs ls (Or.inr (Or.inr (Or.inl ⟨Or.inr (Or.inr rfl), ⟨j2, by omega, rfl⟩, ⟨j4 + 1, by omega, by omega, rfl⟩⟩))) hP hS (lv_sub hl [0, 1, 2, 4, 5, 6, 7, 8, 9, 10, 11, 12, 13, 14, 15, 16] rfl)
