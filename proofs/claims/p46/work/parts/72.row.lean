/-! the law's build: a script, its instructions -/
theorem k_X8_add (l : Launch) {z b : Nat} {B : Bg} {μ : Mem} {j n : Nat} {co a b9 : Int32} (hj : j < B.sz 2) (h8 : B.sz 2 ≤ 8) (hn : B.sz (10 + j) = n) (hn9 : n < 10) (hez : EzB z B) (his : f_X8_isInstruction (B.r z) μ co a b9 = some 1) (sz : Nat) : Met l yX8_add (ws_ yX8_add cX8_add 7 (some .int)) (rm_ 5 109 2 14) (Pk z b B μ sz [.ref (B.ad 272), .int (nI j), .int co, .int a, .int b9]) (Qk z b B sz (nI n) (shI j n co a b9 B.2) μ) 2 14 (Ak B sz) := by
  by_cases h0 : n = 0
  · subst h0
    exact k_X8_add0 l hj h8 hn hez his sz
  · exact k_X8_add1 l hj h8 hn h0 hn9 hez his sz
theorem k_X8_addScript (l : Launch) {z b : Nat} {B : Bg} {μ : Mem} {n : Nat} (hn : B.sz 2 = n) (hn6 : n < 8) (hez : EzB z B) (sz : Nat) : Met l yX8_addScript (ws_ yX8_addScript cX8_addScript 1 (some .int)) (rm_ 6 140 3 25) (Pk z b B μ sz [.ref (B.ad 272)]) (Qk z b B sz (nI n) (shC n B.2) μ) 3 25 (Ak B sz) := by
  by_cases h0 : n = 0
  · subst h0
    exact k_X8_addScript0 l hn hez sz
  · have e : nI n = nI n + 1 - 1 := by rw [nI_1, nI_pred]
    rw [e]
    exact k_X8_addScript1 l hn h0 hn6 hez sz
theorem SFI.i {sn k i : Nat} {co a b9 : Int32} {szf : Nat → Nat} {shf : Mem} (h : SFI sn szf shf) (h1 : szf (10 + k) = i) (h8 : ∀ j, szf (10 + j) ≤ 10) (hi : i < 10) (hc : ICh sn co a b9) : SFI sn (fun x => if x = 10 + k then i + 1 else szf x) (fun x => if x = 138 + 16 * k + i then insF i co a b9 else shf x) := by
  intro j n hn
  dsimp only at hn ⊢
  by_cases hj : j = k
  · subst hj
    rw [if_pos rfl] at hn
    by_cases h9 : n = i
    · subst h9
      exact ⟨co, a, b9, hc, if_pos rfl⟩
    · obtain ⟨c1, a1, b1, q1, q2⟩ := h j n (by omega)
      exact ⟨c1, a1, b1, q1, (if_neg (by omega)).trans q2⟩
  · rw [if_neg (by omega)] at hn
    obtain ⟨c1, a1, b1, q1, q2⟩ := h j n hn
    have := h8 j
    exact ⟨c1, a1, b1, q1, (if_neg (by omega)).trans q2⟩
theorem SFI.h {sn k : Nat} {v : Int32} {szf : Nat → Nat} {shf : Mem} (h : SFI sn szf shf) (hk : k < 8) : SFI sn szf (fun x => if x = 114 + k then upd (shf x) 1 v else shf x) := by
  intro j n hn
  obtain ⟨c1, a1, b1, q1, q2⟩ := h j n hn
  exact ⟨c1, a1, b1, q1, (if_neg (by omega)).trans q2⟩
set_option maxHeartbeats 8000000 in
set_option maxRecDepth 100000 in
theorem build_row (l : Launch) {z b : Nat} {ad0 : Nat → Nat} {D : va_G} {cy : Nat → ClassId} {fa bs L co kd sn : Nat} {xs : Nat → Int32} {fc fk : Nat → Int32} (hL : L ≤ 260) (hs1 : 1 ≤ sn) (hs3 : sn ≤ 3)
    {p : Program} {e9 : Env} {s : State} {m : MethodId} {below : List Frame} {meth : Method} {c : Code} {Qx : State → Prop} {A : Nat → Prop} (hx : p.tables.exec = Jvm.exec) (hb : c.code = cL_build) (hml : c.maxLocals = 17) (hts : ∀ w ∈ lw_all, w.before ([.ref fa, .ref bs, .int (nI sn), .ref co, .ref kd] : List Value).toArray s = true) (hown : s.vm.findClass RL = some m.cls) (hT : Tb (Bg.r z (ad0, S0 D cy)) s) (hE : Em D z b (cy 2) s) (hX : Tx s) (hXs : va_X bs L xs s s.heap) (hbl : bs < s.heap.size) (hbA : ¬ A bs) (hAb : ∀ q, A q → b ≤ q) (hA : ∀ q : Nat, s.heap.size ≤ q → A q) (hPo : ∀ (H : Heap) (locs : List Loc), va_S A s.heap H locs → va_P D vwCl [(co, .inl (cy 0, 17, .inl fc)), (kd, .inl (cy 0, 2, .inl fk))] H)
    {μ : Mem} {trv : Nat → Int32} {q13 q10 q1 ha scr : Nat} {cO cP : ClassId} {fh fl fr fu : Nat → Int32} {fs : Nat → Option Nat} (hcO : AAr s cO cP (.array .int)) (hfu : ∀ r, r < 2 → ∃ w, 1 ≤ w ∧ w ≤ 3 ∧ fu r = nI w) (hfc : ∀ r, r < 17 → ∃ w, w < 14 ∧ fc r = nI w) {inr ln k : Nat} {cB : ClassId} (hcB : AAr s cB (cy 0) .int) (hfin : fs k = some inr) (hk : k < sn) (hln : ln ≤ 8) {c1 s1 : Nat} (hc1 : c1 + 24 ≤ 250) (hs1' : s1 + 136 ≤ 12400)
    (kont : ∀ (ad : Nat → Nat) (szf : Nat → Nat) (shf : Mem) (fi : Nat → Option Nat) (H : Heap) (locs : List Loc) (ls : Array Slot), KBs z b (ad, (D, cy, szf, shf, 1, trv)) μ → (∀ p, Ka (ad, (D, cy, szf, shf, 1, trv)) p → A p) → Bg.ad (ad, (D, cy, szf, shf, 1, trv)) 272 = fa → szf 0 = 2 → szf 1 = 2 → szf 2 = sn → (∀ j, k < j → szf (10 + j) = 0) → SFI sn szf shf → va_P D vwCl ((ha, .inl (cy 0, sn, .inl fh)) :: (inr, .inl (cB, ln, .inr (.inr (.inr (.inr fi))))) :: (scr, .inl (cO, sn, .inr (.inr (.inr (.inr fs))))) :: (q13, .inl (cy 0, 2, .inl fl)) :: (q10, .inl (cy 0, 2, .inl fr)) :: (q1, .inl (cy 0, 2, .inl fu)) :: KL z (ad, (D, cy, szf, shf, 1, trv)) μ) H → va_D A ((ha, .inl (cy 0, sn, .inl fh)) :: (inr, .inl (cB, ln, .inr (.inr (.inr (.inr fi))))) :: (scr, .inl (cO, sn, .inr (.inr (.inr (.inr fs))))) :: (q13, .inl (cy 0, 2, .inl fl)) :: (q10, .inl (cy 0, 2, .inl fr)) :: (q1, .inl (cy 0, 2, .inl fu)) :: KL z (ad, (D, cy, szf, shf, 1, trv)) μ) → va_S A s.heap H locs → lv_has ls 17 [(11, .int (nI k)), (10, .ref ha), (9, .ref scr), (8, .ref q13), (7, .ref q10), (6, .ref q1), (5, .int 2), (0, .ref fa), (1, .ref bs), (2, .int (nI sn)), (3, .ref co), (4, .ref kd)] → W p l e9 (rm_ 8 280 250 12400) s m ([.ref fa, .ref bs, .int (nI sn), .ref co, .ref kd] : List Value).toArray below meth c H locs (c1 + 3 * ln) (s1 + 17 * ln) Qx (F0 m 615 ls [])) :
    ∀ (n i : Nat) (ad : Nat → Nat) (szf : Nat → Nat) (shf : Mem) (fi : Nat → Option Nat) (H : Heap) (locs : List Loc) (ls : Array Slot), i + n = ln → KBs z b (ad, (D, cy, szf, shf, 1, trv)) μ → (∀ p, Ka (ad, (D, cy, szf, shf, 1, trv)) p → A p) → Bg.ad (ad, (D, cy, szf, shf, 1, trv)) 272 = fa → szf 0 = 2 → szf 1 = 2 → szf 2 = sn → szf (10 + k) = i → (∀ j, k < j → szf (10 + j) = 0) → SFI sn szf shf → va_P D vwCl ((ha, .inl (cy 0, sn, .inl fh)) :: (inr, .inl (cB, ln, .inr (.inr (.inr (.inr fi))))) :: (scr, .inl (cO, sn, .inr (.inr (.inr (.inr fs))))) :: (q13, .inl (cy 0, 2, .inl fl)) :: (q10, .inl (cy 0, 2, .inl fr)) :: (q1, .inl (cy 0, 2, .inl fu)) :: KL z (ad, (D, cy, szf, shf, 1, trv)) μ) H → va_D A ((ha, .inl (cy 0, sn, .inl fh)) :: (inr, .inl (cB, ln, .inr (.inr (.inr (.inr fi))))) :: (scr, .inl (cO, sn, .inr (.inr (.inr (.inr fs))))) :: (q13, .inl (cy 0, 2, .inl fl)) :: (q10, .inl (cy 0, 2, .inl fr)) :: (q1, .inl (cy 0, 2, .inl fu)) :: KL z (ad, (D, cy, szf, shf, 1, trv)) μ) → va_S A s.heap H locs → lv_has ls 17 [(12, .int (nI i)), (11, .int (nI k)), (10, .ref ha), (9, .ref scr), (8, .ref q13), (7, .ref q10), (6, .ref q1), (5, .int 2), (0, .ref fa), (1, .ref bs), (2, .int (nI sn)), (3, .ref co), (4, .ref kd)] → W p l e9 (rm_ 8 280 250 12400) s m ([.ref fa, .ref bs, .int (nI sn), .ref co, .ref kd] : List Value).toArray below meth c H locs (c1 + 3 * i) (s1 + 17 * i) Qx (F0 m 253 ls []) := by
  intro n
  induction n with
  | zero =>
    intro i ad szf shf fi H locs ls hin hKs hKA h272 z0 z1 z2 z3 z4 hF hP hD hS hl
    have hil : i = ln := by omega
    refine lv_iload hx hb dL_build_253 (lv_at hl 0 rfl) ?_
    refine lv_aload hx hb dL_build_255 (lv_at hl 3 rfl) ?_
    refine lv_iload hx hb dL_build_257 (lv_at hl 1 rfl) ?_
    refine va_aldA hx hb hP 2 rfl hcO (vp_in_nI (by omega) (by omega)) dL_build_259 ?_
    refine W.eq (g2 := F0 m 260 ls [.ref inr, .int (nI i)]) (by rw [nI_clamp (by omega), hfin]; rfl) ?_
    refine va_alenA hx hb hP 1 rfl hcB dL_build_260 ?_
    refine W.eq (g2 := F0 m 261 ls [.int (nI ln), .int (nI i)]) (by rfl) ?_
    refine lv_icmp_ge (tgt := 615) hx hb dL_build_261 (by decide) (fun _ => ?_) (fun h9 => absurd ((nI_leI (a := ln) (b := i) (by omega) (by omega)).mpr (by omega)) h9)
    subst hil
    exact kont ad szf shf fi H locs ls hKs hKA h272 z0 z1 z2 z4 hF hP hD hS (lv_sub hl [1, 2, 3, 4, 5, 6, 7, 8, 9, 10, 11, 12] rfl)
  | succ n ih =>
    intro i ad szf shf fi H locs ls hin hKs hKA h272 z0 z1 z2 z3 z4 hF hP hD hS hl
    have hi : i < ln := by omega
    refine lv_iload hx hb dL_build_253 (lv_at hl 0 rfl) ?_
    refine lv_aload hx hb dL_build_255 (lv_at hl 3 rfl) ?_
    refine lv_iload hx hb dL_build_257 (lv_at hl 1 rfl) ?_
    refine va_aldA hx hb hP 2 rfl hcO (vp_in_nI (by omega) (by omega)) dL_build_259 ?_
    refine W.eq (g2 := F0 m 260 ls [.ref inr, .int (nI i)]) (by rw [nI_clamp (by omega), hfin]; rfl) ?_
    refine va_alenA hx hb hP 1 rfl hcB dL_build_260 ?_
    refine W.eq (g2 := F0 m 261 ls [.int (nI ln), .int (nI i)]) (by rfl) ?_
    refine lv_icmp_ge (tgt := 615) hx hb dL_build_261 (by decide) (fun h9 => absurd ((nI_leI (by omega) (by omega)).mp h9) (by omega)) (fun _ => ?_)
    refine lv_aload_n hx hb dL_build_264 rfl (lv_at hl 9 rfl) ?_
    refine lv_iload hx hb dL_build_265 (lv_at hl 1 rfl) ?_
    refine lv_iload hx hb dL_build_267 (lv_at hl 0 rfl) ?_
    refine lv_iadd hx hb dL_build_269 ?_
    refine W.eq (g2 := F0 m 270 ls [.int (nI (k + i)), .ref bs]) (by rw [nn_nI]) ?_
    refine lv_bipush (v := 15) hx hb dL_build_270 (by decide) ?_
    refine lv_irem hx hb dL_build_272 (by decide) ?_
    refine W.eq (g2 := F0 m 273 ls [.int (nI (((k + i)) % 15)), .ref bs]) (by rw [← pk_rem (a := (k + i)) (d := 15) (by omega) (by decide) (by decide)]; rfl) ?_
    refine va_calli (va_runS (As := [.ref bs, .int (nI (((k + i)) % 15))]) (rest := []) ⟨hx, hb, hml, hown, hts⟩ (k_L_cell l (b := bs) (L := L) (xs := xs) hL (k := (((k + i)) % 15)) (by omega)) (va_cwS 2 hts (gd_S q928 q929 q36 q930) rfl rfl rfl hd_L_cell.2 ⟨Nat.le_of_ble_eq_true rfl, Nat.le_of_ble_eq_true rfl⟩) ⟨Pcell.blind, fun U hU hW => ⟨rfl, by show va_X bs L xs U U.heap; rw [hU]; exact (va_X.moved hW.alike hXs).kept (hS.2.1 _ hbl hbA)⟩⟩ rfl rfl hl.1 rfl (lv_room (Nat.le_of_ble_eq_true rfl)) dL_build_273 ⟨by show _ ≤ 250; omega, by show _ ≤ 12400; omega⟩) hS (fun q _ h => h.elim) (fun q h => h.elim) (fun x31 u9 t9 H locs ht9 hvm9 hw9 hB9 hz9 hk9 hS => ?_)
    have hP := P_keep hP (fun q h => hk9 q h id)
    refine lv_iload hx hb dL_build_276 (lv_at hl 0 rfl) ?_
    refine lv_iconst (v := 5) hx hb dL_build_278 (by decide) ?_
    refine lv_irem hx hb dL_build_279 (by decide) ?_
    refine W.eq (g2 := F0 m 280 ls [.int (nI (i % 5)), .int x31]) (by rw [← pk_rem (a := i) (d := 5) (by omega) (by decide) (by decide)]; rfl) ?_
    refine lv_ishr hx hb dL_build_280 ?_
    obtain ⟨y32, ey32⟩ : ∃ y : Int32, y = (x31 >>> ((nI (i % 5)) &&& 31)) := ⟨_, rfl⟩
    rw [← ey32]
    refine lv_bipush (v := 7) hx hb dL_build_281 (by decide) ?_
    refine lv_iload hx hb dL_build_283 (lv_at hl 0 rfl) ?_
    refine lv_imul hx hb dL_build_285 ?_
    refine lv_iadd hx hb dL_build_286 ?_
    refine lv_bipush (v := 31) hx hb dL_build_287 (by decide) ?_
    refine lv_iload hx hb dL_build_289 (lv_at hl 1 rfl) ?_
    refine lv_imul hx hb dL_build_291 ?_
    refine lv_iadd hx hb dL_build_292 ?_
    obtain ⟨w33, ew33⟩ : ∃ w : Int32, w = ((y32 + (7 * (nI i))) + (31 * (nI k))) := ⟨_, rfl⟩
    rw [← ew33]
    refine lv_istore (lv' := [(13, .int w33), (12, .int (nI i)), (11, .int (nI k)), (10, .ref ha), (9, .ref scr), (8, .ref q13), (7, .ref q10), (6, .ref q1), (5, .int 2), (0, .ref fa), (1, .ref bs), (2, .int (nI sn)), (3, .ref co), (4, .ref kd)]) hx hb dL_build_293 hl (by decide) rfl (fun ls hl => ?_)
    refine lv_aload_n hx hb dL_build_295 rfl (lv_at hl 12 rfl) ?_
    refine lv_iload hx hb dL_build_296 (lv_at hl 0 rfl) ?_
    refine lv_aload_n hx hb dL_build_298 rfl (lv_at hl 12 rfl) ?_
    refine va_alen hx hb hT.1 (hPo _ _ hS) 0 0 rfl rfl (v := 17) rfl dL_build_299 ?_
    refine va_calli (va_runS (As := [.int w33, .int 17]) (rest := [.ref co]) ⟨hx, hb, hml, hown, hts⟩ (k_L_below l (n := 17) (by decide) (by decide)) (va_cwS 2 hts (gd_S q924 q925 q36 q926) rfl rfl rfl hd_L_below.2 ⟨Nat.le_of_ble_eq_true rfl, Nat.le_of_ble_eq_true rfl⟩) ⟨Pb.blind, fun U hU hW => ⟨rfl, trivial⟩⟩ rfl rfl hl.1 rfl (lv_room (Nat.le_of_ble_eq_true rfl)) dL_build_300 ⟨by show _ ≤ 250; omega, by show _ ≤ 12400; omega⟩) hS (fun q _ h => h.elim) (fun q h => h.elim) (fun v9 u9 t9 H locs ht9 hvm9 hw9 hB9 hz9 hk9 hS => ?_)
    have hP := P_keep hP (fun q h => hk9 q h id)
    obtain ⟨j34, hj34, ej34⟩ := hw9
    rw [ej34]
    refine va_iald hx hb hT.1 (hPo _ _ hS) 0 0 rfl rfl (vp_in_nI (by omega) (by omega)) dL_build_303 ?_
    obtain ⟨c0, hc0, ec0⟩ := hfc j34 (by omega)
    refine W.eq (g2 := F0 m 304 ls [.int (nI c0)]) (by rw [nI_clamp (by omega), ec0]) ?_
    refine lv_istore (lv' := [(14, .int (nI c0)), (13, .int w33), (12, .int (nI i)), (11, .int (nI k)), (10, .ref ha), (9, .ref scr), (8, .ref q13), (7, .ref q10), (6, .ref q1), (5, .int 2), (0, .ref fa), (1, .ref bs), (2, .int (nI sn)), (3, .ref co), (4, .ref kd)]) hx hb dL_build_304 hl (by decide) rfl (fun ls hl => ?_)
    refine build_code l hL hs1 hs3 hx hb hml hts hown hT hE hX hXs hbl hbA hAb hA hPo (ad := ad) (szf := szf) (shf := shf) (μ := μ) (trv := trv) hcO hfu hcB hfin hk hi hln hc0 (xv := w33) (cs := (c1 + 3 * i)) (ss := (s1 + 17 * i)) (by omega) (by omega) hP hS (lv_sub hl [0, 1, 2, 3, 4, 5, 6, 7, 8, 9, 10, 11, 12, 13, 14] rfl) (fun c9 a9 b9 H locs ls hI hP hS hl => ?_)
    refine lv_aload hx hb dL_build_564 (lv_at hl 6 rfl) ?_
    refine lv_iload hx hb dL_build_566 (lv_at hl 4 rfl) ?_
    refine va_aldA hx hb hP 2 rfl hcO (vp_in_nI (by omega) (by omega)) dL_build_568 ?_
    refine W.eq (g2 := F0 m 569 ls [.ref inr]) (by rw [nI_clamp (by omega), hfin]; rfl) ?_
    refine lv_iload hx hb dL_build_569 (lv_at hl 3 rfl) ?_
    refine lv_iconst (v := 3) hx hb dL_build_571 (by decide) ?_
    refine va_newa (atype := .int) (ty := .int) (N' := 3) (a0 := (3, .inl (fun _ => 0))) hx hb (hts _ q187) rfl hT.1 hP hD hS hA (fun _ => rfl) (by decide) rfl (Nat.le_of_ble_eq_true rfl) (by show _ ≤ 250; omega) (by show _ ≤ 12400; omega) dL_build_572 (fun q31 cA H hK9 hP hD hS => ?_)
    have e9 : cA = cy 0 := RAi hK9 (show (tysB cy)[0]? = some (cy 0, .int) from rfl)
    rw [e9] at hP hD
    have hP := Pnw hP
    have hD := Dnw hD
    have hP : va_P D vwCl ((q31, .inl (cy 0, 3, .inl (fun _ => 0))) :: (ha, .inl (cy 0, sn, .inl fh)) :: (inr, .inl (cB, ln, .inr (.inr (.inr (.inr fi))))) :: (scr, .inl (cO, sn, .inr (.inr (.inr (.inr fs))))) :: (q13, .inl (cy 0, 2, .inl fl)) :: (q10, .inl (cy 0, 2, .inl fr)) :: (q1, .inl (cy 0, 2, .inl fu)) :: KL z (ad, (D, cy, szf, shf, 1, trv)) μ) H := hP
    have hD : va_D A ((q31, .inl (cy 0, 3, .inl (fun _ => 0))) :: (ha, .inl (cy 0, sn, .inl fh)) :: (inr, .inl (cB, ln, .inr (.inr (.inr (.inr fi))))) :: (scr, .inl (cO, sn, .inr (.inr (.inr (.inr fs))))) :: (q13, .inl (cy 0, 2, .inl fl)) :: (q10, .inl (cy 0, 2, .inl fr)) :: (q1, .inl (cy 0, 2, .inl fu)) :: KL z (ad, (D, cy, szf, shf, 1, trv)) μ) := hD
    refine lv_dup hx hb dL_build_574 rfl ?_
    refine lv_iconst (v := 0) hx hb dL_build_575 (by decide) ?_
    refine lv_iload hx hb dL_build_576 (lv_at hl 2 rfl) ?_
    refine va_iast hx hb hT.1 hP hD hS 0 0 rfl rfl (vp_in_nI (n := 0) (N := 3) (by decide) (by decide)) dL_build_578 (fun H locs hP hD hS => ?_)
    have hP : va_P D vwCl ((q31, .inl (cy 0, 3, .inl (upd (fun _ => 0) (0 : Int32).toNatClampNeg c9))) :: (ha, .inl (cy 0, sn, .inl fh)) :: (inr, .inl (cB, ln, .inr (.inr (.inr (.inr fi))))) :: (scr, .inl (cO, sn, .inr (.inr (.inr (.inr fs))))) :: (q13, .inl (cy 0, 2, .inl fl)) :: (q10, .inl (cy 0, 2, .inl fr)) :: (q1, .inl (cy 0, 2, .inl fu)) :: KL z (ad, (D, cy, szf, shf, 1, trv)) μ) H := hP
    have hD : va_D A ((q31, .inl (cy 0, 3, .inl (upd (fun _ => 0) (0 : Int32).toNatClampNeg c9))) :: (ha, .inl (cy 0, sn, .inl fh)) :: (inr, .inl (cB, ln, .inr (.inr (.inr (.inr fi))))) :: (scr, .inl (cO, sn, .inr (.inr (.inr (.inr fs))))) :: (q13, .inl (cy 0, 2, .inl fl)) :: (q10, .inl (cy 0, 2, .inl fr)) :: (q1, .inl (cy 0, 2, .inl fu)) :: KL z (ad, (D, cy, szf, shf, 1, trv)) μ) := hD
    generalize (upd (fun _ => 0) (0 : Int32).toNatClampNeg c9) = f32 at hP hD
    refine lv_dup hx hb dL_build_579 rfl ?_
    refine lv_iconst (v := 1) hx hb dL_build_580 (by decide) ?_
    refine lv_iload hx hb dL_build_581 (lv_at hl 1 rfl) ?_
    refine va_iast hx hb hT.1 hP hD hS 0 0 rfl rfl (vp_in_nI (n := 1) (N := 3) (by decide) (by decide)) dL_build_583 (fun H locs hP hD hS => ?_)
    have hP : va_P D vwCl ((q31, .inl (cy 0, 3, .inl (upd f32 (1 : Int32).toNatClampNeg a9))) :: (ha, .inl (cy 0, sn, .inl fh)) :: (inr, .inl (cB, ln, .inr (.inr (.inr (.inr fi))))) :: (scr, .inl (cO, sn, .inr (.inr (.inr (.inr fs))))) :: (q13, .inl (cy 0, 2, .inl fl)) :: (q10, .inl (cy 0, 2, .inl fr)) :: (q1, .inl (cy 0, 2, .inl fu)) :: KL z (ad, (D, cy, szf, shf, 1, trv)) μ) H := hP
    have hD : va_D A ((q31, .inl (cy 0, 3, .inl (upd f32 (1 : Int32).toNatClampNeg a9))) :: (ha, .inl (cy 0, sn, .inl fh)) :: (inr, .inl (cB, ln, .inr (.inr (.inr (.inr fi))))) :: (scr, .inl (cO, sn, .inr (.inr (.inr (.inr fs))))) :: (q13, .inl (cy 0, 2, .inl fl)) :: (q10, .inl (cy 0, 2, .inl fr)) :: (q1, .inl (cy 0, 2, .inl fu)) :: KL z (ad, (D, cy, szf, shf, 1, trv)) μ) := hD
    generalize (upd f32 (1 : Int32).toNatClampNeg a9) = f33 at hP hD
    refine lv_dup hx hb dL_build_584 rfl ?_
    refine lv_iconst (v := 2) hx hb dL_build_585 (by decide) ?_
    refine lv_iload hx hb dL_build_586 (lv_at hl 0 rfl) ?_
    refine va_iast hx hb hT.1 hP hD hS 0 0 rfl rfl (vp_in_nI (n := 2) (N := 3) (by decide) (by decide)) dL_build_588 (fun H locs hP hD hS => ?_)
    have hP : va_P D vwCl ((q31, .inl (cy 0, 3, .inl (upd f33 (2 : Int32).toNatClampNeg b9))) :: (ha, .inl (cy 0, sn, .inl fh)) :: (inr, .inl (cB, ln, .inr (.inr (.inr (.inr fi))))) :: (scr, .inl (cO, sn, .inr (.inr (.inr (.inr fs))))) :: (q13, .inl (cy 0, 2, .inl fl)) :: (q10, .inl (cy 0, 2, .inl fr)) :: (q1, .inl (cy 0, 2, .inl fu)) :: KL z (ad, (D, cy, szf, shf, 1, trv)) μ) H := hP
    have hD : va_D A ((q31, .inl (cy 0, 3, .inl (upd f33 (2 : Int32).toNatClampNeg b9))) :: (ha, .inl (cy 0, sn, .inl fh)) :: (inr, .inl (cB, ln, .inr (.inr (.inr (.inr fi))))) :: (scr, .inl (cO, sn, .inr (.inr (.inr (.inr fs))))) :: (q13, .inl (cy 0, 2, .inl fl)) :: (q10, .inl (cy 0, 2, .inl fr)) :: (q1, .inl (cy 0, 2, .inl fu)) :: KL z (ad, (D, cy, szf, shf, 1, trv)) μ) := hD
    generalize (upd f33 (2 : Int32).toNatClampNeg b9) = f34 at hP hD
    refine va_astA hx hb hP hD hS 2 0 rfl hcB rfl (vp_in_nI (by omega) (by omega)) dL_build_589 (fun H locs hP hD _ hS => ?_)
    have hP : va_P D vwCl ((q31, .inl (cy 0, 3, .inl f34)) :: (ha, .inl (cy 0, sn, .inl fh)) :: (inr, .inl (cB, ln, .inr (.inr (.inr (.inr (va_up fi (nI i).toNatClampNeg (some q31))))))) :: (scr, .inl (cO, sn, .inr (.inr (.inr (.inr fs))))) :: (q13, .inl (cy 0, 2, .inl fl)) :: (q10, .inl (cy 0, 2, .inl fr)) :: (q1, .inl (cy 0, 2, .inl fu)) :: KL z (ad, (D, cy, szf, shf, 1, trv)) μ) H := hP
    have hD : va_D A ((q31, .inl (cy 0, 3, .inl f34)) :: (ha, .inl (cy 0, sn, .inl fh)) :: (inr, .inl (cB, ln, .inr (.inr (.inr (.inr (va_up fi (nI i).toNatClampNeg (some q31))))))) :: (scr, .inl (cO, sn, .inr (.inr (.inr (.inr fs))))) :: (q13, .inl (cy 0, 2, .inl fl)) :: (q10, .inl (cy 0, 2, .inl fr)) :: (q1, .inl (cy 0, 2, .inl fu)) :: KL z (ad, (D, cy, szf, shf, 1, trv)) μ) := hD
    generalize va_up fi (nI i).toNatClampNeg (some q31) = fi at hP hD
    have hP := Pr [(q31, .inl (cy 0, 3, .inl f34))] hP
    have hD := Dr [(q31, .inl (cy 0, 3, .inl f34))] hD
    have hP : va_P D vwCl ((ha, .inl (cy 0, sn, .inl fh)) :: (inr, .inl (cB, ln, .inr (.inr (.inr (.inr fi))))) :: (scr, .inl (cO, sn, .inr (.inr (.inr (.inr fs))))) :: (q13, .inl (cy 0, 2, .inl fl)) :: (q10, .inl (cy 0, 2, .inl fr)) :: (q1, .inl (cy 0, 2, .inl fu)) :: KL z (ad, (D, cy, szf, shf, 1, trv)) μ) H := hP
    have hD : va_D A ((ha, .inl (cy 0, sn, .inl fh)) :: (inr, .inl (cB, ln, .inr (.inr (.inr (.inr fi))))) :: (scr, .inl (cO, sn, .inr (.inr (.inr (.inr fs))))) :: (q13, .inl (cy 0, 2, .inl fl)) :: (q10, .inl (cy 0, 2, .inl fr)) :: (q1, .inl (cy 0, 2, .inl fu)) :: KL z (ad, (D, cy, szf, shf, 1, trv)) μ) := hD
    refine lv_aload_n hx hb dL_build_590 rfl (lv_at hl 11 rfl) ?_
    refine lv_iload hx hb dL_build_591 (lv_at hl 4 rfl) ?_
    refine lv_iload hx hb dL_build_593 (lv_at hl 2 rfl) ?_
    refine lv_iload hx hb dL_build_595 (lv_at hl 1 rfl) ?_
    refine lv_iload hx hb dL_build_597 (lv_at hl 0 rfl) ?_
    have h8 : ∀ j, szf (10 + j) ≤ 10 := hKs.2.2.1.2.2.2.1
    have hKB := hKs.kb (Pr [(ha, .inl (cy 0, sn, .inl fh)), (inr, .inl (cB, ln, .inr (.inr (.inr (.inr fi))))), (scr, .inl (cO, sn, .inr (.inr (.inr (.inr fs))))), (q13, .inl (cy 0, 2, .inl fl)), (q10, .inl (cy 0, 2, .inl fr)), (q1, .inl (cy 0, 2, .inl fu))] hP)
    have hAk : ∀ q, Ak (ad, (D, cy, szf, shf, 1, trv)) H.size q → A q := fun q h => h.elim (hKA q) (fun h => hA q (Nat.le_trans hS.1 h))
    refine va_calli (va_runV (As := [.int (nI k), .int c9, .int a9, .int b9]) (rest := []) ⟨hx, hb, hml, hown, hts⟩ (k_X8_add l (z := z) (b := b) (B := (ad, (D, cy, szf, shf, 1, trv))) (μ := μ) (j := k) (n := i) (co := c9) (a := a9) (b9 := b9) (by show k < szf 2; omega) (by show szf 2 ≤ 8; omega) z3 (by omega) hKs.2.2.2.1 (ICh_is (g := Bg.r z (ad, (D, cy, szf, shf, 1, trv))) (μ := μ) z0 z1 z2 hs3 rfl hI) H.size) (cwV 4 hts (gd_V q1094 q1095 q1096 q37 q1097) rfl rfl rfl hd_X8_add ⟨Nat.le_of_ble_eq_true rfl, Nat.le_of_ble_eq_true rfl⟩) ⟨Pk.blind, rcv9 hT hKB rfl h272, fun U hU hW => ⟨by rw [h272], ⟨Tb.warm hW hT, Em.on hW hE (by rw [hU]; exact hS) hAb⟩, by rw [hU], by rw [hU]; exact hKB⟩⟩ rfl rfl hl.1 rfl (lv_room (Nat.le_of_ble_eq_true rfl)) dL_build_599 ⟨by show _ ≤ 250; omega, by show _ ≤ 12400; omega⟩) hS (fun q _ h => hAk q h) hAk (fun v9 u9 t9 H1 locs ht9 hvm9 hw9 hB9 hz9 hk9 hS => ?_)
    obtain ⟨ad35, ⟨hK1, hKa1⟩, e272⟩ := hB9
    rw [ht9] at hK1
    rw [hw9]
    have h272 : Bg.ad (ad35, (shI k i c9 a9 b9 (D, cy, szf, shf, 1, trv))) 272 = fa := e272.trans h272
    obtain ⟨hP, hD⟩ := kl_join (cs := [(ha, .inl (cy 0, sn, .inl fh)), (inr, .inl (cB, ln, .inr (.inr (.inr (.inr fi))))), (scr, .inl (cO, sn, .inr (.inr (.inr (.inr fs))))), (q13, .inl (cy 0, 2, .inl fl)), (q10, .inl (cy 0, 2, .inl fr)), (q1, .inl (cy 0, 2, .inl fu))]) hP hD hk9 hK1 hKa1 hAk rfl
    have hKs := hK1.st
    have hKA : ∀ p, Ka (ad35, (shI k i c9 a9 b9 (D, cy, szf, shf, 1, trv))) p → A p := fun p hp => hAk p (hKa1 p hp)
    clear hK1 hKa1 hKB hAk e272
    generalize H1 = H at hP hS ⊢
    have hP : va_P D vwCl ((ha, .inl (cy 0, sn, .inl fh)) :: (inr, .inl (cB, ln, .inr (.inr (.inr (.inr fi))))) :: (scr, .inl (cO, sn, .inr (.inr (.inr (.inr fs))))) :: (q13, .inl (cy 0, 2, .inl fl)) :: (q10, .inl (cy 0, 2, .inl fr)) :: (q1, .inl (cy 0, 2, .inl fu)) :: KL z (ad35, (shI k i c9 a9 b9 (D, cy, szf, shf, 1, trv))) μ) H := hP
    have hD : va_D A ((ha, .inl (cy 0, sn, .inl fh)) :: (inr, .inl (cB, ln, .inr (.inr (.inr (.inr fi))))) :: (scr, .inl (cO, sn, .inr (.inr (.inr (.inr fs))))) :: (q13, .inl (cy 0, 2, .inl fl)) :: (q10, .inl (cy 0, 2, .inl fr)) :: (q1, .inl (cy 0, 2, .inl fu)) :: KL z (ad35, (shI k i c9 a9 b9 (D, cy, szf, shf, 1, trv))) μ) := hD
    refine lv_iload hx hb dL_build_602 (lv_at hl 3 rfl) ?_
    refine lv_icmp_eq (tgt := 609) hx hb dL_build_604 (by decide) (fun _ => ?_) (fun h9 => absurd rfl h9)
    refine lv_iinc (v := (nI (i + 1))) (lv' := [(12, .int (nI (i + 1))), (16, .int b9), (15, .int a9), (14, .int c9), (11, .int (nI k)), (10, .ref ha), (9, .ref scr), (8, .ref q13), (7, .ref q10), (6, .ref q1), (5, .int 2), (0, .ref fa), (1, .ref bs), (2, .int (nI sn)), (3, .ref co), (4, .ref kd)]) hx hb dL_build_609 hl (k := 3) rfl (nI_1 i) (by decide) rfl (fun ls hl => ?_)
    refine lv_goto (tgt := 253) hx hb dL_build_612 (by decide) ?_
    refine W.widen (k := c1 + 3 * (i + 1)) (n := s1 + 17 * (i + 1)) (by omega) (by omega) ?_
    exact ih (i + 1) ad35 (fun x => if x = 10 + k then i + 1 else szf x) (fun x => if x = 138 + 16 * k + i then insF i c9 a9 b9 else shf x) fi H locs ls (by omega) hKs hKA h272 ((if_neg (by omega)).trans z0) ((if_neg (by omega)).trans z1) ((if_neg (by omega)).trans z2) (if_pos rfl) (fun j hj => (if_neg (by omega)).trans (z4 j hj)) (hF.i z3 h8 (by omega) hI) hP hD hS (lv_sub hl [0, 4, 5, 6, 7, 8, 9, 10, 11, 12, 13, 14, 15] rfl)
