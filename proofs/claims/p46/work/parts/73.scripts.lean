/-! the law's build: its scripts -/
theorem hd_ge {j : Nat} (h : j < 4) : ¬ nI j - 1 < -1 ∧ ¬ (15 : Int32) < nI j - 1 := by
  rcases (show j = 0 ∨ j = 1 ∨ j = 2 ∨ j = 3 by omega) with rfl | rfl | rfl | rfl <;> decide
set_option maxHeartbeats 8000000 in
set_option maxRecDepth 100000 in
theorem build_scripts (l : Launch) {z b : Nat} {ad0 : Nat → Nat} {D : va_G} {cy : Nat → ClassId} {fa bs L co kd sn : Nat} {xs : Nat → Int32} {fc fk : Nat → Int32} (hL : L ≤ 260) (hs1 : 1 ≤ sn) (hs3 : sn ≤ 3)
    {p : Program} {e9 : Env} {s : State} {m : MethodId} {below : List Frame} {meth : Method} {c : Code} {Qx : State → Prop} {A : Nat → Prop} (hx : p.tables.exec = Jvm.exec) (hb : c.code = cL_build) (hml : c.maxLocals = 17) (hts : ∀ w ∈ lw_all, w.before ([.ref fa, .ref bs, .int (nI sn), .ref co, .ref kd] : List Value).toArray s = true) (hown : s.vm.findClass RL = some m.cls) (hT : Tb (Bg.r z (ad0, S0 D cy)) s) (hE : Em D z b (cy 2) s) (hX : Tx s) (hXs : va_X bs L xs s s.heap) (hbl : bs < s.heap.size) (hbA : ¬ A bs) (hAb : ∀ q, A q → b ≤ q) (hA : ∀ q : Nat, s.heap.size ≤ q → A q) (hPo : ∀ (H : Heap) (locs : List Loc), va_S A s.heap H locs → va_P D vwCl [(co, .inl (cy 0, 17, .inl fc)), (kd, .inl (cy 0, 2, .inl fk))] H)
    {μ : Mem} {trv : Nat → Int32} {q13 q10 q1 ha scr : Nat} {cO cP : ClassId} {fl fr fu : Nat → Int32} (hcO : AAr s cO cP (.array .int)) (hfu : ∀ r, r < 2 → ∃ w, 1 ≤ w ∧ w ≤ 3 ∧ fu r = nI w) (hfc : ∀ r, r < 17 → ∃ w, w < 14 ∧ fc r = nI w) {c2 s2 : Nat} (hc2 : c2 + 75 ≤ 250) (hs2 : s2 + 432 ≤ 12400)
    (kont : ∀ (ad : Nat → Nat) (szf : Nat → Nat) (shf : Mem) (fh : Nat → Int32) (fs : Nat → Option Nat) (H : Heap) (locs : List Loc) (ls : Array Slot), KBs z b (ad, (D, cy, szf, shf, 1, trv)) μ → (∀ p, Ka (ad, (D, cy, szf, shf, 1, trv)) p → A p) → Bg.ad (ad, (D, cy, szf, shf, 1, trv)) 272 = fa → szf 0 = 2 → szf 1 = 2 → szf 2 = sn → SFI sn szf shf → va_P D vwCl ((ha, .inl (cy 0, sn, .inl fh)) :: (scr, .inl (cO, sn, .inr (.inr (.inr (.inr fs))))) :: (q13, .inl (cy 0, 2, .inl fl)) :: (q10, .inl (cy 0, 2, .inl fr)) :: (q1, .inl (cy 0, 2, .inl fu)) :: KL z (ad, (D, cy, szf, shf, 1, trv)) μ) H → va_D A ((ha, .inl (cy 0, sn, .inl fh)) :: (scr, .inl (cO, sn, .inr (.inr (.inr (.inr fs))))) :: (q13, .inl (cy 0, 2, .inl fl)) :: (q10, .inl (cy 0, 2, .inl fr)) :: (q1, .inl (cy 0, 2, .inl fu)) :: KL z (ad, (D, cy, szf, shf, 1, trv)) μ) → va_S A s.heap H locs → lv_has ls 17 [(10, .ref ha), (9, .ref scr), (8, .ref q13), (7, .ref q10), (6, .ref q1), (5, .int 2), (0, .ref fa), (1, .ref bs), (2, .int (nI sn)), (3, .ref co), (4, .ref kd)] → W p l e9 (rm_ 8 280 250 12400) s m ([.ref fa, .ref bs, .int (nI sn), .ref co, .ref kd] : List Value).toArray below meth c H locs (c2 + 25 * sn) (s2 + 144 * sn) Qx (F0 m 621 ls [])) :
    ∀ (n k : Nat) (ad : Nat → Nat) (szf : Nat → Nat) (shf : Mem) (fh : Nat → Int32) (fs : Nat → Option Nat) (H : Heap) (locs : List Loc) (ls : Array Slot), k + n = sn → KBs z b (ad, (D, cy, szf, shf, 1, trv)) μ → (∀ p, Ka (ad, (D, cy, szf, shf, 1, trv)) p → A p) → Bg.ad (ad, (D, cy, szf, shf, 1, trv)) 272 = fa → szf 0 = 2 → szf 1 = 2 → szf 2 = sn → (∀ j, k ≤ j → szf (10 + j) = 0) → SFI sn szf shf → va_P D vwCl ((ha, .inl (cy 0, sn, .inl fh)) :: (scr, .inl (cO, sn, .inr (.inr (.inr (.inr fs))))) :: (q13, .inl (cy 0, 2, .inl fl)) :: (q10, .inl (cy 0, 2, .inl fr)) :: (q1, .inl (cy 0, 2, .inl fu)) :: KL z (ad, (D, cy, szf, shf, 1, trv)) μ) H → va_D A ((ha, .inl (cy 0, sn, .inl fh)) :: (scr, .inl (cO, sn, .inr (.inr (.inr (.inr fs))))) :: (q13, .inl (cy 0, 2, .inl fl)) :: (q10, .inl (cy 0, 2, .inl fr)) :: (q1, .inl (cy 0, 2, .inl fu)) :: KL z (ad, (D, cy, szf, shf, 1, trv)) μ) → va_S A s.heap H locs → lv_has ls 17 [(11, .int (nI k)), (10, .ref ha), (9, .ref scr), (8, .ref q13), (7, .ref q10), (6, .ref q1), (5, .int 2), (0, .ref fa), (1, .ref bs), (2, .int (nI sn)), (3, .ref co), (4, .ref kd)] → W p l e9 (rm_ 8 280 250 12400) s m ([.ref fa, .ref bs, .int (nI sn), .ref co, .ref kd] : List Value).toArray below meth c H locs (c2 + 25 * k) (s2 + 144 * k) Qx (F0 m 186 ls []) := by
  intro n
  induction n with
  | zero =>
    intro k ad szf shf fh fs H locs ls hin hKs hKA h272 z0 z1 z2 z4 hF hP hD hS hl
    have hil : k = sn := by omega
    refine lv_iload hx hb dL_build_186 (lv_at hl 0 rfl) ?_
    refine lv_iload_n hx hb dL_build_188 rfl (lv_at hl 9 rfl) ?_
    refine lv_icmp_ge (tgt := 621) hx hb dL_build_189 (by decide) (fun _ => ?_) (fun h9 => absurd ((nI_leI (a := sn) (b := k) (by omega) (by omega)).mpr (by omega)) h9)
    subst hil
    exact kont ad szf shf fh fs H locs ls hKs hKA h272 z0 z1 z2 hF hP hD hS (lv_sub hl [1, 2, 3, 4, 5, 6, 7, 8, 9, 10, 11] rfl)
  | succ n ih =>
    intro k ad szf shf fh fs H locs ls hin hKs hKA h272 z0 z1 z2 z4 hF hP hD hS hl
    have hk : k < sn := by omega
    refine lv_iload hx hb dL_build_186 (lv_at hl 0 rfl) ?_
    refine lv_iload_n hx hb dL_build_188 rfl (lv_at hl 9 rfl) ?_
    refine lv_icmp_ge (tgt := 621) hx hb dL_build_189 (by decide) (fun h9 => absurd ((nI_leI (by omega) (by omega)).mp h9) (by omega)) (fun _ => ?_)
    refine lv_aload hx hb dL_build_192 (lv_at hl 2 rfl) ?_
    refine lv_iload hx hb dL_build_194 (lv_at hl 0 rfl) ?_
    refine lv_iconst (v := 2) hx hb dL_build_196 (by decide) ?_
    refine lv_aload_n hx hb dL_build_197 rfl (lv_at hl 8 rfl) ?_
    refine lv_bipush (v := 6) hx hb dL_build_198 (by decide) ?_
    refine lv_iload hx hb dL_build_200 (lv_at hl 0 rfl) ?_
    refine lv_iadd hx hb dL_build_202 ?_
    refine W.eq (g2 := F0 m 203 ls [.int (nI (k + 6)), .ref bs, .int 2, .int (nI k), .ref scr]) (by rw [lit_nI 6]) ?_
    refine va_calli (va_runS (As := [.ref bs, .int (nI (k + 6))]) (rest := [.int 2, .int (nI k), .ref scr]) ⟨hx, hb, hml, hown, hts⟩ (k_L_cell l (b := bs) (L := L) (xs := xs) hL (k := (k + 6)) (by omega)) (va_cwS 2 hts (gd_S q928 q929 q36 q930) rfl rfl rfl hd_L_cell.2 ⟨Nat.le_of_ble_eq_true rfl, Nat.le_of_ble_eq_true rfl⟩) ⟨Pcell.blind, fun U hU hW => ⟨rfl, by show va_X bs L xs U U.heap; rw [hU]; exact (va_X.moved hW.alike hXs).kept (hS.2.1 _ hbl hbA)⟩⟩ rfl rfl hl.1 rfl (lv_room (Nat.le_of_ble_eq_true rfl)) dL_build_203 ⟨by show _ ≤ 250; omega, by show _ ≤ 12400; omega⟩) hS (fun q _ h => h.elim) (fun q h => h.elim) (fun x31 u9 t9 H locs ht9 hvm9 hw9 hB9 hz9 hk9 hS => ?_)
    have hP := P_keep hP (fun q h => hk9 q h id)
    refine lv_bipush (v := 7) hx hb dL_build_206 (by decide) ?_
    refine va_calli (va_runS (As := [.int x31, .int 7]) (rest := [.int 2, .int (nI k), .ref scr]) ⟨hx, hb, hml, hown, hts⟩ (k_L_below l (n := 7) (by decide) (by decide)) (va_cwS 2 hts (gd_S q924 q925 q36 q926) rfl rfl rfl hd_L_below.2 ⟨Nat.le_of_ble_eq_true rfl, Nat.le_of_ble_eq_true rfl⟩) ⟨Pb.blind, fun U hU hW => ⟨rfl, trivial⟩⟩ rfl rfl hl.1 rfl (lv_room (Nat.le_of_ble_eq_true rfl)) dL_build_208 ⟨by show _ ≤ 250; omega, by show _ ≤ 12400; omega⟩) hS (fun q _ h => h.elim) (fun q h => h.elim) (fun v9 u9 t9 H locs ht9 hvm9 hw9 hB9 hz9 hk9 hS => ?_)
    have hP := P_keep hP (fun q h => hk9 q h id)
    obtain ⟨j32, hj32, ej32⟩ := hw9
    rw [ej32]
    refine lv_iadd hx hb dL_build_211 ?_
    refine W.eq (g2 := F0 m 212 ls [.int (nI (j32 + 2)), .int (nI k), .ref scr]) (by rw [lit_nI 2]) ?_
    obtain ⟨ln, eln⟩ : ∃ ln, ln = j32 + 2 := ⟨_, rfl⟩
    rw [← eln]
    have hln : ln ≤ 8 := by omega
    have hov : (Cond.arrayOver (.array .int)).before ([.ref fa, .ref bs, .int (nI sn), .ref co, .ref kd] : List Value).toArray s = true := over_moved (Vm.Alike.refl s.vm) hX.1
    refine va_newA (t := .int) (N := ln) hx hb hown (hts _ q1087) hov hP hD hS hA (nI_pos (by omega)) (nI_clamp (by omega)) (by omega) (by show _ ≤ 250; omega) (by show _ ≤ 12400; omega) dL_build_212 (fun inr cB cI H hfB hcB _ hP hD _ hS => ?_)
    have ecI : cI = cy 0 := Option.some.inj (hcB.2.2.symm.trans (hT.1.2 0 _ rfl).2)
    rw [ecI] at hcB
    have ecB : cB = cP := Option.some.inj (hfB.symm.trans hcO.2.2)
    rw [ecB] at hcB hP hD
    have hP := Pnw hP
    have hD := Dnw hD
    have hP : va_P D vwCl ((inr, .inl (cP, ln, .inr (.inr (.inr (.inr (fun _ => none)))))) :: (ha, .inl (cy 0, sn, .inl fh)) :: (scr, .inl (cO, sn, .inr (.inr (.inr (.inr fs))))) :: (q13, .inl (cy 0, 2, .inl fl)) :: (q10, .inl (cy 0, 2, .inl fr)) :: (q1, .inl (cy 0, 2, .inl fu)) :: KL z (ad, (D, cy, szf, shf, 1, trv)) μ) H := hP
    have hD : va_D A ((inr, .inl (cP, ln, .inr (.inr (.inr (.inr (fun _ => none)))))) :: (ha, .inl (cy 0, sn, .inl fh)) :: (scr, .inl (cO, sn, .inr (.inr (.inr (.inr fs))))) :: (q13, .inl (cy 0, 2, .inl fl)) :: (q10, .inl (cy 0, 2, .inl fr)) :: (q1, .inl (cy 0, 2, .inl fu)) :: KL z (ad, (D, cy, szf, shf, 1, trv)) μ) := hD
    refine va_astA hx hb hP hD hS 2 0 rfl hcO rfl (vp_in_nI hk (by omega)) dL_build_215 (fun H locs hP hD _ hS => ?_)
    have hP : va_P D vwCl ((inr, .inl (cP, ln, .inr (.inr (.inr (.inr (fun _ => none)))))) :: (ha, .inl (cy 0, sn, .inl fh)) :: (scr, .inl (cO, sn, .inr (.inr (.inr (.inr (va_up fs (nI k).toNatClampNeg (some inr))))))) :: (q13, .inl (cy 0, 2, .inl fl)) :: (q10, .inl (cy 0, 2, .inl fr)) :: (q1, .inl (cy 0, 2, .inl fu)) :: KL z (ad, (D, cy, szf, shf, 1, trv)) μ) H := hP
    have hD : va_D A ((inr, .inl (cP, ln, .inr (.inr (.inr (.inr (fun _ => none)))))) :: (ha, .inl (cy 0, sn, .inl fh)) :: (scr, .inl (cO, sn, .inr (.inr (.inr (.inr (va_up fs (nI k).toNatClampNeg (some inr))))))) :: (q13, .inl (cy 0, 2, .inl fl)) :: (q10, .inl (cy 0, 2, .inl fr)) :: (q1, .inl (cy 0, 2, .inl fu)) :: KL z (ad, (D, cy, szf, shf, 1, trv)) μ) := hD
    have hfin : va_up fs (nI k).toNatClampNeg (some inr) k = some inr := by rw [nI_clamp (by omega)]; exact va_up_self _ _ _
    generalize va_up fs (nI k).toNatClampNeg (some inr) = fs at hP hD hfin
    refine lv_aload hx hb dL_build_216 (lv_at hl 1 rfl) ?_
    refine lv_iload hx hb dL_build_218 (lv_at hl 0 rfl) ?_
    refine lv_aload_n hx hb dL_build_220 rfl (lv_at hl 8 rfl) ?_
    refine lv_bipush (v := 6) hx hb dL_build_221 (by decide) ?_
    refine lv_iload hx hb dL_build_223 (lv_at hl 0 rfl) ?_
    refine lv_iadd hx hb dL_build_225 ?_
    refine W.eq (g2 := F0 m 226 ls [.int (nI (k + 6)), .ref bs, .int (nI k), .ref ha]) (by rw [lit_nI 6]) ?_
    refine va_calli (va_runS (As := [.ref bs, .int (nI (k + 6))]) (rest := [.int (nI k), .ref ha]) ⟨hx, hb, hml, hown, hts⟩ (k_L_cell l (b := bs) (L := L) (xs := xs) hL (k := (k + 6)) (by omega)) (va_cwS 2 hts (gd_S q928 q929 q36 q930) rfl rfl rfl hd_L_cell.2 ⟨Nat.le_of_ble_eq_true rfl, Nat.le_of_ble_eq_true rfl⟩) ⟨Pcell.blind, fun U hU hW => ⟨rfl, by show va_X bs L xs U U.heap; rw [hU]; exact (va_X.moved hW.alike hXs).kept (hS.2.1 _ hbl hbA)⟩⟩ rfl rfl hl.1 rfl (lv_room (Nat.le_of_ble_eq_true rfl)) dL_build_226 ⟨by show _ ≤ 250; omega, by show _ ≤ 12400; omega⟩) hS (fun q _ h => h.elim) (fun q h => h.elim) (fun x33 u9 t9 H locs ht9 hvm9 hw9 hB9 hz9 hk9 hS => ?_)
    have hP := P_keep hP (fun q h => hk9 q h id)
    refine lv_iconst (v := 4) hx hb dL_build_229 (by decide) ?_
    refine lv_ishr hx hb dL_build_230 ?_
    obtain ⟨y34, ey34⟩ : ∃ y : Int32, y = (x33 >>> (4 &&& 31)) := ⟨_, rfl⟩
    rw [← ey34]
    refine lv_iconst (v := 4) hx hb dL_build_231 (by decide) ?_
    refine va_calli (va_runS (As := [.int y34, .int 4]) (rest := [.int (nI k), .ref ha]) ⟨hx, hb, hml, hown, hts⟩ (k_L_below l (n := 4) (by decide) (by decide)) (va_cwS 2 hts (gd_S q924 q925 q36 q926) rfl rfl rfl hd_L_below.2 ⟨Nat.le_of_ble_eq_true rfl, Nat.le_of_ble_eq_true rfl⟩) ⟨Pb.blind, fun U hU hW => ⟨rfl, trivial⟩⟩ rfl rfl hl.1 rfl (lv_room (Nat.le_of_ble_eq_true rfl)) dL_build_232 ⟨by show _ ≤ 250; omega, by show _ ≤ 12400; omega⟩) hS (fun q _ h => h.elim) (fun q h => h.elim) (fun v9 u9 t9 H locs ht9 hvm9 hw9 hB9 hz9 hk9 hS => ?_)
    have hP := P_keep hP (fun q h => hk9 q h id)
    obtain ⟨j35, hj35, ej35⟩ := hw9
    rw [ej35]
    refine lv_iconst (v := 1) hx hb dL_build_235 (by decide) ?_
    refine lv_isub hx hb dL_build_236 ?_
    refine va_iast hx hb hT.1 hP hD hS 1 0 rfl rfl (vp_in_nI (by omega) (by omega)) dL_build_237 (fun H locs hP hD hS => ?_)
    have hP : va_P D vwCl ((inr, .inl (cP, ln, .inr (.inr (.inr (.inr (fun _ => none)))))) :: (ha, .inl (cy 0, sn, .inl (upd fh ((nI k)).toNatClampNeg (((nI j35) - 1))))) :: (scr, .inl (cO, sn, .inr (.inr (.inr (.inr fs))))) :: (q13, .inl (cy 0, 2, .inl fl)) :: (q10, .inl (cy 0, 2, .inl fr)) :: (q1, .inl (cy 0, 2, .inl fu)) :: KL z (ad, (D, cy, szf, shf, 1, trv)) μ) H := hP
    have hD : va_D A ((inr, .inl (cP, ln, .inr (.inr (.inr (.inr (fun _ => none)))))) :: (ha, .inl (cy 0, sn, .inl (upd fh ((nI k)).toNatClampNeg (((nI j35) - 1))))) :: (scr, .inl (cO, sn, .inr (.inr (.inr (.inr fs))))) :: (q13, .inl (cy 0, 2, .inl fl)) :: (q10, .inl (cy 0, 2, .inl fr)) :: (q1, .inl (cy 0, 2, .inl fu)) :: KL z (ad, (D, cy, szf, shf, 1, trv)) μ) := hD
    refine lv_aload_n hx hb dL_build_238 rfl (lv_at hl 7 rfl) ?_
    refine lv_iload hx hb dL_build_239 (lv_at hl 0 rfl) ?_
    refine lv_aload hx hb dL_build_241 (lv_at hl 1 rfl) ?_
    refine lv_iload hx hb dL_build_243 (lv_at hl 0 rfl) ?_
    refine va_iald hx hb hT.1 hP 1 0 rfl rfl (vp_in_nI (by omega) (by omega)) dL_build_245 ?_
    refine W.eq (g2 := F0 m 246 ls [.int (((nI j35) - 1)), .int (nI k), .ref fa]) (by rw [updx]) ?_
    generalize (upd fh ((nI k)).toNatClampNeg (((nI j35) - 1))) = fh at hP hD
    have hP : va_P D vwCl ((inr, .inl (cP, ln, .inr (.inr (.inr (.inr (fun _ => none)))))) :: (ha, .inl (cy 0, sn, .inl fh)) :: (scr, .inl (cO, sn, .inr (.inr (.inr (.inr fs))))) :: (q13, .inl (cy 0, 2, .inl fl)) :: (q10, .inl (cy 0, 2, .inl fr)) :: (q1, .inl (cy 0, 2, .inl fu)) :: KL z (ad, (D, cy, szf, shf, 1, trv)) μ) H := hP
    have hD : va_D A ((inr, .inl (cP, ln, .inr (.inr (.inr (.inr (fun _ => none)))))) :: (ha, .inl (cy 0, sn, .inl fh)) :: (scr, .inl (cO, sn, .inr (.inr (.inr (.inr fs))))) :: (q13, .inl (cy 0, 2, .inl fl)) :: (q10, .inl (cy 0, 2, .inl fr)) :: (q1, .inl (cy 0, 2, .inl fu)) :: KL z (ad, (D, cy, szf, shf, 1, trv)) μ) := hD
    have hKB := hKs.kb (Pr [(inr, .inl (cP, ln, .inr (.inr (.inr (.inr (fun _ => none)))))), (ha, .inl (cy 0, sn, .inl fh)), (scr, .inl (cO, sn, .inr (.inr (.inr (.inr fs))))), (q13, .inl (cy 0, 2, .inl fl)), (q10, .inl (cy 0, 2, .inl fr)), (q1, .inl (cy 0, 2, .inl fu))] hP)
    have hAk : ∀ q, Ak (ad, (D, cy, szf, shf, 1, trv)) H.size q → A q := fun q h => h.elim (hKA q) (fun h => hA q (Nat.le_trans hS.1 h))
    refine va_calli (va_runV (As := [.int (nI k), .int (((nI j35) - 1))]) (rest := []) ⟨hx, hb, hml, hown, hts⟩ (k_X8_setHandler l (z := z) (b := b) (B := (ad, (D, cy, szf, shf, 1, trv))) (μ := μ) (j := k) (v := (((nI j35) - 1))) (by show k < szf 2; omega) (by show szf 2 ≤ 8; omega) (hd_ge (by omega)).1 (hd_ge (by omega)).2 H.size) (cwV 2 hts (gd_V q1089 q1090 q1091 q37 q1092) rfl rfl rfl hd_X8_setHandler ⟨Nat.le_of_ble_eq_true rfl, Nat.le_of_ble_eq_true rfl⟩) ⟨Pk.blind, rcv9 hT hKB rfl h272, fun U hU hW => ⟨by rw [h272], ⟨Tb.warm hW hT, Em.on hW hE (by rw [hU]; exact hS) hAb⟩, by rw [hU], by rw [hU]; exact hKB⟩⟩ rfl rfl hl.1 rfl (lv_room (Nat.le_of_ble_eq_true rfl)) dL_build_246 ⟨by show _ ≤ 250; omega, by show _ ≤ 12400; omega⟩) hS (fun q _ h => hAk q h) hAk (fun v9 u9 t9 H1 locs ht9 hvm9 hw9 hB9 hz9 hk9 hS => ?_)
    obtain ⟨ad37, ⟨hK1, hKa1⟩, e272⟩ := hB9
    rw [ht9] at hK1
    rw [hw9]
    have h272 : Bg.ad (ad37, (shH k (((nI j35) - 1)) (D, cy, szf, shf, 1, trv))) 272 = fa := e272.trans h272
    obtain ⟨hP, hD⟩ := kl_join (cs := [(inr, .inl (cP, ln, .inr (.inr (.inr (.inr (fun _ => none)))))), (ha, .inl (cy 0, sn, .inl fh)), (scr, .inl (cO, sn, .inr (.inr (.inr (.inr fs))))), (q13, .inl (cy 0, 2, .inl fl)), (q10, .inl (cy 0, 2, .inl fr)), (q1, .inl (cy 0, 2, .inl fu))]) hP hD hk9 hK1 hKa1 hAk rfl
    have hKs := hK1.st
    have hKA : ∀ p, Ka (ad37, (shH k (((nI j35) - 1)) (D, cy, szf, shf, 1, trv))) p → A p := fun p hp => hAk p (hKa1 p hp)
    clear hK1 hKa1 hKB hAk e272
    generalize H1 = H at hP hS ⊢
    have hP : va_P D vwCl ((inr, .inl (cP, ln, .inr (.inr (.inr (.inr (fun _ => none)))))) :: (ha, .inl (cy 0, sn, .inl fh)) :: (scr, .inl (cO, sn, .inr (.inr (.inr (.inr fs))))) :: (q13, .inl (cy 0, 2, .inl fl)) :: (q10, .inl (cy 0, 2, .inl fr)) :: (q1, .inl (cy 0, 2, .inl fu)) :: KL z (ad37, (shH k (((nI j35) - 1)) (D, cy, szf, shf, 1, trv))) μ) H := hP
    have hD : va_D A ((inr, .inl (cP, ln, .inr (.inr (.inr (.inr (fun _ => none)))))) :: (ha, .inl (cy 0, sn, .inl fh)) :: (scr, .inl (cO, sn, .inr (.inr (.inr (.inr fs))))) :: (q13, .inl (cy 0, 2, .inl fl)) :: (q10, .inl (cy 0, 2, .inl fr)) :: (q1, .inl (cy 0, 2, .inl fu)) :: KL z (ad37, (shH k (((nI j35) - 1)) (D, cy, szf, shf, 1, trv))) μ) := hD
    refine lv_pop hx hb dL_build_249 rfl ?_
    refine lv_iconst (v := 0) hx hb dL_build_250 (by decide) ?_
    refine lv_istore (lv' := [(12, .int 0), (11, .int (nI k)), (10, .ref ha), (9, .ref scr), (8, .ref q13), (7, .ref q10), (6, .ref q1), (5, .int 2), (0, .ref fa), (1, .ref bs), (2, .int (nI sn)), (3, .ref co), (4, .ref kd)]) hx hb dL_build_251 hl (by decide) rfl (fun ls hl => ?_)
    have hP := Pmv [(inr, .inl (cP, ln, .inr (.inr (.inr (.inr (fun _ => none))))))] hP
    have hD := Dmv [(inr, .inl (cP, ln, .inr (.inr (.inr (.inr (fun _ => none))))))] hD
    refine W.widen (k := (c2 + 25 * k + 1) + 3 * 0) (n := (s2 + 144 * k + 8) + 17 * 0) (by omega) (by omega) ?_
    refine build_row l hL hs1 hs3 hx hb hml hts hown hT hE hX hXs hbl hbA hAb hA hPo (μ := μ) (trv := trv) (fh := fh) (fl := fl) (fr := fr) (fs := fs) (q13 := q13) (q10 := q10) (q1 := q1) (ha := ha) (scr := scr) (inr := inr) hcO hfu hfc hcB hfin hk hln (c1 := c2 + 25 * k + 1) (s1 := s2 + 144 * k + 8) (by omega) (by omega) (fun ad szf shf fi H locs ls hKs hKA h272 z0 z1 z2 z4 hF hP hD hS hl => ?_) ln 0 ad37 szf (fun x => if x = 114 + k then upd (shf x) 1 (((nI j35) - 1)) else shf x) (fun _ => none) H locs ls (by omega) hKs hKA h272 z0 z1 z2 (z4 k (Nat.le_refl k)) (fun j hj => z4 j (by omega)) (hF.h (by omega)) hP hD hS (lv_sub hl [0, 1, 2, 3, 4, 5, 6, 7, 8, 9, 10, 11, 12] rfl)
    have hP := Pr [(inr, .inl (cP, ln, .inr (.inr (.inr (.inr fi)))))] (Pmv [(ha, .inl (cy 0, sn, .inl fh))] hP)
    have hD := Dr [(inr, .inl (cP, ln, .inr (.inr (.inr (.inr fi)))))] (Dmv [(ha, .inl (cy 0, sn, .inl fh))] hD)
    have hP : va_P D vwCl ((ha, .inl (cy 0, sn, .inl fh)) :: (scr, .inl (cO, sn, .inr (.inr (.inr (.inr fs))))) :: (q13, .inl (cy 0, 2, .inl fl)) :: (q10, .inl (cy 0, 2, .inl fr)) :: (q1, .inl (cy 0, 2, .inl fu)) :: KL z (ad, (D, cy, szf, shf, 1, trv)) μ) H := hP
    have hD : va_D A ((ha, .inl (cy 0, sn, .inl fh)) :: (scr, .inl (cO, sn, .inr (.inr (.inr (.inr fs))))) :: (q13, .inl (cy 0, 2, .inl fl)) :: (q10, .inl (cy 0, 2, .inl fr)) :: (q1, .inl (cy 0, 2, .inl fu)) :: KL z (ad, (D, cy, szf, shf, 1, trv)) μ) := hD
    refine lv_iinc (v := (nI (k + 1))) (lv' := [(11, .int (nI (k + 1))), (10, .ref ha), (9, .ref scr), (8, .ref q13), (7, .ref q10), (6, .ref q1), (5, .int 2), (0, .ref fa), (1, .ref bs), (2, .int (nI sn)), (3, .ref co), (4, .ref kd)]) hx hb dL_build_615 hl (k := 0) rfl (nI_1 k) (by decide) rfl (fun ls hl => ?_)
    refine lv_goto (tgt := 186) hx hb dL_build_618 (by decide) ?_
    refine W.widen (k := c2 + 25 * (k + 1)) (n := s2 + 144 * (k + 1)) (by omega) (by omega) ?_
    exact ih (k + 1) ad szf shf fh fs H locs ls (by omega) hKs hKA h272 z0 z1 z2 (fun j hj => z4 j (by omega)) hF hP hD hS (lv_sub hl [0, 1, 2, 3, 4, 5, 6, 7, 8, 9, 10, 11] rfl)
