/-! the law's build -/
def muB (ki0 : Int32) (j4 j8 j12 j15 : Nat) : Mem := muS 1 3 1 (muS 0 (nI (j12 + 4)) (nI j15) (muR 1 2 (nI (j8 + 1)) (muR 0 ki0 (nI (j4 + 1)) mem0)))
def trB (j19 : Nat) : Nat → Int32 := fun j => if j = 0 then nI (j19 + 1) else 0
/-- how build ends -/
def BQ (z b : Nat) (A : Nat → Prop) (D : va_G) (cy : Nat → ClassId) (sn fa : Nat) (ki0 : Int32) (sim : Nat) (t : State) : Prop := ∃ (un ro : Nat) (fs : List Value) (ad : Nat → Nat) (szf : Nat → Nat) (shf : Mem) (j4 j8 j12 j15 j19 : Nat), fs[3]? = some (.ref un) ∧ fs[5]? = some (.ref ro) ∧ j4 < 3 ∧ j8 < 3 ∧ j12 < 8 ∧ j15 < 4 ∧ j19 < 3 ∧ szf 0 = 2 ∧ szf 1 = 2 ∧ szf 2 = sn ∧ SFI sn szf shf ∧ KB z b (ad, (D, cy, szf, shf, 1, trB j19)) (muB ki0 j4 j8 j12 j15) t.heap ∧ Bg.ad (ad, (D, cy, szf, shf, 1, trB j19)) 272 = fa ∧ va_P D vwCl ([(sim, .inr (10, fs)), (un, .inl (cy 0, 2, .inl (fun2 (nI (j4 + 1)) (nI (j8 + 1))))), (ro, .inl (cy 0, 2, .inl (fun2 (nI (j12 + 4)) 3)))] ++ KL z (ad, (D, cy, szf, shf, 1, trB j19)) (muB ki0 j4 j8 j12 j15)) t.heap ∧ va_D A ([(sim, .inr (10, fs)), (un, .inl (cy 0, 2, .inl (fun2 (nI (j4 + 1)) (nI (j8 + 1))))), (ro, .inl (cy 0, 2, .inl (fun2 (nI (j12 + 4)) 3)))] ++ KL z (ad, (D, cy, szf, shf, 1, trB j19)) (muB ki0 j4 j8 j12 j15))
theorem Px9.blind {D : va_G} {tys : List (ClassId × FieldType)} {sz : Nat} {av : List Value} {ws : va_W} : FrameBlind (va_Pc av (fun U => (T3 D tys U ∧ Tx U) ∧ U.heap.size = sz ∧ va_P D vwCl ws U.heap ∧ va_D (fun _ => True) ws)) := fun _ _ _ _ h => ⟨h.1, ⟨T3.call h.2.1.1, Tx.call h.2.1.2⟩, h.2.2⟩
theorem hd_L_build : yL_build.cls = RL ∧ yL_build.cls ≠ "java/lang/invoke/MethodHandle" ∧ yL_build.cls ≠ "java/lang/invoke/VarHandle" ∧ (parseMethodDescriptor yL_build.desc).map (fun d => d.parameters.length) = some 5 := by decide +kernel
set_option maxHeartbeats 8000000 in
set_option maxRecDepth 100000 in
theorem k_L_build (l : Launch) {z b : Nat} {ad0 : Nat → Nat} {D : va_G} {cy : Nat → ClassId} {fa bs L co kd sn : Nat} {xs : Nat → Int32} {fc fk : Nat → Int32} {ki0 : Int32} (hL : L ≤ 260) (hs1 : 1 ≤ sn) (hs3 : sn ≤ 3) (hfk0 : fk (0 : Int32).toNatClampNeg = ki0) (hfk1 : fk (1 : Int32).toNatClampNeg = 2) (hk1 : ¬ ki0 < 0) (hk2 : ¬ 2 < ki0) (hfc : ∀ r, r < 17 → ∃ w, w < 14 ∧ fc r = nI w) (h272 : Bg.ad (ad0, S0 D cy) 272 = fa) (hbs : ¬ Ka (ad0, S0 D cy) bs) (hco : ¬ Ka (ad0, S0 D cy) co) (hkd : ¬ Ka (ad0, S0 D cy) kd) (sz : Nat) : Met l yL_build (ws_ yL_build cL_build 17 (some (.object "SandglassLaw$Sim"))) (rm_ 8 280 250 12400) (va_Pc [.ref fa, .ref bs, .int (nI sn), .ref co, .ref kd] (fun U => ((Tb (Bg.r z (ad0, S0 D cy)) U ∧ Em D z b (cy 2) U) ∧ Tx U) ∧ U.heap.size = sz ∧ KB z b (ad0, S0 D cy) mem0 U.heap ∧ va_X bs L xs U U.heap ∧ va_P D vwCl [(co, .inl (cy 0, 17, .inl fc)), (kd, .inl (cy 0, 2, .inl fk))] U.heap)) (va_Qq (fun (v : Option Nat) (u : Nat) => v = some u) (fun (sim : Nat) t => BQ z b (Ak (ad0, S0 D cy) sz) D cy sn fa ki0 sim t) (Ak (ad0, S0 D cy) sz)) 250 12400 (Ak (ad0, S0 D cy) sz) := by
  refine Met.ofW (cc := cL_build) (maxL := 17) (ret := (some (.object "SandglassLaw$Sim"))) (by decide) rfl ?_
  intro p e9 s m args below meth c s₁ B hml hv
  obtain ⟨rfl, ⟨⟨hT, hE⟩, hX⟩, hsz, hK0, hXs, hPo0⟩ := hv
  have hx := B.exec
  have hb := B.bytes
  have hr := B.returns
  have hts : ∀ w ∈ lw_all, w.before _ s = true := fun w h => atoms_spec (ws := (ws_ yL_build cL_build 17 (some (.object "SandglassLaw$Sim")))) B.pre w (List.mem_cons_of_mem _ h)
  have hown : s.vm.findClass RL = some m.cls := findClass_of_methodNamed B.named
  subst hsz
  have hbl : bs < s.heap.size := by
    obtain ⟨scr, h1, -⟩ := hXs
    exact (Array.getElem?_eq_some_iff.mp h1).1
  have hbA : ¬ Ak (ad0, S0 D cy) s.heap.size bs := by
    rintro (h | h)
    · exact hbs h
    · omega
  have hAb : ∀ q, Ak (ad0, S0 D cy) s.heap.size q → b ≤ q := fun q h => by
    rcases h with ⟨k, hk, rfl⟩ | h
    · exact (hK0.2.1 k hk).1
    · exact Nat.le_trans hE.2.2.1 h
  have hA : ∀ q : Nat, s.heap.size ≤ q → Ak (ad0, S0 D cy) s.heap.size q := fun q h => Or.inr h
  have hKA : ∀ p, Ka (ad0, S0 D cy) p → Ak (ad0, S0 D cy) s.heap.size p := fun p h => Or.inl h
  have hPo := P_old2 (A := Ak (ad0, S0 D cy) s.heap.size) hPo0 (fun q hq => by
    have hlt := (P_mem hPo0 hq).lt
    rintro (h | h)
    · rcases List.mem_cons.mp hq with e | e
      · rw [e] at h; exact hco h
      · rw [List.mem_singleton.mp e] at h; exact hkd h
    · omega)
  generalize hAe : Ak (ad0, S0 D cy) s.heap.size = A at hbA hAb hA hKA hPo ⊢
  have hS : va_S A s.heap s.heap [] := va_S.rf
  have hKs := hK0.st
  have hP : va_P D vwCl ([] ++ KL z (ad0, S0 D cy) mem0) s.heap := hK0.ls
  have hD : va_D A ([] ++ KL z (ad0, S0 D cy) mem0) := hK0.ld hKA
  have hl := lv_entry ([.ref fa, .ref bs, .int (nI sn), .ref co, .ref kd]) (n := 17) (Nat.le_of_ble_eq_true rfl)
  rw [lg_entry_eq]
  generalize (lg_sl ([.ref fa, .ref bs, .int (nI sn), .ref co, .ref kd]) ++ List.replicate (17 - (lg_sl ([.ref fa, .ref bs, .int (nI sn), .ref co, .ref kd])).length) Slot.unset).toArray = ls at hl ⊢
  have hl : lv_has ls 17 [(0, .ref fa), (1, .ref bs), (2, .int (nI sn)), (3, .ref co), (4, .ref kd)] := hl
  refine lv_aload hx hb dL_build_0 (lv_at hl 4 rfl) ?_
  refine va_alen hx hb hT.1 (hPo _ _ hS) 1 0 rfl rfl (v := 2) rfl dL_build_2 ?_
  refine lv_istore (lv' := [(5, .int 2), (0, .ref fa), (1, .ref bs), (2, .int (nI sn)), (3, .ref co), (4, .ref kd)]) hx hb dL_build_3 hl (by decide) rfl (fun ls hl => ?_)
  refine lv_iload hx hb dL_build_5 (lv_at hl 0 rfl) ?_
  refine va_newa (atype := .int) (ty := .int) (N' := 2) (a0 := (2, .inl (fun _ => 0))) hx hb (hts _ q187) rfl hT.1 hP hD hS hA (fun _ => rfl) (by decide) rfl (Nat.le_of_ble_eq_true rfl) (Nat.le_of_ble_eq_true rfl) (Nat.le_of_ble_eq_true rfl) dL_build_7 (fun q1 cA H hK9 hP hD hS => ?_)
  have e9 : cA = cy 0 := RAi hK9 (show (tysB cy)[0]? = some (cy 0, .int) from rfl)
  rw [e9] at hP hD
  have hP := Pnw hP
  have hD := Dnw hD
  have hP : va_P D vwCl ((q1, .inl (cy 0, 2, .inl (fun _ => 0))) :: KL z (ad0, (S0 D cy)) mem0) H := hP
  have hD : va_D A ((q1, .inl (cy 0, 2, .inl (fun _ => 0))) :: KL z (ad0, (S0 D cy)) mem0) := hD
  refine lv_astore (lv' := [(6, .ref q1), (5, .int 2), (0, .ref fa), (1, .ref bs), (2, .int (nI sn)), (3, .ref co), (4, .ref kd)]) hx hb dL_build_9 hl (by decide) rfl (fun ls hl => ?_)
  refine lv_iconst (v := 0) hx hb dL_build_11 (by decide) ?_
  refine lv_istore (lv' := [(7, .int 0), (6, .ref q1), (5, .int 2), (0, .ref fa), (1, .ref bs), (2, .int (nI sn)), (3, .ref co), (4, .ref kd)]) hx hb dL_build_12 hl (by decide) rfl (fun ls hl => ?_)
  refine lv_iload hx hb dL_build_14 (lv_at hl 0 rfl) ?_
  refine lv_iload hx hb dL_build_16 (lv_at hl 2 rfl) ?_
  refine lv_icmp_ge (tgt := 61) hx hb dL_build_18 (by decide) (fun h9 => absurd h9 (by decide)) (fun _ => ?_)
  refine lv_aload hx hb dL_build_21 (lv_at hl 1 rfl) ?_
  refine lv_iload hx hb dL_build_23 (lv_at hl 0 rfl) ?_
  refine lv_iconst (v := 1) hx hb dL_build_25 (by decide) ?_
  refine lv_aload_n hx hb dL_build_26 rfl (lv_at hl 4 rfl) ?_
  refine lv_iload hx hb dL_build_27 (lv_at hl 0 rfl) ?_
  refine va_calli (va_runS (As := [.ref bs, .int 0]) (rest := [.int 1, .int 0, .ref q1]) ⟨hx, hb, hml, hown, hts⟩ (k_L_cell l (b := bs) (L := L) (xs := xs) hL (k := 0) (by decide)) (va_cwS 2 hts (gd_S q928 q929 q36 q930) rfl rfl rfl hd_L_cell.2 ⟨Nat.le_of_ble_eq_true rfl, Nat.le_of_ble_eq_true rfl⟩) ⟨Pcell.blind, fun U hU hW => ⟨rfl, by show va_X bs L xs U U.heap; rw [hU]; exact (va_X.moved hW.alike hXs).kept (hS.2.1 _ hbl hbA)⟩⟩ rfl rfl hl.1 rfl (lv_room (Nat.le_of_ble_eq_true rfl)) dL_build_29 ⟨Nat.le_of_ble_eq_true rfl, Nat.le_of_ble_eq_true rfl⟩) hS (fun q _ h => h.elim) (fun q h => h.elim) (fun x2 u9 t9 H locs ht9 hvm9 hw9 hB9 hz9 hk9 hS => ?_)
  have hP := P_keep hP (fun q h => hk9 q h id)
  refine lv_iconst (v := 2) hx hb dL_build_32 (by decide) ?_
  refine lv_ishr hx hb dL_build_33 ?_
  obtain ⟨y3, ey3⟩ : ∃ y : Int32, y = (x2 >>> (2 &&& 31)) := ⟨_, rfl⟩
  rw [← ey3]
  refine lv_iconst (v := 3) hx hb dL_build_34 (by decide) ?_
  refine va_calli (va_runS (As := [.int y3, .int 3]) (rest := [.int 1, .int 0, .ref q1]) ⟨hx, hb, hml, hown, hts⟩ (k_L_below l (n := 3) (by decide) (by decide)) (va_cwS 2 hts (gd_S q924 q925 q36 q926) rfl rfl rfl hd_L_below.2 ⟨Nat.le_of_ble_eq_true rfl, Nat.le_of_ble_eq_true rfl⟩) ⟨Pb.blind, fun U hU hW => ⟨rfl, trivial⟩⟩ rfl rfl hl.1 rfl (lv_room (Nat.le_of_ble_eq_true rfl)) dL_build_35 ⟨Nat.le_of_ble_eq_true rfl, Nat.le_of_ble_eq_true rfl⟩) hS (fun q _ h => h.elim) (fun q h => h.elim) (fun v9 u9 t9 H locs ht9 hvm9 hw9 hB9 hz9 hk9 hS => ?_)
  have hP := P_keep hP (fun q h => hk9 q h id)
  obtain ⟨j4, hj4, ej4⟩ := hw9
  rw [ej4]
  refine lv_iadd hx hb dL_build_38 ?_
  refine W.eq (g2 := F0 m 39 ls [.int (nI (j4 + 1)), .int 0, .ref q1]) (by rw [lit_nI 1]) ?_
  refine va_iast hx hb hT.1 hP hD hS 0 0 rfl rfl (vp_in_nI (n := 0) (N := 2) (by decide) (by decide)) dL_build_39 (fun H locs hP hD hS => ?_)
  have hP : va_P D vwCl ((q1, .inl (cy 0, 2, .inl (upd (fun _ => 0) (0 : Int32).toNatClampNeg ((nI (j4 + 1)))))) :: KL z (ad0, (S0 D cy)) mem0) H := hP
  have hD : va_D A ((q1, .inl (cy 0, 2, .inl (upd (fun _ => 0) (0 : Int32).toNatClampNeg ((nI (j4 + 1)))))) :: KL z (ad0, (S0 D cy)) mem0) := hD
  rw [fun2_0] at hP hD
  have hP : va_P D vwCl ((q1, .inl (cy 0, 2, .inl (fun2 (nI (j4 + 1)) 0))) :: KL z (ad0, (S0 D cy)) mem0) H := hP
  have hD : va_D A ((q1, .inl (cy 0, 2, .inl (fun2 (nI (j4 + 1)) 0))) :: KL z (ad0, (S0 D cy)) mem0) := hD
  refine lv_aload_n hx hb dL_build_40 rfl (lv_at hl 3 rfl) ?_
  refine lv_aload hx hb dL_build_41 (lv_at hl 7 rfl) ?_
  refine lv_iload hx hb dL_build_43 (lv_at hl 0 rfl) ?_
  refine va_iald hx hb hT.1 (hPo _ _ hS) 1 0 rfl rfl (vp_in_nI (n := 0) (N := 2) (by decide) (by decide)) dL_build_45 ?_
  refine W.eq (g2 := F0 m 46 ls [.int ki0, .ref fa]) (by rw [hfk0]) ?_
  refine lv_aload hx hb dL_build_46 (lv_at hl 1 rfl) ?_
  refine lv_iload hx hb dL_build_48 (lv_at hl 0 rfl) ?_
  refine va_iald hx hb hT.1 hP 0 0 rfl rfl (vp_in_nI (n := 0) (N := 2) (by decide) (by decide)) dL_build_50 ?_
  refine W.eq (g2 := F0 m 51 ls [.int (nI (j4 + 1)), .int ki0, .ref fa]) (by rfl) ?_
  have hKB := hKs.kb (Pr [(q1, .inl (cy 0, 2, .inl (fun2 (nI (j4 + 1)) 0)))] hP)
  have hAk : ∀ q, Ak (ad0, (S0 D cy)) H.size q → A q := fun q h => h.elim (hKA q) (fun h => hA q (Nat.le_trans hS.1 h))
  refine va_calli (va_runV (As := [.int ki0, .int (nI (j4 + 1))]) (rest := []) ⟨hx, hb, hml, hown, hts⟩ (k_X8_addResource0 l (z := z) (b := b) (B := (ad0, (S0 D cy))) (μ := mem0) (x1 := ki0) (x2 := (nI (j4 + 1))) rfl  hKs.2.2.2.1 hk1 hk2 (one_lt (by omega)) (nine_lt (by omega)) H.size) (cwV 2 hts (gd_V q935 q936 q937 q37 q938) rfl rfl rfl hd_X8_addResource ⟨Nat.le_of_ble_eq_true rfl, Nat.le_of_ble_eq_true rfl⟩) ⟨Pk.blind, rcv9 hT hKB rfl h272, fun U hU hW => ⟨by rw [h272], ⟨Tb.warm hW hT, Em.on hW hE (by rw [hU]; exact hS) hAb⟩, by rw [hU], by rw [hU]; exact hKB⟩⟩ rfl rfl hl.1 rfl (lv_room (Nat.le_of_ble_eq_true rfl)) dL_build_51 ⟨Nat.le_of_ble_eq_true rfl, Nat.le_of_ble_eq_true rfl⟩) hS (fun q _ h => hAk q h) hAk (fun v9 u9 t9 H1 locs ht9 hvm9 hw9 hB9 hz9 hk9 hS => ?_)
  obtain ⟨ad5, ⟨hK1, hKa1⟩, e272⟩ := hB9
  rw [ht9] at hK1
  rw [hw9]
  have h272 : Bg.ad (ad5, (shR 0 (S0 D cy))) 272 = fa := e272.trans h272
  obtain ⟨hP, hD⟩ := kl_join (cs := [(q1, .inl (cy 0, 2, .inl (fun2 (nI (j4 + 1)) 0)))]) hP hD hk9 hK1 hKa1 hAk rfl
  have hKs := hK1.st
  have hKA : ∀ p, Ka (ad5, (shR 0 (S0 D cy))) p → A p := fun p hp => hAk p (hKa1 p hp)
  clear hK1 hKa1 hKB hAk e272
  generalize H1 = H at hP hS ⊢
  have hP : va_P D vwCl ((q1, .inl (cy 0, 2, .inl (fun2 (nI (j4 + 1)) 0))) :: KL z (ad5, (shR 0 (S0 D cy))) (muR 0 ki0 (nI (j4 + 1)) mem0)) H := hP
  have hD : va_D A ((q1, .inl (cy 0, 2, .inl (fun2 (nI (j4 + 1)) 0))) :: KL z (ad5, (shR 0 (S0 D cy))) (muR 0 ki0 (nI (j4 + 1)) mem0)) := hD
  refine lv_pop hx hb dL_build_54 rfl ?_
  refine lv_iinc (v := 1) (lv' := [(7, .int 1), (6, .ref q1), (5, .int 2), (0, .ref fa), (1, .ref bs), (2, .int (nI sn)), (3, .ref co), (4, .ref kd)]) hx hb dL_build_55 hl (k := 0) rfl rfl (by decide) rfl (fun ls hl => ?_)
  refine lv_goto (tgt := 14) hx hb dL_build_58 (by decide) ?_
  refine lv_iload hx hb dL_build_14 (lv_at hl 0 rfl) ?_
  refine lv_iload hx hb dL_build_16 (lv_at hl 2 rfl) ?_
  refine lv_icmp_ge (tgt := 61) hx hb dL_build_18 (by decide) (fun h9 => absurd h9 (by decide)) (fun _ => ?_)
  refine lv_aload hx hb dL_build_21 (lv_at hl 1 rfl) ?_
  refine lv_iload hx hb dL_build_23 (lv_at hl 0 rfl) ?_
  refine lv_iconst (v := 1) hx hb dL_build_25 (by decide) ?_
  refine lv_aload_n hx hb dL_build_26 rfl (lv_at hl 4 rfl) ?_
  refine lv_iload hx hb dL_build_27 (lv_at hl 0 rfl) ?_
  refine va_calli (va_runS (As := [.ref bs, .int 1]) (rest := [.int 1, .int 1, .ref q1]) ⟨hx, hb, hml, hown, hts⟩ (k_L_cell l (b := bs) (L := L) (xs := xs) hL (k := 1) (by decide)) (va_cwS 2 hts (gd_S q928 q929 q36 q930) rfl rfl rfl hd_L_cell.2 ⟨Nat.le_of_ble_eq_true rfl, Nat.le_of_ble_eq_true rfl⟩) ⟨Pcell.blind, fun U hU hW => ⟨rfl, by show va_X bs L xs U U.heap; rw [hU]; exact (va_X.moved hW.alike hXs).kept (hS.2.1 _ hbl hbA)⟩⟩ rfl rfl hl.1 rfl (lv_room (Nat.le_of_ble_eq_true rfl)) dL_build_29 ⟨Nat.le_of_ble_eq_true rfl, Nat.le_of_ble_eq_true rfl⟩) hS (fun q _ h => h.elim) (fun q h => h.elim) (fun x6 u9 t9 H locs ht9 hvm9 hw9 hB9 hz9 hk9 hS => ?_)
  have hP := P_keep hP (fun q h => hk9 q h id)
  refine lv_iconst (v := 2) hx hb dL_build_32 (by decide) ?_
  refine lv_ishr hx hb dL_build_33 ?_
  obtain ⟨y7, ey7⟩ : ∃ y : Int32, y = (x6 >>> (2 &&& 31)) := ⟨_, rfl⟩
  rw [← ey7]
  refine lv_iconst (v := 3) hx hb dL_build_34 (by decide) ?_
  refine va_calli (va_runS (As := [.int y7, .int 3]) (rest := [.int 1, .int 1, .ref q1]) ⟨hx, hb, hml, hown, hts⟩ (k_L_below l (n := 3) (by decide) (by decide)) (va_cwS 2 hts (gd_S q924 q925 q36 q926) rfl rfl rfl hd_L_below.2 ⟨Nat.le_of_ble_eq_true rfl, Nat.le_of_ble_eq_true rfl⟩) ⟨Pb.blind, fun U hU hW => ⟨rfl, trivial⟩⟩ rfl rfl hl.1 rfl (lv_room (Nat.le_of_ble_eq_true rfl)) dL_build_35 ⟨Nat.le_of_ble_eq_true rfl, Nat.le_of_ble_eq_true rfl⟩) hS (fun q _ h => h.elim) (fun q h => h.elim) (fun v9 u9 t9 H locs ht9 hvm9 hw9 hB9 hz9 hk9 hS => ?_)
  have hP := P_keep hP (fun q h => hk9 q h id)
  obtain ⟨j8, hj8, ej8⟩ := hw9
  rw [ej8]
  refine lv_iadd hx hb dL_build_38 ?_
  refine W.eq (g2 := F0 m 39 ls [.int (nI (j8 + 1)), .int 1, .ref q1]) (by rw [lit_nI 1]) ?_
  refine va_iast hx hb hT.1 hP hD hS 0 0 rfl rfl (vp_in_nI (n := 1) (N := 2) (by decide) (by decide)) dL_build_39 (fun H locs hP hD hS => ?_)
  have hP : va_P D vwCl ((q1, .inl (cy 0, 2, .inl (upd (fun2 (nI (j4 + 1)) 0) (1 : Int32).toNatClampNeg ((nI (j8 + 1)))))) :: KL z (ad5, (shR 0 (S0 D cy))) (muR 0 ki0 (nI (j4 + 1)) mem0)) H := hP
  have hD : va_D A ((q1, .inl (cy 0, 2, .inl (upd (fun2 (nI (j4 + 1)) 0) (1 : Int32).toNatClampNeg ((nI (j8 + 1)))))) :: KL z (ad5, (shR 0 (S0 D cy))) (muR 0 ki0 (nI (j4 + 1)) mem0)) := hD
  rw [fun2_1] at hP hD
  have hP : va_P D vwCl ((q1, .inl (cy 0, 2, .inl (fun2 (nI (j4 + 1)) (nI (j8 + 1))))) :: KL z (ad5, (shR 0 (S0 D cy))) (muR 0 ki0 (nI (j4 + 1)) mem0)) H := hP
  have hD : va_D A ((q1, .inl (cy 0, 2, .inl (fun2 (nI (j4 + 1)) (nI (j8 + 1))))) :: KL z (ad5, (shR 0 (S0 D cy))) (muR 0 ki0 (nI (j4 + 1)) mem0)) := hD
  refine lv_aload_n hx hb dL_build_40 rfl (lv_at hl 3 rfl) ?_
  refine lv_aload hx hb dL_build_41 (lv_at hl 7 rfl) ?_
  refine lv_iload hx hb dL_build_43 (lv_at hl 0 rfl) ?_
  refine va_iald hx hb hT.1 (hPo _ _ hS) 1 0 rfl rfl (vp_in_nI (n := 1) (N := 2) (by decide) (by decide)) dL_build_45 ?_
  refine W.eq (g2 := F0 m 46 ls [.int 2, .ref fa]) (by rw [hfk1]) ?_
  refine lv_aload hx hb dL_build_46 (lv_at hl 1 rfl) ?_
  refine lv_iload hx hb dL_build_48 (lv_at hl 0 rfl) ?_
  refine va_iald hx hb hT.1 hP 0 0 rfl rfl (vp_in_nI (n := 1) (N := 2) (by decide) (by decide)) dL_build_50 ?_
  refine W.eq (g2 := F0 m 51 ls [.int (nI (j8 + 1)), .int 2, .ref fa]) (by rfl) ?_
  have hKB := hKs.kb (Pr [(q1, .inl (cy 0, 2, .inl (fun2 (nI (j4 + 1)) (nI (j8 + 1)))))] hP)
  have hAk : ∀ q, Ak (ad5, (shR 0 (S0 D cy))) H.size q → A q := fun q h => h.elim (hKA q) (fun h => hA q (Nat.le_trans hS.1 h))
  refine va_calli (va_runV (As := [.int 2, .int (nI (j8 + 1))]) (rest := []) ⟨hx, hb, hml, hown, hts⟩ (k_X8_addResource1 l (z := z) (b := b) (B := (ad5, (shR 0 (S0 D cy)))) (μ := (muR 0 ki0 (nI (j4 + 1)) mem0)) (x1 := 2) (x2 := (nI (j8 + 1))) (n := 1) rfl (by decide) (by decide)  hKs.2.2.2.1 (by decide) (by decide) (one_lt (by omega)) (nine_lt (by omega)) H.size) (cwV 2 hts (gd_V q935 q936 q937 q37 q938) rfl rfl rfl hd_X8_addResource ⟨Nat.le_of_ble_eq_true rfl, Nat.le_of_ble_eq_true rfl⟩) ⟨Pk.blind, rcv9 hT hKB rfl h272, fun U hU hW => ⟨by rw [h272], ⟨Tb.warm hW hT, Em.on hW hE (by rw [hU]; exact hS) hAb⟩, by rw [hU], by rw [hU]; exact hKB⟩⟩ rfl rfl hl.1 rfl (lv_room (Nat.le_of_ble_eq_true rfl)) dL_build_51 ⟨Nat.le_of_ble_eq_true rfl, Nat.le_of_ble_eq_true rfl⟩) hS (fun q _ h => hAk q h) hAk (fun v9 u9 t9 H1 locs ht9 hvm9 hw9 hB9 hz9 hk9 hS => ?_)
  obtain ⟨ad9, ⟨hK1, hKa1⟩, e272⟩ := hB9
  rw [ht9] at hK1
  rw [hw9]
  have h272 : Bg.ad (ad9, (shR 1 (shR 0 (S0 D cy)))) 272 = fa := e272.trans h272
  obtain ⟨hP, hD⟩ := kl_join (cs := [(q1, .inl (cy 0, 2, .inl (fun2 (nI (j4 + 1)) (nI (j8 + 1)))))]) hP hD hk9 hK1 hKa1 hAk rfl
  have hKs := hK1.st
  have hKA : ∀ p, Ka (ad9, (shR 1 (shR 0 (S0 D cy)))) p → A p := fun p hp => hAk p (hKa1 p hp)
  clear hK1 hKa1 hKB hAk e272
  generalize H1 = H at hP hS ⊢
  have hP : va_P D vwCl ((q1, .inl (cy 0, 2, .inl (fun2 (nI (j4 + 1)) (nI (j8 + 1))))) :: KL z (ad9, (shR 1 (shR 0 (S0 D cy)))) (muR 1 2 (nI (j8 + 1)) (muR 0 ki0 (nI (j4 + 1)) mem0))) H := hP
  have hD : va_D A ((q1, .inl (cy 0, 2, .inl (fun2 (nI (j4 + 1)) (nI (j8 + 1))))) :: KL z (ad9, (shR 1 (shR 0 (S0 D cy)))) (muR 1 2 (nI (j8 + 1)) (muR 0 ki0 (nI (j4 + 1)) mem0))) := hD
  refine lv_pop hx hb dL_build_54 rfl ?_
  refine lv_iinc (v := 2) (lv' := [(7, .int 2), (6, .ref q1), (5, .int 2), (0, .ref fa), (1, .ref bs), (2, .int (nI sn)), (3, .ref co), (4, .ref kd)]) hx hb dL_build_55 hl (k := 0) rfl rfl (by decide) rfl (fun ls hl => ?_)
  refine lv_goto (tgt := 14) hx hb dL_build_58 (by decide) ?_
  refine lv_iload hx hb dL_build_14 (lv_at hl 0 rfl) ?_
  refine lv_iload hx hb dL_build_16 (lv_at hl 2 rfl) ?_
  refine lv_icmp_ge (tgt := 61) hx hb dL_build_18 (by decide) (fun _ => ?_) (fun h9 => absurd (by decide) h9)
  refine lv_iconst (v := 2) hx hb dL_build_61 (by decide) ?_
  refine va_newa (atype := .int) (ty := .int) (N' := 2) (a0 := (2, .inl (fun _ => 0))) hx hb (hts _ q187) rfl hT.1 hP hD hS hA (fun _ => rfl) (by decide) rfl (Nat.le_of_ble_eq_true rfl) (Nat.le_of_ble_eq_true rfl) (Nat.le_of_ble_eq_true rfl) dL_build_62 (fun q10 cA H hK9 hP hD hS => ?_)
  have e9 : cA = cy 0 := RAi hK9 (show (tysB cy)[0]? = some (cy 0, .int) from rfl)
  rw [e9] at hP hD
  have hP := Pnw hP
  have hD := Dnw hD
  have hP : va_P D vwCl ((q10, .inl (cy 0, 2, .inl (fun _ => 0))) :: (q1, .inl (cy 0, 2, .inl (fun2 (nI (j4 + 1)) (nI (j8 + 1))))) :: KL z (ad9, (shR 1 (shR 0 (S0 D cy)))) (muR 1 2 (nI (j8 + 1)) (muR 0 ki0 (nI (j4 + 1)) mem0))) H := hP
  have hD : va_D A ((q10, .inl (cy 0, 2, .inl (fun _ => 0))) :: (q1, .inl (cy 0, 2, .inl (fun2 (nI (j4 + 1)) (nI (j8 + 1))))) :: KL z (ad9, (shR 1 (shR 0 (S0 D cy)))) (muR 1 2 (nI (j8 + 1)) (muR 0 ki0 (nI (j4 + 1)) mem0))) := hD
  refine lv_dup hx hb dL_build_64 rfl ?_
  refine lv_iconst (v := 0) hx hb dL_build_65 (by decide) ?_
  refine lv_iconst (v := 4) hx hb dL_build_66 (by decide) ?_
  refine lv_aload_n hx hb dL_build_67 rfl (lv_at hl 4 rfl) ?_
  refine lv_iconst (v := 3) hx hb dL_build_68 (by decide) ?_
  refine va_calli (va_runS (As := [.ref bs, .int 3]) (rest := [.int 4, .int 0, .ref q10, .ref q10]) ⟨hx, hb, hml, hown, hts⟩ (k_L_cell l (b := bs) (L := L) (xs := xs) hL (k := 3) (by decide)) (va_cwS 2 hts (gd_S q928 q929 q36 q930) rfl rfl rfl hd_L_cell.2 ⟨Nat.le_of_ble_eq_true rfl, Nat.le_of_ble_eq_true rfl⟩) ⟨Pcell.blind, fun U hU hW => ⟨rfl, by show va_X bs L xs U U.heap; rw [hU]; exact (va_X.moved hW.alike hXs).kept (hS.2.1 _ hbl hbA)⟩⟩ rfl rfl hl.1 rfl (lv_room (Nat.le_of_ble_eq_true rfl)) dL_build_69 ⟨Nat.le_of_ble_eq_true rfl, Nat.le_of_ble_eq_true rfl⟩) hS (fun q _ h => h.elim) (fun q h => h.elim) (fun x11 u9 t9 H locs ht9 hvm9 hw9 hB9 hz9 hk9 hS => ?_)
  have hP := P_keep hP (fun q h => hk9 q h id)
  refine lv_bipush (v := 8) hx hb dL_build_72 (by decide) ?_
  refine va_calli (va_runS (As := [.int x11, .int 8]) (rest := [.int 4, .int 0, .ref q10, .ref q10]) ⟨hx, hb, hml, hown, hts⟩ (k_L_below l (n := 8) (by decide) (by decide)) (va_cwS 2 hts (gd_S q924 q925 q36 q926) rfl rfl rfl hd_L_below.2 ⟨Nat.le_of_ble_eq_true rfl, Nat.le_of_ble_eq_true rfl⟩) ⟨Pb.blind, fun U hU hW => ⟨rfl, trivial⟩⟩ rfl rfl hl.1 rfl (lv_room (Nat.le_of_ble_eq_true rfl)) dL_build_74 ⟨Nat.le_of_ble_eq_true rfl, Nat.le_of_ble_eq_true rfl⟩) hS (fun q _ h => h.elim) (fun q h => h.elim) (fun v9 u9 t9 H locs ht9 hvm9 hw9 hB9 hz9 hk9 hS => ?_)
  have hP := P_keep hP (fun q h => hk9 q h id)
  obtain ⟨j12, hj12, ej12⟩ := hw9
  rw [ej12]
  refine lv_iadd hx hb dL_build_77 ?_
  refine W.eq (g2 := F0 m 78 ls [.int (nI (j12 + 4)), .int 0, .ref q10, .ref q10]) (by rw [lit_nI 4]) ?_
  refine va_iast hx hb hT.1 hP hD hS 0 0 rfl rfl (vp_in_nI (n := 0) (N := 2) (by decide) (by decide)) dL_build_78 (fun H locs hP hD hS => ?_)
  have hP : va_P D vwCl ((q10, .inl (cy 0, 2, .inl (upd (fun _ => 0) (0 : Int32).toNatClampNeg ((nI (j12 + 4)))))) :: (q1, .inl (cy 0, 2, .inl (fun2 (nI (j4 + 1)) (nI (j8 + 1))))) :: KL z (ad9, (shR 1 (shR 0 (S0 D cy)))) (muR 1 2 (nI (j8 + 1)) (muR 0 ki0 (nI (j4 + 1)) mem0))) H := hP
  have hD : va_D A ((q10, .inl (cy 0, 2, .inl (upd (fun _ => 0) (0 : Int32).toNatClampNeg ((nI (j12 + 4)))))) :: (q1, .inl (cy 0, 2, .inl (fun2 (nI (j4 + 1)) (nI (j8 + 1))))) :: KL z (ad9, (shR 1 (shR 0 (S0 D cy)))) (muR 1 2 (nI (j8 + 1)) (muR 0 ki0 (nI (j4 + 1)) mem0))) := hD
  rw [fun2_0] at hP hD
  have hP : va_P D vwCl ((q10, .inl (cy 0, 2, .inl (fun2 (nI (j12 + 4)) 0))) :: (q1, .inl (cy 0, 2, .inl (fun2 (nI (j4 + 1)) (nI (j8 + 1))))) :: KL z (ad9, (shR 1 (shR 0 (S0 D cy)))) (muR 1 2 (nI (j8 + 1)) (muR 0 ki0 (nI (j4 + 1)) mem0))) H := hP
  have hD : va_D A ((q10, .inl (cy 0, 2, .inl (fun2 (nI (j12 + 4)) 0))) :: (q1, .inl (cy 0, 2, .inl (fun2 (nI (j4 + 1)) (nI (j8 + 1))))) :: KL z (ad9, (shR 1 (shR 0 (S0 D cy)))) (muR 1 2 (nI (j8 + 1)) (muR 0 ki0 (nI (j4 + 1)) mem0))) := hD
  refine lv_dup hx hb dL_build_79 rfl ?_
  refine lv_iconst (v := 1) hx hb dL_build_80 (by decide) ?_
  refine lv_iconst (v := 3) hx hb dL_build_81 (by decide) ?_
  refine va_iast hx hb hT.1 hP hD hS 0 0 rfl rfl (vp_in_nI (n := 1) (N := 2) (by decide) (by decide)) dL_build_82 (fun H locs hP hD hS => ?_)
  have hP : va_P D vwCl ((q10, .inl (cy 0, 2, .inl (upd (fun2 (nI (j12 + 4)) 0) (1 : Int32).toNatClampNeg 3))) :: (q1, .inl (cy 0, 2, .inl (fun2 (nI (j4 + 1)) (nI (j8 + 1))))) :: KL z (ad9, (shR 1 (shR 0 (S0 D cy)))) (muR 1 2 (nI (j8 + 1)) (muR 0 ki0 (nI (j4 + 1)) mem0))) H := hP
  have hD : va_D A ((q10, .inl (cy 0, 2, .inl (upd (fun2 (nI (j12 + 4)) 0) (1 : Int32).toNatClampNeg 3))) :: (q1, .inl (cy 0, 2, .inl (fun2 (nI (j4 + 1)) (nI (j8 + 1))))) :: KL z (ad9, (shR 1 (shR 0 (S0 D cy)))) (muR 1 2 (nI (j8 + 1)) (muR 0 ki0 (nI (j4 + 1)) mem0))) := hD
  rw [fun2_1] at hP hD
  have hP : va_P D vwCl ((q10, .inl (cy 0, 2, .inl (fun2 (nI (j12 + 4)) 3))) :: (q1, .inl (cy 0, 2, .inl (fun2 (nI (j4 + 1)) (nI (j8 + 1))))) :: KL z (ad9, (shR 1 (shR 0 (S0 D cy)))) (muR 1 2 (nI (j8 + 1)) (muR 0 ki0 (nI (j4 + 1)) mem0))) H := hP
  have hD : va_D A ((q10, .inl (cy 0, 2, .inl (fun2 (nI (j12 + 4)) 3))) :: (q1, .inl (cy 0, 2, .inl (fun2 (nI (j4 + 1)) (nI (j8 + 1))))) :: KL z (ad9, (shR 1 (shR 0 (S0 D cy)))) (muR 1 2 (nI (j8 + 1)) (muR 0 ki0 (nI (j4 + 1)) mem0))) := hD
  refine lv_astore (lv' := [(7, .ref q10), (6, .ref q1), (5, .int 2), (0, .ref fa), (1, .ref bs), (2, .int (nI sn)), (3, .ref co), (4, .ref kd)]) hx hb dL_build_83 hl (by decide) rfl (fun ls hl => ?_)
  refine lv_iconst (v := 2) hx hb dL_build_85 (by decide) ?_
  refine va_newa (atype := .int) (ty := .int) (N' := 2) (a0 := (2, .inl (fun _ => 0))) hx hb (hts _ q187) rfl hT.1 hP hD hS hA (fun _ => rfl) (by decide) rfl (Nat.le_of_ble_eq_true rfl) (Nat.le_of_ble_eq_true rfl) (Nat.le_of_ble_eq_true rfl) dL_build_86 (fun q13 cA H hK9 hP hD hS => ?_)
  have e9 : cA = cy 0 := RAi hK9 (show (tysB cy)[0]? = some (cy 0, .int) from rfl)
  rw [e9] at hP hD
  have hP := Pnw hP
  have hD := Dnw hD
  have hP : va_P D vwCl ((q13, .inl (cy 0, 2, .inl (fun _ => 0))) :: (q10, .inl (cy 0, 2, .inl (fun2 (nI (j12 + 4)) 3))) :: (q1, .inl (cy 0, 2, .inl (fun2 (nI (j4 + 1)) (nI (j8 + 1))))) :: KL z (ad9, (shR 1 (shR 0 (S0 D cy)))) (muR 1 2 (nI (j8 + 1)) (muR 0 ki0 (nI (j4 + 1)) mem0))) H := hP
  have hD : va_D A ((q13, .inl (cy 0, 2, .inl (fun _ => 0))) :: (q10, .inl (cy 0, 2, .inl (fun2 (nI (j12 + 4)) 3))) :: (q1, .inl (cy 0, 2, .inl (fun2 (nI (j4 + 1)) (nI (j8 + 1))))) :: KL z (ad9, (shR 1 (shR 0 (S0 D cy)))) (muR 1 2 (nI (j8 + 1)) (muR 0 ki0 (nI (j4 + 1)) mem0))) := hD
  refine lv_dup hx hb dL_build_88 rfl ?_
  refine lv_iconst (v := 0) hx hb dL_build_89 (by decide) ?_
  refine lv_aload_n hx hb dL_build_90 rfl (lv_at hl 4 rfl) ?_
  refine lv_iconst (v := 4) hx hb dL_build_91 (by decide) ?_
  refine va_calli (va_runS (As := [.ref bs, .int 4]) (rest := [.int 0, .ref q13, .ref q13]) ⟨hx, hb, hml, hown, hts⟩ (k_L_cell l (b := bs) (L := L) (xs := xs) hL (k := 4) (by decide)) (va_cwS 2 hts (gd_S q928 q929 q36 q930) rfl rfl rfl hd_L_cell.2 ⟨Nat.le_of_ble_eq_true rfl, Nat.le_of_ble_eq_true rfl⟩) ⟨Pcell.blind, fun U hU hW => ⟨rfl, by show va_X bs L xs U U.heap; rw [hU]; exact (va_X.moved hW.alike hXs).kept (hS.2.1 _ hbl hbA)⟩⟩ rfl rfl hl.1 rfl (lv_room (Nat.le_of_ble_eq_true rfl)) dL_build_92 ⟨Nat.le_of_ble_eq_true rfl, Nat.le_of_ble_eq_true rfl⟩) hS (fun q _ h => h.elim) (fun q h => h.elim) (fun x14 u9 t9 H locs ht9 hvm9 hw9 hB9 hz9 hk9 hS => ?_)
  have hP := P_keep hP (fun q h => hk9 q h id)
  refine lv_iconst (v := 4) hx hb dL_build_95 (by decide) ?_
  refine va_calli (va_runS (As := [.int x14, .int 4]) (rest := [.int 0, .ref q13, .ref q13]) ⟨hx, hb, hml, hown, hts⟩ (k_L_below l (n := 4) (by decide) (by decide)) (va_cwS 2 hts (gd_S q924 q925 q36 q926) rfl rfl rfl hd_L_below.2 ⟨Nat.le_of_ble_eq_true rfl, Nat.le_of_ble_eq_true rfl⟩) ⟨Pb.blind, fun U hU hW => ⟨rfl, trivial⟩⟩ rfl rfl hl.1 rfl (lv_room (Nat.le_of_ble_eq_true rfl)) dL_build_96 ⟨Nat.le_of_ble_eq_true rfl, Nat.le_of_ble_eq_true rfl⟩) hS (fun q _ h => h.elim) (fun q h => h.elim) (fun v9 u9 t9 H locs ht9 hvm9 hw9 hB9 hz9 hk9 hS => ?_)
  have hP := P_keep hP (fun q h => hk9 q h id)
  obtain ⟨j15, hj15, ej15⟩ := hw9
  rw [ej15]
  refine va_iast hx hb hT.1 hP hD hS 0 0 rfl rfl (vp_in_nI (n := 0) (N := 2) (by decide) (by decide)) dL_build_99 (fun H locs hP hD hS => ?_)
  have hP : va_P D vwCl ((q13, .inl (cy 0, 2, .inl (upd (fun _ => 0) (0 : Int32).toNatClampNeg ((nI j15))))) :: (q10, .inl (cy 0, 2, .inl (fun2 (nI (j12 + 4)) 3))) :: (q1, .inl (cy 0, 2, .inl (fun2 (nI (j4 + 1)) (nI (j8 + 1))))) :: KL z (ad9, (shR 1 (shR 0 (S0 D cy)))) (muR 1 2 (nI (j8 + 1)) (muR 0 ki0 (nI (j4 + 1)) mem0))) H := hP
  have hD : va_D A ((q13, .inl (cy 0, 2, .inl (upd (fun _ => 0) (0 : Int32).toNatClampNeg ((nI j15))))) :: (q10, .inl (cy 0, 2, .inl (fun2 (nI (j12 + 4)) 3))) :: (q1, .inl (cy 0, 2, .inl (fun2 (nI (j4 + 1)) (nI (j8 + 1))))) :: KL z (ad9, (shR 1 (shR 0 (S0 D cy)))) (muR 1 2 (nI (j8 + 1)) (muR 0 ki0 (nI (j4 + 1)) mem0))) := hD
  rw [fun2_0] at hP hD
  have hP : va_P D vwCl ((q13, .inl (cy 0, 2, .inl (fun2 (nI j15) 0))) :: (q10, .inl (cy 0, 2, .inl (fun2 (nI (j12 + 4)) 3))) :: (q1, .inl (cy 0, 2, .inl (fun2 (nI (j4 + 1)) (nI (j8 + 1))))) :: KL z (ad9, (shR 1 (shR 0 (S0 D cy)))) (muR 1 2 (nI (j8 + 1)) (muR 0 ki0 (nI (j4 + 1)) mem0))) H := hP
  have hD : va_D A ((q13, .inl (cy 0, 2, .inl (fun2 (nI j15) 0))) :: (q10, .inl (cy 0, 2, .inl (fun2 (nI (j12 + 4)) 3))) :: (q1, .inl (cy 0, 2, .inl (fun2 (nI (j4 + 1)) (nI (j8 + 1))))) :: KL z (ad9, (shR 1 (shR 0 (S0 D cy)))) (muR 1 2 (nI (j8 + 1)) (muR 0 ki0 (nI (j4 + 1)) mem0))) := hD
  refine lv_dup hx hb dL_build_100 rfl ?_
  refine lv_iconst (v := 1) hx hb dL_build_101 (by decide) ?_
  refine lv_iconst (v := 1) hx hb dL_build_102 (by decide) ?_
  refine va_iast hx hb hT.1 hP hD hS 0 0 rfl rfl (vp_in_nI (n := 1) (N := 2) (by decide) (by decide)) dL_build_103 (fun H locs hP hD hS => ?_)
  have hP : va_P D vwCl ((q13, .inl (cy 0, 2, .inl (upd (fun2 (nI j15) 0) (1 : Int32).toNatClampNeg 1))) :: (q10, .inl (cy 0, 2, .inl (fun2 (nI (j12 + 4)) 3))) :: (q1, .inl (cy 0, 2, .inl (fun2 (nI (j4 + 1)) (nI (j8 + 1))))) :: KL z (ad9, (shR 1 (shR 0 (S0 D cy)))) (muR 1 2 (nI (j8 + 1)) (muR 0 ki0 (nI (j4 + 1)) mem0))) H := hP
  have hD : va_D A ((q13, .inl (cy 0, 2, .inl (upd (fun2 (nI j15) 0) (1 : Int32).toNatClampNeg 1))) :: (q10, .inl (cy 0, 2, .inl (fun2 (nI (j12 + 4)) 3))) :: (q1, .inl (cy 0, 2, .inl (fun2 (nI (j4 + 1)) (nI (j8 + 1))))) :: KL z (ad9, (shR 1 (shR 0 (S0 D cy)))) (muR 1 2 (nI (j8 + 1)) (muR 0 ki0 (nI (j4 + 1)) mem0))) := hD
  rw [fun2_1] at hP hD
  have hP : va_P D vwCl ((q13, .inl (cy 0, 2, .inl (fun2 (nI j15) 1))) :: (q10, .inl (cy 0, 2, .inl (fun2 (nI (j12 + 4)) 3))) :: (q1, .inl (cy 0, 2, .inl (fun2 (nI (j4 + 1)) (nI (j8 + 1))))) :: KL z (ad9, (shR 1 (shR 0 (S0 D cy)))) (muR 1 2 (nI (j8 + 1)) (muR 0 ki0 (nI (j4 + 1)) mem0))) H := hP
  have hD : va_D A ((q13, .inl (cy 0, 2, .inl (fun2 (nI j15) 1))) :: (q10, .inl (cy 0, 2, .inl (fun2 (nI (j12 + 4)) 3))) :: (q1, .inl (cy 0, 2, .inl (fun2 (nI (j4 + 1)) (nI (j8 + 1))))) :: KL z (ad9, (shR 1 (shR 0 (S0 D cy)))) (muR 1 2 (nI (j8 + 1)) (muR 0 ki0 (nI (j4 + 1)) mem0))) := hD
  refine lv_astore (lv' := [(8, .ref q13), (7, .ref q10), (6, .ref q1), (5, .int 2), (0, .ref fa), (1, .ref bs), (2, .int (nI sn)), (3, .ref co), (4, .ref kd)]) hx hb dL_build_104 hl (by decide) rfl (fun ls hl => ?_)
  refine lv_iconst (v := 0) hx hb dL_build_106 (by decide) ?_
  refine lv_istore (lv' := [(9, .int 0), (8, .ref q13), (7, .ref q10), (6, .ref q1), (5, .int 2), (0, .ref fa), (1, .ref bs), (2, .int (nI sn)), (3, .ref co), (4, .ref kd)]) hx hb dL_build_107 hl (by decide) rfl (fun ls hl => ?_)
  refine lv_iload hx hb dL_build_109 (lv_at hl 0 rfl) ?_
  refine lv_iconst (v := 2) hx hb dL_build_111 (by decide) ?_
  refine lv_icmp_ge (tgt := 136) hx hb dL_build_112 (by decide) (fun h9 => absurd h9 (by decide)) (fun _ => ?_)
  refine lv_aload_n hx hb dL_build_115 rfl (lv_at hl 5 rfl) ?_
  refine lv_aload hx hb dL_build_116 (lv_at hl 2 rfl) ?_
  refine lv_iload hx hb dL_build_118 (lv_at hl 0 rfl) ?_
  refine va_iald hx hb hT.1 hP 1 0 rfl rfl (vp_in_nI (n := 0) (N := 2) (by decide) (by decide)) dL_build_120 ?_
  refine W.eq (g2 := F0 m 121 ls [.int (nI (j12 + 4)), .ref fa]) (by rfl) ?_
  refine lv_aload hx hb dL_build_121 (lv_at hl 1 rfl) ?_
  refine lv_iload hx hb dL_build_123 (lv_at hl 0 rfl) ?_
  refine va_iald hx hb hT.1 hP 0 0 rfl rfl (vp_in_nI (n := 0) (N := 2) (by decide) (by decide)) dL_build_125 ?_
  refine W.eq (g2 := F0 m 126 ls [.int (nI j15), .int (nI (j12 + 4)), .ref fa]) (by rfl) ?_
  have hKB := hKs.kb (Pr [(q13, .inl (cy 0, 2, .inl (fun2 (nI j15) 1))), (q10, .inl (cy 0, 2, .inl (fun2 (nI (j12 + 4)) 3))), (q1, .inl (cy 0, 2, .inl (fun2 (nI (j4 + 1)) (nI (j8 + 1)))))] hP)
  have hAk : ∀ q, Ak (ad9, (shR 1 (shR 0 (S0 D cy)))) H.size q → A q := fun q h => h.elim (hKA q) (fun h => hA q (Nat.le_trans hS.1 h))
  refine va_calli (va_runV (As := [.int (nI (j12 + 4)), .int (nI j15)]) (rest := []) ⟨hx, hb, hml, hown, hts⟩ (k_X8_addStore0 l (z := z) (b := b) (B := (ad9, (shR 1 (shR 0 (S0 D cy))))) (μ := (muR 1 2 (nI (j8 + 1)) (muR 0 ki0 (nI (j4 + 1)) mem0))) (x1 := (nI (j12 + 4))) (x2 := (nI j15)) rfl  hKs.2.2.2.1 (four_lt (by omega)) (n99_lt (by omega)) (nI_pos (by omega)) (four_le (by omega) (by omega)) H.size) (cwV 2 hts (gd_V q982 q983 q984 q37 q985) rfl rfl rfl hd_X8_addStore ⟨Nat.le_of_ble_eq_true rfl, Nat.le_of_ble_eq_true rfl⟩) ⟨Pk.blind, rcv9 hT hKB rfl h272, fun U hU hW => ⟨by rw [h272], ⟨Tb.warm hW hT, Em.on hW hE (by rw [hU]; exact hS) hAb⟩, by rw [hU], by rw [hU]; exact hKB⟩⟩ rfl rfl hl.1 rfl (lv_room (Nat.le_of_ble_eq_true rfl)) dL_build_126 ⟨Nat.le_of_ble_eq_true rfl, Nat.le_of_ble_eq_true rfl⟩) hS (fun q _ h => hAk q h) hAk (fun v9 u9 t9 H1 locs ht9 hvm9 hw9 hB9 hz9 hk9 hS => ?_)
  obtain ⟨ad16, ⟨hK1, hKa1⟩, e272⟩ := hB9
  rw [ht9] at hK1
  rw [hw9]
  have h272 : Bg.ad (ad16, (shS 0 (shR 1 (shR 0 (S0 D cy))))) 272 = fa := e272.trans h272
  obtain ⟨hP, hD⟩ := kl_join (cs := [(q13, .inl (cy 0, 2, .inl (fun2 (nI j15) 1))), (q10, .inl (cy 0, 2, .inl (fun2 (nI (j12 + 4)) 3))), (q1, .inl (cy 0, 2, .inl (fun2 (nI (j4 + 1)) (nI (j8 + 1)))))]) hP hD hk9 hK1 hKa1 hAk rfl
  have hKs := hK1.st
  have hKA : ∀ p, Ka (ad16, (shS 0 (shR 1 (shR 0 (S0 D cy))))) p → A p := fun p hp => hAk p (hKa1 p hp)
  clear hK1 hKa1 hKB hAk e272
  generalize H1 = H at hP hS ⊢
  have hP : va_P D vwCl ((q13, .inl (cy 0, 2, .inl (fun2 (nI j15) 1))) :: (q10, .inl (cy 0, 2, .inl (fun2 (nI (j12 + 4)) 3))) :: (q1, .inl (cy 0, 2, .inl (fun2 (nI (j4 + 1)) (nI (j8 + 1))))) :: KL z (ad16, (shS 0 (shR 1 (shR 0 (S0 D cy))))) (muS 0 (nI (j12 + 4)) (nI j15) (muR 1 2 (nI (j8 + 1)) (muR 0 ki0 (nI (j4 + 1)) mem0)))) H := hP
  have hD : va_D A ((q13, .inl (cy 0, 2, .inl (fun2 (nI j15) 1))) :: (q10, .inl (cy 0, 2, .inl (fun2 (nI (j12 + 4)) 3))) :: (q1, .inl (cy 0, 2, .inl (fun2 (nI (j4 + 1)) (nI (j8 + 1))))) :: KL z (ad16, (shS 0 (shR 1 (shR 0 (S0 D cy))))) (muS 0 (nI (j12 + 4)) (nI j15) (muR 1 2 (nI (j8 + 1)) (muR 0 ki0 (nI (j4 + 1)) mem0)))) := hD
  refine lv_pop hx hb dL_build_129 rfl ?_
  refine lv_iinc (v := 1) (lv' := [(9, .int 1), (8, .ref q13), (7, .ref q10), (6, .ref q1), (5, .int 2), (0, .ref fa), (1, .ref bs), (2, .int (nI sn)), (3, .ref co), (4, .ref kd)]) hx hb dL_build_130 hl (k := 0) rfl rfl (by decide) rfl (fun ls hl => ?_)
  refine lv_goto (tgt := 109) hx hb dL_build_133 (by decide) ?_
  refine lv_iload hx hb dL_build_109 (lv_at hl 0 rfl) ?_
  refine lv_iconst (v := 2) hx hb dL_build_111 (by decide) ?_
  refine lv_icmp_ge (tgt := 136) hx hb dL_build_112 (by decide) (fun h9 => absurd h9 (by decide)) (fun _ => ?_)
  refine lv_aload_n hx hb dL_build_115 rfl (lv_at hl 5 rfl) ?_
  refine lv_aload hx hb dL_build_116 (lv_at hl 2 rfl) ?_
  refine lv_iload hx hb dL_build_118 (lv_at hl 0 rfl) ?_
  refine va_iald hx hb hT.1 hP 1 0 rfl rfl (vp_in_nI (n := 1) (N := 2) (by decide) (by decide)) dL_build_120 ?_
  refine W.eq (g2 := F0 m 121 ls [.int 3, .ref fa]) (by rfl) ?_
  refine lv_aload hx hb dL_build_121 (lv_at hl 1 rfl) ?_
  refine lv_iload hx hb dL_build_123 (lv_at hl 0 rfl) ?_
  refine va_iald hx hb hT.1 hP 0 0 rfl rfl (vp_in_nI (n := 1) (N := 2) (by decide) (by decide)) dL_build_125 ?_
  refine W.eq (g2 := F0 m 126 ls [.int 1, .int 3, .ref fa]) (by rfl) ?_
  have hKB := hKs.kb (Pr [(q13, .inl (cy 0, 2, .inl (fun2 (nI j15) 1))), (q10, .inl (cy 0, 2, .inl (fun2 (nI (j12 + 4)) 3))), (q1, .inl (cy 0, 2, .inl (fun2 (nI (j4 + 1)) (nI (j8 + 1)))))] hP)
  have hAk : ∀ q, Ak (ad16, (shS 0 (shR 1 (shR 0 (S0 D cy))))) H.size q → A q := fun q h => h.elim (hKA q) (fun h => hA q (Nat.le_trans hS.1 h))
  refine va_calli (va_runV (As := [.int 3, .int 1]) (rest := []) ⟨hx, hb, hml, hown, hts⟩ (k_X8_addStore1 l (z := z) (b := b) (B := (ad16, (shS 0 (shR 1 (shR 0 (S0 D cy)))))) (μ := (muS 0 (nI (j12 + 4)) (nI j15) (muR 1 2 (nI (j8 + 1)) (muR 0 ki0 (nI (j4 + 1)) mem0)))) (x1 := 3) (x2 := 1) (n := 1) rfl (by decide) (by decide)  hKs.2.2.2.1 (by decide) (by decide) (by decide) (by decide) H.size) (cwV 2 hts (gd_V q982 q983 q984 q37 q985) rfl rfl rfl hd_X8_addStore ⟨Nat.le_of_ble_eq_true rfl, Nat.le_of_ble_eq_true rfl⟩) ⟨Pk.blind, rcv9 hT hKB rfl h272, fun U hU hW => ⟨by rw [h272], ⟨Tb.warm hW hT, Em.on hW hE (by rw [hU]; exact hS) hAb⟩, by rw [hU], by rw [hU]; exact hKB⟩⟩ rfl rfl hl.1 rfl (lv_room (Nat.le_of_ble_eq_true rfl)) dL_build_126 ⟨Nat.le_of_ble_eq_true rfl, Nat.le_of_ble_eq_true rfl⟩) hS (fun q _ h => hAk q h) hAk (fun v9 u9 t9 H1 locs ht9 hvm9 hw9 hB9 hz9 hk9 hS => ?_)
  obtain ⟨ad17, ⟨hK1, hKa1⟩, e272⟩ := hB9
  rw [ht9] at hK1
  rw [hw9]
  have h272 : Bg.ad (ad17, (shS 1 (shS 0 (shR 1 (shR 0 (S0 D cy)))))) 272 = fa := e272.trans h272
  obtain ⟨hP, hD⟩ := kl_join (cs := [(q13, .inl (cy 0, 2, .inl (fun2 (nI j15) 1))), (q10, .inl (cy 0, 2, .inl (fun2 (nI (j12 + 4)) 3))), (q1, .inl (cy 0, 2, .inl (fun2 (nI (j4 + 1)) (nI (j8 + 1)))))]) hP hD hk9 hK1 hKa1 hAk rfl
  have hKs := hK1.st
  have hKA : ∀ p, Ka (ad17, (shS 1 (shS 0 (shR 1 (shR 0 (S0 D cy)))))) p → A p := fun p hp => hAk p (hKa1 p hp)
  clear hK1 hKa1 hKB hAk e272
  generalize H1 = H at hP hS ⊢
  have hP : va_P D vwCl ((q13, .inl (cy 0, 2, .inl (fun2 (nI j15) 1))) :: (q10, .inl (cy 0, 2, .inl (fun2 (nI (j12 + 4)) 3))) :: (q1, .inl (cy 0, 2, .inl (fun2 (nI (j4 + 1)) (nI (j8 + 1))))) :: KL z (ad17, (shS 1 (shS 0 (shR 1 (shR 0 (S0 D cy)))))) (muS 1 3 1 (muS 0 (nI (j12 + 4)) (nI j15) (muR 1 2 (nI (j8 + 1)) (muR 0 ki0 (nI (j4 + 1)) mem0))))) H := hP
  have hD : va_D A ((q13, .inl (cy 0, 2, .inl (fun2 (nI j15) 1))) :: (q10, .inl (cy 0, 2, .inl (fun2 (nI (j12 + 4)) 3))) :: (q1, .inl (cy 0, 2, .inl (fun2 (nI (j4 + 1)) (nI (j8 + 1))))) :: KL z (ad17, (shS 1 (shS 0 (shR 1 (shR 0 (S0 D cy)))))) (muS 1 3 1 (muS 0 (nI (j12 + 4)) (nI j15) (muR 1 2 (nI (j8 + 1)) (muR 0 ki0 (nI (j4 + 1)) mem0))))) := hD
  refine lv_pop hx hb dL_build_129 rfl ?_
  refine lv_iinc (v := 2) (lv' := [(9, .int 2), (8, .ref q13), (7, .ref q10), (6, .ref q1), (5, .int 2), (0, .ref fa), (1, .ref bs), (2, .int (nI sn)), (3, .ref co), (4, .ref kd)]) hx hb dL_build_130 hl (k := 0) rfl rfl (by decide) rfl (fun ls hl => ?_)
  refine lv_goto (tgt := 109) hx hb dL_build_133 (by decide) ?_
  refine lv_iload hx hb dL_build_109 (lv_at hl 0 rfl) ?_
  refine lv_iconst (v := 2) hx hb dL_build_111 (by decide) ?_
  refine lv_icmp_ge (tgt := 136) hx hb dL_build_112 (by decide) (fun _ => ?_) (fun h9 => absurd (by decide) h9)
  refine lv_aload_n hx hb dL_build_136 rfl (lv_at hl 5 rfl) ?_
  refine lv_iconst (v := 1) hx hb dL_build_137 (by decide) ?_
  refine lv_aload_n hx hb dL_build_138 rfl (lv_at hl 6 rfl) ?_
  refine lv_iconst (v := 5) hx hb dL_build_139 (by decide) ?_
  refine va_calli (va_runS (As := [.ref bs, .int 5]) (rest := [.int 1, .ref fa]) ⟨hx, hb, hml, hown, hts⟩ (k_L_cell l (b := bs) (L := L) (xs := xs) hL (k := 5) (by decide)) (va_cwS 2 hts (gd_S q928 q929 q36 q930) rfl rfl rfl hd_L_cell.2 ⟨Nat.le_of_ble_eq_true rfl, Nat.le_of_ble_eq_true rfl⟩) ⟨Pcell.blind, fun U hU hW => ⟨rfl, by show va_X bs L xs U U.heap; rw [hU]; exact (va_X.moved hW.alike hXs).kept (hS.2.1 _ hbl hbA)⟩⟩ rfl rfl hl.1 rfl (lv_room (Nat.le_of_ble_eq_true rfl)) dL_build_140 ⟨Nat.le_of_ble_eq_true rfl, Nat.le_of_ble_eq_true rfl⟩) hS (fun q _ h => h.elim) (fun q h => h.elim) (fun x18 u9 t9 H locs ht9 hvm9 hw9 hB9 hz9 hk9 hS => ?_)
  have hP := P_keep hP (fun q h => hk9 q h id)
  refine lv_iconst (v := 3) hx hb dL_build_143 (by decide) ?_
  refine va_calli (va_runS (As := [.int x18, .int 3]) (rest := [.int 1, .ref fa]) ⟨hx, hb, hml, hown, hts⟩ (k_L_below l (n := 3) (by decide) (by decide)) (va_cwS 2 hts (gd_S q924 q925 q36 q926) rfl rfl rfl hd_L_below.2 ⟨Nat.le_of_ble_eq_true rfl, Nat.le_of_ble_eq_true rfl⟩) ⟨Pb.blind, fun U hU hW => ⟨rfl, trivial⟩⟩ rfl rfl hl.1 rfl (lv_room (Nat.le_of_ble_eq_true rfl)) dL_build_144 ⟨Nat.le_of_ble_eq_true rfl, Nat.le_of_ble_eq_true rfl⟩) hS (fun q _ h => h.elim) (fun q h => h.elim) (fun v9 u9 t9 H locs ht9 hvm9 hw9 hB9 hz9 hk9 hS => ?_)
  have hP := P_keep hP (fun q h => hk9 q h id)
  obtain ⟨j19, hj19, ej19⟩ := hw9
  rw [ej19]
  refine lv_iadd hx hb dL_build_147 ?_
  refine W.eq (g2 := F0 m 148 ls [.int (nI (j19 + 1)), .ref fa]) (by rw [lit_nI 1]) ?_
  have hKB := hKs.kb (Pr [(q13, .inl (cy 0, 2, .inl (fun2 (nI j15) 1))), (q10, .inl (cy 0, 2, .inl (fun2 (nI (j12 + 4)) 3))), (q1, .inl (cy 0, 2, .inl (fun2 (nI (j4 + 1)) (nI (j8 + 1)))))] hP)
  have hAk : ∀ q, Ak (ad17, (shS 1 (shS 0 (shR 1 (shR 0 (S0 D cy)))))) H.size q → A q := fun q h => h.elim (hKA q) (fun h => hA q (Nat.le_trans hS.1 h))
  refine va_calli (va_runV (As := [.int (nI (j19 + 1))]) (rest := []) ⟨hx, hb, hml, hown, hts⟩ (k_X8_addTally l (z := z) (b := b) (B := (ad17, (shS 1 (shS 0 (shR 1 (shR 0 (S0 D cy))))))) (μ := (muS 1 3 1 (muS 0 (nI (j12 + 4)) (nI j15) (muR 1 2 (nI (j8 + 1)) (muR 0 ki0 (nI (j4 + 1)) mem0))))) (x1 := (nI (j19 + 1))) rfl hKs.2.2.2.1 (one_lt (by omega)) (n20_lt (by omega)) H.size) (cwV 1 hts (gd_V q1012 q1013 q1014 q37 q1015) rfl rfl rfl hd_X8_addTally ⟨Nat.le_of_ble_eq_true rfl, Nat.le_of_ble_eq_true rfl⟩) ⟨Pk.blind, rcv9 hT hKB rfl h272, fun U hU hW => ⟨by rw [h272], ⟨Tb.warm hW hT, Em.on hW hE (by rw [hU]; exact hS) hAb⟩, by rw [hU], by rw [hU]; exact hKB⟩⟩ rfl rfl hl.1 rfl (lv_room (Nat.le_of_ble_eq_true rfl)) dL_build_148 ⟨Nat.le_of_ble_eq_true rfl, Nat.le_of_ble_eq_true rfl⟩) hS (fun q _ h => hAk q h) hAk (fun v9 u9 t9 H1 locs ht9 hvm9 hw9 hB9 hz9 hk9 hS => ?_)
  obtain ⟨ad20, ⟨hK1, hKa1⟩, e272⟩ := hB9
  rw [ht9] at hK1
  rw [hw9]
  have h272 : Bg.ad (ad20, (shT (fun j => if j = 0 then (nI (j19 + 1)) else 0) (shS 1 (shS 0 (shR 1 (shR 0 (S0 D cy))))))) 272 = fa := e272.trans h272
  obtain ⟨hP, hD⟩ := kl_join (cs := [(q13, .inl (cy 0, 2, .inl (fun2 (nI j15) 1))), (q10, .inl (cy 0, 2, .inl (fun2 (nI (j12 + 4)) 3))), (q1, .inl (cy 0, 2, .inl (fun2 (nI (j4 + 1)) (nI (j8 + 1)))))]) hP hD hk9 hK1 hKa1 hAk rfl
  have hKs := hK1.st
  have hKA : ∀ p, Ka (ad20, (shT (fun j => if j = 0 then (nI (j19 + 1)) else 0) (shS 1 (shS 0 (shR 1 (shR 0 (S0 D cy))))))) p → A p := fun p hp => hAk p (hKa1 p hp)
  clear hK1 hKa1 hKB hAk e272
  generalize H1 = H at hP hS ⊢
  have hP : va_P D vwCl ((q13, .inl (cy 0, 2, .inl (fun2 (nI j15) 1))) :: (q10, .inl (cy 0, 2, .inl (fun2 (nI (j12 + 4)) 3))) :: (q1, .inl (cy 0, 2, .inl (fun2 (nI (j4 + 1)) (nI (j8 + 1))))) :: KL z (ad20, (shT (fun j => if j = 0 then (nI (j19 + 1)) else 0) (shS 1 (shS 0 (shR 1 (shR 0 (S0 D cy))))))) (muS 1 3 1 (muS 0 (nI (j12 + 4)) (nI j15) (muR 1 2 (nI (j8 + 1)) (muR 0 ki0 (nI (j4 + 1)) mem0))))) H := hP
  have hD : va_D A ((q13, .inl (cy 0, 2, .inl (fun2 (nI j15) 1))) :: (q10, .inl (cy 0, 2, .inl (fun2 (nI (j12 + 4)) 3))) :: (q1, .inl (cy 0, 2, .inl (fun2 (nI (j4 + 1)) (nI (j8 + 1))))) :: KL z (ad20, (shT (fun j => if j = 0 then (nI (j19 + 1)) else 0) (shS 1 (shS 0 (shR 1 (shR 0 (S0 D cy))))))) (muS 1 3 1 (muS 0 (nI (j12 + 4)) (nI j15) (muR 1 2 (nI (j8 + 1)) (muR 0 ki0 (nI (j4 + 1)) mem0))))) := hD
  refine lv_pop hx hb dL_build_151 rfl ?_
  have hov : (Cond.arrayOver (.array (.array .int))).before ([.ref fa, .ref bs, .int (nI sn), .ref co, .ref kd] : List Value).toArray s = true := over_moved (Vm.Alike.refl s.vm) hX.2.1
  refine lv_iload_n hx hb dL_build_152 rfl (lv_at hl 7 rfl) ?_
  refine va_newA (t := .array .int) (N := sn) hx hb hown (hts _ q1062) hov hP hD hS hA (nI_pos (by omega)) (nI_clamp (by omega)) (by omega) (Nat.le_of_ble_eq_true rfl) (by show _ ≤ 12400; omega) dL_build_153 (fun scr cO cP H _ hcO _ hP hD _ hS => ?_)
  have hP := Pnw hP
  have hD := Dnw hD
  have hP : va_P D vwCl ((scr, .inl (cO, sn, .inr (.inr (.inr (.inr (fun _ => none)))))) :: (q13, .inl (cy 0, 2, .inl (fun2 (nI j15) 1))) :: (q10, .inl (cy 0, 2, .inl (fun2 (nI (j12 + 4)) 3))) :: (q1, .inl (cy 0, 2, .inl (fun2 (nI (j4 + 1)) (nI (j8 + 1))))) :: KL z (ad20, (shT (fun j => if j = 0 then (nI (j19 + 1)) else 0) (shS 1 (shS 0 (shR 1 (shR 0 (S0 D cy))))))) (muS 1 3 1 (muS 0 (nI (j12 + 4)) (nI j15) (muR 1 2 (nI (j8 + 1)) (muR 0 ki0 (nI (j4 + 1)) mem0))))) H := hP
  have hD : va_D A ((scr, .inl (cO, sn, .inr (.inr (.inr (.inr (fun _ => none)))))) :: (q13, .inl (cy 0, 2, .inl (fun2 (nI j15) 1))) :: (q10, .inl (cy 0, 2, .inl (fun2 (nI (j12 + 4)) 3))) :: (q1, .inl (cy 0, 2, .inl (fun2 (nI (j4 + 1)) (nI (j8 + 1))))) :: KL z (ad20, (shT (fun j => if j = 0 then (nI (j19 + 1)) else 0) (shS 1 (shS 0 (shR 1 (shR 0 (S0 D cy))))))) (muS 1 3 1 (muS 0 (nI (j12 + 4)) (nI j15) (muR 1 2 (nI (j8 + 1)) (muR 0 ki0 (nI (j4 + 1)) mem0))))) := hD
  refine lv_astore (lv' := [(9, .ref scr), (8, .ref q13), (7, .ref q10), (6, .ref q1), (5, .int 2), (0, .ref fa), (1, .ref bs), (2, .int (nI sn)), (3, .ref co), (4, .ref kd)]) hx hb dL_build_156 hl (by decide) rfl (fun ls hl => ?_)
  refine lv_iload_n hx hb dL_build_158 rfl (lv_at hl 7 rfl) ?_
  refine va_newa (atype := .int) (ty := .int) (N' := sn) (a0 := (sn, .inl (fun _ => 0))) hx hb (hts _ q187) rfl hT.1 hP hD hS hA (fun _ => rfl) (nI_pos (by omega)) (nI_clamp (by omega)) (by show sn * 4 ≤ _; omega) (by show _ ≤ 250; omega) (by show _ ≤ 12400; omega) dL_build_159 (fun q21 cA H hK9 hP hD hS => ?_)
  have e9 : cA = cy 0 := RAi hK9 (show (tysB cy)[0]? = some (cy 0, .int) from rfl)
  rw [e9] at hP hD
  have hP := Pnw hP
  have hD := Dnw hD
  have hP : va_P D vwCl ((q21, .inl (cy 0, sn, .inl (fun _ => 0))) :: (scr, .inl (cO, sn, .inr (.inr (.inr (.inr (fun _ => none)))))) :: (q13, .inl (cy 0, 2, .inl (fun2 (nI j15) 1))) :: (q10, .inl (cy 0, 2, .inl (fun2 (nI (j12 + 4)) 3))) :: (q1, .inl (cy 0, 2, .inl (fun2 (nI (j4 + 1)) (nI (j8 + 1))))) :: KL z (ad20, (shT (fun j => if j = 0 then (nI (j19 + 1)) else 0) (shS 1 (shS 0 (shR 1 (shR 0 (S0 D cy))))))) (muS 1 3 1 (muS 0 (nI (j12 + 4)) (nI j15) (muR 1 2 (nI (j8 + 1)) (muR 0 ki0 (nI (j4 + 1)) mem0))))) H := hP
  have hD : va_D A ((q21, .inl (cy 0, sn, .inl (fun _ => 0))) :: (scr, .inl (cO, sn, .inr (.inr (.inr (.inr (fun _ => none)))))) :: (q13, .inl (cy 0, 2, .inl (fun2 (nI j15) 1))) :: (q10, .inl (cy 0, 2, .inl (fun2 (nI (j12 + 4)) 3))) :: (q1, .inl (cy 0, 2, .inl (fun2 (nI (j4 + 1)) (nI (j8 + 1))))) :: KL z (ad20, (shT (fun j => if j = 0 then (nI (j19 + 1)) else 0) (shS 1 (shS 0 (shR 1 (shR 0 (S0 D cy))))))) (muS 1 3 1 (muS 0 (nI (j12 + 4)) (nI j15) (muR 1 2 (nI (j8 + 1)) (muR 0 ki0 (nI (j4 + 1)) mem0))))) := hD
  refine lv_astore (lv' := [(10, .ref q21), (9, .ref scr), (8, .ref q13), (7, .ref q10), (6, .ref q1), (5, .int 2), (0, .ref fa), (1, .ref bs), (2, .int (nI sn)), (3, .ref co), (4, .ref kd)]) hx hb dL_build_161 hl (by decide) rfl (fun ls hl => ?_)
  refine lv_iconst (v := 0) hx hb dL_build_163 (by decide) ?_
  refine lv_istore (lv' := [(11, .int 0), (10, .ref q21), (9, .ref scr), (8, .ref q13), (7, .ref q10), (6, .ref q1), (5, .int 2), (0, .ref fa), (1, .ref bs), (2, .int (nI sn)), (3, .ref co), (4, .ref kd)]) hx hb dL_build_164 hl (by decide) rfl (fun ls hl => ?_)
  have ez4 : ∀ j, (shS 1 (shS 0 (shR 1 (shR 0 (S0 D cy))))).2.2.1 (10 + j) = 0 := fun j => by
    show (if 10 + j = 1 then 1 + 1 else if 10 + j = 1 then 0 + 1 else if 10 + j = 0 then 1 + 1 else if 10 + j = 0 then 0 + 1 else 0) = 0
    rw [if_neg (by omega), if_neg (by omega), if_neg (by omega), if_neg (by omega)]
  have hfu : ∀ r, r < 2 → ∃ w, 1 ≤ w ∧ w ≤ 3 ∧ fun2 (nI (j4 + 1)) (nI (j8 + 1)) r = nI w := fun r hr => by
    rcases (show r = 0 ∨ r = 1 by omega) with rfl | rfl
    · exact ⟨j4 + 1, by omega, by omega, rfl⟩
    · exact ⟨j8 + 1, by omega, by omega, rfl⟩
  refine W.widen (k := 24 + 3 * 0) (n := 159 + 25 * 0) (by omega) (by omega) ?_
  refine build_adds l hL hs1 hs3 hx hb hml hts hown hT hE hX hXs hbl hbA hAb hA hPo (μ := (muB ki0 j4 j8 j12 j15)) (trv := trB j19) (q13 := q13) (q10 := q10) (q1 := q1) (ha := q21) (scr := scr) (cO := cO) (fh := fun _ => 0) (fl := fun2 (nI j15) 1) (fr := fun2 (nI (j12 + 4)) 3) (fu := fun2 (nI (j4 + 1)) (nI (j8 + 1))) (fs := fun _ => none) (c3 := 24) (s3 := 159) (by omega) (by omega) (fun ad szf shf H locs ls hKs hKA h272 z0 z1 z2 z4 hP hD hS hl => ?_) sn 0 ad20 (shS 1 (shS 0 (shR 1 (shR 0 (S0 D cy))))).2.2.1 (shS 1 (shS 0 (shR 1 (shR 0 (S0 D cy))))).2.2.2.1 H locs ls (by omega) hKs hKA h272 rfl rfl rfl ez4 hP hD hS (lv_sub hl [0, 1, 2, 3, 4, 5, 6, 7, 8, 9, 10, 11] rfl)
  refine lv_iconst (v := 0) hx hb dL_build_183 (by decide) ?_
  refine lv_istore (lv' := [(11, .int 0), (10, .ref q21), (9, .ref scr), (8, .ref q13), (7, .ref q10), (6, .ref q1), (5, .int 2), (0, .ref fa), (1, .ref bs), (2, .int (nI sn)), (3, .ref co), (4, .ref kd)]) hx hb dL_build_184 hl (by decide) rfl (fun ls hl => ?_)
  refine W.widen (k := 33 + 25 * 0) (n := 234 + 144 * 0) (by omega) (by omega) ?_
  refine build_scripts l hL hs1 hs3 hx hb hml hts hown hT hE hX hXs hbl hbA hAb hA hPo (μ := (muB ki0 j4 j8 j12 j15)) (trv := trB j19) (fl := fun2 (nI j15) 1) (fr := fun2 (nI (j12 + 4)) 3) (fu := fun2 (nI (j4 + 1)) (nI (j8 + 1))) hcO hfu hfc (c2 := 33) (s2 := 234) (by omega) (by omega) (fun ad szf shf fh fs H locs ls hKs hKA h272 z0 z1 z2 hF hP hD hS hl => ?_) sn 0 ad szf shf (fun _ => 0) (fun _ => none) H locs ls (by omega) hKs hKA h272 z0 z1 z2 (fun j _ => z4 j) (fun j i hi => absurd hi (by rw [z4 j]; omega)) hP hD hS (lv_sub hl [0, 1, 2, 3, 4, 5, 6, 7, 8, 9, 10, 11] rfl)
  refine W.widen (k := 108) (n := 666) (by omega) (by omega) ?_
  refine va_new (ci := 10) (fs := [.null, .null, .null, .null, .null, .null, .null, .int 0, .int 0, .int 0, .int 0, .int 0, .null, .null, .null, .null, .null, .null, .null, .null, .null, .null, .null, .null, .null, .null, .null, .null, .null, .null, .null, .null, .null, .null, .null]) (C := RX9) (T := TX9) (N := 35) hx hb hts i_X9 tyX9 tyX9_ok hown (hts _ q1132) (hts _ q1133) (hts _ q60) hT.1 hP hD hS hA rfl (fun j hj => by rcases (show j = 0 ∨ j = 1 ∨ j = 2 ∨ j = 3 ∨ j = 4 ∨ j = 5 ∨ j = 6 ∨ j = 7 ∨ j = 8 ∨ j = 9 ∨ j = 10 ∨ j = 11 ∨ j = 12 ∨ j = 13 ∨ j = 14 ∨ j = 15 ∨ j = 16 ∨ j = 17 ∨ j = 18 ∨ j = 19 ∨ j = 20 ∨ j = 21 ∨ j = 22 ∨ j = 23 ∨ j = 24 ∨ j = 25 ∨ j = 26 ∨ j = 27 ∨ j = 28 ∨ j = 29 ∨ j = 30 ∨ j = 31 ∨ j = 32 ∨ j = 33 ∨ j = 34 by omega) with rfl | rfl | rfl | rfl | rfl | rfl | rfl | rfl | rfl | rfl | rfl | rfl | rfl | rfl | rfl | rfl | rfl | rfl | rfl | rfl | rfl | rfl | rfl | rfl | rfl | rfl | rfl | rfl | rfl | rfl | rfl | rfl | rfl | rfl | rfl <;> rfl) (Nat.le_of_ble_eq_true rfl) (Nat.le_of_ble_eq_true rfl) dL_build_621 (fun sim H hP hD hS => ?_)
  have hP := Pnw hP
  have hD := Dnw hD
  have hP : va_P D vwCl ((sim, .inr (10, [.null, .null, .null, .null, .null, .null, .null, .int 0, .int 0, .int 0, .int 0, .int 0, .null, .null, .null, .null, .null, .null, .null, .null, .null, .null, .null, .null, .null, .null, .null, .null, .null, .null, .null, .null, .null, .null, .null])) :: (q21, .inl (cy 0, sn, .inl fh)) :: (scr, .inl (cO, sn, .inr (.inr (.inr (.inr fs))))) :: (q13, .inl (cy 0, 2, .inl (fun2 (nI j15) 1))) :: (q10, .inl (cy 0, 2, .inl (fun2 (nI (j12 + 4)) 3))) :: (q1, .inl (cy 0, 2, .inl (fun2 (nI (j4 + 1)) (nI (j8 + 1))))) :: KL z (ad, (D, cy, szf, shf, 1, trB j19)) (muB ki0 j4 j8 j12 j15)) H := hP
  have hD : va_D A ((sim, .inr (10, [.null, .null, .null, .null, .null, .null, .null, .int 0, .int 0, .int 0, .int 0, .int 0, .null, .null, .null, .null, .null, .null, .null, .null, .null, .null, .null, .null, .null, .null, .null, .null, .null, .null, .null, .null, .null, .null, .null])) :: (q21, .inl (cy 0, sn, .inl fh)) :: (scr, .inl (cO, sn, .inr (.inr (.inr (.inr fs))))) :: (q13, .inl (cy 0, 2, .inl (fun2 (nI j15) 1))) :: (q10, .inl (cy 0, 2, .inl (fun2 (nI (j12 + 4)) 3))) :: (q1, .inl (cy 0, 2, .inl (fun2 (nI (j4 + 1)) (nI (j8 + 1))))) :: KL z (ad, (D, cy, szf, shf, 1, trB j19)) (muB ki0 j4 j8 j12 j15)) := hD
  refine lv_dup hx hb dL_build_624 rfl ?_
  refine lv_aload hx hb dL_build_625 (lv_at hl 1 rfl) ?_
  refine lv_aload hx hb dL_build_627 (lv_at hl 0 rfl) ?_
  refine lv_aload hx hb dL_build_629 (lv_at hl 10 rfl) ?_
  refine lv_aload hx hb dL_build_631 (lv_at hl 4 rfl) ?_
  refine lv_aload hx hb dL_build_633 (lv_at hl 3 rfl) ?_
  refine lv_aload hx hb dL_build_635 (lv_at hl 2 rfl) ?_
  have hP := Pmv [(sim, .inr (10, [.null, .null, .null, .null, .null, .null, .null, .int 0, .int 0, .int 0, .int 0, .int 0, .null, .null, .null, .null, .null, .null, .null, .null, .null, .null, .null, .null, .null, .null, .null, .null, .null, .null, .null, .null, .null, .null, .null])), (q21, .inl (cy 0, sn, .inl fh)), (scr, .inl (cO, sn, .inr (.inr (.inr (.inr fs)))))] hP
  have hD := Dmv [(sim, .inr (10, [.null, .null, .null, .null, .null, .null, .null, .int 0, .int 0, .int 0, .int 0, .int 0, .null, .null, .null, .null, .null, .null, .null, .null, .null, .null, .null, .null, .null, .null, .null, .null, .null, .null, .null, .null, .null, .null, .null])), (q21, .inl (cy 0, sn, .inl fh)), (scr, .inl (cO, sn, .inr (.inr (.inr (.inr fs)))))] hD
  have hP : va_P D vwCl ((q13, .inl (cy 0, 2, .inl (fun2 (nI j15) 1))) :: (sim, .inr (10, [.null, .null, .null, .null, .null, .null, .null, .int 0, .int 0, .int 0, .int 0, .int 0, .null, .null, .null, .null, .null, .null, .null, .null, .null, .null, .null, .null, .null, .null, .null, .null, .null, .null, .null, .null, .null, .null, .null])) :: (q21, .inl (cy 0, sn, .inl fh)) :: (scr, .inl (cO, sn, .inr (.inr (.inr (.inr fs))))) :: (q10, .inl (cy 0, 2, .inl (fun2 (nI (j12 + 4)) 3))) :: (q1, .inl (cy 0, 2, .inl (fun2 (nI (j4 + 1)) (nI (j8 + 1))))) :: KL z (ad, (D, cy, szf, shf, 1, trB j19)) (muB ki0 j4 j8 j12 j15)) H := hP
  have hD : va_D A ((q13, .inl (cy 0, 2, .inl (fun2 (nI j15) 1))) :: (sim, .inr (10, [.null, .null, .null, .null, .null, .null, .null, .int 0, .int 0, .int 0, .int 0, .int 0, .null, .null, .null, .null, .null, .null, .null, .null, .null, .null, .null, .null, .null, .null, .null, .null, .null, .null, .null, .null, .null, .null, .null])) :: (q21, .inl (cy 0, sn, .inl fh)) :: (scr, .inl (cO, sn, .inr (.inr (.inr (.inr fs))))) :: (q10, .inl (cy 0, 2, .inl (fun2 (nI (j12 + 4)) 3))) :: (q1, .inl (cy 0, 2, .inl (fun2 (nI (j4 + 1)) (nI (j8 + 1))))) :: KL z (ad, (D, cy, szf, shf, 1, trB j19)) (muB ki0 j4 j8 j12 j15)) := hD
  have hP := Pmv [(q13, .inl (cy 0, 2, .inl (fun2 (nI j15) 1))), (sim, .inr (10, [.null, .null, .null, .null, .null, .null, .null, .int 0, .int 0, .int 0, .int 0, .int 0, .null, .null, .null, .null, .null, .null, .null, .null, .null, .null, .null, .null, .null, .null, .null, .null, .null, .null, .null, .null, .null, .null, .null])), (q21, .inl (cy 0, sn, .inl fh)), (scr, .inl (cO, sn, .inr (.inr (.inr (.inr fs))))), (q10, .inl (cy 0, 2, .inl (fun2 (nI (j12 + 4)) 3)))] hP
  have hD := Dmv [(q13, .inl (cy 0, 2, .inl (fun2 (nI j15) 1))), (sim, .inr (10, [.null, .null, .null, .null, .null, .null, .null, .int 0, .int 0, .int 0, .int 0, .int 0, .null, .null, .null, .null, .null, .null, .null, .null, .null, .null, .null, .null, .null, .null, .null, .null, .null, .null, .null, .null, .null, .null, .null])), (q21, .inl (cy 0, sn, .inl fh)), (scr, .inl (cO, sn, .inr (.inr (.inr (.inr fs))))), (q10, .inl (cy 0, 2, .inl (fun2 (nI (j12 + 4)) 3)))] hD
  have hP : va_P D vwCl ((q1, .inl (cy 0, 2, .inl (fun2 (nI (j4 + 1)) (nI (j8 + 1))))) :: (q13, .inl (cy 0, 2, .inl (fun2 (nI j15) 1))) :: (sim, .inr (10, [.null, .null, .null, .null, .null, .null, .null, .int 0, .int 0, .int 0, .int 0, .int 0, .null, .null, .null, .null, .null, .null, .null, .null, .null, .null, .null, .null, .null, .null, .null, .null, .null, .null, .null, .null, .null, .null, .null])) :: (q21, .inl (cy 0, sn, .inl fh)) :: (scr, .inl (cO, sn, .inr (.inr (.inr (.inr fs))))) :: (q10, .inl (cy 0, 2, .inl (fun2 (nI (j12 + 4)) 3))) :: KL z (ad, (D, cy, szf, shf, 1, trB j19)) (muB ki0 j4 j8 j12 j15)) H := hP
  have hD : va_D A ((q1, .inl (cy 0, 2, .inl (fun2 (nI (j4 + 1)) (nI (j8 + 1))))) :: (q13, .inl (cy 0, 2, .inl (fun2 (nI j15) 1))) :: (sim, .inr (10, [.null, .null, .null, .null, .null, .null, .null, .int 0, .int 0, .int 0, .int 0, .int 0, .null, .null, .null, .null, .null, .null, .null, .null, .null, .null, .null, .null, .null, .null, .null, .null, .null, .null, .null, .null, .null, .null, .null])) :: (q21, .inl (cy 0, sn, .inl fh)) :: (scr, .inl (cO, sn, .inr (.inr (.inr (.inr fs))))) :: (q10, .inl (cy 0, 2, .inl (fun2 (nI (j12 + 4)) 3))) :: KL z (ad, (D, cy, szf, shf, 1, trB j19)) (muB ki0 j4 j8 j12 j15)) := hD
  have hP := Pmv [(q1, .inl (cy 0, 2, .inl (fun2 (nI (j4 + 1)) (nI (j8 + 1))))), (q13, .inl (cy 0, 2, .inl (fun2 (nI j15) 1)))] hP
  have hD := Dmv [(q1, .inl (cy 0, 2, .inl (fun2 (nI (j4 + 1)) (nI (j8 + 1))))), (q13, .inl (cy 0, 2, .inl (fun2 (nI j15) 1)))] hD
  have hP : va_P D vwCl ((sim, .inr (10, [.null, .null, .null, .null, .null, .null, .null, .int 0, .int 0, .int 0, .int 0, .int 0, .null, .null, .null, .null, .null, .null, .null, .null, .null, .null, .null, .null, .null, .null, .null, .null, .null, .null, .null, .null, .null, .null, .null])) :: (q1, .inl (cy 0, 2, .inl (fun2 (nI (j4 + 1)) (nI (j8 + 1))))) :: (q13, .inl (cy 0, 2, .inl (fun2 (nI j15) 1))) :: (q21, .inl (cy 0, sn, .inl fh)) :: (scr, .inl (cO, sn, .inr (.inr (.inr (.inr fs))))) :: (q10, .inl (cy 0, 2, .inl (fun2 (nI (j12 + 4)) 3))) :: KL z (ad, (D, cy, szf, shf, 1, trB j19)) (muB ki0 j4 j8 j12 j15)) H := hP
  have hD : va_D A ((sim, .inr (10, [.null, .null, .null, .null, .null, .null, .null, .int 0, .int 0, .int 0, .int 0, .int 0, .null, .null, .null, .null, .null, .null, .null, .null, .null, .null, .null, .null, .null, .null, .null, .null, .null, .null, .null, .null, .null, .null, .null])) :: (q1, .inl (cy 0, 2, .inl (fun2 (nI (j4 + 1)) (nI (j8 + 1))))) :: (q13, .inl (cy 0, 2, .inl (fun2 (nI j15) 1))) :: (q21, .inl (cy 0, sn, .inl fh)) :: (scr, .inl (cO, sn, .inr (.inr (.inr (.inr fs))))) :: (q10, .inl (cy 0, 2, .inl (fun2 (nI (j12 + 4)) 3))) :: KL z (ad, (D, cy, szf, shf, 1, trB j19)) (muB ki0 j4 j8 j12 j15)) := hD
  have hPc := Pl [(sim, .inr (10, [.null, .null, .null, .null, .null, .null, .null, .int 0, .int 0, .int 0, .int 0, .int 0, .null, .null, .null, .null, .null, .null, .null, .null, .null, .null, .null, .null, .null, .null, .null, .null, .null, .null, .null, .null, .null, .null, .null])), (q1, .inl (cy 0, 2, .inl (fun2 (nI (j4 + 1)) (nI (j8 + 1))))), (q13, .inl (cy 0, 2, .inl (fun2 (nI j15) 1)))] hP
  have hDc := Dl [(sim, .inr (10, [.null, .null, .null, .null, .null, .null, .null, .int 0, .int 0, .int 0, .int 0, .int 0, .null, .null, .null, .null, .null, .null, .null, .null, .null, .null, .null, .null, .null, .null, .null, .null, .null, .null, .null, .null, .null, .null, .null])), (q1, .inl (cy 0, 2, .inl (fun2 (nI (j4 + 1)) (nI (j8 + 1))))), (q13, .inl (cy 0, 2, .inl (fun2 (nI j15) 1)))] hD
  have hFc := Ff (w1 := [(sim, .inr (10, [.null, .null, .null, .null, .null, .null, .null, .int 0, .int 0, .int 0, .int 0, .int 0, .null, .null, .null, .null, .null, .null, .null, .null, .null, .null, .null, .null, .null, .null, .null, .null, .null, .null, .null, .null, .null, .null, .null])), (q1, .inl (cy 0, 2, .inl (fun2 (nI (j4 + 1)) (nI (j8 + 1))))), (q13, .inl (cy 0, 2, .inl (fun2 (nI j15) 1)))]) hD hS hA
  refine va_callv (va_runI (As := [.ref scr, .ref q21, .ref kd, .ref q1, .ref q10, .ref q13]) (rest := [.ref sim]) ⟨hx, hb, hml, hown, hts⟩ (x_X9_init l (D := D) (tys := tysB cy) (k0 := 0) rfl sim scr q21 kd q1 q10 q13 (fun2 (nI (j4 + 1)) (nI (j8 + 1))) (fun2 (nI j15) 1) H.size) (cwI 6 hts (gd_code q1136) rfl rfl rfl (hts _ q60) (hts _ q1134) (hts _ q1135) rfl hd_X9_init.2 ⟨Nat.le_of_ble_eq_true rfl, Nat.le_of_ble_eq_true rfl⟩) ⟨Px9.blind, fun U hU hW => ⟨rfl, ⟨T3.warm hW (Tb.t3 hT), Tx.warm hW hX⟩, by show U.heap.size = _; rw [hU], by rw [hU]; exact hPc, hDc.weaken (fun _ _ _ _ => trivial)⟩⟩ rfl rfl hl.1 rfl (lv_room (Nat.le_of_ble_eq_true rfl)) dL_build_637 ⟨Nat.le_of_ble_eq_true rfl, Nat.le_of_ble_eq_true rfl⟩) hS (fun q _ h => hFc q h) hFc (fun u9 t9 H1 locs ht9 hvm9 hw9 hB9 hz9 hk9 hS => ?_)
  obtain ⟨fs9, hf3, hf5, hP1⟩ := hB9
  rw [ht9] at hP1
  have hD1 : va_D (va_A [(sim, .inr (10, [.null, .null, .null, .null, .null, .null, .null, .int 0, .int 0, .int 0, .int 0, .int 0, .null, .null, .null, .null, .null, .null, .null, .null, .null, .null, .null, .null, .null, .null, .null, .null, .null, .null, .null, .null, .null, .null, .null])), (q1, .inl (cy 0, 2, .inl (fun2 (nI (j4 + 1)) (nI (j8 + 1))))), (q13, .inl (cy 0, 2, .inl (fun2 (nI j15) 1)))] H.size) [(sim, .inr (10, fs9)), (q1, .inl (cy 0, 2, .inl (fun2 (nI (j4 + 1)) (nI (j8 + 1))))), (q13, .inl (cy 0, 2, .inl (fun2 (nI j15) 1)))] := D_iff.mpr ⟨(D_iff.mp hDc).1, fun q hq => by
    simp only [List.mem_cons, List.not_mem_nil, or_false] at hq
    rcases hq with rfl | rfl | rfl
    · exact Or.inl ⟨0, _, rfl⟩
    · exact Or.inl ⟨1, _, rfl⟩
    · exact Or.inl ⟨2, _, rfl⟩⟩
  obtain ⟨hP, hD⟩ := Jn (wc := [(sim, .inr (10, [.null, .null, .null, .null, .null, .null, .null, .int 0, .int 0, .int 0, .int 0, .int 0, .null, .null, .null, .null, .null, .null, .null, .null, .null, .null, .null, .null, .null, .null, .null, .null, .null, .null, .null, .null, .null, .null, .null])), (q1, .inl (cy 0, 2, .inl (fun2 (nI (j4 + 1)) (nI (j8 + 1))))), (q13, .inl (cy 0, 2, .inl (fun2 (nI j15) 1)))]) (wr := ((q21, .inl (cy 0, sn, .inl fh)) :: (scr, .inl (cO, sn, .inr (.inr (.inr (.inr fs))))) :: (q10, .inl (cy 0, 2, .inl (fun2 (nI (j12 + 4)) 3))) :: KL z (ad, (D, cy, szf, shf, 1, trB j19)) (muB ki0 j4 j8 j12 j15))) hP hD hk9 hFc hP1 hD1
  generalize H1 = H at hP hS ⊢
  have hP : va_P D vwCl ((sim, .inr (10, fs9)) :: (q1, .inl (cy 0, 2, .inl (fun2 (nI (j4 + 1)) (nI (j8 + 1))))) :: (q13, .inl (cy 0, 2, .inl (fun2 (nI j15) 1))) :: (q21, .inl (cy 0, sn, .inl fh)) :: (scr, .inl (cO, sn, .inr (.inr (.inr (.inr fs))))) :: (q10, .inl (cy 0, 2, .inl (fun2 (nI (j12 + 4)) 3))) :: KL z (ad, (D, cy, szf, shf, 1, trB j19)) (muB ki0 j4 j8 j12 j15)) H := hP
  have hD : va_D A ((sim, .inr (10, fs9)) :: (q1, .inl (cy 0, 2, .inl (fun2 (nI (j4 + 1)) (nI (j8 + 1))))) :: (q13, .inl (cy 0, 2, .inl (fun2 (nI j15) 1))) :: (q21, .inl (cy 0, sn, .inl fh)) :: (scr, .inl (cO, sn, .inr (.inr (.inr (.inr fs))))) :: (q10, .inl (cy 0, 2, .inl (fun2 (nI (j12 + 4)) 3))) :: KL z (ad, (D, cy, szf, shf, 1, trB j19)) (muB ki0 j4 j8 j12 j15)) := hD
  have hP := Pmv [(sim, .inr (10, fs9)), (q1, .inl (cy 0, 2, .inl (fun2 (nI (j4 + 1)) (nI (j8 + 1))))), (q13, .inl (cy 0, 2, .inl (fun2 (nI j15) 1))), (q21, .inl (cy 0, sn, .inl fh))] hP
  have hD := Dmv [(sim, .inr (10, fs9)), (q1, .inl (cy 0, 2, .inl (fun2 (nI (j4 + 1)) (nI (j8 + 1))))), (q13, .inl (cy 0, 2, .inl (fun2 (nI j15) 1))), (q21, .inl (cy 0, sn, .inl fh))] hD
  have hP : va_P D vwCl ((scr, .inl (cO, sn, .inr (.inr (.inr (.inr fs))))) :: (sim, .inr (10, fs9)) :: (q1, .inl (cy 0, 2, .inl (fun2 (nI (j4 + 1)) (nI (j8 + 1))))) :: (q13, .inl (cy 0, 2, .inl (fun2 (nI j15) 1))) :: (q21, .inl (cy 0, sn, .inl fh)) :: (q10, .inl (cy 0, 2, .inl (fun2 (nI (j12 + 4)) 3))) :: KL z (ad, (D, cy, szf, shf, 1, trB j19)) (muB ki0 j4 j8 j12 j15)) H := hP
  have hD : va_D A ((scr, .inl (cO, sn, .inr (.inr (.inr (.inr fs))))) :: (sim, .inr (10, fs9)) :: (q1, .inl (cy 0, 2, .inl (fun2 (nI (j4 + 1)) (nI (j8 + 1))))) :: (q13, .inl (cy 0, 2, .inl (fun2 (nI j15) 1))) :: (q21, .inl (cy 0, sn, .inl fh)) :: (q10, .inl (cy 0, 2, .inl (fun2 (nI (j12 + 4)) 3))) :: KL z (ad, (D, cy, szf, shf, 1, trB j19)) (muB ki0 j4 j8 j12 j15)) := hD
  have hP := Pmv [(scr, .inl (cO, sn, .inr (.inr (.inr (.inr fs))))), (sim, .inr (10, fs9)), (q1, .inl (cy 0, 2, .inl (fun2 (nI (j4 + 1)) (nI (j8 + 1))))), (q13, .inl (cy 0, 2, .inl (fun2 (nI j15) 1)))] hP
  have hD := Dmv [(scr, .inl (cO, sn, .inr (.inr (.inr (.inr fs))))), (sim, .inr (10, fs9)), (q1, .inl (cy 0, 2, .inl (fun2 (nI (j4 + 1)) (nI (j8 + 1))))), (q13, .inl (cy 0, 2, .inl (fun2 (nI j15) 1)))] hD
  have hP : va_P D vwCl ((q21, .inl (cy 0, sn, .inl fh)) :: (scr, .inl (cO, sn, .inr (.inr (.inr (.inr fs))))) :: (sim, .inr (10, fs9)) :: (q1, .inl (cy 0, 2, .inl (fun2 (nI (j4 + 1)) (nI (j8 + 1))))) :: (q13, .inl (cy 0, 2, .inl (fun2 (nI j15) 1))) :: (q10, .inl (cy 0, 2, .inl (fun2 (nI (j12 + 4)) 3))) :: KL z (ad, (D, cy, szf, shf, 1, trB j19)) (muB ki0 j4 j8 j12 j15)) H := hP
  have hD : va_D A ((q21, .inl (cy 0, sn, .inl fh)) :: (scr, .inl (cO, sn, .inr (.inr (.inr (.inr fs))))) :: (sim, .inr (10, fs9)) :: (q1, .inl (cy 0, 2, .inl (fun2 (nI (j4 + 1)) (nI (j8 + 1))))) :: (q13, .inl (cy 0, 2, .inl (fun2 (nI j15) 1))) :: (q10, .inl (cy 0, 2, .inl (fun2 (nI (j12 + 4)) 3))) :: KL z (ad, (D, cy, szf, shf, 1, trB j19)) (muB ki0 j4 j8 j12 j15)) := hD
  have hP := Pmv [(q21, .inl (cy 0, sn, .inl fh)), (scr, .inl (cO, sn, .inr (.inr (.inr (.inr fs))))), (sim, .inr (10, fs9)), (q1, .inl (cy 0, 2, .inl (fun2 (nI (j4 + 1)) (nI (j8 + 1)))))] hP
  have hD := Dmv [(q21, .inl (cy 0, sn, .inl fh)), (scr, .inl (cO, sn, .inr (.inr (.inr (.inr fs))))), (sim, .inr (10, fs9)), (q1, .inl (cy 0, 2, .inl (fun2 (nI (j4 + 1)) (nI (j8 + 1)))))] hD
  have hP : va_P D vwCl ((q13, .inl (cy 0, 2, .inl (fun2 (nI j15) 1))) :: (q21, .inl (cy 0, sn, .inl fh)) :: (scr, .inl (cO, sn, .inr (.inr (.inr (.inr fs))))) :: (sim, .inr (10, fs9)) :: (q1, .inl (cy 0, 2, .inl (fun2 (nI (j4 + 1)) (nI (j8 + 1))))) :: (q10, .inl (cy 0, 2, .inl (fun2 (nI (j12 + 4)) 3))) :: KL z (ad, (D, cy, szf, shf, 1, trB j19)) (muB ki0 j4 j8 j12 j15)) H := hP
  have hD : va_D A ((q13, .inl (cy 0, 2, .inl (fun2 (nI j15) 1))) :: (q21, .inl (cy 0, sn, .inl fh)) :: (scr, .inl (cO, sn, .inr (.inr (.inr (.inr fs))))) :: (sim, .inr (10, fs9)) :: (q1, .inl (cy 0, 2, .inl (fun2 (nI (j4 + 1)) (nI (j8 + 1))))) :: (q10, .inl (cy 0, 2, .inl (fun2 (nI (j12 + 4)) 3))) :: KL z (ad, (D, cy, szf, shf, 1, trB j19)) (muB ki0 j4 j8 j12 j15)) := hD
  have hP := Pmv [(q13, .inl (cy 0, 2, .inl (fun2 (nI j15) 1))), (q21, .inl (cy 0, sn, .inl fh)), (scr, .inl (cO, sn, .inr (.inr (.inr (.inr fs))))), (sim, .inr (10, fs9)), (q1, .inl (cy 0, 2, .inl (fun2 (nI (j4 + 1)) (nI (j8 + 1)))))] hP
  have hD := Dmv [(q13, .inl (cy 0, 2, .inl (fun2 (nI j15) 1))), (q21, .inl (cy 0, sn, .inl fh)), (scr, .inl (cO, sn, .inr (.inr (.inr (.inr fs))))), (sim, .inr (10, fs9)), (q1, .inl (cy 0, 2, .inl (fun2 (nI (j4 + 1)) (nI (j8 + 1)))))] hD
  have hP : va_P D vwCl ((q10, .inl (cy 0, 2, .inl (fun2 (nI (j12 + 4)) 3))) :: (q13, .inl (cy 0, 2, .inl (fun2 (nI j15) 1))) :: (q21, .inl (cy 0, sn, .inl fh)) :: (scr, .inl (cO, sn, .inr (.inr (.inr (.inr fs))))) :: (sim, .inr (10, fs9)) :: (q1, .inl (cy 0, 2, .inl (fun2 (nI (j4 + 1)) (nI (j8 + 1))))) :: KL z (ad, (D, cy, szf, shf, 1, trB j19)) (muB ki0 j4 j8 j12 j15)) H := hP
  have hD : va_D A ((q10, .inl (cy 0, 2, .inl (fun2 (nI (j12 + 4)) 3))) :: (q13, .inl (cy 0, 2, .inl (fun2 (nI j15) 1))) :: (q21, .inl (cy 0, sn, .inl fh)) :: (scr, .inl (cO, sn, .inr (.inr (.inr (.inr fs))))) :: (sim, .inr (10, fs9)) :: (q1, .inl (cy 0, 2, .inl (fun2 (nI (j4 + 1)) (nI (j8 + 1))))) :: KL z (ad, (D, cy, szf, shf, 1, trB j19)) (muB ki0 j4 j8 j12 j15)) := hD
  have hP := Pmv [(q10, .inl (cy 0, 2, .inl (fun2 (nI (j12 + 4)) 3))), (q13, .inl (cy 0, 2, .inl (fun2 (nI j15) 1))), (q21, .inl (cy 0, sn, .inl fh)), (scr, .inl (cO, sn, .inr (.inr (.inr (.inr fs))))), (sim, .inr (10, fs9))] hP
  have hD := Dmv [(q10, .inl (cy 0, 2, .inl (fun2 (nI (j12 + 4)) 3))), (q13, .inl (cy 0, 2, .inl (fun2 (nI j15) 1))), (q21, .inl (cy 0, sn, .inl fh)), (scr, .inl (cO, sn, .inr (.inr (.inr (.inr fs))))), (sim, .inr (10, fs9))] hD
  have hP : va_P D vwCl ((q1, .inl (cy 0, 2, .inl (fun2 (nI (j4 + 1)) (nI (j8 + 1))))) :: (q10, .inl (cy 0, 2, .inl (fun2 (nI (j12 + 4)) 3))) :: (q13, .inl (cy 0, 2, .inl (fun2 (nI j15) 1))) :: (q21, .inl (cy 0, sn, .inl fh)) :: (scr, .inl (cO, sn, .inr (.inr (.inr (.inr fs))))) :: (sim, .inr (10, fs9)) :: KL z (ad, (D, cy, szf, shf, 1, trB j19)) (muB ki0 j4 j8 j12 j15)) H := hP
  have hD : va_D A ((q1, .inl (cy 0, 2, .inl (fun2 (nI (j4 + 1)) (nI (j8 + 1))))) :: (q10, .inl (cy 0, 2, .inl (fun2 (nI (j12 + 4)) 3))) :: (q13, .inl (cy 0, 2, .inl (fun2 (nI j15) 1))) :: (q21, .inl (cy 0, sn, .inl fh)) :: (scr, .inl (cO, sn, .inr (.inr (.inr (.inr fs))))) :: (sim, .inr (10, fs9)) :: KL z (ad, (D, cy, szf, shf, 1, trB j19)) (muB ki0 j4 j8 j12 j15)) := hD
  have hP := Pmv [(q1, .inl (cy 0, 2, .inl (fun2 (nI (j4 + 1)) (nI (j8 + 1))))), (q10, .inl (cy 0, 2, .inl (fun2 (nI (j12 + 4)) 3))), (q13, .inl (cy 0, 2, .inl (fun2 (nI j15) 1))), (q21, .inl (cy 0, sn, .inl fh)), (scr, .inl (cO, sn, .inr (.inr (.inr (.inr fs)))))] hP
  have hD := Dmv [(q1, .inl (cy 0, 2, .inl (fun2 (nI (j4 + 1)) (nI (j8 + 1))))), (q10, .inl (cy 0, 2, .inl (fun2 (nI (j12 + 4)) 3))), (q13, .inl (cy 0, 2, .inl (fun2 (nI j15) 1))), (q21, .inl (cy 0, sn, .inl fh)), (scr, .inl (cO, sn, .inr (.inr (.inr (.inr fs)))))] hD
  have hP : va_P D vwCl ((sim, .inr (10, fs9)) :: (q1, .inl (cy 0, 2, .inl (fun2 (nI (j4 + 1)) (nI (j8 + 1))))) :: (q10, .inl (cy 0, 2, .inl (fun2 (nI (j12 + 4)) 3))) :: (q13, .inl (cy 0, 2, .inl (fun2 (nI j15) 1))) :: (q21, .inl (cy 0, sn, .inl fh)) :: (scr, .inl (cO, sn, .inr (.inr (.inr (.inr fs))))) :: KL z (ad, (D, cy, szf, shf, 1, trB j19)) (muB ki0 j4 j8 j12 j15)) H := hP
  have hD : va_D A ((sim, .inr (10, fs9)) :: (q1, .inl (cy 0, 2, .inl (fun2 (nI (j4 + 1)) (nI (j8 + 1))))) :: (q10, .inl (cy 0, 2, .inl (fun2 (nI (j12 + 4)) 3))) :: (q13, .inl (cy 0, 2, .inl (fun2 (nI j15) 1))) :: (q21, .inl (cy 0, sn, .inl fh)) :: (scr, .inl (cO, sn, .inr (.inr (.inr (.inr fs))))) :: KL z (ad, (D, cy, szf, shf, 1, trB j19)) (muB ki0 j4 j8 j12 j15)) := hD
  have hP2 : va_P D vwCl ([(sim, .inr (10, fs9)), (q1, .inl (cy 0, 2, .inl (fun2 (nI (j4 + 1)) (nI (j8 + 1))))), (q10, .inl (cy 0, 2, .inl (fun2 (nI (j12 + 4)) 3)))] ++ ([(q13, .inl (cy 0, 2, .inl (fun2 (nI j15) 1))), (q21, .inl (cy 0, sn, .inl fh)), (scr, .inl (cO, sn, .inr (.inr (.inr (.inr fs)))))] ++ KL z (ad, (D, cy, szf, shf, 1, trB j19)) (muB ki0 j4 j8 j12 j15))) H := hP
  have hD2 : va_D A ([(sim, .inr (10, fs9)), (q1, .inl (cy 0, 2, .inl (fun2 (nI (j4 + 1)) (nI (j8 + 1))))), (q10, .inl (cy 0, 2, .inl (fun2 (nI (j12 + 4)) 3)))] ++ ([(q13, .inl (cy 0, 2, .inl (fun2 (nI j15) 1))), (q21, .inl (cy 0, sn, .inl fh)), (scr, .inl (cO, sn, .inr (.inr (.inr (.inr fs)))))] ++ KL z (ad, (D, cy, szf, shf, 1, trB j19)) (muB ki0 j4 j8 j12 j15))) := hD
  have hP3 : va_P D vwCl ([(sim, .inr (10, fs9)), (q1, .inl (cy 0, 2, .inl (fun2 (nI (j4 + 1)) (nI (j8 + 1))))), (q10, .inl (cy 0, 2, .inl (fun2 (nI (j12 + 4)) 3)))] ++ KL z (ad, (D, cy, szf, shf, 1, trB j19)) (muB ki0 j4 j8 j12 j15)) H := P_of (fun q hq => P_mem hP2 (by
    rcases List.mem_append.mp hq with h | h
    · exact List.mem_append_left _ h
    · exact List.mem_append_right _ (List.mem_append_right _ h)))
  have hD3 : va_D A ([(sim, .inr (10, fs9)), (q1, .inl (cy 0, 2, .inl (fun2 (nI (j4 + 1)) (nI (j8 + 1))))), (q10, .inl (cy 0, 2, .inl (fun2 (nI (j12 + 4)) 3)))] ++ KL z (ad, (D, cy, szf, shf, 1, trB j19)) (muB ki0 j4 j8 j12 j15)) := by
    have h9 := D_iff.mp hD2
    refine D_iff.mpr ⟨h9.1.sublist ?_, fun q hq => h9.2 q ?_⟩
    · exact ((List.Sublist.refl _).append (List.sublist_append_right _ _)).map _
    · rcases List.mem_append.mp hq with h | h
      · exact List.mem_append_left _ h
      · exact List.mem_append_right _ (List.mem_append_right _ h)
  refine W.widen (k := 250) (n := 12400) (Nat.le_of_ble_eq_true rfl) (Nat.le_of_ble_eq_true rfl) ?_
  exact W.aret (v := .ref sim) (rt := .object "SandglassLaw$Sim") hx hb hr (Or.inl ⟨_, rfl⟩) (Or.inr ⟨_, rfl⟩) (fun t9 ht hW => ⟨⟨some sim, sim, rfl, rfl, q1, q10, fs9, ad, szf, shf, j4, j8, j12, j15, j19, hf3, hf5, by omega, by omega, by omega, by omega, by omega, z0, z1, z2, hF, by rw [ht]; exact hKs.kb (Pr [(sim, .inr (10, fs9)), (q1, .inl (cy 0, 2, .inl (fun2 (nI (j4 + 1)) (nI (j8 + 1))))), (q10, .inl (cy 0, 2, .inl (fun2 (nI (j12 + 4)) 3)))] hP3), h272, by rw [ht]; exact hP3, hD3⟩, hS.F ht⟩) hS.2.2 dL_build_640
