/-! the law's build: scripts are added -/
set_option maxHeartbeats 8000000 in
set_option maxRecDepth 100000 in
theorem build_adds (l : Launch) {z b : Nat} {ad0 : Nat → Nat} {D : va_G} {cy : Nat → ClassId} {fa bs L co kd sn : Nat} {xs : Nat → Int32} {fc fk : Nat → Int32} (hL : L ≤ 260) (hs1 : 1 ≤ sn) (hs3 : sn ≤ 3)
    {p : Program} {e9 : Env} {s : State} {m : MethodId} {below : List Frame} {meth : Method} {c : Code} {Qx : State → Prop} {A : Nat → Prop} (hx : p.tables.exec = Jvm.exec) (hb : c.code = cL_build) (hml : c.maxLocals = 17) (hts : ∀ w ∈ lw_all, w.before ([.ref fa, .ref bs, .int (nI sn), .ref co, .ref kd] : List Value).toArray s = true) (hown : s.vm.findClass RL = some m.cls) (hT : Tb (Bg.r z (ad0, S0 D cy)) s) (hE : Em D z b (cy 2) s) (hX : Tx s) (hXs : va_X bs L xs s s.heap) (hbl : bs < s.heap.size) (hbA : ¬ A bs) (hAb : ∀ q, A q → b ≤ q) (hA : ∀ q : Nat, s.heap.size ≤ q → A q) (hPo : ∀ (H : Heap) (locs : List Loc), va_S A s.heap H locs → va_P D vwCl [(co, .inl (cy 0, 17, .inl fc)), (kd, .inl (cy 0, 2, .inl fk))] H)
    {μ : Mem} {trv : Nat → Int32} {q13 q10 q1 ha scr : Nat} {cO : ClassId} {fh fl fr fu : Nat → Int32} {fs : Nat → Option Nat} {c3 s3 : Nat} (hc3 : c3 + 9 ≤ 250) (hs3' : s3 + 75 ≤ 12400)
    (kont : ∀ (ad : Nat → Nat) (szf : Nat → Nat) (shf : Mem) (H : Heap) (locs : List Loc) (ls : Array Slot), KBs z b (ad, (D, cy, szf, shf, 1, trv)) μ → (∀ p, Ka (ad, (D, cy, szf, shf, 1, trv)) p → A p) → Bg.ad (ad, (D, cy, szf, shf, 1, trv)) 272 = fa → szf 0 = 2 → szf 1 = 2 → szf 2 = sn → (∀ j, szf (10 + j) = 0) → va_P D vwCl ((ha, .inl (cy 0, sn, .inl fh)) :: (scr, .inl (cO, sn, .inr (.inr (.inr (.inr fs))))) :: (q13, .inl (cy 0, 2, .inl fl)) :: (q10, .inl (cy 0, 2, .inl fr)) :: (q1, .inl (cy 0, 2, .inl fu)) :: KL z (ad, (D, cy, szf, shf, 1, trv)) μ) H → va_D A ((ha, .inl (cy 0, sn, .inl fh)) :: (scr, .inl (cO, sn, .inr (.inr (.inr (.inr fs))))) :: (q13, .inl (cy 0, 2, .inl fl)) :: (q10, .inl (cy 0, 2, .inl fr)) :: (q1, .inl (cy 0, 2, .inl fu)) :: KL z (ad, (D, cy, szf, shf, 1, trv)) μ) → va_S A s.heap H locs → lv_has ls 17 [(10, .ref ha), (9, .ref scr), (8, .ref q13), (7, .ref q10), (6, .ref q1), (5, .int 2), (0, .ref fa), (1, .ref bs), (2, .int (nI sn)), (3, .ref co), (4, .ref kd)] → W p l e9 (rm_ 8 280 250 12400) s m ([.ref fa, .ref bs, .int (nI sn), .ref co, .ref kd] : List Value).toArray below meth c H locs (c3 + 3 * sn) (s3 + 25 * sn) Qx (F0 m 183 ls [])) :
    ∀ (n i : Nat) (ad : Nat → Nat) (szf : Nat → Nat) (shf : Mem) (H : Heap) (locs : List Loc) (ls : Array Slot), i + n = sn → KBs z b (ad, (D, cy, szf, shf, 1, trv)) μ → (∀ p, Ka (ad, (D, cy, szf, shf, 1, trv)) p → A p) → Bg.ad (ad, (D, cy, szf, shf, 1, trv)) 272 = fa → szf 0 = 2 → szf 1 = 2 → szf 2 = i → (∀ j, szf (10 + j) = 0) → va_P D vwCl ((ha, .inl (cy 0, sn, .inl fh)) :: (scr, .inl (cO, sn, .inr (.inr (.inr (.inr fs))))) :: (q13, .inl (cy 0, 2, .inl fl)) :: (q10, .inl (cy 0, 2, .inl fr)) :: (q1, .inl (cy 0, 2, .inl fu)) :: KL z (ad, (D, cy, szf, shf, 1, trv)) μ) H → va_D A ((ha, .inl (cy 0, sn, .inl fh)) :: (scr, .inl (cO, sn, .inr (.inr (.inr (.inr fs))))) :: (q13, .inl (cy 0, 2, .inl fl)) :: (q10, .inl (cy 0, 2, .inl fr)) :: (q1, .inl (cy 0, 2, .inl fu)) :: KL z (ad, (D, cy, szf, shf, 1, trv)) μ) → va_S A s.heap H locs → lv_has ls 17 [(11, .int (nI i)), (10, .ref ha), (9, .ref scr), (8, .ref q13), (7, .ref q10), (6, .ref q1), (5, .int 2), (0, .ref fa), (1, .ref bs), (2, .int (nI sn)), (3, .ref co), (4, .ref kd)] → W p l e9 (rm_ 8 280 250 12400) s m ([.ref fa, .ref bs, .int (nI sn), .ref co, .ref kd] : List Value).toArray below meth c H locs (c3 + 3 * i) (s3 + 25 * i) Qx (F0 m 166 ls []) := by
  intro n
  induction n with
  | zero =>
    intro i ad szf shf H locs ls hin hKs hKA h272 z0 z1 z2 z4 hP hD hS hl
    have hil : i = sn := by omega
    refine lv_iload hx hb dL_build_166 (lv_at hl 0 rfl) ?_
    refine lv_iload_n hx hb dL_build_168 rfl (lv_at hl 9 rfl) ?_
    refine lv_icmp_ge (tgt := 183) hx hb dL_build_169 (by decide) (fun _ => ?_) (fun h9 => absurd ((nI_leI (a := sn) (b := i) (by omega) (by omega)).mpr (by omega)) h9)
    subst hil
    exact kont ad szf shf H locs ls hKs hKA h272 z0 z1 z2 z4 hP hD hS (lv_sub hl [1, 2, 3, 4, 5, 6, 7, 8, 9, 10, 11] rfl)
  | succ n ih =>
    intro i ad szf shf H locs ls hin hKs hKA h272 z0 z1 z2 z4 hP hD hS hl
    have hi : i < sn := by omega
    refine lv_iload hx hb dL_build_166 (lv_at hl 0 rfl) ?_
    refine lv_iload_n hx hb dL_build_168 rfl (lv_at hl 9 rfl) ?_
    refine lv_icmp_ge (tgt := 183) hx hb dL_build_169 (by decide) (fun h9 => absurd ((nI_leI (by omega) (by omega)).mp h9) (by omega)) (fun _ => ?_)
    refine lv_aload_n hx hb dL_build_172 rfl (lv_at hl 7 rfl) ?_
    have hKB := hKs.kb (Pr [(ha, .inl (cy 0, sn, .inl fh)), (scr, .inl (cO, sn, .inr (.inr (.inr (.inr fs))))), (q13, .inl (cy 0, 2, .inl fl)), (q10, .inl (cy 0, 2, .inl fr)), (q1, .inl (cy 0, 2, .inl fu))] hP)
    have hAk : ∀ q, Ak (ad, (D, cy, szf, shf, 1, trv)) H.size q → A q := fun q h => h.elim (hKA q) (fun h => hA q (Nat.le_trans hS.1 h))
    refine va_calli (va_runV (As := []) (rest := []) ⟨hx, hb, hml, hown, hts⟩ (k_X8_addScript l (z := z) (b := b) (B := (ad, (D, cy, szf, shf, 1, trv))) (μ := μ) (n := i) z2 (by omega) hKs.2.2.2.1 H.size) (cwV 0 hts (gd_V q1064 q1065 q1066 q37 q1067) rfl rfl rfl hd_X8_addScript ⟨Nat.le_of_ble_eq_true rfl, Nat.le_of_ble_eq_true rfl⟩) ⟨Pk.blind, rcv9 hT hKB rfl h272, fun U hU hW => ⟨by rw [h272], ⟨Tb.warm hW hT, Em.on hW hE (by rw [hU]; exact hS) hAb⟩, by rw [hU], by rw [hU]; exact hKB⟩⟩ rfl rfl hl.1 rfl (lv_room (Nat.le_of_ble_eq_true rfl)) dL_build_173 ⟨by show _ ≤ 250; omega, by show _ ≤ 12400; omega⟩) hS (fun q _ h => hAk q h) hAk (fun v9 u9 t9 H1 locs ht9 hvm9 hw9 hB9 hz9 hk9 hS => ?_)
    obtain ⟨ad31, ⟨hK1, hKa1⟩, e272⟩ := hB9
    rw [ht9] at hK1
    rw [hw9]
    have h272 : Bg.ad (ad31, (shC i (D, cy, szf, shf, 1, trv))) 272 = fa := e272.trans h272
    obtain ⟨hP, hD⟩ := kl_join (cs := [(ha, .inl (cy 0, sn, .inl fh)), (scr, .inl (cO, sn, .inr (.inr (.inr (.inr fs))))), (q13, .inl (cy 0, 2, .inl fl)), (q10, .inl (cy 0, 2, .inl fr)), (q1, .inl (cy 0, 2, .inl fu))]) hP hD hk9 hK1 hKa1 hAk rfl
    have hKs := hK1.st
    have hKA : ∀ p, Ka (ad31, (shC i (D, cy, szf, shf, 1, trv))) p → A p := fun p hp => hAk p (hKa1 p hp)
    clear hK1 hKa1 hKB hAk e272
    generalize H1 = H at hP hS ⊢
    have hP : va_P D vwCl ((ha, .inl (cy 0, sn, .inl fh)) :: (scr, .inl (cO, sn, .inr (.inr (.inr (.inr fs))))) :: (q13, .inl (cy 0, 2, .inl fl)) :: (q10, .inl (cy 0, 2, .inl fr)) :: (q1, .inl (cy 0, 2, .inl fu)) :: KL z (ad31, (shC i (D, cy, szf, shf, 1, trv))) μ) H := hP
    have hD : va_D A ((ha, .inl (cy 0, sn, .inl fh)) :: (scr, .inl (cO, sn, .inr (.inr (.inr (.inr fs))))) :: (q13, .inl (cy 0, 2, .inl fl)) :: (q10, .inl (cy 0, 2, .inl fr)) :: (q1, .inl (cy 0, 2, .inl fu)) :: KL z (ad31, (shC i (D, cy, szf, shf, 1, trv))) μ) := hD
    refine lv_pop hx hb dL_build_176 rfl ?_
    refine lv_iinc (v := (nI (i + 1))) (lv' := [(11, .int (nI (i + 1))), (10, .ref ha), (9, .ref scr), (8, .ref q13), (7, .ref q10), (6, .ref q1), (5, .int 2), (0, .ref fa), (1, .ref bs), (2, .int (nI sn)), (3, .ref co), (4, .ref kd)]) hx hb dL_build_177 hl (k := 0) rfl (nI_1 i) (by decide) rfl (fun ls hl => ?_)
    refine lv_goto (tgt := 166) hx hb dL_build_180 (by decide) ?_
    refine W.widen (k := c3 + 3 * (i + 1)) (n := s3 + 25 * (i + 1)) (by omega) (by omega) ?_
    exact ih (i + 1) ad31 (fun x => if x = 2 then i + 1 else szf x) (fun x => if x = 114 + i then (fun j => if j = 1 then -1 else 0) else shf x) H locs ls (by omega) hKs hKA h272 ((if_neg (by decide)).trans z0) ((if_neg (by decide)).trans z1) (if_pos rfl) (fun j => (if_neg (by omega)).trans (z4 j)) hP hD hS (lv_sub hl [0, 1, 2, 3, 4, 5, 6, 7, 8, 9, 10, 11] rfl)
