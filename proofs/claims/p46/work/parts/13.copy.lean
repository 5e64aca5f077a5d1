def Dis (g g2 : Geo) : Prop := (∀ i j, i ∈ g.mut → j ∈ g2.idx → ¬ g.ad i = g2.ad j) ∧ ∀ i j, i ∈ g.mut → j ∈ g2.tdx → ¬ g.ad i = g2.ta j
def Shr (g g2 : Geo) : Prop := ∀ k, 112 ≤ k → k < 266 → g2.ad k = g.ad k
theorem Ag.dis {g g2 : Geo} (hd : Dis g g2) {κ : Mem} {H : Heap} (h : Rg g2 κ H) : Of g2 (Ag g H.size) := by
  refine ⟨fun k hk h2 => ?_, fun k hk h2 => ?_⟩
  · rcases h2 with ⟨j, hj, e⟩ | h2
    · exact hd.1 j k hj hk e.symm
    · have := (h.1 k hk).lt
      exact absurd h2 (Nat.not_le.mpr this)
  · rcases h2 with ⟨j, hj, e⟩ | h2
    · exact hd.2 j k hj hk e.symm
    · have := (h.2 k hk).lt
      exact absurd h2 (Nat.not_le.mpr this)
theorem set_script2 {g g2 : Geo} {t k : Nat} {n : Nat → Int32} (hs : Shr g g2) (h : isC g2 k) : fsP g t (upd n 1 (nI (k - 114))) = (fsP g t n).set 1 (.ref (g2.ad k)) := by
  have e : sref g (nI (k - 114)) = .ref (g2.ad k) := by
    obtain ⟨h1, -, h2⟩ := h
    unfold sref
    rw [if_neg (nI_pos (by omega)), nI_clamp (by omega), hs k (by omega) (by omega)]
    congr 2
    omega
  rw [← e]
  rfl
theorem narSR {g : Geo} {x : Int32} : narrow (.object "Sandglass$Script") (sref g x) = sref g x := by
  unfold sref
  by_cases h : x < 0
  · rw [if_pos h]; rfl
  · rw [if_neg h]; rfl
theorem fitSR {g : Geo} {x : Int32} : fits (.object "Sandglass$Script") (sref g x) = true := by
  unfold sref
  by_cases h : x < 0
  · rw [if_pos h]; rfl
  · rw [if_neg h]; rfl
theorem set_sref2 {g g2 : Geo} {t : Nat} {n : Nat → Int32} {x : Int32} (hs : Shr g g2) (h : x < 0 ∨ x.toNatClampNeg < 8) : fsP g t (upd n 1 x) = (fsP g t n).set 1 (sref g2 x) := by
  have e : sref g2 x = sref g x := by
    unfold sref
    by_cases h0 : x < 0
    · rw [if_pos h0, if_pos h0]
    · rw [if_neg h0, if_neg h0, hs _ (by omega) (by rcases h with h | h; exact absurd h h0; omega)]
  rw [e]
  rfl
def Pz2 (g g2 : Geo) (av : List Value) (PH : Heap → Prop) : Array Value → State → Prop := va_Pc av (fun U => Tb g U ∧ Tb g2 U ∧ PH U.heap)
theorem Pz2.blind {g g2 : Geo} {av : List Value} {PH : Heap → Prop} : FrameBlind (Pz2 g g2 av PH) := fun _ _ _ _ h => ⟨h.1, Tb.call h.2.1, Tb.call h.2.2.1, h.2.2.2⟩
/-- "Sandglass" "copyRow" "([I[I)V" -/
def b_X8_copyRow2_2 (g g2 : Fg) : Nat → Mem → Mem → Nat → Nat → Int32 → Option (Mem)
  | 0, _, _, _, _, _ => none
  | n + 1, μ, κ, x0, x1, x2 => if (nI (alen x0)) ≤ x2 then (some μ) else (if (nI (alen x1)) ≤ x2 then (some μ) else (grd (¬ (x2 < 0 ∨ alen x0 ≤ x2.toNatClampNeg)) (grd (¬ (x2 < 0 ∨ alen x1 ≤ x2.toNatClampNeg)) (bnd (put μ x1 x2.toNatClampNeg (κ x0 x2.toNatClampNeg)) fun μ_5 => b_X8_copyRow2_2 g g2 n μ_5 κ x0 x1 (x2 + 1)))))
def f_X8_copyRow2 (g g2 : Fg) (μ κ : Mem) (fr : Nat) (to : Nat) : Option (Mem) := b_X8_copyRow2_2 g g2 fu μ κ fr to 0
theorem hd_X8_copyRow2 : yX8_copyRow.cls = RX8 ∧ yX8_copyRow.cls ≠ "java/lang/invoke/MethodHandle" ∧ yX8_copyRow.cls ≠ "java/lang/invoke/VarHandle" ∧ (parseMethodDescriptor yX8_copyRow.desc).map (fun d => d.parameters.length) = some 2 := by decide +kernel
set_option maxHeartbeats 4000000 in
set_option maxRecDepth 100000 in
theorem c_X8_copyRow2 (l : Launch) {g g2 : Geo} (hg : Good g) (hg2 : Good g2) (hdis : Dis g g2) (hsh : Shr g g2) (μ κ : Mem) (sz : Nat) (fr : Nat) (to : Nat) (hfr : isA fr) (hto : isA to) {r : Mem} (hf : f_X8_copyRow2 g.F g2.F μ κ fr to = some r) : Met l yX8_copyRow (ws_ yX8_copyRow cX8_copyRow 3 (Option.none : Option Jvm.ClassFile.FieldType)) (rm_ 0 0 0 0) (Pz2 g g2 [.ref (g2.ad fr), .ref (g.ad to)] (fun H9 => H9.size = sz ∧ Rg g μ H9 ∧ Rg g2 κ H9)) (va_Qv (fun _ : Unit => True) (fun _ t => Rg g r t.heap) (Ag g sz)) 0 0 (Ag g sz) := by
  refine Met.ofW (cc := cX8_copyRow) (maxL := 3) (ret := (Option.none : Option Jvm.ClassFile.FieldType)) (by decide) rfl ?_
  intro p e s m args below meth c s₁ B hml hv
  obtain ⟨rfl, hT, hT2, hsz, hP, hQ⟩ := hv
  have hx := B.exec
  have hb := B.bytes
  have hr := B.returns
  have hts : ∀ w ∈ lw_all, w.before _ s = true := fun w h => atoms_spec (ws := (ws_ yX8_copyRow cX8_copyRow 3 (Option.none : Option Jvm.ClassFile.FieldType))) B.pre w (List.mem_cons_of_mem _ h)
  have hown : s.vm.findClass RX8 = some m.cls := findClass_of_methodNamed B.named
  have hlocks := B.notSynchronized
  subst hsz
  have hD := fun ν => Ag.apart hg s.heap.size ν
  have hC := hP.sh
  have hN := Ag.shr hg hP
  have hN2 := Ag.dis hdis hQ
  have hS : va_S (Ag g s.heap.size) s.heap s.heap [] := va_S.rf
  have L2 : ∀ (n : Nat) (μ : Mem) (x0 : Nat) (x1 : Nat) (x2 : Int32) (H : Heap) (locs : List Loc) (ls : Array Slot), Rg g μ H → va_S (Ag g s.heap.size) s.heap H locs → lv_has ls 3 [(0, .ref (g2.ad x0)), (1, .ref (g.ad x1)), (2, .int x2)] → isA x0 → isA x1 → b_X8_copyRow2_2 g.F g2.F n μ κ x0 x1 x2 = some r → W p l e (headSpec (ws_ yX8_copyRow cX8_copyRow 3 (Option.none : Option Jvm.ClassFile.FieldType)) (rm_ 0 0 0 0)).room s m ([.ref (g2.ad fr), .ref (g.ad to)] : List Value).toArray below meth c H locs 0 0 (MQ below (va_Qv (fun _ : Unit => True) (fun _ t => Rg g r t.heap) (Ag g s.heap.size)) ([.ref (g2.ad fr), .ref (g.ad to)] : List Value).toArray s 0 0 (Ag g s.heap.size)) (F0 m 2 ls []) := by
    intro n
    induction n with
    | zero => intro μ x0 x1 x2 H locs ls hP hS hl hx0 hx1 hf; cases hf
    | succ n ih =>
      intro μ x0 x1 x2 H locs ls hP hS hl hx0 hx1 hf
      rw [b_X8_copyRow2_2] at hf
      refine lv_iload_n hx hb dX8_copyRow_2 rfl (lv_at hl 2 rfl) ?_
      refine lv_aload_n hx hb dX8_copyRow_3 rfl (lv_at hl 0 rfl) ?_
      refine r_alenA hx hb hT2 (Rg.off hQ hS hN2) hx0 dX8_copyRow_4 ?_
      refine lv_icmp_ge (tgt := 26) hx hb dX8_copyRow_5 (by decide) (fun c_1 => ?_) (fun c_1 => ?_)
      · have hf := (if_pos c_1).symm.trans hf
        exact W.vret hx hb hr (fun t9 ht hW => ⟨⟨(), rfl, trivial, by show Rg g r t9.heap; rw [ht, ← Option.some.inj hf]; exact hP⟩, hS.F ht⟩) hS.2.2 dX8_copyRow_26
      · have hf := (if_neg c_1).symm.trans hf
        refine lv_iload_n hx hb dX8_copyRow_8 rfl (lv_at hl 2 rfl) ?_
        refine lv_aload_n hx hb dX8_copyRow_9 rfl (lv_at hl 1 rfl) ?_
        refine r_alenA hx hb hT hP hx1 dX8_copyRow_10 ?_
        refine lv_icmp_ge (tgt := 26) hx hb dX8_copyRow_11 (by decide) (fun c_2 => ?_) (fun c_2 => ?_)
        · have hf := (if_pos c_2).symm.trans hf
          exact W.vret hx hb hr (fun t9 ht hW => ⟨⟨(), rfl, trivial, by show Rg g r t9.heap; rw [ht, ← Option.some.inj hf]; exact hP⟩, hS.F ht⟩) hS.2.2 dX8_copyRow_26
        · have hf := (if_neg c_2).symm.trans hf
          refine lv_aload_n hx hb dX8_copyRow_14 rfl (lv_at hl 1 rfl) ?_
          refine lv_iload_n hx hb dX8_copyRow_15 rfl (lv_at hl 2 rfl) ?_
          refine lv_aload_n hx hb dX8_copyRow_16 rfl (lv_at hl 0 rfl) ?_
          refine lv_iload_n hx hb dX8_copyRow_17 rfl (lv_at hl 2 rfl) ?_
          obtain ⟨hi_3, hf⟩ := grd_some hf
          refine r_iald hx hb hT2 (Rg.off hQ hS hN2) hx0 hi_3 dX8_copyRow_18 ?_
          obtain ⟨hi_4, hf⟩ := grd_some hf
          refine r_iast hx hb hT hP hD hC hN hS hx1 hi_4 dX8_copyRow_19 (fun H locs hP hS => ?_)
          obtain ⟨μ_5, eμ_5⟩ : ∃ z, put μ x1 x2.toNatClampNeg (κ x0 x2.toNatClampNeg) = z := ⟨_, rfl⟩
          rw [eμ_5] at hP
          have hf := bnd_eq hf _ eμ_5
          refine lv_iinc (v := x2 + 1) (lv' := [(2, .int (x2 + 1)), (0, .ref (g2.ad x0)), (1, .ref (g.ad x1))]) hx hb dX8_copyRow_20 hl (k := 2) rfl rfl (by decide) rfl (fun ls hl => ?_)
          refine lv_goto (tgt := 2) hx hb dX8_copyRow_23 (by decide) ?_
          exact ih μ_5 x0 x1 (x2 + 1) _ _ _ hP hS (lv_sub hl [1, 2, 0] rfl) hx0 hx1 hf
  have hl := lv_entry ([.ref (g2.ad fr), .ref (g.ad to)]) (n := 3) (Nat.le_of_ble_eq_true rfl)
  rw [lg_entry_eq]
  generalize (lg_sl ([.ref (g2.ad fr), .ref (g.ad to)]) ++ List.replicate (3 - (lg_sl ([.ref (g2.ad fr), .ref (g.ad to)])).length) Slot.unset).toArray = ls at hl ⊢
  have hl : lv_has ls 3 [(0, .ref (g2.ad fr)), (1, .ref (g.ad to))] := hl
  unfold f_X8_copyRow2 at hf
  refine lv_iconst (v := 0) hx hb dX8_copyRow_0 (by decide) ?_
  refine lv_istore_n (lv' := [(2, .int 0), (0, .ref (g2.ad fr)), (1, .ref (g.ad to))]) hx hb dX8_copyRow_1 rfl hl (by decide) rfl (fun ls hl => ?_)
  exact L2 fu μ fr to 0 _ _ _ hP hS (lv_sub hl [1, 2, 0] rfl) hfr hto hf
/-- "Sandglass$Proc" "copyFrom" "(LSandglass$Proc;)V" -/
def b_X2_copyFrom2_104 (g g2 : Fg) (μ κ : Mem) (x0 : Nat) (x1 : Nat) : Option (Mem) := bnO (f_X8_copyRow2 g g2 μ κ (x1 + 24) (x0 + 24)) fun μ_18 => bnO (f_X8_copyRow2 g g2 μ_18 κ (x1 + 48) (x0 + 48)) fun μ_21 => bnO (f_X8_copyRow2 g g2 μ_21 κ (x1 + 72) (x0 + 72)) fun μ_24 => some μ_24
def b_X2_copyFrom2_80 (g g2 : Fg) (μ κ : Mem) (x0 : Nat) (x1 : Nat) : Option (Mem) := bnd (put μ x0 11 (κ x1 11)) fun μ_12 => bnd (put μ_12 x0 12 (κ x1 12)) fun μ_13 => grd ((κ x1 13) = 0 ∨ (κ x1 13) = 1) (bnd (put μ_13 x0 13 (κ x1 13)) fun μ_14 => b_X2_copyFrom2_104 g g2 μ_14 κ x0 x1)
def b_X2_copyFrom2_40 (g g2 : Fg) (μ κ : Mem) (x0 : Nat) (x1 : Nat) : Option (Mem) := bnd (put μ x0 6 (κ x1 6)) fun μ_7 => bnd (put μ_7 x0 7 (κ x1 7)) fun μ_8 => bnd (put μ_8 x0 8 (κ x1 8)) fun μ_9 => bnd (put μ_9 x0 9 (κ x1 9)) fun μ_10 => bnd (put μ_10 x0 10 (κ x1 10)) fun μ_11 => b_X2_copyFrom2_80 g g2 μ_11 κ x0 x1
def f_X2_copyFrom2 (g g2 : Fg) (μ κ : Mem) (t : Nat) (o : Nat) : Option (Mem) := grd ((κ o 1) < 0 ∨ (κ o 1).toNatClampNeg < 8) (bnd (put μ t 1 (κ o 1)) fun μ_1 => bnd (put μ_1 t 2 (κ o 2)) fun μ_3 => bnd (put μ_3 t 3 (κ o 3)) fun μ_4 => bnd (put μ_4 t 4 (κ o 4)) fun μ_5 => bnd (put μ_5 t 5 (κ o 5)) fun μ_6 => b_X2_copyFrom2_40 g g2 μ_6 κ t o)
theorem hd_X2_copyFrom2 : yX2_copyFrom.cls = RX2 ∧ yX2_copyFrom.cls ≠ "java/lang/invoke/MethodHandle" ∧ yX2_copyFrom.cls ≠ "java/lang/invoke/VarHandle" ∧ (parseMethodDescriptor yX2_copyFrom.desc).map (fun d => d.parameters.length) = some 1 := by decide +kernel
set_option maxHeartbeats 4000000 in
set_option maxRecDepth 100000 in
theorem c_X2_copyFrom2 (l : Launch) {g g2 : Geo} (hg : Good g) (hg2 : Good g2) (hdis : Dis g g2) (hsh : Shr g g2) (μ κ : Mem) (sz : Nat) (t : Nat) (o : Nat) (ht : isP t) (ho : isP o) {r : Mem} (hf : f_X2_copyFrom2 g.F g2.F μ κ t o = some r) : Met l yX2_copyFrom (ws_ yX2_copyFrom cX2_copyFrom 2 (Option.none : Option Jvm.ClassFile.FieldType)) (rm_ 1 22 0 0) (Pz2 g g2 [.ref (g.ad t), .ref (g2.ad o)] (fun H9 => H9.size = sz ∧ Rg g μ H9 ∧ Rg g2 κ H9)) (va_Qv (fun _ : Unit => True) (fun _ t => Rg g r t.heap) (Ag g sz)) 0 0 (Ag g sz) := by
  refine Met.ofW (cc := cX2_copyFrom) (maxL := 2) (ret := (Option.none : Option Jvm.ClassFile.FieldType)) (by decide) rfl ?_
  intro p e s m args below meth c s₁ B hml hv
  obtain ⟨rfl, hT, hT2, hsz, hP, hQ⟩ := hv
  have hx := B.exec
  have hb := B.bytes
  have hr := B.returns
  have hts : ∀ w ∈ lw_all, w.before _ s = true := fun w h => atoms_spec (ws := (ws_ yX2_copyFrom cX2_copyFrom 2 (Option.none : Option Jvm.ClassFile.FieldType))) B.pre w (List.mem_cons_of_mem _ h)
  have hown : s.vm.findClass RX2 = some m.cls := findClass_of_methodNamed B.named
  have hlocks := B.notSynchronized
  subst hsz
  have hD := fun ν => Ag.apart hg s.heap.size ν
  have hC := hP.sh
  have hN := Ag.shr hg hP
  have hN2 := Ag.dis hdis hQ
  have hS : va_S (Ag g s.heap.size) s.heap s.heap [] := va_S.rf
  have L104 : ∀ (μ : Mem) (x0 : Nat) (x1 : Nat) (H : Heap) (locs : List Loc) (ls : Array Slot), Rg g μ H → va_S (Ag g s.heap.size) s.heap H locs → lv_has ls 2 [(0, .ref (g.ad x0)), (1, .ref (g2.ad x1))] → isP x0 → isP x1 → b_X2_copyFrom2_104 g.F g2.F μ κ x0 x1 = some r → W p l e (headSpec (ws_ yX2_copyFrom cX2_copyFrom 2 (Option.none : Option Jvm.ClassFile.FieldType)) (rm_ 1 22 0 0)).room s m ([.ref (g.ad t), .ref (g2.ad o)] : List Value).toArray below meth c H locs 0 0 (MQ below (va_Qv (fun _ : Unit => True) (fun _ t => Rg g r t.heap) (Ag g s.heap.size)) ([.ref (g.ad t), .ref (g2.ad o)] : List Value).toArray s 0 0 (Ag g s.heap.size)) (F0 m 104 ls []) := by
    intro μ x0 x1 H locs ls hP hS hl hx0 hx1 hf
    unfold b_X2_copyFrom2_104 at hf
    refine lv_aload_n hx hb dX2_copyFrom_104 rfl (lv_at hl 1 rfl) ?_
    refine r_get hx hb hts i_X2 hown hT2 (Rg.off hQ hS hN2) (inP hx1) (fs := (fsP g2 x1)) (obP hx1) rfl 14 (by decide) q145 (fun _ h9 => h9) rfl dX2_copyFrom_105 ?_
    refine lv_aload_n hx hb dX2_copyFrom_108 rfl (lv_at hl 0 rfl) ?_
    refine r_get hx hb hts i_X2 hown hT hP (inP hx0) (fs := (fsP g x0)) (obP hx0) rfl 14 (by decide) q145 (fun _ h9 => h9) rfl dX2_copyFrom_109 ?_
    obtain ⟨μ_18, hc_17, hf⟩ := bnO_some hf
    refine va_callv (va_runSN (As := [.ref (g2.ad (x1 + 24)), .ref (g.ad (x0 + 24))]) (rest := []) ⟨hx, hb, hml, hown, hts⟩ (c_X8_copyRow2 l hg hg2 hdis hsh μ κ H.size (x1 + 24) (x0 + 24) (show isP _ from hx1).cnt (show isP _ from hx0).cnt hc_17) ⟨va_cnB 2 hts (gd_code q775) rfl rfl rfl (hT.2.1 _ nst_0) (hts _ q37) hd_X8_copyRow2.2 ⟨Nat.le_of_ble_eq_true rfl, Nat.le_of_ble_eq_true rfl⟩, hts _ q774, trivial⟩ ⟨Pz2.blind, fun U hU hW => ⟨rfl, Tb.warm hW hT, Tb.warm hW hT2, by rw [hU], by rw [hU]; exact hP, by rw [hU]; exact (Rg.off hQ hS hN2)⟩⟩ rfl rfl hl.1 rfl (lv_room (Nat.le_of_ble_eq_true rfl)) dX2_copyFrom_112 ⟨Nat.le_of_ble_eq_true rfl, Nat.le_of_ble_eq_true rfl⟩) hS (fun q _ h => Ag.sub rfl hS q h) (fun q h => Ag.sub rfl hS q h) (fun u9 t9 H locs ht9 hvm9 hw9 hB9 hz9 hk9 hS => ?_)
    have hP : Rg g μ_18 H := by rw [← ht9]; exact hB9
    refine lv_aload_n hx hb dX2_copyFrom_115 rfl (lv_at hl 1 rfl) ?_
    refine r_get hx hb hts i_X2 hown hT2 (Rg.off hQ hS hN2) (inP hx1) (fs := (fsP g2 x1)) (obP hx1) rfl 15 (by decide) q147 (fun _ h9 => h9) rfl dX2_copyFrom_116 ?_
    refine lv_aload_n hx hb dX2_copyFrom_119 rfl (lv_at hl 0 rfl) ?_
    refine r_get hx hb hts i_X2 hown hT hP (inP hx0) (fs := (fsP g x0)) (obP hx0) rfl 15 (by decide) q147 (fun _ h9 => h9) rfl dX2_copyFrom_120 ?_
    obtain ⟨μ_21, hc_20, hf⟩ := bnO_some hf
    refine va_callv (va_runSN (As := [.ref (g2.ad (x1 + 48)), .ref (g.ad (x0 + 48))]) (rest := []) ⟨hx, hb, hml, hown, hts⟩ (c_X8_copyRow2 l hg hg2 hdis hsh μ_18 κ H.size (x1 + 48) (x0 + 48) (show isP _ from hx1).hld (show isP _ from hx0).hld hc_20) ⟨va_cnB 2 hts (gd_code q775) rfl rfl rfl (hT.2.1 _ nst_0) (hts _ q37) hd_X8_copyRow2.2 ⟨Nat.le_of_ble_eq_true rfl, Nat.le_of_ble_eq_true rfl⟩, hts _ q774, trivial⟩ ⟨Pz2.blind, fun U hU hW => ⟨rfl, Tb.warm hW hT, Tb.warm hW hT2, by rw [hU], by rw [hU]; exact hP, by rw [hU]; exact (Rg.off hQ hS hN2)⟩⟩ rfl rfl hl.1 rfl (lv_room (Nat.le_of_ble_eq_true rfl)) dX2_copyFrom_123 ⟨Nat.le_of_ble_eq_true rfl, Nat.le_of_ble_eq_true rfl⟩) hS (fun q _ h => Ag.sub rfl hS q h) (fun q h => Ag.sub rfl hS q h) (fun u9 t9 H locs ht9 hvm9 hw9 hB9 hz9 hk9 hS => ?_)
    have hP : Rg g μ_21 H := by rw [← ht9]; exact hB9
    refine lv_aload_n hx hb dX2_copyFrom_126 rfl (lv_at hl 1 rfl) ?_
    refine r_get hx hb hts i_X2 hown hT2 (Rg.off hQ hS hN2) (inP hx1) (fs := (fsP g2 x1)) (obP hx1) rfl 16 (by decide) q150 (fun _ h9 => h9) rfl dX2_copyFrom_127 ?_
    refine lv_aload_n hx hb dX2_copyFrom_130 rfl (lv_at hl 0 rfl) ?_
    refine r_get hx hb hts i_X2 hown hT hP (inP hx0) (fs := (fsP g x0)) (obP hx0) rfl 16 (by decide) q150 (fun _ h9 => h9) rfl dX2_copyFrom_131 ?_
    obtain ⟨μ_24, hc_23, hf⟩ := bnO_some hf
    refine va_callv (va_runSN (As := [.ref (g2.ad (x1 + 72)), .ref (g.ad (x0 + 72))]) (rest := []) ⟨hx, hb, hml, hown, hts⟩ (c_X8_copyRow2 l hg hg2 hdis hsh μ_21 κ H.size (x1 + 72) (x0 + 72) (show isP _ from hx1).got (show isP _ from hx0).got hc_23) ⟨va_cnB 2 hts (gd_code q775) rfl rfl rfl (hT.2.1 _ nst_0) (hts _ q37) hd_X8_copyRow2.2 ⟨Nat.le_of_ble_eq_true rfl, Nat.le_of_ble_eq_true rfl⟩, hts _ q774, trivial⟩ ⟨Pz2.blind, fun U hU hW => ⟨rfl, Tb.warm hW hT, Tb.warm hW hT2, by rw [hU], by rw [hU]; exact hP, by rw [hU]; exact (Rg.off hQ hS hN2)⟩⟩ rfl rfl hl.1 rfl (lv_room (Nat.le_of_ble_eq_true rfl)) dX2_copyFrom_134 ⟨Nat.le_of_ble_eq_true rfl, Nat.le_of_ble_eq_true rfl⟩) hS (fun q _ h => Ag.sub rfl hS q h) (fun q h => Ag.sub rfl hS q h) (fun u9 t9 H locs ht9 hvm9 hw9 hB9 hz9 hk9 hS => ?_)
    have hP : Rg g μ_24 H := by rw [← ht9]; exact hB9
    exact W.vret hx hb hr (fun t9 ht hW => ⟨⟨(), rfl, trivial, by show Rg g r t9.heap; rw [ht, ← Option.some.inj hf]; exact hP⟩, hS.F ht⟩) hS.2.2 dX2_copyFrom_137
  have L80 : ∀ (μ : Mem) (x0 : Nat) (x1 : Nat) (H : Heap) (locs : List Loc) (ls : Array Slot), Rg g μ H → va_S (Ag g s.heap.size) s.heap H locs → lv_has ls 2 [(0, .ref (g.ad x0)), (1, .ref (g2.ad x1))] → isP x0 → isP x1 → b_X2_copyFrom2_80 g.F g2.F μ κ x0 x1 = some r → W p l e (headSpec (ws_ yX2_copyFrom cX2_copyFrom 2 (Option.none : Option Jvm.ClassFile.FieldType)) (rm_ 1 22 0 0)).room s m ([.ref (g.ad t), .ref (g2.ad o)] : List Value).toArray below meth c H locs 0 0 (MQ below (va_Qv (fun _ : Unit => True) (fun _ t => Rg g r t.heap) (Ag g s.heap.size)) ([.ref (g.ad t), .ref (g2.ad o)] : List Value).toArray s 0 0 (Ag g s.heap.size)) (F0 m 80 ls []) := by
    intro μ x0 x1 H locs ls hP hS hl hx0 hx1 hf
    unfold b_X2_copyFrom2_80 at hf
    refine lv_aload_n hx hb dX2_copyFrom_80 rfl (lv_at hl 0 rfl) ?_
    refine lv_aload_n hx hb dX2_copyFrom_81 rfl (lv_at hl 1 rfl) ?_
    refine r_get hx hb hts i_X2 hown hT2 (Rg.off hQ hS hN2) (inP hx1) (fs := (fsP g2 x1)) (obP hx1) rfl 11 (by decide) q139 (fun _ h9 => h9) rfl dX2_copyFrom_82 ?_
    refine r_put hx hb hts i_X2 tyX2 tyX2_ok nmX2 hown hT hP hD hC hN hS (mtP hx0) (fs := (fsP g x0)) (obP hx0) rfl 11 (by decide) q139 (fun _ h9 => h9) rfl (ty := .int) (x := κ x1 11) rfl rfl rfl (fun _ => rfl) (Nat.le_of_ble_eq_true rfl) dX2_copyFrom_85 (fun H locs hP hS => ?_)
    obtain ⟨μ_12, eμ_12⟩ : ∃ z, put μ x0 11 (κ x1 11) = z := ⟨_, rfl⟩
    rw [eμ_12] at hP
    have hf := bnd_eq hf _ eμ_12
    refine lv_aload_n hx hb dX2_copyFrom_88 rfl (lv_at hl 0 rfl) ?_
    refine lv_aload_n hx hb dX2_copyFrom_89 rfl (lv_at hl 1 rfl) ?_
    refine r_get hx hb hts i_X2 hown hT2 (Rg.off hQ hS hN2) (inP hx1) (fs := (fsP g2 x1)) (obP hx1) rfl 12 (by decide) q141 (fun _ h9 => h9) rfl dX2_copyFrom_90 ?_
    refine r_put hx hb hts i_X2 tyX2 tyX2_ok nmX2 hown hT hP hD hC hN hS (mtP hx0) (fs := (fsP g x0)) (obP hx0) rfl 12 (by decide) q141 (fun _ h9 => h9) rfl (ty := .int) (x := κ x1 12) rfl rfl rfl (fun _ => rfl) (Nat.le_of_ble_eq_true rfl) dX2_copyFrom_93 (fun H locs hP hS => ?_)
    obtain ⟨μ_13, eμ_13⟩ : ∃ z, put μ_12 x0 12 (κ x1 12) = z := ⟨_, rfl⟩
    rw [eμ_13] at hP
    have hf := bnd_eq hf _ eμ_13
    refine lv_aload_n hx hb dX2_copyFrom_96 rfl (lv_at hl 0 rfl) ?_
    refine lv_aload_n hx hb dX2_copyFrom_97 rfl (lv_at hl 1 rfl) ?_
    refine r_get hx hb hts i_X2 hown hT2 (Rg.off hQ hS hN2) (inP hx1) (fs := (fsP g2 x1)) (obP hx1) rfl 13 (by decide) q143 (fun _ h9 => h9) rfl dX2_copyFrom_98 ?_
    obtain ⟨hb_15, hf⟩ := grd_some hf
    refine r_put hx hb hts i_X2 tyX2 tyX2_ok nmX2 hown hT hP hD hC hN hS (mtP hx0) (fs := (fsP g x0)) (obP hx0) rfl 13 (by decide) q143 (fun _ h9 => h9) rfl (ty := .boolean) (x := κ x1 13) rfl (nar01 hb_15) (fit01 hb_15) (fun _ => rfl) (Nat.le_of_ble_eq_true rfl) dX2_copyFrom_101 (fun H locs hP hS => ?_)
    obtain ⟨μ_14, eμ_14⟩ : ∃ z, put μ_13 x0 13 (κ x1 13) = z := ⟨_, rfl⟩
    rw [eμ_14] at hP
    have hf := bnd_eq hf _ eμ_14
    exact L104 μ_14 x0 x1 _ _ _ hP hS (lv_sub hl [0, 1] rfl) hx0 hx1 hf
  have L40 : ∀ (μ : Mem) (x0 : Nat) (x1 : Nat) (H : Heap) (locs : List Loc) (ls : Array Slot), Rg g μ H → va_S (Ag g s.heap.size) s.heap H locs → lv_has ls 2 [(0, .ref (g.ad x0)), (1, .ref (g2.ad x1))] → isP x0 → isP x1 → b_X2_copyFrom2_40 g.F g2.F μ κ x0 x1 = some r → W p l e (headSpec (ws_ yX2_copyFrom cX2_copyFrom 2 (Option.none : Option Jvm.ClassFile.FieldType)) (rm_ 1 22 0 0)).room s m ([.ref (g.ad t), .ref (g2.ad o)] : List Value).toArray below meth c H locs 0 0 (MQ below (va_Qv (fun _ : Unit => True) (fun _ t => Rg g r t.heap) (Ag g s.heap.size)) ([.ref (g.ad t), .ref (g2.ad o)] : List Value).toArray s 0 0 (Ag g s.heap.size)) (F0 m 40 ls []) := by
    intro μ x0 x1 H locs ls hP hS hl hx0 hx1 hf
    unfold b_X2_copyFrom2_40 at hf
    refine lv_aload_n hx hb dX2_copyFrom_40 rfl (lv_at hl 0 rfl) ?_
    refine lv_aload_n hx hb dX2_copyFrom_41 rfl (lv_at hl 1 rfl) ?_
    refine r_get hx hb hts i_X2 hown hT2 (Rg.off hQ hS hN2) (inP hx1) (fs := (fsP g2 x1)) (obP hx1) rfl 6 (by decide) q127 (fun _ h9 => h9) rfl dX2_copyFrom_42 ?_
    refine r_put hx hb hts i_X2 tyX2 tyX2_ok nmX2 hown hT hP hD hC hN hS (mtP hx0) (fs := (fsP g x0)) (obP hx0) rfl 6 (by decide) q127 (fun _ h9 => h9) rfl (ty := .int) (x := κ x1 6) rfl rfl rfl (fun _ => rfl) (Nat.le_of_ble_eq_true rfl) dX2_copyFrom_45 (fun H locs hP hS => ?_)
    obtain ⟨μ_7, eμ_7⟩ : ∃ z, put μ x0 6 (κ x1 6) = z := ⟨_, rfl⟩
    rw [eμ_7] at hP
    have hf := bnd_eq hf _ eμ_7
    refine lv_aload_n hx hb dX2_copyFrom_48 rfl (lv_at hl 0 rfl) ?_
    refine lv_aload_n hx hb dX2_copyFrom_49 rfl (lv_at hl 1 rfl) ?_
    refine r_get hx hb hts i_X2 hown hT2 (Rg.off hQ hS hN2) (inP hx1) (fs := (fsP g2 x1)) (obP hx1) rfl 7 (by decide) q130 (fun _ h9 => h9) rfl dX2_copyFrom_50 ?_
    refine r_put hx hb hts i_X2 tyX2 tyX2_ok nmX2 hown hT hP hD hC hN hS (mtP hx0) (fs := (fsP g x0)) (obP hx0) rfl 7 (by decide) q130 (fun _ h9 => h9) rfl (ty := .int) (x := κ x1 7) rfl rfl rfl (fun _ => rfl) (Nat.le_of_ble_eq_true rfl) dX2_copyFrom_53 (fun H locs hP hS => ?_)
    obtain ⟨μ_8, eμ_8⟩ : ∃ z, put μ_7 x0 7 (κ x1 7) = z := ⟨_, rfl⟩
    rw [eμ_8] at hP
    have hf := bnd_eq hf _ eμ_8
    refine lv_aload_n hx hb dX2_copyFrom_56 rfl (lv_at hl 0 rfl) ?_
    refine lv_aload_n hx hb dX2_copyFrom_57 rfl (lv_at hl 1 rfl) ?_
    refine r_get hx hb hts i_X2 hown hT2 (Rg.off hQ hS hN2) (inP hx1) (fs := (fsP g2 x1)) (obP hx1) rfl 8 (by decide) q133 (fun _ h9 => h9) rfl dX2_copyFrom_58 ?_
    refine r_put hx hb hts i_X2 tyX2 tyX2_ok nmX2 hown hT hP hD hC hN hS (mtP hx0) (fs := (fsP g x0)) (obP hx0) rfl 8 (by decide) q133 (fun _ h9 => h9) rfl (ty := .int) (x := κ x1 8) rfl rfl rfl (fun _ => rfl) (Nat.le_of_ble_eq_true rfl) dX2_copyFrom_61 (fun H locs hP hS => ?_)
    obtain ⟨μ_9, eμ_9⟩ : ∃ z, put μ_8 x0 8 (κ x1 8) = z := ⟨_, rfl⟩
    rw [eμ_9] at hP
    have hf := bnd_eq hf _ eμ_9
    refine lv_aload_n hx hb dX2_copyFrom_64 rfl (lv_at hl 0 rfl) ?_
    refine lv_aload_n hx hb dX2_copyFrom_65 rfl (lv_at hl 1 rfl) ?_
    refine r_get hx hb hts i_X2 hown hT2 (Rg.off hQ hS hN2) (inP hx1) (fs := (fsP g2 x1)) (obP hx1) rfl 9 (by decide) q135 (fun _ h9 => h9) rfl dX2_copyFrom_66 ?_
    refine r_put hx hb hts i_X2 tyX2 tyX2_ok nmX2 hown hT hP hD hC hN hS (mtP hx0) (fs := (fsP g x0)) (obP hx0) rfl 9 (by decide) q135 (fun _ h9 => h9) rfl (ty := .int) (x := κ x1 9) rfl rfl rfl (fun _ => rfl) (Nat.le_of_ble_eq_true rfl) dX2_copyFrom_69 (fun H locs hP hS => ?_)
    obtain ⟨μ_10, eμ_10⟩ : ∃ z, put μ_9 x0 9 (κ x1 9) = z := ⟨_, rfl⟩
    rw [eμ_10] at hP
    have hf := bnd_eq hf _ eμ_10
    refine lv_aload_n hx hb dX2_copyFrom_72 rfl (lv_at hl 0 rfl) ?_
    refine lv_aload_n hx hb dX2_copyFrom_73 rfl (lv_at hl 1 rfl) ?_
    refine r_get hx hb hts i_X2 hown hT2 (Rg.off hQ hS hN2) (inP hx1) (fs := (fsP g2 x1)) (obP hx1) rfl 10 (by decide) q137 (fun _ h9 => h9) rfl dX2_copyFrom_74 ?_
    refine r_put hx hb hts i_X2 tyX2 tyX2_ok nmX2 hown hT hP hD hC hN hS (mtP hx0) (fs := (fsP g x0)) (obP hx0) rfl 10 (by decide) q137 (fun _ h9 => h9) rfl (ty := .int) (x := κ x1 10) rfl rfl rfl (fun _ => rfl) (Nat.le_of_ble_eq_true rfl) dX2_copyFrom_77 (fun H locs hP hS => ?_)
    obtain ⟨μ_11, eμ_11⟩ : ∃ z, put μ_10 x0 10 (κ x1 10) = z := ⟨_, rfl⟩
    rw [eμ_11] at hP
    have hf := bnd_eq hf _ eμ_11
    exact L80 μ_11 x0 x1 _ _ _ hP hS (lv_sub hl [0, 1] rfl) hx0 hx1 hf
  have hl := lv_entry ([.ref (g.ad t), .ref (g2.ad o)]) (n := 2) (Nat.le_of_ble_eq_true rfl)
  rw [lg_entry_eq]
  generalize (lg_sl ([.ref (g.ad t), .ref (g2.ad o)]) ++ List.replicate (2 - (lg_sl ([.ref (g.ad t), .ref (g2.ad o)])).length) Slot.unset).toArray = ls at hl ⊢
  have hl : lv_has ls 2 [(0, .ref (g.ad t)), (1, .ref (g2.ad o))] := hl
  unfold f_X2_copyFrom2 at hf
  refine lv_aload_n hx hb dX2_copyFrom_0 rfl (lv_at hl 0 rfl) ?_
  refine lv_aload_n hx hb dX2_copyFrom_1 rfl (lv_at hl 1 rfl) ?_
  refine r_get hx hb hts i_X2 hown hT2 (Rg.off hQ hS hN2) (inP ho) (fs := (fsP g2 o)) (obP ho) rfl 1 (by decide) q113 (fun _ h9 => h9) rfl dX2_copyFrom_2 ?_
  obtain ⟨hb_2, hf⟩ := grd_some hf
  refine r_put hx hb hts i_X2 tyX2 tyX2_ok nmX2 hown hT hP hD hC hN hS (mtP ht) (fs := (fsP g t)) (obP ht) rfl 1 (by decide) q113 (fun _ h9 => h9) rfl (ty := (.object "Sandglass$Script")) (x := κ o 1) rfl narSR fitSR (fun _ => set_sref2 hsh hb_2) (Nat.le_of_ble_eq_true rfl) dX2_copyFrom_5 (fun H locs hP hS => ?_)
  obtain ⟨μ_1, eμ_1⟩ : ∃ z, put μ t 1 (κ o 1) = z := ⟨_, rfl⟩
  rw [eμ_1] at hP
  have hf := bnd_eq hf _ eμ_1
  refine lv_aload_n hx hb dX2_copyFrom_8 rfl (lv_at hl 0 rfl) ?_
  refine lv_aload_n hx hb dX2_copyFrom_9 rfl (lv_at hl 1 rfl) ?_
  refine r_get hx hb hts i_X2 hown hT2 (Rg.off hQ hS hN2) (inP ho) (fs := (fsP g2 o)) (obP ho) rfl 2 (by decide) q115 (fun _ h9 => h9) rfl dX2_copyFrom_10 ?_
  refine r_put hx hb hts i_X2 tyX2 tyX2_ok nmX2 hown hT hP hD hC hN hS (mtP ht) (fs := (fsP g t)) (obP ht) rfl 2 (by decide) q115 (fun _ h9 => h9) rfl (ty := .int) (x := κ o 2) rfl rfl rfl (fun _ => rfl) (Nat.le_of_ble_eq_true rfl) dX2_copyFrom_13 (fun H locs hP hS => ?_)
  obtain ⟨μ_3, eμ_3⟩ : ∃ z, put μ_1 t 2 (κ o 2) = z := ⟨_, rfl⟩
  rw [eμ_3] at hP
  have hf := bnd_eq hf _ eμ_3
  refine lv_aload_n hx hb dX2_copyFrom_16 rfl (lv_at hl 0 rfl) ?_
  refine lv_aload_n hx hb dX2_copyFrom_17 rfl (lv_at hl 1 rfl) ?_
  refine r_get hx hb hts i_X2 hown hT2 (Rg.off hQ hS hN2) (inP ho) (fs := (fsP g2 o)) (obP ho) rfl 3 (by decide) q118 (fun _ h9 => h9) rfl dX2_copyFrom_18 ?_
  refine r_put hx hb hts i_X2 tyX2 tyX2_ok nmX2 hown hT hP hD hC hN hS (mtP ht) (fs := (fsP g t)) (obP ht) rfl 3 (by decide) q118 (fun _ h9 => h9) rfl (ty := .int) (x := κ o 3) rfl rfl rfl (fun _ => rfl) (Nat.le_of_ble_eq_true rfl) dX2_copyFrom_21 (fun H locs hP hS => ?_)
  obtain ⟨μ_4, eμ_4⟩ : ∃ z, put μ_3 t 3 (κ o 3) = z := ⟨_, rfl⟩
  rw [eμ_4] at hP
  have hf := bnd_eq hf _ eμ_4
  refine lv_aload_n hx hb dX2_copyFrom_24 rfl (lv_at hl 0 rfl) ?_
  refine lv_aload_n hx hb dX2_copyFrom_25 rfl (lv_at hl 1 rfl) ?_
  refine r_get hx hb hts i_X2 hown hT2 (Rg.off hQ hS hN2) (inP ho) (fs := (fsP g2 o)) (obP ho) rfl 4 (by decide) q121 (fun _ h9 => h9) rfl dX2_copyFrom_26 ?_
  refine r_put hx hb hts i_X2 tyX2 tyX2_ok nmX2 hown hT hP hD hC hN hS (mtP ht) (fs := (fsP g t)) (obP ht) rfl 4 (by decide) q121 (fun _ h9 => h9) rfl (ty := .int) (x := κ o 4) rfl rfl rfl (fun _ => rfl) (Nat.le_of_ble_eq_true rfl) dX2_copyFrom_29 (fun H locs hP hS => ?_)
  obtain ⟨μ_5, eμ_5⟩ : ∃ z, put μ_4 t 4 (κ o 4) = z := ⟨_, rfl⟩
  rw [eμ_5] at hP
  have hf := bnd_eq hf _ eμ_5
  refine lv_aload_n hx hb dX2_copyFrom_32 rfl (lv_at hl 0 rfl) ?_
  refine lv_aload_n hx hb dX2_copyFrom_33 rfl (lv_at hl 1 rfl) ?_
  refine r_get hx hb hts i_X2 hown hT2 (Rg.off hQ hS hN2) (inP ho) (fs := (fsP g2 o)) (obP ho) rfl 5 (by decide) q124 (fun _ h9 => h9) rfl dX2_copyFrom_34 ?_
  refine r_put hx hb hts i_X2 tyX2 tyX2_ok nmX2 hown hT hP hD hC hN hS (mtP ht) (fs := (fsP g t)) (obP ht) rfl 5 (by decide) q124 (fun _ h9 => h9) rfl (ty := .int) (x := κ o 5) rfl rfl rfl (fun _ => rfl) (Nat.le_of_ble_eq_true rfl) dX2_copyFrom_37 (fun H locs hP hS => ?_)
  obtain ⟨μ_6, eμ_6⟩ : ∃ z, put μ_5 t 5 (κ o 5) = z := ⟨_, rfl⟩
  rw [eμ_6] at hP
  have hf := bnd_eq hf _ eμ_6
  exact L40 μ_6 t o _ _ _ hP hS (lv_sub hl [0, 1] rfl) ht ho hf
/-- "Sandglass$Resource" "copyFrom" "(LSandglass$Resource;)V" -/
def f_X3_copyFrom2 (g g2 : Fg) (μ κ : Mem) (t : Nat) (o : Nat) : Option (Mem) := bnd (put μ t 3 (κ o 3)) fun μ_1 => bnd (put μ_1 t 4 (κ o 4)) fun μ_2 => bnd (put μ_2 t 5 (κ o 5)) fun μ_3 => bnd (put μ_3 t 6 (κ o 6)) fun μ_4 => some μ_4
theorem hd_X3_copyFrom2 : yX3_copyFrom.cls = RX3 ∧ yX3_copyFrom.cls ≠ "java/lang/invoke/MethodHandle" ∧ yX3_copyFrom.cls ≠ "java/lang/invoke/VarHandle" ∧ (parseMethodDescriptor yX3_copyFrom.desc).map (fun d => d.parameters.length) = some 1 := by decide +kernel
set_option maxHeartbeats 4000000 in
set_option maxRecDepth 100000 in
theorem c_X3_copyFrom2 (l : Launch) {g g2 : Geo} (hg : Good g) (hg2 : Good g2) (hdis : Dis g g2) (hsh : Shr g g2) (μ κ : Mem) (sz : Nat) (t : Nat) (o : Nat) (ht : isR g t) (ho : isR g2 o) {r : Mem} (hf : f_X3_copyFrom2 g.F g2.F μ κ t o = some r) : Met l yX3_copyFrom (ws_ yX3_copyFrom cX3_copyFrom 2 (Option.none : Option Jvm.ClassFile.FieldType)) (rm_ 0 0 0 0) (Pz2 g g2 [.ref (g.ad t), .ref (g2.ad o)] (fun H9 => H9.size = sz ∧ Rg g μ H9 ∧ Rg g2 κ H9)) (va_Qv (fun _ : Unit => True) (fun _ t => Rg g r t.heap) (Ag g sz)) 0 0 (Ag g sz) := by
  refine Met.ofW (cc := cX3_copyFrom) (maxL := 2) (ret := (Option.none : Option Jvm.ClassFile.FieldType)) (by decide) rfl ?_
  intro p e s m args below meth c s₁ B hml hv
  obtain ⟨rfl, hT, hT2, hsz, hP, hQ⟩ := hv
  have hx := B.exec
  have hb := B.bytes
  have hr := B.returns
  have hts : ∀ w ∈ lw_all, w.before _ s = true := fun w h => atoms_spec (ws := (ws_ yX3_copyFrom cX3_copyFrom 2 (Option.none : Option Jvm.ClassFile.FieldType))) B.pre w (List.mem_cons_of_mem _ h)
  have hown : s.vm.findClass RX3 = some m.cls := findClass_of_methodNamed B.named
  have hlocks := B.notSynchronized
  subst hsz
  have hD := fun ν => Ag.apart hg s.heap.size ν
  have hC := hP.sh
  have hN := Ag.shr hg hP
  have hN2 := Ag.dis hdis hQ
  have hS : va_S (Ag g s.heap.size) s.heap s.heap [] := va_S.rf
  have hl := lv_entry ([.ref (g.ad t), .ref (g2.ad o)]) (n := 2) (Nat.le_of_ble_eq_true rfl)
  rw [lg_entry_eq]
  generalize (lg_sl ([.ref (g.ad t), .ref (g2.ad o)]) ++ List.replicate (2 - (lg_sl ([.ref (g.ad t), .ref (g2.ad o)])).length) Slot.unset).toArray = ls at hl ⊢
  have hl : lv_has ls 2 [(0, .ref (g.ad t)), (1, .ref (g2.ad o))] := hl
  unfold f_X3_copyFrom2 at hf
  refine lv_aload_n hx hb dX3_copyFrom_0 rfl (lv_at hl 0 rfl) ?_
  refine lv_aload_n hx hb dX3_copyFrom_1 rfl (lv_at hl 1 rfl) ?_
  refine r_get hx hb hts i_X3 hown hT2 (Rg.off hQ hS hN2) (inR ho) (fs := fsR) (obR ho) rfl 3 (by decide) q954 (fun _ h9 => h9) rfl dX3_copyFrom_2 ?_
  refine r_put hx hb hts i_X3 tyX3 tyX3_ok nmX3 hown hT hP hD hC hN hS (mtR ht) (fs := fsR) (obR ht) rfl 3 (by decide) q954 (fun _ h9 => h9) rfl (ty := .int) (x := κ o 3) rfl rfl rfl (fun _ => rfl) (Nat.le_of_ble_eq_true rfl) dX3_copyFrom_5 (fun H locs hP hS => ?_)
  obtain ⟨μ_1, eμ_1⟩ : ∃ z, put μ t 3 (κ o 3) = z := ⟨_, rfl⟩
  rw [eμ_1] at hP
  have hf := bnd_eq hf _ eμ_1
  refine lv_aload_n hx hb dX3_copyFrom_8 rfl (lv_at hl 0 rfl) ?_
  refine lv_aload_n hx hb dX3_copyFrom_9 rfl (lv_at hl 1 rfl) ?_
  refine r_get hx hb hts i_X3 hown hT2 (Rg.off hQ hS hN2) (inR ho) (fs := fsR) (obR ho) rfl 4 (by decide) q957 (fun _ h9 => h9) rfl dX3_copyFrom_10 ?_
  refine r_put hx hb hts i_X3 tyX3 tyX3_ok nmX3 hown hT hP hD hC hN hS (mtR ht) (fs := fsR) (obR ht) rfl 4 (by decide) q957 (fun _ h9 => h9) rfl (ty := .int) (x := κ o 4) rfl rfl rfl (fun _ => rfl) (Nat.le_of_ble_eq_true rfl) dX3_copyFrom_13 (fun H locs hP hS => ?_)
  obtain ⟨μ_2, eμ_2⟩ : ∃ z, put μ_1 t 4 (κ o 4) = z := ⟨_, rfl⟩
  rw [eμ_2] at hP
  have hf := bnd_eq hf _ eμ_2
  refine lv_aload_n hx hb dX3_copyFrom_16 rfl (lv_at hl 0 rfl) ?_
  refine lv_aload_n hx hb dX3_copyFrom_17 rfl (lv_at hl 1 rfl) ?_
  refine r_get hx hb hts i_X3 hown hT2 (Rg.off hQ hS hN2) (inR ho) (fs := fsR) (obR ho) rfl 5 (by decide) q960 (fun _ h9 => h9) rfl dX3_copyFrom_18 ?_
  refine r_put hx hb hts i_X3 tyX3 tyX3_ok nmX3 hown hT hP hD hC hN hS (mtR ht) (fs := fsR) (obR ht) rfl 5 (by decide) q960 (fun _ h9 => h9) rfl (ty := .int) (x := κ o 5) rfl rfl rfl (fun _ => rfl) (Nat.le_of_ble_eq_true rfl) dX3_copyFrom_21 (fun H locs hP hS => ?_)
  obtain ⟨μ_3, eμ_3⟩ : ∃ z, put μ_2 t 5 (κ o 5) = z := ⟨_, rfl⟩
  rw [eμ_3] at hP
  have hf := bnd_eq hf _ eμ_3
  refine lv_aload_n hx hb dX3_copyFrom_24 rfl (lv_at hl 0 rfl) ?_
  refine lv_aload_n hx hb dX3_copyFrom_25 rfl (lv_at hl 1 rfl) ?_
  refine r_get hx hb hts i_X3 hown hT2 (Rg.off hQ hS hN2) (inR ho) (fs := fsR) (obR ho) rfl 6 (by decide) q963 (fun _ h9 => h9) rfl dX3_copyFrom_26 ?_
  refine r_put hx hb hts i_X3 tyX3 tyX3_ok nmX3 hown hT hP hD hC hN hS (mtR ht) (fs := fsR) (obR ht) rfl 6 (by decide) q963 (fun _ h9 => h9) rfl (ty := .int) (x := κ o 6) rfl rfl rfl (fun _ => rfl) (Nat.le_of_ble_eq_true rfl) dX3_copyFrom_29 (fun H locs hP hS => ?_)
  obtain ⟨μ_4, eμ_4⟩ : ∃ z, put μ_3 t 6 (κ o 6) = z := ⟨_, rfl⟩
  rw [eμ_4] at hP
  have hf := bnd_eq hf _ eμ_4
  exact W.vret hx hb hr (fun t9 ht hW => ⟨⟨(), rfl, trivial, by show Rg g r t9.heap; rw [ht, ← Option.some.inj hf]; exact hP⟩, hS.F ht⟩) hS.2.2 dX3_copyFrom_32
/-- "Sandglass$Store" "copyFrom" "(LSandglass$Store;)V" -/
def f_X5_copyFrom2 (g g2 : Fg) (μ κ : Mem) (t : Nat) (o : Nat) : Option (Mem) := bnd (put μ t 2 (κ o 2)) fun μ_1 => bnd (put μ_1 t 3 (κ o 3)) fun μ_2 => some μ_2
theorem hd_X5_copyFrom2 : yX5_copyFrom.cls = RX5 ∧ yX5_copyFrom.cls ≠ "java/lang/invoke/MethodHandle" ∧ yX5_copyFrom.cls ≠ "java/lang/invoke/VarHandle" ∧ (parseMethodDescriptor yX5_copyFrom.desc).map (fun d => d.parameters.length) = some 1 := by decide +kernel
set_option maxHeartbeats 4000000 in
set_option maxRecDepth 100000 in
theorem c_X5_copyFrom2 (l : Launch) {g g2 : Geo} (hg : Good g) (hg2 : Good g2) (hdis : Dis g g2) (hsh : Shr g g2) (μ κ : Mem) (sz : Nat) (t : Nat) (o : Nat) (ht : isS g t) (ho : isS g2 o) {r : Mem} (hf : f_X5_copyFrom2 g.F g2.F μ κ t o = some r) : Met l yX5_copyFrom (ws_ yX5_copyFrom cX5_copyFrom 2 (Option.none : Option Jvm.ClassFile.FieldType)) (rm_ 0 0 0 0) (Pz2 g g2 [.ref (g.ad t), .ref (g2.ad o)] (fun H9 => H9.size = sz ∧ Rg g μ H9 ∧ Rg g2 κ H9)) (va_Qv (fun _ : Unit => True) (fun _ t => Rg g r t.heap) (Ag g sz)) 0 0 (Ag g sz) := by
  refine Met.ofW (cc := cX5_copyFrom) (maxL := 2) (ret := (Option.none : Option Jvm.ClassFile.FieldType)) (by decide) rfl ?_
  intro p e s m args below meth c s₁ B hml hv
  obtain ⟨rfl, hT, hT2, hsz, hP, hQ⟩ := hv
  have hx := B.exec
  have hb := B.bytes
  have hr := B.returns
  have hts : ∀ w ∈ lw_all, w.before _ s = true := fun w h => atoms_spec (ws := (ws_ yX5_copyFrom cX5_copyFrom 2 (Option.none : Option Jvm.ClassFile.FieldType))) B.pre w (List.mem_cons_of_mem _ h)
  have hown : s.vm.findClass RX5 = some m.cls := findClass_of_methodNamed B.named
  have hlocks := B.notSynchronized
  subst hsz
  have hD := fun ν => Ag.apart hg s.heap.size ν
  have hC := hP.sh
  have hN := Ag.shr hg hP
  have hN2 := Ag.dis hdis hQ
  have hS : va_S (Ag g s.heap.size) s.heap s.heap [] := va_S.rf
  have hl := lv_entry ([.ref (g.ad t), .ref (g2.ad o)]) (n := 2) (Nat.le_of_ble_eq_true rfl)
  rw [lg_entry_eq]
  generalize (lg_sl ([.ref (g.ad t), .ref (g2.ad o)]) ++ List.replicate (2 - (lg_sl ([.ref (g.ad t), .ref (g2.ad o)])).length) Slot.unset).toArray = ls at hl ⊢
  have hl : lv_has ls 2 [(0, .ref (g.ad t)), (1, .ref (g2.ad o))] := hl
  unfold f_X5_copyFrom2 at hf
  refine lv_aload_n hx hb dX5_copyFrom_0 rfl (lv_at hl 0 rfl) ?_
  refine lv_aload_n hx hb dX5_copyFrom_1 rfl (lv_at hl 1 rfl) ?_
  refine r_get hx hb hts i_X5 hown hT2 (Rg.off hQ hS hN2) (inS ho) (fs := fsS) (obS ho) rfl 2 (by decide) q997 (fun _ h9 => h9) rfl dX5_copyFrom_2 ?_
  refine r_put hx hb hts i_X5 tyX5 tyX5_ok nmX5 hown hT hP hD hC hN hS (mtS ht) (fs := fsS) (obS ht) rfl 2 (by decide) q997 (fun _ h9 => h9) rfl (ty := .int) (x := κ o 2) rfl rfl rfl (fun _ => rfl) (Nat.le_of_ble_eq_true rfl) dX5_copyFrom_5 (fun H locs hP hS => ?_)
  obtain ⟨μ_1, eμ_1⟩ : ∃ z, put μ t 2 (κ o 2) = z := ⟨_, rfl⟩
  rw [eμ_1] at hP
  have hf := bnd_eq hf _ eμ_1
  refine lv_aload_n hx hb dX5_copyFrom_8 rfl (lv_at hl 0 rfl) ?_
  refine lv_aload_n hx hb dX5_copyFrom_9 rfl (lv_at hl 1 rfl) ?_
  refine r_get hx hb hts i_X5 hown hT2 (Rg.off hQ hS hN2) (inS ho) (fs := fsS) (obS ho) rfl 3 (by decide) q1000 (fun _ h9 => h9) rfl dX5_copyFrom_10 ?_
  refine r_put hx hb hts i_X5 tyX5 tyX5_ok nmX5 hown hT hP hD hC hN hS (mtS ht) (fs := fsS) (obS ht) rfl 3 (by decide) q1000 (fun _ h9 => h9) rfl (ty := .int) (x := κ o 3) rfl rfl rfl (fun _ => rfl) (Nat.le_of_ble_eq_true rfl) dX5_copyFrom_13 (fun H locs hP hS => ?_)
  obtain ⟨μ_2, eμ_2⟩ : ∃ z, put μ_1 t 3 (κ o 3) = z := ⟨_, rfl⟩
  rw [eμ_2] at hP
  have hf := bnd_eq hf _ eμ_2
  exact W.vret hx hb hr (fun t9 ht hW => ⟨⟨(), rfl, trivial, by show Rg g r t9.heap; rw [ht, ← Option.some.inj hf]; exact hP⟩, hS.F ht⟩) hS.2.2 dX5_copyFrom_16
/-- "Sandglass$World" "copyFrom" "(LSandglass$World;)V" -/
def b_X7_copyFrom2_138 (g g2 : Fg) : Nat → Mem → Mem → Int32 → Option (Mem)
  | 0, _, _, _ => none
  | n + 1, μ, κ, x2 => if (nI (g.sz 1)) ≤ x2 then (some μ) else (if (nI (g2.sz 1)) ≤ x2 then (some μ) else (grd (¬ (x2 < 0 ∨ g.sz 1 ≤ x2.toNatClampNeg)) (bnd (108 + x2.toNatClampNeg) fun k_32 => grd (108 ≤ k_32 ∧ k_32 < 108 + g.sz 1 ∧ k_32 < 112) (grd (¬ (x2 < 0 ∨ g2.sz 1 ≤ x2.toNatClampNeg)) (bnd (108 + x2.toNatClampNeg) fun k_35 => grd (108 ≤ k_35 ∧ k_35 < 108 + g2.sz 1 ∧ k_35 < 112) (bnO (f_X5_copyFrom2 g g2 μ κ k_32 k_35) fun μ_38 => b_X7_copyFrom2_138 g g2 n μ_38 κ (x2 + 1)))))))
def b_X7_copyFrom2_83 (g g2 : Fg) : Nat → Mem → Mem → Int32 → Option (Mem)
  | 0, _, _, _ => none
  | n + 1, μ, κ, x2 => if (nI (g.sz 0)) ≤ x2 then (b_X7_copyFrom2_138 g g2 fu μ κ 0) else (if (nI (g2.sz 0)) ≤ x2 then (b_X7_copyFrom2_138 g g2 fu μ κ 0) else (grd (¬ (x2 < 0 ∨ g.sz 0 ≤ x2.toNatClampNeg)) (bnd (102 + x2.toNatClampNeg) fun k_21 => grd (102 ≤ k_21 ∧ k_21 < 102 + g.sz 0 ∧ k_21 < 108) (grd (¬ (x2 < 0 ∨ g2.sz 0 ≤ x2.toNatClampNeg)) (bnd (102 + x2.toNatClampNeg) fun k_24 => grd (102 ≤ k_24 ∧ k_24 < 102 + g2.sz 0 ∧ k_24 < 108) (bnO (f_X3_copyFrom2 g g2 μ κ k_21 k_24) fun μ_27 => b_X7_copyFrom2_83 g g2 n μ_27 κ (x2 + 1)))))))
def b_X7_copyFrom2_42 (g g2 : Fg) : Nat → Mem → Mem → Int32 → Option (Mem)
  | 0, _, _, _ => none
  | n + 1, μ, κ, x2 => if 24 ≤ x2 then (b_X7_copyFrom2_83 g g2 fu μ κ 0) else (if 24 ≤ x2 then (b_X7_copyFrom2_83 g g2 fu μ κ 0) else (grd (¬ (x2 < 0 ∨ 24 ≤ x2.toNatClampNeg)) (bnd (x2.toNatClampNeg + 1) fun k_10 => grd (¬ (x2 < 0 ∨ 24 ≤ x2.toNatClampNeg)) (bnd (x2.toNatClampNeg + 1) fun k_13 => bnO (f_X2_copyFrom2 g g2 μ κ k_10 k_13) fun μ_16 => b_X7_copyFrom2_42 g g2 n μ_16 κ (x2 + 1)))))
def f_X7_copyFrom2 (g g2 : Fg) (μ κ : Mem) : Option (Mem) := bnd (put μ 0 5 (κ 0 5)) fun μ_1 => bnd (put μ_1 0 6 (κ 0 6)) fun μ_2 => bnd (put μ_2 0 7 (κ 0 7)) fun μ_3 => bnd (put μ_3 0 8 (κ 0 8)) fun μ_4 => bnd (put μ_4 0 9 (κ 0 9)) fun μ_5 => b_X7_copyFrom2_42 g g2 fu μ_5 κ 0
theorem hd_X7_copyFrom2 : yX7_copyFrom.cls = RX7 ∧ yX7_copyFrom.cls ≠ "java/lang/invoke/MethodHandle" ∧ yX7_copyFrom.cls ≠ "java/lang/invoke/VarHandle" ∧ (parseMethodDescriptor yX7_copyFrom.desc).map (fun d => d.parameters.length) = some 1 := by decide +kernel
set_option maxHeartbeats 4000000 in
set_option maxRecDepth 100000 in
theorem c_X7_copyFrom2 (l : Launch) {g g2 : Geo} (hg : Good g) (hg2 : Good g2) (hdis : Dis g g2) (hsh : Shr g g2) (μ κ : Mem) (sz : Nat) {r : Mem} (hf : f_X7_copyFrom2 g.F g2.F μ κ  = some r) : Met l yX7_copyFrom (ws_ yX7_copyFrom cX7_copyFrom 3 (Option.none : Option Jvm.ClassFile.FieldType)) (rm_ 3 64 0 0) (Pz2 g g2 [.ref (g.ad 0), .ref (g2.ad 0)] (fun H9 => H9.size = sz ∧ Rg g μ H9 ∧ Rg g2 κ H9)) (va_Qv (fun _ : Unit => True) (fun _ t => Rg g r t.heap) (Ag g sz)) 0 0 (Ag g sz) := by
  refine Met.ofW (cc := cX7_copyFrom) (maxL := 3) (ret := (Option.none : Option Jvm.ClassFile.FieldType)) (by decide) rfl ?_
  intro p e s m args below meth c s₁ B hml hv
  obtain ⟨rfl, hT, hT2, hsz, hP, hQ⟩ := hv
  have hx := B.exec
  have hb := B.bytes
  have hr := B.returns
  have hts : ∀ w ∈ lw_all, w.before _ s = true := fun w h => atoms_spec (ws := (ws_ yX7_copyFrom cX7_copyFrom 3 (Option.none : Option Jvm.ClassFile.FieldType))) B.pre w (List.mem_cons_of_mem _ h)
  have hown : s.vm.findClass RX7 = some m.cls := findClass_of_methodNamed B.named
  have hlocks := B.notSynchronized
  subst hsz
  have hD := fun ν => Ag.apart hg s.heap.size ν
  have hC := hP.sh
  have hN := Ag.shr hg hP
  have hN2 := Ag.dis hdis hQ
  have hS : va_S (Ag g s.heap.size) s.heap s.heap [] := va_S.rf
  have L138 : ∀ (n : Nat) (μ : Mem) (x2 : Int32) (H : Heap) (locs : List Loc) (ls : Array Slot), Rg g μ H → va_S (Ag g s.heap.size) s.heap H locs → lv_has ls 3 [(0, .ref (g.ad 0)), (1, .ref (g2.ad 0)), (2, .int x2)] → b_X7_copyFrom2_138 g.F g2.F n μ κ x2 = some r → W p l e (headSpec (ws_ yX7_copyFrom cX7_copyFrom 3 (Option.none : Option Jvm.ClassFile.FieldType)) (rm_ 3 64 0 0)).room s m ([.ref (g.ad 0), .ref (g2.ad 0)] : List Value).toArray below meth c H locs 0 0 (MQ below (va_Qv (fun _ : Unit => True) (fun _ t => Rg g r t.heap) (Ag g s.heap.size)) ([.ref (g.ad 0), .ref (g2.ad 0)] : List Value).toArray s 0 0 (Ag g s.heap.size)) (F0 m 138 ls []) := by
    intro n
    induction n with
    | zero => intro μ x2 H locs ls hP hS hl  hf; cases hf
    | succ n ih =>
      intro μ x2 H locs ls hP hS hl  hf
      rw [b_X7_copyFrom2_138] at hf
      refine lv_iload_n hx hb dX7_copyFrom_138 rfl (lv_at hl 2 rfl) ?_
      refine lv_aload_n hx hb dX7_copyFrom_139 rfl (lv_at hl 0 rfl) ?_
      refine r_get hx hb hts i_X7 hown hT hP inW (fs := (fsW g)) (obW g) rfl 3 (by decide) q192 (fun _ h9 => h9) rfl dX7_copyFrom_140 ?_
      refine va_calli (va_runV (As := []) (rest := [.int x2]) ⟨hx, hb, hml, hown, hts⟩ (c_Jx4a65c_size_8abf5 l hg μ in100 (szS g)) (cwV 0 hts (gd_V q325 q326 q327 q40 q328) rfl rfl rfl hd_Jx4a65c_size_8abf5 ⟨Nat.le_of_ble_eq_true rfl, Nat.le_of_ble_eq_true rfl⟩) ⟨Pz.blind, r_recv hT hP in100 (fs := fun _ => [.int (nI (g.sz 1)), .ref (g.ad 101), .int (nI (g.sz 1))]) (szS g) rfl, fun U hU hW => ⟨rfl, Tb.warm hW hT, by rw [hU]; exact hP⟩⟩ rfl rfl hl.1 rfl (lv_room (Nat.le_of_ble_eq_true rfl)) dX7_copyFrom_143 ⟨Nat.le_of_ble_eq_true rfl, Nat.le_of_ble_eq_true rfl⟩) hS (fun q _ h => h.elim) (fun q h => h.elim) (fun v9 u9 t9 H locs ht9 hvm9 hw9 hB9 hz9 hk9 hS => ?_)
      have hP := Rg.keep hP (fun q h => hk9 q h id)
      rw [hw9]
      refine lv_icmp_ge (tgt := 191) hx hb dX7_copyFrom_146 (by decide) (fun c_28 => ?_) (fun c_28 => ?_)
      · have hf := (if_pos c_28).symm.trans hf
        exact W.vret hx hb hr (fun t9 ht hW => ⟨⟨(), rfl, trivial, by show Rg g r t9.heap; rw [ht, ← Option.some.inj hf]; exact hP⟩, hS.F ht⟩) hS.2.2 dX7_copyFrom_191
      · have hf := (if_neg c_28).symm.trans hf
        refine lv_iload_n hx hb dX7_copyFrom_149 rfl (lv_at hl 2 rfl) ?_
        refine lv_aload_n hx hb dX7_copyFrom_150 rfl (lv_at hl 1 rfl) ?_
        refine r_get hx hb hts i_X7 hown hT2 (Rg.off hQ hS hN2) inW (fs := (fsW g2)) (obW g2) rfl 3 (by decide) q192 (fun _ h9 => h9) rfl dX7_copyFrom_151 ?_
        refine va_calli (va_runV (As := []) (rest := [.int x2]) ⟨hx, hb, hml, hown, hts⟩ (c_Jx4a65c_size_8abf5 l hg2 κ in100 (szS g2)) (cwV 0 hts (gd_V q325 q326 q327 q40 q328) rfl rfl rfl hd_Jx4a65c_size_8abf5 ⟨Nat.le_of_ble_eq_true rfl, Nat.le_of_ble_eq_true rfl⟩) ⟨Pz.blind, r_recv hT2 (Rg.off hQ hS hN2) in100 (fs := fun _ => [.int (nI (g2.sz 1)), .ref (g2.ad 101), .int (nI (g2.sz 1))]) (szS g2) rfl, fun U hU hW => ⟨rfl, Tb.warm hW hT2, by rw [hU]; exact (Rg.off hQ hS hN2)⟩⟩ rfl rfl hl.1 rfl (lv_room (Nat.le_of_ble_eq_true rfl)) dX7_copyFrom_154 ⟨Nat.le_of_ble_eq_true rfl, Nat.le_of_ble_eq_true rfl⟩) hS (fun q _ h => h.elim) (fun q h => h.elim) (fun v9 u9 t9 H locs ht9 hvm9 hw9 hB9 hz9 hk9 hS => ?_)
        have hP := Rg.keep hP (fun q h => hk9 q h id)
        rw [hw9]
        refine lv_icmp_ge (tgt := 191) hx hb dX7_copyFrom_157 (by decide) (fun c_29 => ?_) (fun c_29 => ?_)
        · have hf := (if_pos c_29).symm.trans hf
          exact W.vret hx hb hr (fun t9 ht hW => ⟨⟨(), rfl, trivial, by show Rg g r t9.heap; rw [ht, ← Option.some.inj hf]; exact hP⟩, hS.F ht⟩) hS.2.2 dX7_copyFrom_191
        · have hf := (if_neg c_29).symm.trans hf
          refine lv_aload_n hx hb dX7_copyFrom_160 rfl (lv_at hl 0 rfl) ?_
          refine r_get hx hb hts i_X7 hown hT hP inW (fs := (fsW g)) (obW g) rfl 3 (by decide) q192 (fun _ h9 => h9) rfl dX7_copyFrom_161 ?_
          refine lv_iload_n hx hb dX7_copyFrom_164 rfl (lv_at hl 2 rfl) ?_
          obtain ⟨hi_30, hf⟩ := grd_some hf
          have hj_31 : x2.toNatClampNeg < g.sz 1 := Nat.not_le.mp (fun z => hi_30 (Or.inr z))
          refine va_callq (va_runV (As := [.int x2]) (rest := []) ⟨hx, hb, hml, hown, hts⟩ (c_Jx4a65c_get_915e3 l hg μ (lsS hg (Nat.lt_of_le_of_lt (Nat.zero_le _) hj_31)) (nI_self (fun z => hi_30 (Or.inl z))) hj_31) (cwV 1 hts (gd_V q329 q330 q331 q40 q332) rfl rfl rfl hd_Jx4a65c_get_915e3 ⟨Nat.le_of_ble_eq_true rfl, Nat.le_of_ble_eq_true rfl⟩) ⟨Pz.blind, r_recv hT hP in100 (fs := fun _ => [.int (nI (g.sz 1)), .ref (g.ad 101), .int (nI (g.sz 1))]) (szS g) rfl, fun U hU hW => ⟨rfl, Tb.warm hW hT, by rw [hU]; exact hP⟩⟩ rfl rfl hl.1 rfl (lv_room (Nat.le_of_ble_eq_true rfl)) dX7_copyFrom_165 ⟨Nat.le_of_ble_eq_true rfl, Nat.le_of_ble_eq_true rfl⟩) hS (fun q _ h => h.elim) (fun q h => h.elim) (fun v9 u9 t9 H locs ht9 hvm9 hw9 hB9 hz9 hk9 hS => ?_)
          have hP := Rg.keep hP (fun q h => hk9 q h id)
          rw [hw9, fnL_in hj_31]
          refine W.eq (g2 := F0 m 168 ls (.ref (g.ad (108 + x2.toNatClampNeg)) :: [])) rfl ?_
          obtain ⟨k_32, ek_32⟩ : ∃ z, 108 + x2.toNatClampNeg = z := ⟨_, rfl⟩
          rw [ek_32]
          have hf := bnd_eq hf _ ek_32
          obtain ⟨hk_32, hf⟩ := grd_some hf
          refine r_cast hx hb hts hown hT hP (inS hk_32) (fs := fsS) (obS hk_32) rfl q410 dX7_copyFrom_168 ?_
          refine lv_aload_n hx hb dX7_copyFrom_171 rfl (lv_at hl 1 rfl) ?_
          refine r_get hx hb hts i_X7 hown hT2 (Rg.off hQ hS hN2) inW (fs := (fsW g2)) (obW g2) rfl 3 (by decide) q192 (fun _ h9 => h9) rfl dX7_copyFrom_172 ?_
          refine lv_iload_n hx hb dX7_copyFrom_175 rfl (lv_at hl 2 rfl) ?_
          obtain ⟨hi_33, hf⟩ := grd_some hf
          have hj_34 : x2.toNatClampNeg < g2.sz 1 := Nat.not_le.mp (fun z => hi_33 (Or.inr z))
          refine va_callq (va_runV (As := [.int x2]) (rest := [.ref (g.ad k_32)]) ⟨hx, hb, hml, hown, hts⟩ (c_Jx4a65c_get_915e3 l hg2 κ (lsS hg2 (Nat.lt_of_le_of_lt (Nat.zero_le _) hj_34)) (nI_self (fun z => hi_33 (Or.inl z))) hj_34) (cwV 1 hts (gd_V q329 q330 q331 q40 q332) rfl rfl rfl hd_Jx4a65c_get_915e3 ⟨Nat.le_of_ble_eq_true rfl, Nat.le_of_ble_eq_true rfl⟩) ⟨Pz.blind, r_recv hT2 (Rg.off hQ hS hN2) in100 (fs := fun _ => [.int (nI (g2.sz 1)), .ref (g2.ad 101), .int (nI (g2.sz 1))]) (szS g2) rfl, fun U hU hW => ⟨rfl, Tb.warm hW hT2, by rw [hU]; exact (Rg.off hQ hS hN2)⟩⟩ rfl rfl hl.1 rfl (lv_room (Nat.le_of_ble_eq_true rfl)) dX7_copyFrom_176 ⟨Nat.le_of_ble_eq_true rfl, Nat.le_of_ble_eq_true rfl⟩) hS (fun q _ h => h.elim) (fun q h => h.elim) (fun v9 u9 t9 H locs ht9 hvm9 hw9 hB9 hz9 hk9 hS => ?_)
          have hP := Rg.keep hP (fun q h => hk9 q h id)
          rw [hw9, fnL_in hj_34]
          refine W.eq (g2 := F0 m 179 ls (.ref (g2.ad (108 + x2.toNatClampNeg)) :: [.ref (g.ad k_32)])) rfl ?_
          obtain ⟨k_35, ek_35⟩ : ∃ z, 108 + x2.toNatClampNeg = z := ⟨_, rfl⟩
          rw [ek_35]
          have hf := bnd_eq hf _ ek_35
          obtain ⟨hk_35, hf⟩ := grd_some hf
          refine r_cast hx hb hts hown hT2 (Rg.off hQ hS hN2) (inS hk_35) (fs := fsS) (obS hk_35) rfl q410 dX7_copyFrom_179 ?_
          obtain ⟨μ_38, hc_37, hf⟩ := bnO_some hf
          refine va_callv (va_runV (As := [.ref (g2.ad k_35)]) (rest := []) ⟨hx, hb, hml, hown, hts⟩ (c_X5_copyFrom2 l hg hg2 hdis hsh μ κ H.size k_32 k_35 hk_32 hk_35 hc_37) (cwV 1 hts (gd_V q780 q781 q782 q53 q783) rfl rfl rfl hd_X5_copyFrom2 ⟨Nat.le_of_ble_eq_true rfl, Nat.le_of_ble_eq_true rfl⟩) ⟨Pz2.blind, r_recv hT hP (inS hk_32) (fs := fsS) (obS hk_32) rfl, fun U hU hW => ⟨rfl, Tb.warm hW hT, Tb.warm hW hT2, by rw [hU], by rw [hU]; exact hP, by rw [hU]; exact (Rg.off hQ hS hN2)⟩⟩ rfl rfl hl.1 rfl (lv_room (Nat.le_of_ble_eq_true rfl)) dX7_copyFrom_182 ⟨Nat.le_of_ble_eq_true rfl, Nat.le_of_ble_eq_true rfl⟩) hS (fun q _ h => Ag.sub rfl hS q h) (fun q h => Ag.sub rfl hS q h) (fun u9 t9 H locs ht9 hvm9 hw9 hB9 hz9 hk9 hS => ?_)
          have hP : Rg g μ_38 H := by rw [← ht9]; exact hB9
          refine lv_iinc (v := x2 + 1) (lv' := [(2, .int (x2 + 1)), (0, .ref (g.ad 0)), (1, .ref (g2.ad 0))]) hx hb dX7_copyFrom_185 hl (k := 2) rfl rfl (by decide) rfl (fun ls hl => ?_)
          refine lv_goto (tgt := 138) hx hb dX7_copyFrom_188 (by decide) ?_
          exact ih μ_38 (x2 + 1) _ _ _ hP hS (lv_sub hl [1, 2, 0] rfl)  hf
  have L83 : ∀ (n : Nat) (μ : Mem) (x2 : Int32) (H : Heap) (locs : List Loc) (ls : Array Slot), Rg g μ H → va_S (Ag g s.heap.size) s.heap H locs → lv_has ls 3 [(0, .ref (g.ad 0)), (1, .ref (g2.ad 0)), (2, .int x2)] → b_X7_copyFrom2_83 g.F g2.F n μ κ x2 = some r → W p l e (headSpec (ws_ yX7_copyFrom cX7_copyFrom 3 (Option.none : Option Jvm.ClassFile.FieldType)) (rm_ 3 64 0 0)).room s m ([.ref (g.ad 0), .ref (g2.ad 0)] : List Value).toArray below meth c H locs 0 0 (MQ below (va_Qv (fun _ : Unit => True) (fun _ t => Rg g r t.heap) (Ag g s.heap.size)) ([.ref (g.ad 0), .ref (g2.ad 0)] : List Value).toArray s 0 0 (Ag g s.heap.size)) (F0 m 83 ls []) := by
    intro n
    induction n with
    | zero => intro μ x2 H locs ls hP hS hl  hf; cases hf
    | succ n ih =>
      intro μ x2 H locs ls hP hS hl  hf
      rw [b_X7_copyFrom2_83] at hf
      refine lv_iload_n hx hb dX7_copyFrom_83 rfl (lv_at hl 2 rfl) ?_
      refine lv_aload_n hx hb dX7_copyFrom_84 rfl (lv_at hl 0 rfl) ?_
      refine r_get hx hb hts i_X7 hown hT hP inW (fs := (fsW g)) (obW g) rfl 2 (by decide) q190 (fun _ h9 => h9) rfl dX7_copyFrom_85 ?_
      refine va_calli (va_runV (As := []) (rest := [.int x2]) ⟨hx, hb, hml, hown, hts⟩ (c_Jx4a65c_size_8abf5 l hg μ in98 (szR g)) (cwV 0 hts (gd_V q325 q326 q327 q40 q328) rfl rfl rfl hd_Jx4a65c_size_8abf5 ⟨Nat.le_of_ble_eq_true rfl, Nat.le_of_ble_eq_true rfl⟩) ⟨Pz.blind, r_recv hT hP in98 (fs := fun _ => [.int (nI (g.sz 0)), .ref (g.ad 99), .int (nI (g.sz 0))]) (szR g) rfl, fun U hU hW => ⟨rfl, Tb.warm hW hT, by rw [hU]; exact hP⟩⟩ rfl rfl hl.1 rfl (lv_room (Nat.le_of_ble_eq_true rfl)) dX7_copyFrom_88 ⟨Nat.le_of_ble_eq_true rfl, Nat.le_of_ble_eq_true rfl⟩) hS (fun q _ h => h.elim) (fun q h => h.elim) (fun v9 u9 t9 H locs ht9 hvm9 hw9 hB9 hz9 hk9 hS => ?_)
      have hP := Rg.keep hP (fun q h => hk9 q h id)
      rw [hw9]
      refine lv_icmp_ge (tgt := 136) hx hb dX7_copyFrom_91 (by decide) (fun c_17 => ?_) (fun c_17 => ?_)
      · have hf := (if_pos c_17).symm.trans hf
        refine lv_iconst (v := 0) hx hb dX7_copyFrom_136 (by decide) ?_
        refine lv_istore_n (lv' := [(2, .int 0), (0, .ref (g.ad 0)), (1, .ref (g2.ad 0))]) hx hb dX7_copyFrom_137 rfl hl (by decide) rfl (fun ls hl => ?_)
        exact L138 fu μ 0 _ _ _ hP hS (lv_sub hl [1, 2, 0] rfl)  hf
      · have hf := (if_neg c_17).symm.trans hf
        refine lv_iload_n hx hb dX7_copyFrom_94 rfl (lv_at hl 2 rfl) ?_
        refine lv_aload_n hx hb dX7_copyFrom_95 rfl (lv_at hl 1 rfl) ?_
        refine r_get hx hb hts i_X7 hown hT2 (Rg.off hQ hS hN2) inW (fs := (fsW g2)) (obW g2) rfl 2 (by decide) q190 (fun _ h9 => h9) rfl dX7_copyFrom_96 ?_
        refine va_calli (va_runV (As := []) (rest := [.int x2]) ⟨hx, hb, hml, hown, hts⟩ (c_Jx4a65c_size_8abf5 l hg2 κ in98 (szR g2)) (cwV 0 hts (gd_V q325 q326 q327 q40 q328) rfl rfl rfl hd_Jx4a65c_size_8abf5 ⟨Nat.le_of_ble_eq_true rfl, Nat.le_of_ble_eq_true rfl⟩) ⟨Pz.blind, r_recv hT2 (Rg.off hQ hS hN2) in98 (fs := fun _ => [.int (nI (g2.sz 0)), .ref (g2.ad 99), .int (nI (g2.sz 0))]) (szR g2) rfl, fun U hU hW => ⟨rfl, Tb.warm hW hT2, by rw [hU]; exact (Rg.off hQ hS hN2)⟩⟩ rfl rfl hl.1 rfl (lv_room (Nat.le_of_ble_eq_true rfl)) dX7_copyFrom_99 ⟨Nat.le_of_ble_eq_true rfl, Nat.le_of_ble_eq_true rfl⟩) hS (fun q _ h => h.elim) (fun q h => h.elim) (fun v9 u9 t9 H locs ht9 hvm9 hw9 hB9 hz9 hk9 hS => ?_)
        have hP := Rg.keep hP (fun q h => hk9 q h id)
        rw [hw9]
        refine lv_icmp_ge (tgt := 136) hx hb dX7_copyFrom_102 (by decide) (fun c_18 => ?_) (fun c_18 => ?_)
        · have hf := (if_pos c_18).symm.trans hf
          refine lv_iconst (v := 0) hx hb dX7_copyFrom_136 (by decide) ?_
          refine lv_istore_n (lv' := [(2, .int 0), (0, .ref (g.ad 0)), (1, .ref (g2.ad 0))]) hx hb dX7_copyFrom_137 rfl hl (by decide) rfl (fun ls hl => ?_)
          exact L138 fu μ 0 _ _ _ hP hS (lv_sub hl [1, 2, 0] rfl)  hf
        · have hf := (if_neg c_18).symm.trans hf
          refine lv_aload_n hx hb dX7_copyFrom_105 rfl (lv_at hl 0 rfl) ?_
          refine r_get hx hb hts i_X7 hown hT hP inW (fs := (fsW g)) (obW g) rfl 2 (by decide) q190 (fun _ h9 => h9) rfl dX7_copyFrom_106 ?_
          refine lv_iload_n hx hb dX7_copyFrom_109 rfl (lv_at hl 2 rfl) ?_
          obtain ⟨hi_19, hf⟩ := grd_some hf
          have hj_20 : x2.toNatClampNeg < g.sz 0 := Nat.not_le.mp (fun z => hi_19 (Or.inr z))
          refine va_callq (va_runV (As := [.int x2]) (rest := []) ⟨hx, hb, hml, hown, hts⟩ (c_Jx4a65c_get_915e3 l hg μ (lsR hg (Nat.lt_of_le_of_lt (Nat.zero_le _) hj_20)) (nI_self (fun z => hi_19 (Or.inl z))) hj_20) (cwV 1 hts (gd_V q329 q330 q331 q40 q332) rfl rfl rfl hd_Jx4a65c_get_915e3 ⟨Nat.le_of_ble_eq_true rfl, Nat.le_of_ble_eq_true rfl⟩) ⟨Pz.blind, r_recv hT hP in98 (fs := fun _ => [.int (nI (g.sz 0)), .ref (g.ad 99), .int (nI (g.sz 0))]) (szR g) rfl, fun U hU hW => ⟨rfl, Tb.warm hW hT, by rw [hU]; exact hP⟩⟩ rfl rfl hl.1 rfl (lv_room (Nat.le_of_ble_eq_true rfl)) dX7_copyFrom_110 ⟨Nat.le_of_ble_eq_true rfl, Nat.le_of_ble_eq_true rfl⟩) hS (fun q _ h => h.elim) (fun q h => h.elim) (fun v9 u9 t9 H locs ht9 hvm9 hw9 hB9 hz9 hk9 hS => ?_)
          have hP := Rg.keep hP (fun q h => hk9 q h id)
          rw [hw9, fnL_in hj_20]
          refine W.eq (g2 := F0 m 113 ls (.ref (g.ad (102 + x2.toNatClampNeg)) :: [])) rfl ?_
          obtain ⟨k_21, ek_21⟩ : ∃ z, 102 + x2.toNatClampNeg = z := ⟨_, rfl⟩
          rw [ek_21]
          have hf := bnd_eq hf _ ek_21
          obtain ⟨hk_21, hf⟩ := grd_some hf
          refine r_cast hx hb hts hown hT hP (inR hk_21) (fs := fsR) (obR hk_21) rfl q405 dX7_copyFrom_113 ?_
          refine lv_aload_n hx hb dX7_copyFrom_116 rfl (lv_at hl 1 rfl) ?_
          refine r_get hx hb hts i_X7 hown hT2 (Rg.off hQ hS hN2) inW (fs := (fsW g2)) (obW g2) rfl 2 (by decide) q190 (fun _ h9 => h9) rfl dX7_copyFrom_117 ?_
          refine lv_iload_n hx hb dX7_copyFrom_120 rfl (lv_at hl 2 rfl) ?_
          obtain ⟨hi_22, hf⟩ := grd_some hf
          have hj_23 : x2.toNatClampNeg < g2.sz 0 := Nat.not_le.mp (fun z => hi_22 (Or.inr z))
          refine va_callq (va_runV (As := [.int x2]) (rest := [.ref (g.ad k_21)]) ⟨hx, hb, hml, hown, hts⟩ (c_Jx4a65c_get_915e3 l hg2 κ (lsR hg2 (Nat.lt_of_le_of_lt (Nat.zero_le _) hj_23)) (nI_self (fun z => hi_22 (Or.inl z))) hj_23) (cwV 1 hts (gd_V q329 q330 q331 q40 q332) rfl rfl rfl hd_Jx4a65c_get_915e3 ⟨Nat.le_of_ble_eq_true rfl, Nat.le_of_ble_eq_true rfl⟩) ⟨Pz.blind, r_recv hT2 (Rg.off hQ hS hN2) in98 (fs := fun _ => [.int (nI (g2.sz 0)), .ref (g2.ad 99), .int (nI (g2.sz 0))]) (szR g2) rfl, fun U hU hW => ⟨rfl, Tb.warm hW hT2, by rw [hU]; exact (Rg.off hQ hS hN2)⟩⟩ rfl rfl hl.1 rfl (lv_room (Nat.le_of_ble_eq_true rfl)) dX7_copyFrom_121 ⟨Nat.le_of_ble_eq_true rfl, Nat.le_of_ble_eq_true rfl⟩) hS (fun q _ h => h.elim) (fun q h => h.elim) (fun v9 u9 t9 H locs ht9 hvm9 hw9 hB9 hz9 hk9 hS => ?_)
          have hP := Rg.keep hP (fun q h => hk9 q h id)
          rw [hw9, fnL_in hj_23]
          refine W.eq (g2 := F0 m 124 ls (.ref (g2.ad (102 + x2.toNatClampNeg)) :: [.ref (g.ad k_21)])) rfl ?_
          obtain ⟨k_24, ek_24⟩ : ∃ z, 102 + x2.toNatClampNeg = z := ⟨_, rfl⟩
          rw [ek_24]
          have hf := bnd_eq hf _ ek_24
          obtain ⟨hk_24, hf⟩ := grd_some hf
          refine r_cast hx hb hts hown hT2 (Rg.off hQ hS hN2) (inR hk_24) (fs := fsR) (obR hk_24) rfl q405 dX7_copyFrom_124 ?_
          obtain ⟨μ_27, hc_26, hf⟩ := bnO_some hf
          refine va_callv (va_runV (As := [.ref (g2.ad k_24)]) (rest := []) ⟨hx, hb, hml, hown, hts⟩ (c_X3_copyFrom2 l hg hg2 hdis hsh μ κ H.size k_21 k_24 hk_21 hk_24 hc_26) (cwV 1 hts (gd_V q776 q777 q778 q48 q779) rfl rfl rfl hd_X3_copyFrom2 ⟨Nat.le_of_ble_eq_true rfl, Nat.le_of_ble_eq_true rfl⟩) ⟨Pz2.blind, r_recv hT hP (inR hk_21) (fs := fsR) (obR hk_21) rfl, fun U hU hW => ⟨rfl, Tb.warm hW hT, Tb.warm hW hT2, by rw [hU], by rw [hU]; exact hP, by rw [hU]; exact (Rg.off hQ hS hN2)⟩⟩ rfl rfl hl.1 rfl (lv_room (Nat.le_of_ble_eq_true rfl)) dX7_copyFrom_127 ⟨Nat.le_of_ble_eq_true rfl, Nat.le_of_ble_eq_true rfl⟩) hS (fun q _ h => Ag.sub rfl hS q h) (fun q h => Ag.sub rfl hS q h) (fun u9 t9 H locs ht9 hvm9 hw9 hB9 hz9 hk9 hS => ?_)
          have hP : Rg g μ_27 H := by rw [← ht9]; exact hB9
          refine lv_iinc (v := x2 + 1) (lv' := [(2, .int (x2 + 1)), (0, .ref (g.ad 0)), (1, .ref (g2.ad 0))]) hx hb dX7_copyFrom_130 hl (k := 2) rfl rfl (by decide) rfl (fun ls hl => ?_)
          refine lv_goto (tgt := 83) hx hb dX7_copyFrom_133 (by decide) ?_
          exact ih μ_27 (x2 + 1) _ _ _ hP hS (lv_sub hl [1, 2, 0] rfl)  hf
  have L42 : ∀ (n : Nat) (μ : Mem) (x2 : Int32) (H : Heap) (locs : List Loc) (ls : Array Slot), Rg g μ H → va_S (Ag g s.heap.size) s.heap H locs → lv_has ls 3 [(0, .ref (g.ad 0)), (1, .ref (g2.ad 0)), (2, .int x2)] → b_X7_copyFrom2_42 g.F g2.F n μ κ x2 = some r → W p l e (headSpec (ws_ yX7_copyFrom cX7_copyFrom 3 (Option.none : Option Jvm.ClassFile.FieldType)) (rm_ 3 64 0 0)).room s m ([.ref (g.ad 0), .ref (g2.ad 0)] : List Value).toArray below meth c H locs 0 0 (MQ below (va_Qv (fun _ : Unit => True) (fun _ t => Rg g r t.heap) (Ag g s.heap.size)) ([.ref (g.ad 0), .ref (g2.ad 0)] : List Value).toArray s 0 0 (Ag g s.heap.size)) (F0 m 42 ls []) := by
    intro n
    induction n with
    | zero => intro μ x2 H locs ls hP hS hl  hf; cases hf
    | succ n ih =>
      intro μ x2 H locs ls hP hS hl  hf
      rw [b_X7_copyFrom2_42] at hf
      refine lv_iload_n hx hb dX7_copyFrom_42 rfl (lv_at hl 2 rfl) ?_
      refine lv_aload_n hx hb dX7_copyFrom_43 rfl (lv_at hl 0 rfl) ?_
      refine r_get hx hb hts i_X7 hown hT hP inW (fs := (fsW g)) (obW g) rfl 4 (by decide) q194 (fun _ h9 => h9) rfl dX7_copyFrom_44 ?_
      refine r_alenP hx hb hT hP dX7_copyFrom_47 ?_
      refine lv_icmp_ge (tgt := 81) hx hb dX7_copyFrom_48 (by decide) (fun c_6 => ?_) (fun c_6 => ?_)
      · have hf := (if_pos c_6).symm.trans hf
        refine lv_iconst (v := 0) hx hb dX7_copyFrom_81 (by decide) ?_
        refine lv_istore_n (lv' := [(2, .int 0), (0, .ref (g.ad 0)), (1, .ref (g2.ad 0))]) hx hb dX7_copyFrom_82 rfl hl (by decide) rfl (fun ls hl => ?_)
        exact L83 fu μ 0 _ _ _ hP hS (lv_sub hl [1, 2, 0] rfl)  hf
      · have hf := (if_neg c_6).symm.trans hf
        refine lv_iload_n hx hb dX7_copyFrom_51 rfl (lv_at hl 2 rfl) ?_
        refine lv_aload_n hx hb dX7_copyFrom_52 rfl (lv_at hl 1 rfl) ?_
        refine r_get hx hb hts i_X7 hown hT2 (Rg.off hQ hS hN2) inW (fs := (fsW g2)) (obW g2) rfl 4 (by decide) q194 (fun _ h9 => h9) rfl dX7_copyFrom_53 ?_
        refine r_alenP hx hb hT2 (Rg.off hQ hS hN2) dX7_copyFrom_56 ?_
        refine lv_icmp_ge (tgt := 81) hx hb dX7_copyFrom_57 (by decide) (fun c_7 => ?_) (fun c_7 => ?_)
        · have hf := (if_pos c_7).symm.trans hf
          refine lv_iconst (v := 0) hx hb dX7_copyFrom_81 (by decide) ?_
          refine lv_istore_n (lv' := [(2, .int 0), (0, .ref (g.ad 0)), (1, .ref (g2.ad 0))]) hx hb dX7_copyFrom_82 rfl hl (by decide) rfl (fun ls hl => ?_)
          exact L83 fu μ 0 _ _ _ hP hS (lv_sub hl [1, 2, 0] rfl)  hf
        · have hf := (if_neg c_7).symm.trans hf
          refine lv_aload_n hx hb dX7_copyFrom_60 rfl (lv_at hl 0 rfl) ?_
          refine r_get hx hb hts i_X7 hown hT hP inW (fs := (fsW g)) (obW g) rfl 4 (by decide) q194 (fun _ h9 => h9) rfl dX7_copyFrom_61 ?_
          refine lv_iload_n hx hb dX7_copyFrom_64 rfl (lv_at hl 2 rfl) ?_
          obtain ⟨hi_8, hf⟩ := grd_some hf
          refine r_aaldP hx hb hT hP hi_8 dX7_copyFrom_65 (fun hp_9 => ?_)
          obtain ⟨k_10, ek_10⟩ : ∃ z, x2.toNatClampNeg + 1 = z := ⟨_, rfl⟩
          rw [ek_10] at hp_9 ⊢
          have hf := bnd_eq hf _ ek_10
          refine lv_aload_n hx hb dX7_copyFrom_66 rfl (lv_at hl 1 rfl) ?_
          refine r_get hx hb hts i_X7 hown hT2 (Rg.off hQ hS hN2) inW (fs := (fsW g2)) (obW g2) rfl 4 (by decide) q194 (fun _ h9 => h9) rfl dX7_copyFrom_67 ?_
          refine lv_iload_n hx hb dX7_copyFrom_70 rfl (lv_at hl 2 rfl) ?_
          obtain ⟨hi_11, hf⟩ := grd_some hf
          refine r_aaldP hx hb hT2 (Rg.off hQ hS hN2) hi_11 dX7_copyFrom_71 (fun hp_12 => ?_)
          obtain ⟨k_13, ek_13⟩ : ∃ z, x2.toNatClampNeg + 1 = z := ⟨_, rfl⟩
          rw [ek_13] at hp_12 ⊢
          have hf := bnd_eq hf _ ek_13
          obtain ⟨μ_16, hc_15, hf⟩ := bnO_some hf
          refine va_callv (va_runV (As := [.ref (g2.ad k_13)]) (rest := []) ⟨hx, hb, hml, hown, hts⟩ (c_X2_copyFrom2 l hg hg2 hdis hsh μ κ H.size k_10 k_13 hp_9 hp_12 hc_15) (cwV 1 hts (gd_V q769 q770 q771 q42 q772) rfl rfl rfl hd_X2_copyFrom2 ⟨Nat.le_of_ble_eq_true rfl, Nat.le_of_ble_eq_true rfl⟩) ⟨Pz2.blind, r_recv hT hP (inP hp_9) (fs := (fsP g k_10)) (obP hp_9) rfl, fun U hU hW => ⟨rfl, Tb.warm hW hT, Tb.warm hW hT2, by rw [hU], by rw [hU]; exact hP, by rw [hU]; exact (Rg.off hQ hS hN2)⟩⟩ rfl rfl hl.1 rfl (lv_room (Nat.le_of_ble_eq_true rfl)) dX7_copyFrom_72 ⟨Nat.le_of_ble_eq_true rfl, Nat.le_of_ble_eq_true rfl⟩) hS (fun q _ h => Ag.sub rfl hS q h) (fun q h => Ag.sub rfl hS q h) (fun u9 t9 H locs ht9 hvm9 hw9 hB9 hz9 hk9 hS => ?_)
          have hP : Rg g μ_16 H := by rw [← ht9]; exact hB9
          refine lv_iinc (v := x2 + 1) (lv' := [(2, .int (x2 + 1)), (0, .ref (g.ad 0)), (1, .ref (g2.ad 0))]) hx hb dX7_copyFrom_75 hl (k := 2) rfl rfl (by decide) rfl (fun ls hl => ?_)
          refine lv_goto (tgt := 42) hx hb dX7_copyFrom_78 (by decide) ?_
          exact ih μ_16 (x2 + 1) _ _ _ hP hS (lv_sub hl [1, 2, 0] rfl)  hf
  have hl := lv_entry ([.ref (g.ad 0), .ref (g2.ad 0)]) (n := 3) (Nat.le_of_ble_eq_true rfl)
  rw [lg_entry_eq]
  generalize (lg_sl ([.ref (g.ad 0), .ref (g2.ad 0)]) ++ List.replicate (3 - (lg_sl ([.ref (g.ad 0), .ref (g2.ad 0)])).length) Slot.unset).toArray = ls at hl ⊢
  have hl : lv_has ls 3 [(0, .ref (g.ad 0)), (1, .ref (g2.ad 0))] := hl
  unfold f_X7_copyFrom2 at hf
  refine lv_aload_n hx hb dX7_copyFrom_0 rfl (lv_at hl 0 rfl) ?_
  refine lv_aload_n hx hb dX7_copyFrom_1 rfl (lv_at hl 1 rfl) ?_
  refine r_get hx hb hts i_X7 hown hT2 (Rg.off hQ hS hN2) inW (fs := (fsW g2)) (obW g2) rfl 5 (by decide) q195 (fun _ h9 => h9) rfl dX7_copyFrom_2 ?_
  refine r_put hx hb hts i_X7 tyX7 tyX7_ok nmX7 hown hT hP hD hC hN hS mtW (fs := (fsW g)) (obW g) rfl 5 (by decide) q195 (fun _ h9 => h9) rfl (ty := .int) (x := κ 0 5) rfl rfl rfl (fun _ => rfl) (Nat.le_of_ble_eq_true rfl) dX7_copyFrom_5 (fun H locs hP hS => ?_)
  obtain ⟨μ_1, eμ_1⟩ : ∃ z, put μ 0 5 (κ 0 5) = z := ⟨_, rfl⟩
  rw [eμ_1] at hP
  have hf := bnd_eq hf _ eμ_1
  refine lv_aload_n hx hb dX7_copyFrom_8 rfl (lv_at hl 0 rfl) ?_
  refine lv_aload_n hx hb dX7_copyFrom_9 rfl (lv_at hl 1 rfl) ?_
  refine r_get hx hb hts i_X7 hown hT2 (Rg.off hQ hS hN2) inW (fs := (fsW g2)) (obW g2) rfl 6 (by decide) q197 (fun _ h9 => h9) rfl dX7_copyFrom_10 ?_
  refine r_put hx hb hts i_X7 tyX7 tyX7_ok nmX7 hown hT hP hD hC hN hS mtW (fs := (fsW g)) (obW g) rfl 6 (by decide) q197 (fun _ h9 => h9) rfl (ty := .int) (x := κ 0 6) rfl rfl rfl (fun _ => rfl) (Nat.le_of_ble_eq_true rfl) dX7_copyFrom_13 (fun H locs hP hS => ?_)
  obtain ⟨μ_2, eμ_2⟩ : ∃ z, put μ_1 0 6 (κ 0 6) = z := ⟨_, rfl⟩
  rw [eμ_2] at hP
  have hf := bnd_eq hf _ eμ_2
  refine lv_aload_n hx hb dX7_copyFrom_16 rfl (lv_at hl 0 rfl) ?_
  refine lv_aload_n hx hb dX7_copyFrom_17 rfl (lv_at hl 1 rfl) ?_
  refine r_get hx hb hts i_X7 hown hT2 (Rg.off hQ hS hN2) inW (fs := (fsW g2)) (obW g2) rfl 7 (by decide) q199 (fun _ h9 => h9) rfl dX7_copyFrom_18 ?_
  refine r_put hx hb hts i_X7 tyX7 tyX7_ok nmX7 hown hT hP hD hC hN hS mtW (fs := (fsW g)) (obW g) rfl 7 (by decide) q199 (fun _ h9 => h9) rfl (ty := .int) (x := κ 0 7) rfl rfl rfl (fun _ => rfl) (Nat.le_of_ble_eq_true rfl) dX7_copyFrom_21 (fun H locs hP hS => ?_)
  obtain ⟨μ_3, eμ_3⟩ : ∃ z, put μ_2 0 7 (κ 0 7) = z := ⟨_, rfl⟩
  rw [eμ_3] at hP
  have hf := bnd_eq hf _ eμ_3
  refine lv_aload_n hx hb dX7_copyFrom_24 rfl (lv_at hl 0 rfl) ?_
  refine lv_aload_n hx hb dX7_copyFrom_25 rfl (lv_at hl 1 rfl) ?_
  refine r_get hx hb hts i_X7 hown hT2 (Rg.off hQ hS hN2) inW (fs := (fsW g2)) (obW g2) rfl 8 (by decide) q201 (fun _ h9 => h9) rfl dX7_copyFrom_26 ?_
  refine r_put hx hb hts i_X7 tyX7 tyX7_ok nmX7 hown hT hP hD hC hN hS mtW (fs := (fsW g)) (obW g) rfl 8 (by decide) q201 (fun _ h9 => h9) rfl (ty := .int) (x := κ 0 8) rfl rfl rfl (fun _ => rfl) (Nat.le_of_ble_eq_true rfl) dX7_copyFrom_29 (fun H locs hP hS => ?_)
  obtain ⟨μ_4, eμ_4⟩ : ∃ z, put μ_3 0 8 (κ 0 8) = z := ⟨_, rfl⟩
  rw [eμ_4] at hP
  have hf := bnd_eq hf _ eμ_4
  refine lv_aload_n hx hb dX7_copyFrom_32 rfl (lv_at hl 0 rfl) ?_
  refine lv_aload_n hx hb dX7_copyFrom_33 rfl (lv_at hl 1 rfl) ?_
  refine r_get hx hb hts i_X7 hown hT2 (Rg.off hQ hS hN2) inW (fs := (fsW g2)) (obW g2) rfl 9 (by decide) q203 (fun _ h9 => h9) rfl dX7_copyFrom_34 ?_
  refine r_put hx hb hts i_X7 tyX7 tyX7_ok nmX7 hown hT hP hD hC hN hS mtW (fs := (fsW g)) (obW g) rfl 9 (by decide) q203 (fun _ h9 => h9) rfl (ty := .int) (x := κ 0 9) rfl rfl rfl (fun _ => rfl) (Nat.le_of_ble_eq_true rfl) dX7_copyFrom_37 (fun H locs hP hS => ?_)
  obtain ⟨μ_5, eμ_5⟩ : ∃ z, put μ_4 0 9 (κ 0 9) = z := ⟨_, rfl⟩
  rw [eμ_5] at hP
  have hf := bnd_eq hf _ eμ_5
  refine lv_iconst (v := 0) hx hb dX7_copyFrom_40 (by decide) ?_
  refine lv_istore_n (lv' := [(2, .int 0), (0, .ref (g.ad 0)), (1, .ref (g2.ad 0))]) hx hb dX7_copyFrom_41 rfl hl (by decide) rfl (fun ls hl => ?_)
  exact L42 fu μ_5 0 _ _ _ hP hS (lv_sub hl [1, 2, 0] rfl)  hf
