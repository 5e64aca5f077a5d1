/-! happen, step over a kernel with its tally -/
/-- another tally, k numbers on -/
def XI (g : Geo) (z b n k sz : Nat) (X : Tp) : Prop := TI z X (n + k) ∧ X.1 1 = g.tz 1 ∧ Good (g.tw X) ∧ Ab (g.tw X) b ∧ Tn g g.T X sz
theorem XI.mono {g : Geo} {z b n k k' sz : Nat} {X : Tp} (h : XI g z b n k sz X) (hk : k ≤ k') : XI g z b n k' sz X := ⟨h.1.mono (by omega), h.2⟩
theorem Tn.trans {g : Geo} {X X' : Tp} {sz sz' : Nat} (h : Tn g g.T X sz) (h' : Tn (g.tw X) X X' sz') (hz : sz ≤ sz') : Tn g g.T X' sz := fun k hk => by
  rcases h' k hk with ⟨j, h1, h2⟩ | h1
  · rw [h2]; exact h j h1
  · exact Or.inr (Nat.le_trans hz h1)
theorem XI.tk {g : Geo} {z b n k sz : Nat} {X : Tp} (h : XI g z b n k sz X) : Tk g sz X := Tk.next Tk.self (Nat.le_refl _) h.2.2.2.2
/-- the geometry with such a tally -/
def XJ (g : Geo) (z b n k sz : Nat) (gx : Geo) : Prop := g.tz 0 = 1 ∧ ∃ X, gx = g.tw X ∧ XI g z b n k sz X
section
variable {g gx : Geo} {z b n k k' sz : Nat} {H H0 : Heap} {locs : List Loc} {A : Nat → Prop} {s : State} {ν : Mem}
theorem XJ.mono (h : XJ g z b n k sz gx) (hk : k ≤ k') : XJ g z b n k' sz gx := by
  obtain ⟨h0, X, e, hX⟩ := h
  exact ⟨h0, X, e, hX.mono hk⟩
theorem XJ.good (h : XJ g z b n k sz gx) : Good gx := by
  obtain ⟨h0, X, rfl, hX⟩ := h
  exact hX.2.2.1
theorem XJ.ab (h : XJ g z b n k sz gx) : Ab gx b := by
  obtain ⟨h0, X, rfl, hX⟩ := h
  exact hX.2.2.2.1
theorem XJ.ti (h : XJ g z b n k sz gx) : TI z gx.T (n + k) := by
  obtain ⟨h0, X, rfl, hX⟩ := h
  exact hX.1
theorem XJ.y (h : XJ g z b n k sz gx) : gx.tz 0 = 1 := by
  obtain ⟨h0, X, rfl, hX⟩ := h
  exact hX.1.1
theorem XJ.ad (h : XJ g z b n k sz gx) : gx.ad = g.ad := by
  obtain ⟨h0, X, rfl, hX⟩ := h
  rfl
theorem XJ.F (h : XJ g z b n k sz gx) : gx.F = g.F := by
  obtain ⟨h0, X, rfl, hX⟩ := h
  rfl
theorem XJ.T (h : XJ g z b n k sz gx) (hT : Tb g s) : Tb gx s := by
  obtain ⟨h0, X, rfl, hX⟩ := h
  exact hT
theorem XJ.E (h : XJ g z b n k sz gx) (hE : Em g.D z b (g.cy 2) s) : Em gx.D z b (gx.cy 2) s := by
  obtain ⟨h0, X, rfl, hX⟩ := h
  exact hE
theorem XJ.D (h : XJ g z b n k sz gx) : ∀ ν, va_D (At g sz) (hws gx ν) := by
  obtain ⟨h0, X, rfl, hX⟩ := h
  exact fun ν => At.apart (sz := sz) (X := X) hX.2.2.1 hX.1.1 (hX.1.1.trans h0.symm) hX.2.1 hX.tk ν
theorem XJ.C (h : XJ g z b n k sz gx) (hC : Rc' g H) : Rc' gx H := by
  obtain ⟨h0, X, rfl, hX⟩ := h
  exact Rc'.tw (hX.1.1.trans h0.symm) hX.2.1 hC
theorem XJ.N (h : XJ g z b n k sz gx) (hN : Nf' g A) : Nf' gx A := by
  obtain ⟨h0, X, rfl, hX⟩ := h
  exact Nf'.tw (hX.1.1.trans h0.symm) hX.2.1 hN
theorem XJ.sub (h : XJ g z b n k sz gx) (hz : sz = H0.size) (hS : va_S (At g sz) H0 H locs) : ∀ q, Ag gx H.size q → At g sz q := by
  obtain ⟨h0, X, rfl, hX⟩ := h
  exact At.sub (X := X) hz hS (hX.1.1.trans h0.symm) hX.2.1
theorem XJ.subT (h : XJ g z b n k sz gx) (hz : sz = H0.size) (hS : va_S (At g sz) H0 H locs) : ∀ q, At gx H.size q → At g sz q := by
  obtain ⟨h0, X, rfl, hX⟩ := h
  exact At.subT (X := X) hz hS (hX.1.1.trans h0.symm) hX.2.1 hX.tk
theorem XJ.end (h : XJ g z b n k sz gx) (hk : k ≤ 40) {t : State} (hP : Rg gx ν t.heap) : hQ g z b ν n 40 sz t := by
  obtain ⟨h0, X, rfl, hX⟩ := h
  have hX := hX.mono hk
  exact ⟨X, hX.1, hX.2.1, hX.2.2.1, hX.2.2.2.1, hP, hX.2.2.2.2⟩
theorem XJ.next (h : XJ g z b n k sz gx) {sz' : Nat} (hz : sz ≤ sz') {t : State} (hQ1 : hQ gx z b ν (n + k) 1 sz' t) : ∃ gy, XJ g z b n (k + 1) sz gy ∧ Rg gy ν t.heap ∧ gy.ad = gx.ad ∧ gy.F = gx.F := by
  obtain ⟨h0, X, rfl, hX⟩ := h
  obtain ⟨X', a1, a2, a3, a4, a5, a6⟩ := hQ1
  exact ⟨g.tw X', ⟨h0, X', rfl, a1, a2.trans hX.2.1, a3, a4, hX.2.2.2.2.trans a6 hz⟩, a5, rfl, rfl⟩
end
set_option maxHeartbeats 4000000 in
set_option maxRecDepth 100000 in
theorem h_X7_happen (l : Launch) {g : Geo} {z b : Nat} (hg : Good g) (hAb : Ab g b) (n : Nat) (hTI : TI z g.T n) (hn : n + 40 ≤ 1300) (μ : Mem) (lg : Log) (sz : Nat) {r : Mem × Log × Option Nat} (hf : f_X7_happen g.F μ lg = some r) : Met l yX7_happen (ws_ yX7_happen cX7_happen 4 (some (.object "Sandglass$Proc"))) (rm_ 9 198 120 20920) (Pe g z b [.ref (g.ad 0)] (fun H9 => H9.size = sz ∧ Rg g μ H9)) (va_Qq (fun (v : Option Nat) (_ : Unit) => v = r.2.2.map g.ad) (fun _ t => hQ g z b r.1 n 40 sz t) (At g sz)) 120 20920 (At g sz) := by
  refine Met.ofW (cc := cX7_happen) (maxL := 4) (ret := (some (.object "Sandglass$Proc"))) (by decide) rfl ?_
  intro p e s m args below meth c s₁ B hml hv
  obtain ⟨rfl, ⟨hT, hE⟩, hsz, hP⟩ := hv
  have hx := B.exec
  have hb := B.bytes
  have hr := B.returns
  have hts : ∀ w ∈ lw_all, w.before _ s = true := fun w h => atoms_spec (ws := (ws_ yX7_happen cX7_happen 4 (some (.object "Sandglass$Proc")))) B.pre w (List.mem_cons_of_mem _ h)
  have hown : s.vm.findClass RX7 = some m.cls := findClass_of_methodNamed B.named
  have hlocks := B.notSynchronized
  subst hsz
  have hY : g.tz 0 = 1 := hTI.1
  have hAtb := At.b hAb hY hE.2.2.1
  have hD := fun ν => At.apart (sz := s.heap.size) (X := g.T) hg hY rfl rfl Tk.self ν
  have hC := hP.sh'
  have hN := At.shr hg hY hP
  have hS : va_S (At g s.heap.size) s.heap s.heap [] := va_S.rf
  have L111 : ∀ (gx : Geo) (hX : XJ g z b n 40 s.heap.size gx) (μ : Mem) (lg : Log) (x1 : Nat) (H : Heap) (locs : List Loc) (ls : Array Slot), Rg gx μ H → va_S (At g s.heap.size) s.heap H locs → lv_has ls 4 [(0, .ref (gx.ad 0)), (1, .ref (gx.ad x1))] → isP x1 → b_X7_happen_111 gx.F μ lg x1 = some r → W p l e (headSpec (ws_ yX7_happen cX7_happen 4 (some (.object "Sandglass$Proc"))) (rm_ 9 198 120 20920)).room s m ([.ref (g.ad 0)] : List Value).toArray below meth c H locs 120 20920 (MQ below (va_Qq (fun (v : Option Nat) (_ : Unit) => v = r.2.2.map g.ad) (fun _ t => hQ g z b r.1 n 40 s.heap.size t) (At g s.heap.size)) ([.ref (g.ad 0)] : List Value).toArray s 120 20920 (At g s.heap.size)) (F0 m 111 ls []) := by
    intro gx hX μ lg x1 H locs ls hP hS hl hx1 hf
    have hT := hX.T hT
    have hE := hX.E hE
    have hg := hX.good
    have hD := hX.D
    have hC := hX.C hC
    have hN := hX.N hN
    have hY := hX.y
    unfold b_X7_happen_111 at hf
    refine lv_aload_n hx hb dX7_happen_111 rfl (lv_at hl 1 rfl) ?_
    obtain ⟨r_23, hc_24, hf⟩ := bnO_some hf
    refine va_calli (va_runV (As := []) (rest := []) ⟨hx, hb, hml, hown, hts⟩ (c_X2_isOver l hg μ x1 hx1 hc_24) (cwV 0 hts (gd_V q630 q631 q632 q42 q633) rfl rfl rfl hd_X2_isOver ⟨Nat.le_of_ble_eq_true rfl, Nat.le_of_ble_eq_true rfl⟩) ⟨Pz.blind, r_recv hT hP (inP hx1) (fs := (fsP gx x1)) (obP hx1) rfl, fun U hU hW => ⟨rfl, Tb.warm hW hT, by rw [hU]; exact hP⟩⟩ rfl rfl hl.1 rfl (lv_room (Nat.le_of_ble_eq_true rfl)) dX7_happen_112 ⟨Nat.le_of_ble_eq_true rfl, Nat.le_of_ble_eq_true rfl⟩) hS (fun q _ h => h.elim) (fun q h => h.elim) (fun v9 u9 t9 H locs ht9 hvm9 hw9 hB9 hz9 hk9 hS => ?_)
    have hP := Rg.keep hP (fun q h => hk9 q h id)
    rw [hw9]
    refine lv_if_eq (tgt := 127) hx hb dX7_happen_115 (by decide) (fun c_25 => ?_) (fun c_25 => ?_)
    · have hf := (if_pos c_25).symm.trans hf
      refine lv_aload_n hx hb dX7_happen_127 rfl (lv_at hl 1 rfl) ?_
      exact W.aret (v := .ref (gx.ad x1)) (rt := .object "Sandglass$Proc") hx hb hr (Or.inl ⟨_, rfl⟩) (Or.inr ⟨_, rfl⟩) (fun t9 ht hW => ⟨⟨(some (gx.ad x1)), (), rfl, by rw [← Option.some.inj hf, hX.ad]; rfl, hX.end (Nat.le_refl _) (by show Rg gx r.1 t9.heap; rw [ht, ← Option.some.inj hf]; exact hP)⟩, hS.F ht⟩) hS.2.2 dX7_happen_128
    · have hf := (if_neg c_25).symm.trans hf
      refine lv_aload_n hx hb dX7_happen_118 rfl (lv_at hl 0 rfl) ?_
      refine lv_aload_n hx hb dX7_happen_119 rfl (lv_at hl 1 rfl) ?_
      refine lv_aload_n hx hb dX7_happen_120 rfl (lv_at hl 1 rfl) ?_
      refine r_get hx hb hts i_X2 hown hT hP (inP hx1) (fs := (fsP gx x1)) (obP hx1) rfl 6 (by decide) q128 (fun _ h9 => h9) rfl dX7_happen_121 ?_
      obtain ⟨μ_28, hc_27, hf⟩ := bnO_some hf
      refine va_callv (va_runV (As := [.ref (gx.ad x1), .int (μ x1 6)]) (rest := []) ⟨hx, hb, hml, hown, hts⟩ (c_X7_finish l hg μ H.size x1 (μ x1 6) hx1 hc_27) (cwV 2 hts (gd_V q634 q635 q636 q41 q637) rfl rfl rfl hd_X7_finish ⟨Nat.le_of_ble_eq_true rfl, Nat.le_of_ble_eq_true rfl⟩) ⟨Pz.blind, r_recv hT hP inW (fs := (fsW gx)) (obW gx) rfl, fun U hU hW => ⟨rfl, Tb.warm hW hT, by rw [hU], by rw [hU]; exact hP⟩⟩ rfl rfl hl.1 rfl (lv_room (Nat.le_of_ble_eq_true rfl)) dX7_happen_124 ⟨Nat.le_of_ble_eq_true rfl, Nat.le_of_ble_eq_true rfl⟩) hS (fun q _ h => hX.sub rfl hS q h) (fun q h => hX.sub rfl hS q h) (fun u9 t9 H locs ht9 hvm9 hw9 hB9 hz9 hk9 hS => ?_)
      have hP : Rg gx μ_28 H := by rw [← ht9]; exact hB9
      refine lv_aload_n hx hb dX7_happen_127 rfl (lv_at hl 1 rfl) ?_
      exact W.aret (v := .ref (gx.ad x1)) (rt := .object "Sandglass$Proc") hx hb hr (Or.inl ⟨_, rfl⟩) (Or.inr ⟨_, rfl⟩) (fun t9 ht hW => ⟨⟨(some (gx.ad x1)), (), rfl, by rw [← Option.some.inj hf, hX.ad]; rfl, hX.end (Nat.le_refl _) (by show Rg gx r.1 t9.heap; rw [ht, ← Option.some.inj hf]; exact hP)⟩, hS.F ht⟩) hS.2.2 dX7_happen_128
  have L96 : ∀ (gx : Geo) (hX : XJ g z b n 40 s.heap.size gx) (μ : Mem) (lg : Log) (x1 : Nat) (H : Heap) (locs : List Loc) (ls : Array Slot), Rg gx μ H → va_S (At g s.heap.size) s.heap H locs → lv_has ls 4 [(0, .ref (gx.ad 0)), (1, .ref (gx.ad x1))] → isP x1 → b_X7_happen_96 gx.F μ lg x1 = some r → W p l e (headSpec (ws_ yX7_happen cX7_happen 4 (some (.object "Sandglass$Proc"))) (rm_ 9 198 120 20920)).room s m ([.ref (g.ad 0)] : List Value).toArray below meth c H locs 120 20920 (MQ below (va_Qq (fun (v : Option Nat) (_ : Unit) => v = r.2.2.map g.ad) (fun _ t => hQ g z b r.1 n 40 s.heap.size t) (At g s.heap.size)) ([.ref (g.ad 0)] : List Value).toArray s 120 20920 (At g s.heap.size)) (F0 m 96 ls []) := by
    intro gx hX μ lg x1 H locs ls hP hS hl hx1 hf
    have hT := hX.T hT
    have hE := hX.E hE
    have hg := hX.good
    have hD := hX.D
    have hC := hX.C hC
    have hN := hX.N hN
    have hY := hX.y
    unfold b_X7_happen_96 at hf
    refine lv_aload_n hx hb dX7_happen_96 rfl (lv_at hl 1 rfl) ?_
    refine r_get hx hb hts i_X2 hown hT hP (inP hx1) (fs := (fsP gx x1)) (obP hx1) rfl 6 (by decide) q128 (fun _ h9 => h9) rfl dX7_happen_97 ?_
    refine lv_bipush (v := 8) hx hb dX7_happen_100 (by decide) ?_
    refine lv_icmp_ne (tgt := 111) hx hb dX7_happen_102 (by decide) (fun c_21 => ?_) (fun c_21 => ?_)
    · have hf := (if_neg c_21).symm.trans hf
      exact L111 gx hX μ lg x1 _ _ _ hP hS (lv_sub hl [0, 1] rfl) hx1 hf
    · have hf := (if_pos c_21).symm.trans hf
      refine lv_aload_n hx hb dX7_happen_105 rfl (lv_at hl 1 rfl) ?_
      refine lv_bipush (v := 6) hx hb dX7_happen_106 (by decide) ?_
      refine rh_put hY hx hb hts i_X2 tyX2 tyX2_ok nmX2 hown hT hP hD hC hN hS (mtP hx1) (fs := (fsP gx x1)) (obP hx1) rfl 6 (by decide) q128 (fun _ h9 => h9) rfl (ty := .int) (x := 6) rfl rfl rfl (fun _ => rfl) (Nat.le_of_ble_eq_true rfl) dX7_happen_108 (fun H locs hP hS => ?_)
      obtain ⟨μ_22, eμ_22⟩ : ∃ z, put μ x1 6 6 = z := ⟨_, rfl⟩
      rw [eμ_22] at hP
      have hf := bnd_eq hf _ eμ_22
      exact L111 gx hX μ_22 lg x1 _ _ _ hP hS (lv_sub hl [0, 1] rfl) hx1 hf
  have L32 : ∀ (n9 : Nat) (gx : Geo) (j : Nat) (hX : XJ g z b n j s.heap.size gx) (hj40 : j ≤ 40) (μ : Mem) (lg : Log) (x1 : Nat) (x2 : Int32) (H : Heap) (locs : List Loc) (ls : Array Slot), Rg gx μ H → va_S (At g s.heap.size) s.heap H locs → lv_has ls 4 [(0, .ref (gx.ad 0)), (1, .ref (gx.ad x1)), (2, .int x2)] → isP x1 → x2 = nI j → b_X7_happen_32 gx.F n9 μ lg x1 x2 = some r → W p l e (headSpec (ws_ yX7_happen cX7_happen 4 (some (.object "Sandglass$Proc"))) (rm_ 9 198 120 20920)).room s m ([.ref (g.ad 0)] : List Value).toArray below meth c H locs (3 * j) (523 * j) (MQ below (va_Qq (fun (v : Option Nat) (_ : Unit) => v = r.2.2.map g.ad) (fun _ t => hQ g z b r.1 n 40 s.heap.size t) (At g s.heap.size)) ([.ref (g.ad 0)] : List Value).toArray s 120 20920 (At g s.heap.size)) (F0 m 32 ls []) := by
    intro n9
    induction n9 with
    | zero => intro gx j hX hj40 μ lg x1 x2 H locs ls hP hS hl hx1 hj hf; cases hf
    | succ n9 ih =>
      intro gx j hX hj40 μ lg x1 x2 H locs ls hP hS hl hx1 hj hf
      have hT := hX.T hT
      have hE := hX.E hE
      have hg := hX.good
      have hD := hX.D
      have hC := hX.C hC
      have hN := hX.N hN
      have hY := hX.y
      rw [b_X7_happen_32] at hf
      refine lv_aload_n hx hb dX7_happen_32 rfl (lv_at hl 1 rfl) ?_
      refine r_get hx hb hts i_X2 hown hT hP (inP hx1) (fs := (fsP gx x1)) (obP hx1) rfl 6 (by decide) q128 (fun _ h9 => h9) rfl dX7_happen_33 ?_
      refine lv_bipush (v := 8) hx hb dX7_happen_36 (by decide) ?_
      refine lv_icmp_ne (tgt := 96) hx hb dX7_happen_38 (by decide) (fun c_9 => ?_) (fun c_9 => ?_)
      · have hf := (if_neg c_9).symm.trans hf
        refine W.widen (k := 120) (n := 20920) (by omega) (by omega) ?_
        exact L96 gx (hX.mono hj40) μ lg x1 _ _ _ hP hS (lv_sub hl [0, 1] rfl) hx1 hf
      · have hf := (if_pos c_9).symm.trans hf
        refine lv_iload_n hx hb dX7_happen_41 rfl (lv_at hl 2 rfl) ?_
        refine lv_bipush (v := 40) hx hb dX7_happen_42 (by decide) ?_
        refine lv_icmp_ge (tgt := 96) hx hb dX7_happen_44 (by decide) (fun c_10 => ?_) (fun c_10 => ?_)
        · have hf := (if_pos c_10).symm.trans hf
          refine W.widen (k := 120) (n := 20920) (by omega) (by omega) ?_
          exact L96 gx (hX.mono hj40) μ lg x1 _ _ _ hP hS (lv_sub hl [0, 1] rfl) hx1 hf
        · have hf := (if_neg c_10).symm.trans hf
          have hj4 : j < 40 := Nat.lt_of_not_le (fun h => c_10 (by rw [hj]; exact nI_le (a := 40) (b := j) h (by omega)))
          have hj1 : x2 + 1 = nI (j + 1) := by rw [hj, nI_1]
          refine lv_aload_n hx hb dX7_happen_47 rfl (lv_at hl 1 rfl) ?_
          obtain ⟨r_11, hc_12, hf⟩ := bnO_some hf
          refine va_callq (va_runV (As := []) (rest := []) ⟨hx, hb, hml, hown, hts⟩ (c_X2_nextInstruction l hg μ x1 hx1 hc_12) (cwV 0 hts (gd_V q411 q412 q413 q42 q414) rfl rfl rfl hd_X2_nextInstruction ⟨Nat.le_of_ble_eq_true rfl, Nat.le_of_ble_eq_true rfl⟩) ⟨Pz.blind, r_recv hT hP (inP hx1) (fs := (fsP gx x1)) (obP hx1) rfl, fun U hU hW => ⟨rfl, Tb.warm hW hT, by rw [hU]; exact hP⟩⟩ rfl rfl hl.1 rfl (lv_room (Nat.le_of_ble_eq_true rfl)) dX7_happen_48 ⟨(by show 3 * j + 0 ≤ 120; omega), (by show 523 * j + 0 ≤ 20920; omega)⟩) hS (fun q _ h => h.elim) (fun q h => h.elim) (fun v9 u9 t9 H locs ht9 hvm9 hw9 hB9 hz9 hk9 hS => ?_)
          have hP := Rg.keep hP (fun q h => hk9 q h id)
          rw [hw9]
          cases r_11 with
          | none =>
            dsimp only [csQ] at hf
            refine W.eq (g2 := F0 m 51 ls [.null]) rfl ?_
            refine lv_astore_nN (lv' := [(3, .null), (0, .ref (gx.ad 0)), (1, .ref (gx.ad x1)), (2, .int x2)]) hx hb dX7_happen_51 rfl hl (by decide) rfl (fun ls hl => ?_)
            refine lv_aload_nN hx hb dX7_happen_52 rfl (lv_at hl 0 rfl) ?_
            refine lv_ifnonnullN hx hb dX7_happen_53 ?_
            refine lv_aload_n hx hb dX7_happen_56 rfl (lv_at hl 2 rfl) ?_
            refine lv_iconst (v := 5) hx hb dX7_happen_57 (by decide) ?_
            refine rh_put hY hx hb hts i_X2 tyX2 tyX2_ok nmX2 hown hT hP hD hC hN hS (mtP hx1) (fs := (fsP gx x1)) (obP hx1) rfl 6 (by decide) q128 (fun _ h9 => h9) rfl (ty := .int) (x := 5) rfl rfl rfl (fun _ => rfl) (Nat.le_of_ble_eq_true rfl) dX7_happen_58 (fun H locs hP hS => ?_)
            obtain ⟨μ_14, eμ_14⟩ : ∃ z, put μ x1 6 5 = z := ⟨_, rfl⟩
            rw [eμ_14] at hP
            have hf := bnd_eq hf _ eμ_14
            refine lv_goto (tgt := 90) hx hb dX7_happen_61 (by decide) ?_
            refine lv_iinc (v := x2 + 1) (lv' := [(2, .int (x2 + 1)), (3, .null), (0, .ref (gx.ad 0)), (1, .ref (gx.ad x1))]) hx hb dX7_happen_90 hl (k := 3) rfl rfl (by decide) rfl (fun ls hl => ?_)
            refine lv_goto (tgt := 32) hx hb dX7_happen_93 (by decide) ?_
            refine W.widen (k := 3 * (j + 1)) (n := 523 * (j + 1)) (by omega) (by omega) ?_
            exact ih gx (j + 1) (hX.mono (Nat.le_succ _)) (by omega) μ_14 lg x1 (x2 + 1) _ _ _ hP hS (lv_sub hl [2, 3, 0] rfl) hx1 hj1 hf
          | some o_13 =>
            dsimp only [csQ] at hf
            obtain ⟨ho_13, hf⟩ := grd_some hf
            refine W.eq (g2 := F0 m 51 ls [.ref (gx.ad o_13)]) rfl ?_
            refine lv_astore_n (lv' := [(3, .ref (gx.ad o_13)), (0, .ref (gx.ad 0)), (1, .ref (gx.ad x1)), (2, .int x2)]) hx hb dX7_happen_51 rfl hl (by decide) rfl (fun ls hl => ?_)
            refine lv_aload_n hx hb dX7_happen_52 rfl (lv_at hl 0 rfl) ?_
            refine lv_ifnonnull (tgt := 64) hx hb dX7_happen_53 (by decide) ?_
            refine lv_aload_n hx hb dX7_happen_64 rfl (lv_at hl 1 rfl) ?_
            refine lv_dup hx hb dX7_happen_65 rfl ?_
            refine r_get hx hb hts i_X7 hown hT hP inW (fs := (fsW gx)) (obW gx) rfl 8 (by decide) q201 (fun _ h9 => h9) rfl dX7_happen_66 ?_
            refine lv_iconst (v := 1) hx hb dX7_happen_69 (by decide) ?_
            refine lv_iadd hx hb dX7_happen_70 ?_
            refine rh_put hY hx hb hts i_X7 tyX7 tyX7_ok nmX7 hown hT hP hD hC hN hS mtW (fs := (fsW gx)) (obW gx) rfl 8 (by decide) q201 (fun _ h9 => h9) rfl (ty := .int) (x := (μ 0 8) + 1) rfl rfl rfl (fun _ => rfl) (Nat.le_of_ble_eq_true rfl) dX7_happen_71 (fun H locs hP hS => ?_)
            obtain ⟨μ_15, eμ_15⟩ : ∃ z, put μ 0 8 ((μ 0 8) + 1) = z := ⟨_, rfl⟩
            rw [eμ_15] at hP
            have hf := bnd_eq hf _ eμ_15
            refine lv_aload_n hx hb dX7_happen_74 rfl (lv_at hl 2 rfl) ?_
            refine lv_dup hx hb dX7_happen_75 rfl ?_
            refine r_get hx hb hts i_X2 hown hT hP (inP hx1) (fs := (fsP gx x1)) (obP hx1) rfl 3 (by decide) q119 (fun _ h9 => h9) rfl dX7_happen_76 ?_
            refine lv_iconst (v := 1) hx hb dX7_happen_79 (by decide) ?_
            refine lv_iadd hx hb dX7_happen_80 ?_
            refine rh_put hY hx hb hts i_X2 tyX2 tyX2_ok nmX2 hown hT hP hD hC hN hS (mtP hx1) (fs := (fsP gx x1)) (obP hx1) rfl 3 (by decide) q119 (fun _ h9 => h9) rfl (ty := .int) (x := (μ_15 x1 3) + 1) rfl rfl rfl (fun _ => rfl) (Nat.le_of_ble_eq_true rfl) dX7_happen_81 (fun H locs hP hS => ?_)
            obtain ⟨μ_16, eμ_16⟩ : ∃ z, put μ_15 x1 3 ((μ_15 x1 3) + 1) = z := ⟨_, rfl⟩
            rw [eμ_16] at hP
            have hf := bnd_eq hf _ eμ_16
            refine lv_aload_n hx hb dX7_happen_84 rfl (lv_at hl 1 rfl) ?_
            refine lv_aload_n hx hb dX7_happen_85 rfl (lv_at hl 2 rfl) ?_
            refine lv_aload_n hx hb dX7_happen_86 rfl (lv_at hl 0 rfl) ?_
            obtain ⟨μ_19, lg_20, hc_18, hf⟩ := bn2_some hf
            have hS8 := hS.1
            refine va_callv (va_runV (As := [.ref (gx.ad x1), .ref (gx.ad o_13)]) (rest := []) ⟨hx, hb, hml, hown, hts⟩ (h_X7_obey l hg hX.ab (n + j) hX.ti (by omega) μ_16 lg H.size x1 o_13 hx1 ho_13 hc_18) (cwV 2 hts (gd_V q422 q424 q2 q41 q425) rfl rfl rfl hd_X7_obey ⟨Nat.le_of_ble_eq_true rfl, Nat.le_of_ble_eq_true rfl⟩) ⟨Pe.blind, r_recv hT hP inW (fs := (fsW gx)) (obW gx) rfl, fun U hU hW => ⟨rfl, ⟨Tb.warm hW hT, Em.on hW hE (by rw [hU]; exact hS) hAtb⟩, by rw [hU], by rw [hU]; exact hP⟩⟩ rfl rfl hl.1 rfl (lv_room (Nat.le_of_ble_eq_true rfl)) dX7_happen_87 ⟨(by show 3 * j + 3 ≤ 120; omega), (by show 523 * j + 523 ≤ 20920; omega)⟩) hS (fun q _ h => hX.subT rfl hS q h) (fun q h => hX.subT rfl hS q h) (fun u9 t9 H locs ht9 hvm9 hw9 hB9 hz9 hk9 hS => ?_)
            obtain ⟨gy, hX', a5, ea, eF⟩ := hX.next hS8 hB9
            have hP : Rg gy μ_19 H := by rw [← ht9]; exact a5
            refine lv_iinc (v := x2 + 1) (lv' := [(2, .int (x2 + 1)), (3, .ref (gx.ad o_13)), (0, .ref (gx.ad 0)), (1, .ref (gx.ad x1))]) hx hb dX7_happen_90 hl (k := 3) rfl rfl (by decide) rfl (fun ls hl => ?_)
            refine lv_goto (tgt := 32) hx hb dX7_happen_93 (by decide) ?_
            refine W.widen (k := 3 * (j + 1)) (n := 523 * (j + 1)) (by omega) (by omega) ?_
            exact ih gy (j + 1) hX' (by omega) μ_19 lg_20 x1 (x2 + 1) _ _ _ hP hS (by rw [ea]; exact lv_sub hl [2, 3, 0] rfl) hx1 hj1 (by rw [eF]; exact hf)
  have hl := lv_entry ([.ref (g.ad 0)]) (n := 4) (Nat.le_of_ble_eq_true rfl)
  rw [lg_entry_eq]
  generalize (lg_sl ([.ref (g.ad 0)]) ++ List.replicate (4 - (lg_sl ([.ref (g.ad 0)])).length) Slot.unset).toArray = ls at hl ⊢
  have hl : lv_has ls 4 [(0, .ref (g.ad 0))] := hl
  unfold f_X7_happen at hf
  refine lv_aload_n hx hb dX7_happen_0 rfl (lv_at hl 0 rfl) ?_
  obtain ⟨r_1, hc_2, hf⟩ := bnO_some hf
  refine va_callq (va_runV (As := []) (rest := []) ⟨hx, hb, hml, hown, hts⟩ (c_X7_nextToGo l hg μ   hc_2) (cwV 0 hts (gd_V q393 q394 q395 q41 q396) rfl rfl rfl hd_X7_nextToGo ⟨Nat.le_of_ble_eq_true rfl, Nat.le_of_ble_eq_true rfl⟩) ⟨Pz.blind, r_recv hT hP inW (fs := (fsW g)) (obW g) rfl, fun U hU hW => ⟨rfl, Tb.warm hW hT, by rw [hU]; exact hP⟩⟩ rfl rfl hl.1 rfl (lv_room (Nat.le_of_ble_eq_true rfl)) dX7_happen_1 ⟨Nat.le_of_ble_eq_true rfl, Nat.le_of_ble_eq_true rfl⟩) hS (fun q _ h => h.elim) (fun q h => h.elim) (fun v9 u9 t9 H locs ht9 hvm9 hw9 hB9 hz9 hk9 hS => ?_)
  have hP := Rg.keep hP (fun q h => hk9 q h id)
  rw [hw9]
  cases r_1 with
  | none =>
    dsimp only [csQ] at hf
    refine W.eq (g2 := F0 m 4 ls [.null]) rfl ?_
    refine lv_astore_nN (lv' := [(1, .null), (0, .ref (g.ad 0))]) hx hb dX7_happen_4 rfl hl (by decide) rfl (fun ls hl => ?_)
    refine lv_aload_nN hx hb dX7_happen_5 rfl (lv_at hl 0 rfl) ?_
    refine lv_ifnonnullN hx hb dX7_happen_6 ?_
    refine lv_null hx hb dX7_happen_9 ?_
    refine W.widen (k := 120) (n := 20920) (Nat.le_of_ble_eq_true rfl) (Nat.le_of_ble_eq_true rfl) ?_
    exact W.aret (v := .null) (rt := .object "Sandglass$Proc") hx hb hr (Or.inl ⟨_, rfl⟩) (Or.inl rfl) (fun t9 ht hW => ⟨⟨none, (), rfl, by rw [← Option.some.inj hf]; rfl, g.T, hTI.mono (by omega), rfl, hg, hAb, by show Rg g r.1 t9.heap; rw [ht, ← Option.some.inj hf]; exact hP, Tn.rf⟩, hS.F ht⟩) hS.2.2 dX7_happen_10
  | some o_3 =>
    dsimp only [csQ] at hf
    obtain ⟨ho_3, hf⟩ := grd_some hf
    refine W.eq (g2 := F0 m 4 ls [.ref (g.ad o_3)]) rfl ?_
    refine lv_astore_n (lv' := [(1, .ref (g.ad o_3)), (0, .ref (g.ad 0))]) hx hb dX7_happen_4 rfl hl (by decide) rfl (fun ls hl => ?_)
    refine lv_aload_n hx hb dX7_happen_5 rfl (lv_at hl 0 rfl) ?_
    refine lv_ifnonnull (tgt := 11) hx hb dX7_happen_6 (by decide) ?_
    refine lv_aload_n hx hb dX7_happen_11 rfl (lv_at hl 1 rfl) ?_
    refine lv_aload_n hx hb dX7_happen_12 rfl (lv_at hl 0 rfl) ?_
    refine r_get hx hb hts i_X2 hown hT hP (inP ho_3) (fs := (fsP g o_3)) (obP ho_3) rfl 7 (by decide) q131 (fun _ h9 => h9) rfl dX7_happen_13 ?_
    obtain ⟨μ_6, hc_5, hf⟩ := bnO_some hf
    refine va_callv (va_runV (As := [.int (μ o_3 7)]) (rest := []) ⟨hx, hb, hml, hown, hts⟩ (c_X7_goTo l hg μ H.size (μ o_3 7)  hc_5) (cwV 1 hts (gd_V q401 q402 q403 q41 q404) rfl rfl rfl hd_X7_goTo ⟨Nat.le_of_ble_eq_true rfl, Nat.le_of_ble_eq_true rfl⟩) ⟨Pz.blind, r_recv hT hP inW (fs := (fsW g)) (obW g) rfl, fun U hU hW => ⟨rfl, Tb.warm hW hT, by rw [hU], by rw [hU]; exact hP⟩⟩ rfl rfl hl.1 rfl (lv_room (Nat.le_of_ble_eq_true rfl)) dX7_happen_16 ⟨Nat.le_of_ble_eq_true rfl, Nat.le_of_ble_eq_true rfl⟩) hS (fun q _ h => At.sub (X := g.T) rfl hS rfl rfl q h) (fun q h => At.sub (X := g.T) rfl hS rfl rfl q h) (fun u9 t9 H locs ht9 hvm9 hw9 hB9 hz9 hk9 hS => ?_)
    have hP : Rg g μ_6 H := by rw [← ht9]; exact hB9
    refine lv_aload_n hx hb dX7_happen_19 rfl (lv_at hl 0 rfl) ?_
    refine lv_iconst (v := (-1)) hx hb dX7_happen_20 (by decide) ?_
    refine rh_put hY hx hb hts i_X2 tyX2 tyX2_ok nmX2 hown hT hP hD hC hN hS (mtP ho_3) (fs := (fsP g o_3)) (obP ho_3) rfl 7 (by decide) q131 (fun _ h9 => h9) rfl (ty := .int) (x := (-1)) rfl rfl rfl (fun _ => rfl) (Nat.le_of_ble_eq_true rfl) dX7_happen_21 (fun H locs hP hS => ?_)
    obtain ⟨μ_7, eμ_7⟩ : ∃ z, put μ_6 o_3 7 (-1) = z := ⟨_, rfl⟩
    rw [eμ_7] at hP
    have hf := bnd_eq hf _ eμ_7
    refine lv_aload_n hx hb dX7_happen_24 rfl (lv_at hl 0 rfl) ?_
    refine lv_bipush (v := 8) hx hb dX7_happen_25 (by decide) ?_
    refine rh_put hY hx hb hts i_X2 tyX2 tyX2_ok nmX2 hown hT hP hD hC hN hS (mtP ho_3) (fs := (fsP g o_3)) (obP ho_3) rfl 6 (by decide) q128 (fun _ h9 => h9) rfl (ty := .int) (x := 8) rfl rfl rfl (fun _ => rfl) (Nat.le_of_ble_eq_true rfl) dX7_happen_27 (fun H locs hP hS => ?_)
    obtain ⟨μ_8, eμ_8⟩ : ∃ z, put μ_7 o_3 6 8 = z := ⟨_, rfl⟩
    rw [eμ_8] at hP
    have hf := bnd_eq hf _ eμ_8
    refine lv_iconst (v := 0) hx hb dX7_happen_30 (by decide) ?_
    refine lv_istore_n (lv' := [(2, .int 0), (1, .ref (g.ad o_3)), (0, .ref (g.ad 0))]) hx hb dX7_happen_31 rfl hl (by decide) rfl (fun ls hl => ?_)
    exact L32 fu g 0 ⟨hY, g.T, rfl, hTI, rfl, hg, hAb, Tn.rf⟩ (Nat.zero_le _) μ_8 lg o_3 0 _ _ _ hP hS (lv_sub hl [2, 1, 0] rfl) ho_3 rfl hf
