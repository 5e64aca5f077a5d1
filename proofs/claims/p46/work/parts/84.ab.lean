/-! the law's walk from its entry to the loop -/
/-- what the loop begins with -/
def LB (z b : Nat) (D : va_G) (cy : Nat → ClassId) (sn fa sim : Nat) (g2 g : Geo) (K : Kx) (κ μ : Mem) (N : Int) (cs : va_W) (H : Heap) : Prop := LW b g2 g κ μ cs H ∧ Cfg g2.F K ∧ g.F = g2.F ∧ (g2.D = D ∧ g2.cy = cy ∧ g.D = D ∧ g.cy = cy) ∧ g2.ad 272 = fa ∧ g2.sz 0 = 2 ∧ g2.sz 1 = 2 ∧ g2.sz 2 = sn ∧ TI z g2.T 0 ∧ Inv g2.F K (fun _ => False) 99 0 N κ ∧ Cst g2.F K μ ∧ N ≤ 7 ∧ (κ 0 5).toInt = 7 ∧ κ 0 8 = 0 ∧ ∃ (un ro : Nat) (fs : List Value) (fu fr : Nat → Int32), fs[3]? = some (.ref un) ∧ fs[5]? = some (.ref ro) ∧ cs = [(sim, .inr (10, fs)), (un, .inl (cy 0, 2, .inl fu)), (ro, .inl (cy 0, 2, .inl fr))] ∧ (∀ r, r < 2 → fu r = K.2.1 r) ∧ ∀ r, r < 2 → fr r = K.2.2 r
set_option maxHeartbeats 8000000 in
theorem law_ab (l : Launch) {bs L : Nat} {xs : Nat → Int32} (hL : L ≤ 260) {p : Program} {e9 : Env} {s : State} {m : MethodId} {below : List Frame} {meth : Method} {c : Code} {Qx : State → Prop} (hx : p.tables.exec = Jvm.exec) (hb : c.code = code) (hml : c.maxLocals = 14) (hts0 : ∀ w ∈ lw_tbl, w.before #[Value.ref bs] s = true) (hown : s.vm.findClass RL = some m.cls) (hXs : va_X bs L xs s s.heap) (hbl : bs < s.heap.size) (hgv : (Jvm.Cond.and given_1 narrow_1).before #[Value.ref bs] s = true)
    (kont : ∀ (z : Nat) (D : va_G) (cy : Nat → ClassId) (sn fa sim : Nat) (g2 g : Geo) (K : Kx) (κ μ : Mem) (N : Int) (cs : va_W) (H : Heap) (locs : List Loc) (ls : Array Slot), T3 D (tysB cy) s → Tx s → Em D z s.heap.size (cy 2) s → 1 ≤ sn → sn ≤ 3 → LB z s.heap.size D cy sn fa sim g2 g K κ μ N cs H → va_S (fun q => s.heap.size ≤ q) s.heap H locs → lv_has ls 14 [(3, .ref sim), (2, .int (nI sn)), (1, .ref fa), (0, .ref bs)] → W p l e9 room_1 s m #[Value.ref bs] below meth c H locs 500 16000 Qx (F0 m 228 ls [])) :
    W p l e9 room_1 s m #[Value.ref bs] below meth c s.heap [] 0 0 Qx (entryFrame m ([Value.ref bs] : List Value).toArray 14) := by
  obtain ⟨D, cy, hT, hX⟩ := law_env hts0
  obtain ⟨z, hE⟩ := law_em (D := D) (c2 := cy 2) hgv (hts0 _ (by decide +kernel)) (hts0 _ (by decide +kernel))
  have hts : ∀ w ∈ lw_all, w.before #[Value.ref bs] s = true := fun w h => hts0 w (lw_in0 w h)
  have hl := lv_entry ([.ref bs]) (n := 14) (Nat.le_of_ble_eq_true rfl)
  rw [lg_entry_eq]
  generalize (lg_sl ([.ref bs]) ++ List.replicate (14 - (lg_sl ([.ref bs])).length) Slot.unset).toArray = ls at hl ⊢
  have hl : lv_has ls 14 [(0, .ref bs)] := hl
  refine law_a l hL hx hb hml hts hown hT hE hX hXs hbl (fun sn fa sim k8 H locs ls t h1s hsn hk8 ht hB hS hl => ?_) ls hl
  obtain ⟨un, ro, fs, ad, szf, shf, j4, j8, j12, j15, j19, hf3, hf5, i4, i8, i12, i15, i19, z0, z1, z2, hF, hK, h272, hP, hD⟩ := hB
  rw [ht] at hK hP
  have hLW := LW.of hK hP hD
  have hC := cfg0 (ki0 := nI k8) i4 i8 i12 hsn z0 z1 z2 hK.2.2.1.2.2.2.1 hF
  have hI := inv0 (shf := shf) (ki0 := nI k8) i4 i8 i12 i15 z0 z1
  refine law_b l hL hx hb hml hts hown hT hE hX hXs hbl (g0 := Bg.r z (ad, (D, cy, szf, shf, 1, trB j19))) (g := Bg.t z (ad, (D, cy, szf, shf, 1, trB j19))) (X := (Bg.r z (ad, (D, cy, szf, shf, 1, trB j19))).T) (K := KB0 (nI k8) j4 j8 j12) (fa := fa) (sn := sn) (sim := sim) hT hC z2 h1s hsn h272 (fun κ N H locs ls hLW hI2 hN h5 h8 hS hl => ?_) (muB (nI k8) j4 j8 j12 j15) H locs ls hLW hI (by rw [muB_lo (by decide), mem0_n (by unfold isP; omega)]) (by rw [muB_lo (by decide), mem0_n (by unfold isP; omega)]) hS hl
  refine kont z D cy sn fa sim _ _ (KB0 (nI k8) j4 j8 j12) κ (muB (nI k8) j4 j8 j12 j15) N _ H locs ls hT hX hE h1s hsn ⟨hLW, hC, rfl, ⟨rfl, rfl, rfl, rfl⟩, h272, z0, z1, z2, ti0 i19, hI2, hI.1, hN, h5, h8, un, ro, fs, _, _, hf3, hf5, rfl, fun r hr => ?_, fun r hr => ?_⟩ hS hl
  · rfl
  · rfl
