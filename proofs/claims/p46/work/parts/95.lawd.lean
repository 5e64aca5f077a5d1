/-! the law's loop of thirty -/
set_option maxHeartbeats 8000000 in
set_option maxRecDepth 100000 in
theorem law_d (l : Launch) {z : Nat} {D : va_G} {cy : Nat → ClassId} {bs L : Nat} {xs : Nat → Int32} (hL : L ≤ 260) {p : Program} {e9 : Env} {s : State} {m : MethodId} {below : List Frame} {meth : Method} {c : Code} {Qx : State → Prop} (hx : p.tables.exec = Jvm.exec) (hb : c.code = code) (hml : c.maxLocals = 14) (hts : ∀ w ∈ lw_all, w.before #[Value.ref bs] s = true) (hown : s.vm.findClass RL = some m.cls) (hT : T3 D (tysB cy) s) (hE : Em D z s.heap.size (cy 2) s) (hX : Tx s) (hXs : va_X bs L xs s s.heap) (hbl : bs < s.heap.size) {g0 g : Geo} {X0 : Tp} {K : Kx} {cs : va_W} {fa sn sim : Nat} (hTb : Tb g0 s) (hTg : Tb g s) (hE2 : Em g0.D z s.heap.size (g0.cy 2) s) (hFF : g.F = g0.F) (hfa : g0.ad 272 = fa) (hC : Cfg g0.F K) (hz0 : g0.sz 0 = 2) (hz1 : g0.sz 1 = 2) {un ro : Nat} {fs : List Value} {fu fr : Nat → Int32} (hf3 : fs[3]? = some (.ref un)) (hf5 : fs[5]? = some (.ref ro)) (hcs : cs = [(sim, .inr (10, fs)), (un, .inl (g0.cy 0, 2, .inl fu)), (ro, .inl (g0.cy 0, 2, .inl fr))]) (hun : ∀ r, r < 2 → fu r = K.2.1 r) (hro : ∀ r, r < 2 → fr r = K.2.2 r)
    (kont : ∀ (H : Heap) (locs : List Loc) (ls : Array Slot) (d1 : Drawn), va_S (fun q => s.heap.size ≤ q) s.heap H locs → s.drawn.sameBut d1 lw_cs → W p l e9 room_1 (s.setDrawn d1) m #[Value.ref bs] below meth c H locs 4130 643840 Qx (F0 m 678 ls [])) :
    ∀ (κ μ : Mem) (H : Heap) (locs : List Loc) (ls : Array Slot), LW s.heap.size (g0.tw X0) g κ μ cs H → Inv g0.F K (fun _ => False) 99 0 7 κ → Cst g0.F K μ → TI z X0 0 → κ 0 5 = nI 7 → κ 0 8 = 0 → va_S (fun q => s.heap.size ≤ q) s.heap H locs → lv_has ls 14 [(3, .ref sim), (2, .int (nI sn)), (1, .ref fa), (0, .ref bs)] → W p l e9 room_1 (s.setDrawn s.drawn) m #[Value.ref bs] below meth c H locs 500 16000 Qx (F0 m 228 ls []) := by
  have L231 : ∀ (n k : Nat) (X : Tp) (κ μ : Mem) (c0 : Nat) (d0 : Drawn) (H : Heap) (locs : List Loc) (ls : Array Slot), k + n = 30 → LW s.heap.size (g0.tw X) g κ μ cs H → Inv g0.F K (fun _ => False) 99 (20 * (k : Int)) (7 + 4000 * (k : Int)) κ → Cst g0.F K μ → TI z X (40 * k) → κ 0 5 = nI c0 → 1 ≤ c0 → c0 ≤ 24 → 0 ≤ (κ 0 8).toInt → (κ 0 8).toInt ≤ 40 * (k : Int) → va_S (fun q => s.heap.size ≤ q) s.heap H locs → lv_has ls 14 [(4, .int (nI k)), (3, .ref sim), (2, .int (nI sn)), (1, .ref fa), (0, .ref bs)] → s.drawn.sameBut d0 lw_cs → W p l e9 room_1 (s.setDrawn d0) m #[Value.ref bs] below meth c H locs (500 + 121 * k) (16000 + 20928 * k) Qx (F0 m 231 ls []) := by
    intro n
    induction n with
    | zero =>
      intro k X κ μ c0 d0 H locs ls hin hLW hI hμ hTI h5 hc1 hc24 h80 h81 hS hl hd0
      have hil : k = 30 := by omega
      refine lv_iload hx hb dL_law_231 (lv_at hl 0 rfl) ?_
      refine lv_bipush (v := 30) hx hb dL_law_233 (by decide) ?_
      refine lv_icmp_ge (tgt := 678) hx hb dL_law_235 (by decide) (fun _ => ?_) (fun h9 => absurd ((nI_leI (a := 30) (b := k) (by omega) (by omega)).mpr (by omega)) h9)
      exact W.cs (by omega) (by omega) (kont H locs ls d0 hS hd0)
    | succ n ih =>
      intro k X κ μ c0 d0 H locs ls hin hLW hI hμ hTI h5 hc1 hc24 h80 h81 hS hl hd0
      have hk : k < 30 := by omega
      refine lv_iload hx hb dL_law_231 (lv_at hl 0 rfl) ?_
      refine lv_bipush (v := 30) hx hb dL_law_233 (by decide) ?_
      refine lv_icmp_ge (tgt := 678) hx hb dL_law_235 (by decide) (fun h9 => absurd ((nI_leI (a := 30) (b := k) (by omega) (by omega)).mp h9) (by omega)) (fun _ => ?_)
      exact law_c8 l (z := z) (D := D) (cy := cy) hL hx hb hml hts hown hT hE hX hXs hbl (g0 := g0) (g := g) (X := X) hTb hTg hE2 hFF hfa hC hz0 hz1 hI (by omega) (by omega) h80 (by omega) hTI (by omega) hμ h5 hc1 hc24 hf3 hf5 hcs hun hro (by omega) (by omega) hk hd0 hLW hS hl (fun X' κ' μ' c1 H locs ls d1 hLW hI' hμ' hTI' e1 hcc h24 hd1 hd2 hS hl hd => W.cs (by omega) (by omega) (ih (k + 1) X' κ' μ' c1 d1 H locs ls (by omega) hLW (hI'.mono (by omega) (by omega)) hμ' (hTI'.mono (by omega)) e1 (by omega) h24 (by omega) (by omega) hS hl hd))
  intro κ μ H locs ls hLW hI hμ hTI h5 h8 hS hl
  refine lv_iconst (v := 0) hx hb dL_law_228 (by decide) ?_
  refine lv_istore (lv' := [(4, .int (nI 0)), (3, .ref sim), (2, .int (nI sn)), (1, .ref fa), (0, .ref bs)]) hx hb dL_law_229 hl (by decide) rfl (fun ls hl => ?_)
  have h80 : (κ 0 8).toInt = 0 := by rw [h8]; rfl
  exact L231 30 0 X0 κ μ 7 s.drawn H locs ls rfl hLW (hI.mono (by omega) (by omega)) hμ hTI h5 (by decide) (by decide) (by omega) (by omega) hS hl (Drawn.sameBut.refl s.drawn lw_cs)
