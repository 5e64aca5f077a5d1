/-! the law's look at a kernel, with arrays of its own -/
theorem P_keep {D : va_G} {cl : List vw_C} {ws : va_W} {H H1 : Heap} (h : va_P D cl ws H) (hk : ∀ q : Nat, q < H.size → H1[q]? = H[q]?) : va_P D cl ws H1 := fun k q hq => (h k q hq).kept (hk _ (h k q hq).lt)
theorem P_old {D : va_G} {cl : List vw_C} {ws : va_W} {H0 H : Heap} {locs : List Loc} (h : va_P D cl ws H0) (hS : va_S (fun q : Nat => H0.size ≤ q) H0 H locs) : va_P D cl ws H := fun k q hq => (h k q hq).kept (hS.2.1 _ (h k q hq).lt (Nat.not_le.mpr (h k q hq).lt))
theorem D1 {A : Nat → Prop} {q : Nat × va_E} (h : A q.1) : va_D A [q] := Dcons h (fun k p hp => by simp at hp) D0
/-- the kernel lies in what was there at the beginning -/
def Rold (g : Geo) (H0 : Heap) : Prop := (∀ k, k ∈ g.idx → g.ad k < H0.size) ∧ ∀ k, k ∈ g.tdx → g.ta k < H0.size
theorem Rg.old {g : Geo} {μ : Mem} {H : Heap} (h : Rg g μ H) : Rold g H := ⟨fun k hk => (h.1 k hk).lt, fun k hk => (h.2 k hk).lt⟩
theorem Rg.swap {g : Geo} {μ : Mem} {H0 H H1 : Heap} {locs locs1 : List Loc} (h : Rg g μ H) (hS : va_S (fun q : Nat => H0.size ≤ q) H0 H locs) (hS1 : va_S (fun q : Nat => H0.size ≤ q) H0 H1 locs1) (hO : Rold g H0) : Rg g μ H1 :=
  ⟨fun k hk => (h.1 k hk).kept ((hS1.2.1 _ (hO.1 k hk) (Nat.not_le.mpr (hO.1 k hk))).trans (hS.2.1 _ (hO.1 k hk) (Nat.not_le.mpr (hO.1 k hk))).symm), fun k hk => (h.2 k hk).kept ((hS1.2.1 _ (hO.2 k hk) (Nat.not_le.mpr (hO.2 k hk))).trans (hS.2.1 _ (hO.2 k hk) (Nat.not_le.mpr (hO.2 k hk))).symm)⟩
def b_L_isSound_107 (g : Fg) (k9 : Mem → (Nat → Int32) → (Nat → Int32) → (Nat → Int32) → Int32 → Option (Int32)) : Nat → Mem → (Nat → Int32) → (Nat → Int32) → (Nat → Int32) → Int32 → Int32 → Int32 → Option (Int32)
  | 0, _, _, _, _, _, _, _ => none
  | n + 1, μ, x1, x2, x3, x4, x5, x6 => if x5 ≤ 4 then (k9 μ x1 x2 x3 (x4 + 1)) else (if 2 ≤ x6 then (k9 μ x1 x2 x3 (x4 + 1)) else (bnO (f_X8_holds g μ x4 x6) fun r_83 => if r_83 = 0 then (b_L_isSound_107 g k9 n μ x1 x2 x3 x4 x5 (x6 + 1)) else (some 0)))
def b_L_isSound_318 (g : Fg) (k9 : Mem → (Nat → Int32) → (Nat → Int32) → (Nat → Int32) → Int32 → Int32 → Option (Int32)) : Nat → Mem → (Nat → Int32) → (Nat → Int32) → (Nat → Int32) → Int32 → Int32 → Int32 → Option (Int32)
  | 0, _, _, _, _, _, _, _ => none
  | n + 1, μ, x1, x2, x3, x4, x5, x7 => bnO (f_X8_queued g μ x5) fun r_143 => if r_143 ≤ x7 then (bnO (f_X8_queued g μ x5) fun r_146 => k9 μ x1 x2 x3 (x4 + r_146) (x5 + 1)) else (bnO (f_X8_queuedAt g μ x5 x7) fun r_148 => bnO (f_X8_stateOf g μ r_148) fun r_150 => if r_150 = 2 then (b_L_isSound_318 g k9 n μ x1 x2 x3 x4 x5 (x7 + 1)) else (some 0))
def b_L_isSound_207 (g : Fg) (k9 : Mem → (Nat → Int32) → (Nat → Int32) → (Nat → Int32) → Int32 → Int32 → Option (Int32)) : Nat → Mem → (Nat → Int32) → (Nat → Int32) → (Nat → Int32) → Int32 → Int32 → Int32 → Int32 → Option (Int32)
  | 0, _, _, _, _, _, _, _, _ => none
  | n + 1, μ, x1, x2, x3, x4, x5, x6, x7 => bnO (f_X8_processes g μ ) fun r_104 => if r_104 ≤ x7 then (bnO (f_X8_free g μ x5) fun r_107 => grd (¬ (x5 < 0 ∨ 2 ≤ x5.toNatClampNeg)) (if (x6 + r_107) = (x1 x5.toNatClampNeg) then (bnO (f_X8_free g μ x5) fun r_111 => if r_111 < 0 then (some 0) else (bnO (f_X8_busy g μ x5) fun r_114 => bnO (f_X8_time g μ ) fun r_116 => grd (¬ (x5 < 0 ∨ 2 ≤ x5.toNatClampNeg)) (if (r_116 * (x1 x5.toNatClampNeg)) < r_114 then (some 0) else (bnO (f_X8_longest g μ x5) fun r_120 => bnO (f_X8_queued g μ x5) fun r_122 => if r_120 < r_122 then (some 0) else (bnO (f_X8_queueing g μ x5) fun r_125 => bnO (f_X8_time g μ ) fun r_127 => bnO (f_X8_longest g μ x5) fun r_129 => if r_125 ≤ (r_127 * r_129) then (b_L_isSound_318 g k9 fu μ x1 x2 x3 x4 x5 0) else (some 0)))))) else (some 0))) else (bnO (f_X8_holds g μ x7 x5) fun r_132 => b_L_isSound_207 g k9 n μ x1 x2 x3 x4 x5 (x6 + r_132) (x7 + 1))
def b_L_isSound_457 (g : Fg) : Nat → Mem → (Nat → Int32) → Int32 → Int32 → Int32 → Int32 → Option (Int32)
  | 0, _, _, _, _, _, _ => none
  | n + 1, μ, x3, x4, x5, x6, x7 => if 4 ≤ x7 then (grd (¬ ((2 : Int32) < 0 ∨ 8 ≤ (2 : Int32).toNatClampNeg)) (if x4 = (x3 (2 : Int32).toNatClampNeg) then (grd (¬ ((3 : Int32) < 0 ∨ 8 ≤ (3 : Int32).toNatClampNeg)) (if x5 = (x3 (3 : Int32).toNatClampNeg) then (grd (¬ ((4 : Int32) < 0 ∨ 8 ≤ (4 : Int32).toNatClampNeg)) (if x6 = (x3 (4 : Int32).toNatClampNeg) then (some 1) else (some 0))) else (some 0))) else (some 0))) else (bnO (f_X8_awaiting g μ x7) fun r_141 => b_L_isSound_457 g n μ x3 x4 x5 (x6 + r_141) (x7 + 1))
def b_L_isSound_376 (g : Fg) : Nat → Mem → (Nat → Int32) → (Nat → Int32) → Int32 → Int32 → Int32 → Option (Int32)
  | 0, _, _, _, _, _, _ => none
  | n + 1, μ, x2, x3, x4, x5, x6 => if 2 ≤ x6 then (b_L_isSound_457 g fu μ x3 x4 x5 0 0) else (bnO (f_X8_level g μ x6) fun r_87 => if r_87 < 0 then (some 0) else (bnO (f_X8_level g μ x6) fun r_90 => grd (¬ (x6 < 0 ∨ 2 ≤ x6.toNatClampNeg)) (if (x2 x6.toNatClampNeg) < r_90 then (some 0) else (bnO (f_X8_area g μ x6) fun r_94 => bnO (f_X8_time g μ ) fun r_96 => grd (¬ (x6 < 0 ∨ 2 ≤ x6.toNatClampNeg)) (if r_94 ≤ (r_96 * (x2 x6.toNatClampNeg)) then (bnO (f_X8_blocked g μ x6 0) fun r_100 => bnO (f_X8_blocked g μ x6 1) fun r_102 => b_L_isSound_376 g n μ x2 x3 x4 (x5 + (r_100 + r_102)) (x6 + 1)) else (some 0))))))
def b_L_isSound_194 (g : Fg) : Nat → Mem → (Nat → Int32) → (Nat → Int32) → (Nat → Int32) → Int32 → Int32 → Option (Int32)
  | 0, _, _, _, _, _, _ => none
  | n + 1, μ, x1, x2, x3, x4, x5 => if 2 ≤ x5 then (b_L_isSound_376 g fu μ x2 x3 x4 0 0) else (b_L_isSound_207 g (fun m9 y1 y2 y3 y4 y5 => b_L_isSound_194 g n m9 y1 y2 y3 y4 y5) fu μ x1 x2 x3 x4 x5 0 0)
def b_L_isSound_8 (g : Fg) : Nat → Mem → (Nat → Int32) → (Nat → Int32) → (Nat → Int32) → Int32 → Option (Int32)
  | 0, _, _, _, _, _ => none
  | n + 1, μ, x1, x2, x3, x4 => bnO (f_X8_processes g μ ) fun r_1 => if r_1 ≤ x4 then (bnO (f_X8_events g μ ) fun r_4 => grd (¬ ((0 : Int32) < 0 ∨ 8 ≤ (0 : Int32).toNatClampNeg)) (grd (¬ ((1 : Int32) < 0 ∨ 8 ≤ (1 : Int32).toNatClampNeg)) (if r_4 = ((x3 (0 : Int32).toNatClampNeg) + (x3 (1 : Int32).toNatClampNeg)) then (bnO (f_X8_nextTime g μ ) fun r_9 => if 0 ≤ r_9 then (bnO (f_X8_events g μ ) fun r_12 => if r_12 = 0 then (some 0) else (b_L_isSound_194 g fu μ x1 x2 x3 0 0)) else (bnO (f_X8_events g μ ) fun r_17 => if r_17 = 0 then (b_L_isSound_194 g fu μ x1 x2 x3 0 0) else (some 0))) else (some 0)))) else (bnO (f_X8_stateOf g μ x4) fun r_22 => grd (¬ (r_22 < 0 ∨ 8 ≤ r_22.toNatClampNeg)) (grd (¬ (r_22 < 0 ∨ 8 ≤ r_22.toNatClampNeg)) (bnd (upd x3 r_22.toNatClampNeg ((x3 r_22.toNatClampNeg) + 1)) fun σ_26 => bnO (f_X8_eventOf g μ x4) fun r_27 => if r_27 < 0 then (if 2 ≤ r_22 then (if 2 ≤ r_22 then (bnO (f_X8_restOf g μ x4) fun r_33 => if r_33 < 0 then (some 0) else (bnO (f_X8_markOf g μ x4) fun r_36 => bnO (f_X8_time g μ ) fun r_38 => if r_36 ≤ r_38 then (b_L_isSound_107 g (fun m9 y1 y2 y3 y4 => b_L_isSound_8 g n m9 y1 y2 y3 y4) fu μ x1 x2 σ_26 x4 r_22 0) else (some 0))) else (bnO (f_X8_eventOf g μ x4) fun r_41 => bnO (f_X8_time g μ ) fun r_43 => if r_41 < r_43 then (some 0) else (bnO (f_X8_restOf g μ x4) fun r_46 => if r_46 < 0 then (some 0) else (bnO (f_X8_markOf g μ x4) fun r_49 => bnO (f_X8_time g μ ) fun r_51 => if r_49 ≤ r_51 then (b_L_isSound_107 g (fun m9 y1 y2 y3 y4 => b_L_isSound_8 g n m9 y1 y2 y3 y4) fu μ x1 x2 σ_26 x4 r_22 0) else (some 0))))) else (some 0)) else (if 2 ≤ r_22 then (some 0) else (if 2 ≤ r_22 then (bnO (f_X8_restOf g μ x4) fun r_59 => if r_59 < 0 then (some 0) else (bnO (f_X8_markOf g μ x4) fun r_62 => bnO (f_X8_time g μ ) fun r_64 => if r_62 ≤ r_64 then (b_L_isSound_107 g (fun m9 y1 y2 y3 y4 => b_L_isSound_8 g n m9 y1 y2 y3 y4) fu μ x1 x2 σ_26 x4 r_22 0) else (some 0))) else (bnO (f_X8_eventOf g μ x4) fun r_67 => bnO (f_X8_time g μ ) fun r_69 => if r_67 < r_69 then (some 0) else (bnO (f_X8_restOf g μ x4) fun r_72 => if r_72 < 0 then (some 0) else (bnO (f_X8_markOf g μ x4) fun r_75 => bnO (f_X8_time g μ ) fun r_77 => if r_75 ≤ r_77 then (b_L_isSound_107 g (fun m9 y1 y2 y3 y4 => b_L_isSound_8 g n m9 y1 y2 y3 y4) fu μ x1 x2 σ_26 x4 r_22 0) else (some 0)))))))))
def f_L_isSound (g : Fg) (μ : Mem) (un ro : Nat → Int32) : Option (Int32) := bnd (fun _ => (0 : Int32)) fun σ0 => b_L_isSound_8 g fu μ un ro σ0 0
theorem hd_L_isSound : yL_isSound.cls = RL ∧ yL_isSound.cls ≠ "java/lang/invoke/MethodHandle" ∧ yL_isSound.cls ≠ "java/lang/invoke/VarHandle" ∧ (parseMethodDescriptor yL_isSound.desc).map (fun d => d.parameters.length) = some 3 := by decide +kernel
set_option maxHeartbeats 8000000 in
set_option maxRecDepth 100000 in
theorem c_L_isSound (l : Launch) {g : Geo} (hg : Good g) (hX : g.tz 1 = 1) (μ : Mem) (sz au ar : Nat) (un ro : Nat → Int32) {r : Int32} (hf : f_L_isSound g.F μ un ro = some r) : Met l yL_isSound (ws_ yL_isSound cL_isSound 8 (some .boolean)) (rm_ 6 131 1 8) (va_Pc [.ref (g.ad 272), .ref au, .ref ar] (fun U => Tb g U ∧ U.heap.size = sz ∧ Rg g μ U.heap ∧ va_P g.D vwCl [(au, .inl (g.cy 0, 2, .inl un))] U.heap ∧ va_P g.D vwCl [(ar, .inl (g.cy 0, 2, .inl ro))] U.heap)) (va_Qi (fun (v : Int32) (_ : Unit) => v = r) (fun _ _ => True) (fun q : Nat => sz ≤ q)) 1 8 (fun q : Nat => sz ≤ q) := by
  refine Met.ofW (cc := cL_isSound) (maxL := 8) (ret := (some .boolean)) (by decide) rfl ?_
  intro p e s m args below meth c s₁ B hml hv
  obtain ⟨rfl, hT, hsz, hP, hun, hro⟩ := hv
  have hx := B.exec
  have hb := B.bytes
  have hr := B.returns
  have hts : ∀ w ∈ lw_all, w.before _ s = true := fun w h => atoms_spec (ws := (ws_ yL_isSound cL_isSound 8 (some .boolean))) B.pre w (List.mem_cons_of_mem _ h)
  have hown : s.vm.findClass RL = some m.cls := findClass_of_methodNamed B.named
  have hlocks := B.notSynchronized
  subst hsz
  have hO := hP.old
  have hS : va_S (fun q : Nat => s.heap.size ≤ q) s.heap s.heap [] := va_S.rf
  have L107 : ∀ {q0 : Nat} (k9 : Mem → (Nat → Int32) → (Nat → Int32) → (Nat → Int32) → Int32 → Option (Int32)) (hkont : ∀ (μ : Mem) (x1 : (Nat → Int32)) (x2 : (Nat → Int32)) (x3 : (Nat → Int32)) (x4 : Int32) (H : Heap) (locs : List Loc) (ls : Array Slot), Rg g μ H → va_S (fun q : Nat => s.heap.size ≤ q) s.heap H locs → lv_has ls 8 [(0, .ref (g.ad 272)), (1, .ref au), (2, .ref ar), (3, .ref q0), (4, .int x4)] → va_P g.D vwCl [(au, .inl (g.cy 0, 2, .inl x1))] s.heap → va_P g.D vwCl [(ar, .inl (g.cy 0, 2, .inl x2))] s.heap → (s.heap.size ≤ q0 ∧ va_P g.D vwCl [(q0, .inl (g.cy 0, 8, .inl x3))] H) → k9 μ x1 x2 x3 x4 = some r → W p l e (headSpec (ws_ yL_isSound cL_isSound 8 (some .boolean)) (rm_ 6 131 1 8)).room s m ([.ref (g.ad 272), .ref au, .ref ar] : List Value).toArray below meth c H locs 1 8 (MQ below (va_Qi (fun (v : Int32) (_ : Unit) => v = r) (fun _ _ => True) (fun q : Nat => s.heap.size ≤ q)) ([.ref (g.ad 272), .ref au, .ref ar] : List Value).toArray s 1 8 (fun q : Nat => s.heap.size ≤ q)) (F0 m 8 ls [])) (n : Nat) (μ : Mem) (x1 : (Nat → Int32)) (x2 : (Nat → Int32)) (x3 : (Nat → Int32)) (x4 : Int32) (x5 : Int32) (x6 : Int32) (H : Heap) (locs : List Loc) (ls : Array Slot), Rg g μ H → va_S (fun q : Nat => s.heap.size ≤ q) s.heap H locs → lv_has ls 8 [(0, .ref (g.ad 272)), (1, .ref au), (2, .ref ar), (3, .ref q0), (4, .int x4), (5, .int x5), (6, .int x6)] → va_P g.D vwCl [(au, .inl (g.cy 0, 2, .inl x1))] s.heap → va_P g.D vwCl [(ar, .inl (g.cy 0, 2, .inl x2))] s.heap → (s.heap.size ≤ q0 ∧ va_P g.D vwCl [(q0, .inl (g.cy 0, 8, .inl x3))] H) → b_L_isSound_107 g.F k9 n μ x1 x2 x3 x4 x5 x6 = some r → W p l e (headSpec (ws_ yL_isSound cL_isSound 8 (some .boolean)) (rm_ 6 131 1 8)).room s m ([.ref (g.ad 272), .ref au, .ref ar] : List Value).toArray below meth c H locs 1 8 (MQ below (va_Qi (fun (v : Int32) (_ : Unit) => v = r) (fun _ _ => True) (fun q : Nat => s.heap.size ≤ q)) ([.ref (g.ad 272), .ref au, .ref ar] : List Value).toArray s 1 8 (fun q : Nat => s.heap.size ≤ q)) (F0 m 107 ls []) := by
    intro q0 k9 hkont n
    induction n with
    | zero => intro μ x1 x2 x3 x4 x5 x6 H locs ls hP hS hl hx1 hx2 hx3 hf; cases hf
    | succ n ih =>
      intro μ x1 x2 x3 x4 x5 x6 H locs ls hP hS hl hx1 hx2 hx3 hf
      rw [b_L_isSound_107] at hf
      refine lv_iload hx hb dL_isSound_107 (lv_at hl 5 rfl) ?_
      refine lv_iconst (v := 4) hx hb dL_isSound_109 (by decide) ?_
      refine lv_icmp_le (tgt := 139) hx hb dL_isSound_110 (by decide) (fun c_81 => ?_) (fun c_81 => ?_)
      · have hf := (if_pos c_81).symm.trans hf
        refine lv_iinc (v := x4 + 1) (lv' := [(4, .int (x4 + 1)), (0, .ref (g.ad 272)), (1, .ref au), (2, .ref ar), (3, .ref q0), (5, .int x5), (6, .int x6)]) hx hb dL_isSound_139 hl (k := 4) rfl rfl (by decide) rfl (fun ls hl => ?_)
        refine lv_goto (tgt := 8) hx hb dL_isSound_142 (by decide) ?_
        exact hkont μ x1 x2 x3 (x4 + 1) _ _ _ hP hS (lv_sub hl [1, 2, 3, 4, 0] rfl) hx1 hx2 hx3 hf
      · have hf := (if_neg c_81).symm.trans hf
        refine lv_iload hx hb dL_isSound_113 (lv_at hl 6 rfl) ?_
        refine lv_aload_n hx hb dL_isSound_115 rfl (lv_at hl 1 rfl) ?_
        refine va_alen hx hb hT.1 (P_old hx1 hS) 0 0 rfl (ty := .int) rfl (v := 2) rfl dL_isSound_116 ?_
        refine lv_icmp_ge (tgt := 139) hx hb dL_isSound_117 (by decide) (fun c_82 => ?_) (fun c_82 => ?_)
        · have hf := (if_pos c_82).symm.trans hf
          refine lv_iinc (v := x4 + 1) (lv' := [(4, .int (x4 + 1)), (0, .ref (g.ad 272)), (1, .ref au), (2, .ref ar), (3, .ref q0), (5, .int x5), (6, .int x6)]) hx hb dL_isSound_139 hl (k := 4) rfl rfl (by decide) rfl (fun ls hl => ?_)
          refine lv_goto (tgt := 8) hx hb dL_isSound_142 (by decide) ?_
          exact hkont μ x1 x2 x3 (x4 + 1) _ _ _ hP hS (lv_sub hl [1, 2, 3, 4, 0] rfl) hx1 hx2 hx3 hf
        · have hf := (if_neg c_82).symm.trans hf
          refine lv_aload_n hx hb dL_isSound_120 rfl (lv_at hl 0 rfl) ?_
          refine lv_iload hx hb dL_isSound_121 (lv_at hl 4 rfl) ?_
          refine lv_iload hx hb dL_isSound_123 (lv_at hl 6 rfl) ?_
          obtain ⟨r_83, hc_84, hf⟩ := bnO_some hf
          refine va_calli (va_runV (As := [.int x4, .int x6]) (rest := []) ⟨hx, hb, hml, hown, hts⟩ (c_X8_holds l hg hX μ x4 x6  hc_84) (cwV 2 hts (gd_V q705 q706 q707 q37 q708) rfl rfl rfl hd_X8_holds ⟨Nat.le_of_ble_eq_true rfl, Nat.le_of_ble_eq_true rfl⟩) ⟨Pz.blind, r_recv hT hP (inX hX) (fs := (fun _ => [.ref (g.ad 112), .ref (g.ad 266), .ref (g.ad 0), .ref (g.ad 273)])) (obX g) rfl, fun U hU hW => ⟨rfl, Tb.warm hW hT, by rw [hU]; exact hP⟩⟩ rfl rfl hl.1 rfl (lv_room (Nat.le_of_ble_eq_true rfl)) dL_isSound_125 ⟨Nat.le_of_ble_eq_true rfl, Nat.le_of_ble_eq_true rfl⟩) hS (fun q _ h => h.elim) (fun q h => h.elim) (fun v9 u9 t9 H locs ht9 hvm9 hw9 hB9 hz9 hk9 hS => ?_)
          have hP := Rg.keep hP (fun q h => hk9 q h id)
          have hx3 := And.intro hx3.1 (P_keep hx3.2 (fun q h => hk9 q h id))
          rw [hw9]
          refine lv_if_eq (tgt := 133) hx hb dL_isSound_128 (by decide) (fun c_85 => ?_) (fun c_85 => ?_)
          · have hf := (if_pos c_85).symm.trans hf
            refine lv_iinc (v := x6 + 1) (lv' := [(6, .int (x6 + 1)), (0, .ref (g.ad 272)), (1, .ref au), (2, .ref ar), (3, .ref q0), (4, .int x4), (5, .int x5)]) hx hb dL_isSound_133 hl (k := 6) rfl rfl (by decide) rfl (fun ls hl => ?_)
            refine lv_goto (tgt := 107) hx hb dL_isSound_136 (by decide) ?_
            exact ih μ x1 x2 x3 x4 x5 (x6 + 1) _ _ _ hP hS (lv_sub hl [1, 2, 3, 4, 5, 6, 0] rfl) hx1 hx2 hx3 hf
          · have hf := (if_neg c_85).symm.trans hf
            refine lv_iconst (v := 0) hx hb dL_isSound_131 (by decide) ?_
            exact W.zret (v := 0) (ty := .boolean) hx hb hr (by decide) (fun t9 ht hW => ⟨⟨0, (), rfl, Option.some.inj hf, trivial⟩, hS.F ht⟩) hS.2.2 dL_isSound_132
  have L318 : ∀ {q0 : Nat} (k9 : Mem → (Nat → Int32) → (Nat → Int32) → (Nat → Int32) → Int32 → Int32 → Option (Int32)) (hkont : ∀ (μ : Mem) (x1 : (Nat → Int32)) (x2 : (Nat → Int32)) (x3 : (Nat → Int32)) (x4 : Int32) (x5 : Int32) (H : Heap) (locs : List Loc) (ls : Array Slot), Rg g μ H → va_S (fun q : Nat => s.heap.size ≤ q) s.heap H locs → lv_has ls 8 [(0, .ref (g.ad 272)), (1, .ref au), (2, .ref ar), (3, .ref q0), (4, .int x4), (5, .int x5)] → va_P g.D vwCl [(au, .inl (g.cy 0, 2, .inl x1))] s.heap → va_P g.D vwCl [(ar, .inl (g.cy 0, 2, .inl x2))] s.heap → (s.heap.size ≤ q0 ∧ va_P g.D vwCl [(q0, .inl (g.cy 0, 8, .inl x3))] H) → k9 μ x1 x2 x3 x4 x5 = some r → W p l e (headSpec (ws_ yL_isSound cL_isSound 8 (some .boolean)) (rm_ 6 131 1 8)).room s m ([.ref (g.ad 272), .ref au, .ref ar] : List Value).toArray below meth c H locs 1 8 (MQ below (va_Qi (fun (v : Int32) (_ : Unit) => v = r) (fun _ _ => True) (fun q : Nat => s.heap.size ≤ q)) ([.ref (g.ad 272), .ref au, .ref ar] : List Value).toArray s 1 8 (fun q : Nat => s.heap.size ≤ q)) (F0 m 194 ls [])) (n : Nat) (μ : Mem) (x1 : (Nat → Int32)) (x2 : (Nat → Int32)) (x3 : (Nat → Int32)) (x4 : Int32) (x5 : Int32) (x7 : Int32) (H : Heap) (locs : List Loc) (ls : Array Slot), Rg g μ H → va_S (fun q : Nat => s.heap.size ≤ q) s.heap H locs → lv_has ls 8 [(0, .ref (g.ad 272)), (1, .ref au), (2, .ref ar), (3, .ref q0), (4, .int x4), (5, .int x5), (7, .int x7)] → va_P g.D vwCl [(au, .inl (g.cy 0, 2, .inl x1))] s.heap → va_P g.D vwCl [(ar, .inl (g.cy 0, 2, .inl x2))] s.heap → (s.heap.size ≤ q0 ∧ va_P g.D vwCl [(q0, .inl (g.cy 0, 8, .inl x3))] H) → b_L_isSound_318 g.F k9 n μ x1 x2 x3 x4 x5 x7 = some r → W p l e (headSpec (ws_ yL_isSound cL_isSound 8 (some .boolean)) (rm_ 6 131 1 8)).room s m ([.ref (g.ad 272), .ref au, .ref ar] : List Value).toArray below meth c H locs 1 8 (MQ below (va_Qi (fun (v : Int32) (_ : Unit) => v = r) (fun _ _ => True) (fun q : Nat => s.heap.size ≤ q)) ([.ref (g.ad 272), .ref au, .ref ar] : List Value).toArray s 1 8 (fun q : Nat => s.heap.size ≤ q)) (F0 m 318 ls []) := by
    intro q0 k9 hkont n
    induction n with
    | zero => intro μ x1 x2 x3 x4 x5 x7 H locs ls hP hS hl hx1 hx2 hx3 hf; cases hf
    | succ n ih =>
      intro μ x1 x2 x3 x4 x5 x7 H locs ls hP hS hl hx1 hx2 hx3 hf
      rw [b_L_isSound_318] at hf
      refine lv_iload hx hb dL_isSound_318 (lv_at hl 6 rfl) ?_
      refine lv_aload_n hx hb dL_isSound_320 rfl (lv_at hl 0 rfl) ?_
      refine lv_iload hx hb dL_isSound_321 (lv_at hl 5 rfl) ?_
      obtain ⟨r_143, hc_144, hf⟩ := bnO_some hf
      refine va_calli (va_runV (As := [.int x5]) (rest := [.int x7]) ⟨hx, hb, hml, hown, hts⟩ (c_X8_queued l hg hX μ x5  hc_144) (cwV 1 hts (gd_V q1257 q850 q851 q37 q852) rfl rfl rfl hd_X8_queued ⟨Nat.le_of_ble_eq_true rfl, Nat.le_of_ble_eq_true rfl⟩) ⟨Pz.blind, r_recv hT hP (inX hX) (fs := (fun _ => [.ref (g.ad 112), .ref (g.ad 266), .ref (g.ad 0), .ref (g.ad 273)])) (obX g) rfl, fun U hU hW => ⟨rfl, Tb.warm hW hT, by rw [hU]; exact hP⟩⟩ rfl rfl hl.1 rfl (lv_room (Nat.le_of_ble_eq_true rfl)) dL_isSound_323 ⟨Nat.le_of_ble_eq_true rfl, Nat.le_of_ble_eq_true rfl⟩) hS (fun q _ h => h.elim) (fun q h => h.elim) (fun v9 u9 t9 H locs ht9 hvm9 hw9 hB9 hz9 hk9 hS => ?_)
      have hP := Rg.keep hP (fun q h => hk9 q h id)
      have hx3 := And.intro hx3.1 (P_keep hx3.2 (fun q h => hk9 q h id))
      rw [hw9]
      refine lv_icmp_ge (tgt := 353) hx hb dL_isSound_326 (by decide) (fun c_145 => ?_) (fun c_145 => ?_)
      · have hf := (if_pos c_145).symm.trans hf
        refine lv_iload hx hb dL_isSound_353 (lv_at hl 4 rfl) ?_
        refine lv_aload_n hx hb dL_isSound_355 rfl (lv_at hl 0 rfl) ?_
        refine lv_iload hx hb dL_isSound_356 (lv_at hl 5 rfl) ?_
        obtain ⟨r_146, hc_147, hf⟩ := bnO_some hf
        refine va_calli (va_runV (As := [.int x5]) (rest := [.int x4]) ⟨hx, hb, hml, hown, hts⟩ (c_X8_queued l hg hX μ x5  hc_147) (cwV 1 hts (gd_V q1257 q850 q851 q37 q852) rfl rfl rfl hd_X8_queued ⟨Nat.le_of_ble_eq_true rfl, Nat.le_of_ble_eq_true rfl⟩) ⟨Pz.blind, r_recv hT hP (inX hX) (fs := (fun _ => [.ref (g.ad 112), .ref (g.ad 266), .ref (g.ad 0), .ref (g.ad 273)])) (obX g) rfl, fun U hU hW => ⟨rfl, Tb.warm hW hT, by rw [hU]; exact hP⟩⟩ rfl rfl hl.1 rfl (lv_room (Nat.le_of_ble_eq_true rfl)) dL_isSound_358 ⟨Nat.le_of_ble_eq_true rfl, Nat.le_of_ble_eq_true rfl⟩) hS (fun q _ h => h.elim) (fun q h => h.elim) (fun v9 u9 t9 H locs ht9 hvm9 hw9 hB9 hz9 hk9 hS => ?_)
        have hP := Rg.keep hP (fun q h => hk9 q h id)
        have hx3 := And.intro hx3.1 (P_keep hx3.2 (fun q h => hk9 q h id))
        rw [hw9]
        refine lv_iadd hx hb dL_isSound_361 ?_
        refine lv_istore (lv' := [(4, .int (x4 + r_146)), (0, .ref (g.ad 272)), (1, .ref au), (2, .ref ar), (3, .ref q0), (5, .int x5), (7, .int x7)]) hx hb dL_isSound_362 hl (by decide) rfl (fun ls hl => ?_)
        refine lv_iinc (v := x5 + 1) (lv' := [(5, .int (x5 + 1)), (4, .int (x4 + r_146)), (0, .ref (g.ad 272)), (1, .ref au), (2, .ref ar), (3, .ref q0), (7, .int x7)]) hx hb dL_isSound_364 hl (k := 5) rfl rfl (by decide) rfl (fun ls hl => ?_)
        refine lv_goto (tgt := 194) hx hb dL_isSound_367 (by decide) ?_
        exact hkont μ x1 x2 x3 (x4 + r_146) (x5 + 1) _ _ _ hP hS (lv_sub hl [2, 3, 4, 5, 1, 0] rfl) hx1 hx2 hx3 hf
      · have hf := (if_neg c_145).symm.trans hf
        refine lv_aload_n hx hb dL_isSound_329 rfl (lv_at hl 0 rfl) ?_
        refine lv_aload_n hx hb dL_isSound_330 rfl (lv_at hl 0 rfl) ?_
        refine lv_iload hx hb dL_isSound_331 (lv_at hl 5 rfl) ?_
        refine lv_iload hx hb dL_isSound_333 (lv_at hl 6 rfl) ?_
        obtain ⟨r_148, hc_149, hf⟩ := bnO_some hf
        refine va_calli (va_runV (As := [.int x5, .int x7]) (rest := [.ref (g.ad 272)]) ⟨hx, hb, hml, hown, hts⟩ (c_X8_queuedAt l hg hX μ x5 x7  hc_149) (cwV 2 hts (gd_V q1259 q859 q860 q37 q861) rfl rfl rfl hd_X8_queuedAt ⟨Nat.le_of_ble_eq_true rfl, Nat.le_of_ble_eq_true rfl⟩) ⟨Pz.blind, r_recv hT hP (inX hX) (fs := (fun _ => [.ref (g.ad 112), .ref (g.ad 266), .ref (g.ad 0), .ref (g.ad 273)])) (obX g) rfl, fun U hU hW => ⟨rfl, Tb.warm hW hT, by rw [hU]; exact hP⟩⟩ rfl rfl hl.1 rfl (lv_room (Nat.le_of_ble_eq_true rfl)) dL_isSound_335 ⟨Nat.le_of_ble_eq_true rfl, Nat.le_of_ble_eq_true rfl⟩) hS (fun q _ h => h.elim) (fun q h => h.elim) (fun v9 u9 t9 H locs ht9 hvm9 hw9 hB9 hz9 hk9 hS => ?_)
        have hP := Rg.keep hP (fun q h => hk9 q h id)
        have hx3 := And.intro hx3.1 (P_keep hx3.2 (fun q h => hk9 q h id))
        rw [hw9]
        obtain ⟨r_150, hc_151, hf⟩ := bnO_some hf
        refine va_calli (va_runV (As := [.int r_148]) (rest := []) ⟨hx, hb, hml, hown, hts⟩ (c_X8_stateOf l hg hX μ r_148  hc_151) (cwV 1 hts (gd_V q697 q698 q699 q37 q700) rfl rfl rfl hd_X8_stateOf ⟨Nat.le_of_ble_eq_true rfl, Nat.le_of_ble_eq_true rfl⟩) ⟨Pz.blind, r_recv hT hP (inX hX) (fs := (fun _ => [.ref (g.ad 112), .ref (g.ad 266), .ref (g.ad 0), .ref (g.ad 273)])) (obX g) rfl, fun U hU hW => ⟨rfl, Tb.warm hW hT, by rw [hU]; exact hP⟩⟩ rfl rfl hl.1 rfl (lv_room (Nat.le_of_ble_eq_true rfl)) dL_isSound_338 ⟨Nat.le_of_ble_eq_true rfl, Nat.le_of_ble_eq_true rfl⟩) hS (fun q _ h => h.elim) (fun q h => h.elim) (fun v9 u9 t9 H locs ht9 hvm9 hw9 hB9 hz9 hk9 hS => ?_)
        have hP := Rg.keep hP (fun q h => hk9 q h id)
        have hx3 := And.intro hx3.1 (P_keep hx3.2 (fun q h => hk9 q h id))
        rw [hw9]
        refine lv_iconst (v := 2) hx hb dL_isSound_341 (by decide) ?_
        refine lv_icmp_eq (tgt := 347) hx hb dL_isSound_342 (by decide) (fun c_152 => ?_) (fun c_152 => ?_)
        · have hf := (if_pos c_152).symm.trans hf
          refine lv_iinc (v := x7 + 1) (lv' := [(7, .int (x7 + 1)), (0, .ref (g.ad 272)), (1, .ref au), (2, .ref ar), (3, .ref q0), (4, .int x4), (5, .int x5)]) hx hb dL_isSound_347 hl (k := 6) rfl rfl (by decide) rfl (fun ls hl => ?_)
          refine lv_goto (tgt := 318) hx hb dL_isSound_350 (by decide) ?_
          exact ih μ x1 x2 x3 x4 x5 (x7 + 1) _ _ _ hP hS (lv_sub hl [1, 2, 3, 4, 5, 6, 0] rfl) hx1 hx2 hx3 hf
        · have hf := (if_neg c_152).symm.trans hf
          refine lv_iconst (v := 0) hx hb dL_isSound_345 (by decide) ?_
          exact W.zret (v := 0) (ty := .boolean) hx hb hr (by decide) (fun t9 ht hW => ⟨⟨0, (), rfl, Option.some.inj hf, trivial⟩, hS.F ht⟩) hS.2.2 dL_isSound_346
  have L207 : ∀ {q0 : Nat} (k9 : Mem → (Nat → Int32) → (Nat → Int32) → (Nat → Int32) → Int32 → Int32 → Option (Int32)) (hkont : ∀ (μ : Mem) (x1 : (Nat → Int32)) (x2 : (Nat → Int32)) (x3 : (Nat → Int32)) (x4 : Int32) (x5 : Int32) (H : Heap) (locs : List Loc) (ls : Array Slot), Rg g μ H → va_S (fun q : Nat => s.heap.size ≤ q) s.heap H locs → lv_has ls 8 [(0, .ref (g.ad 272)), (1, .ref au), (2, .ref ar), (3, .ref q0), (4, .int x4), (5, .int x5)] → va_P g.D vwCl [(au, .inl (g.cy 0, 2, .inl x1))] s.heap → va_P g.D vwCl [(ar, .inl (g.cy 0, 2, .inl x2))] s.heap → (s.heap.size ≤ q0 ∧ va_P g.D vwCl [(q0, .inl (g.cy 0, 8, .inl x3))] H) → k9 μ x1 x2 x3 x4 x5 = some r → W p l e (headSpec (ws_ yL_isSound cL_isSound 8 (some .boolean)) (rm_ 6 131 1 8)).room s m ([.ref (g.ad 272), .ref au, .ref ar] : List Value).toArray below meth c H locs 1 8 (MQ below (va_Qi (fun (v : Int32) (_ : Unit) => v = r) (fun _ _ => True) (fun q : Nat => s.heap.size ≤ q)) ([.ref (g.ad 272), .ref au, .ref ar] : List Value).toArray s 1 8 (fun q : Nat => s.heap.size ≤ q)) (F0 m 194 ls [])) (n : Nat) (μ : Mem) (x1 : (Nat → Int32)) (x2 : (Nat → Int32)) (x3 : (Nat → Int32)) (x4 : Int32) (x5 : Int32) (x6 : Int32) (x7 : Int32) (H : Heap) (locs : List Loc) (ls : Array Slot), Rg g μ H → va_S (fun q : Nat => s.heap.size ≤ q) s.heap H locs → lv_has ls 8 [(0, .ref (g.ad 272)), (1, .ref au), (2, .ref ar), (3, .ref q0), (4, .int x4), (5, .int x5), (6, .int x6), (7, .int x7)] → va_P g.D vwCl [(au, .inl (g.cy 0, 2, .inl x1))] s.heap → va_P g.D vwCl [(ar, .inl (g.cy 0, 2, .inl x2))] s.heap → (s.heap.size ≤ q0 ∧ va_P g.D vwCl [(q0, .inl (g.cy 0, 8, .inl x3))] H) → b_L_isSound_207 g.F k9 n μ x1 x2 x3 x4 x5 x6 x7 = some r → W p l e (headSpec (ws_ yL_isSound cL_isSound 8 (some .boolean)) (rm_ 6 131 1 8)).room s m ([.ref (g.ad 272), .ref au, .ref ar] : List Value).toArray below meth c H locs 1 8 (MQ below (va_Qi (fun (v : Int32) (_ : Unit) => v = r) (fun _ _ => True) (fun q : Nat => s.heap.size ≤ q)) ([.ref (g.ad 272), .ref au, .ref ar] : List Value).toArray s 1 8 (fun q : Nat => s.heap.size ≤ q)) (F0 m 207 ls []) := by
    intro q0 k9 hkont n
    induction n with
    | zero => intro μ x1 x2 x3 x4 x5 x6 x7 H locs ls hP hS hl hx1 hx2 hx3 hf; cases hf
    | succ n ih =>
      intro μ x1 x2 x3 x4 x5 x6 x7 H locs ls hP hS hl hx1 hx2 hx3 hf
      rw [b_L_isSound_207] at hf
      refine lv_iload hx hb dL_isSound_207 (lv_at hl 7 rfl) ?_
      refine lv_aload_n hx hb dL_isSound_209 rfl (lv_at hl 0 rfl) ?_
      obtain ⟨r_104, hc_105, hf⟩ := bnO_some hf
      refine va_calli (va_runV (As := []) (rest := [.int x7]) ⟨hx, hb, hml, hown, hts⟩ (c_X8_processes l hg hX μ   hc_105) (cwV 0 hts (gd_V q689 q690 q691 q37 q692) rfl rfl rfl hd_X8_processes ⟨Nat.le_of_ble_eq_true rfl, Nat.le_of_ble_eq_true rfl⟩) ⟨Pz.blind, r_recv hT hP (inX hX) (fs := (fun _ => [.ref (g.ad 112), .ref (g.ad 266), .ref (g.ad 0), .ref (g.ad 273)])) (obX g) rfl, fun U hU hW => ⟨rfl, Tb.warm hW hT, by rw [hU]; exact hP⟩⟩ rfl rfl hl.1 rfl (lv_room (Nat.le_of_ble_eq_true rfl)) dL_isSound_210 ⟨Nat.le_of_ble_eq_true rfl, Nat.le_of_ble_eq_true rfl⟩) hS (fun q _ h => h.elim) (fun q h => h.elim) (fun v9 u9 t9 H locs ht9 hvm9 hw9 hB9 hz9 hk9 hS => ?_)
      have hP := Rg.keep hP (fun q h => hk9 q h id)
      have hx3 := And.intro hx3.1 (P_keep hx3.2 (fun q h => hk9 q h id))
      rw [hw9]
      refine lv_icmp_ge (tgt := 235) hx hb dL_isSound_213 (by decide) (fun c_106 => ?_) (fun c_106 => ?_)
      · have hf := (if_pos c_106).symm.trans hf
        refine lv_iload hx hb dL_isSound_235 (lv_at hl 6 rfl) ?_
        refine lv_aload_n hx hb dL_isSound_237 rfl (lv_at hl 0 rfl) ?_
        refine lv_iload hx hb dL_isSound_238 (lv_at hl 5 rfl) ?_
        obtain ⟨r_107, hc_108, hf⟩ := bnO_some hf
        refine va_calli (va_runV (As := [.int x5]) (rest := [.int x6]) ⟨hx, hb, hml, hown, hts⟩ (c_X8_free l hg hX μ x5  hc_108) (cwV 1 hts (gd_V q1255 q855 q856 q37 q857) rfl rfl rfl hd_X8_free ⟨Nat.le_of_ble_eq_true rfl, Nat.le_of_ble_eq_true rfl⟩) ⟨Pz.blind, r_recv hT hP (inX hX) (fs := (fun _ => [.ref (g.ad 112), .ref (g.ad 266), .ref (g.ad 0), .ref (g.ad 273)])) (obX g) rfl, fun U hU hW => ⟨rfl, Tb.warm hW hT, by rw [hU]; exact hP⟩⟩ rfl rfl hl.1 rfl (lv_room (Nat.le_of_ble_eq_true rfl)) dL_isSound_240 ⟨Nat.le_of_ble_eq_true rfl, Nat.le_of_ble_eq_true rfl⟩) hS (fun q _ h => h.elim) (fun q h => h.elim) (fun v9 u9 t9 H locs ht9 hvm9 hw9 hB9 hz9 hk9 hS => ?_)
        have hP := Rg.keep hP (fun q h => hk9 q h id)
        have hx3 := And.intro hx3.1 (P_keep hx3.2 (fun q h => hk9 q h id))
        rw [hw9]
        refine lv_iadd hx hb dL_isSound_243 ?_
        refine lv_aload_n hx hb dL_isSound_244 rfl (lv_at hl 1 rfl) ?_
        refine lv_iload hx hb dL_isSound_245 (lv_at hl 5 rfl) ?_
        obtain ⟨hi_109, hf⟩ := grd_some hf
        refine va_iald hx hb hT.1 (P_old hx1 hS) 0 0 rfl rfl hi_109 dL_isSound_247 ?_
        refine lv_icmp_ne (tgt := 313) hx hb dL_isSound_248 (by decide) (fun c_110 => ?_) (fun c_110 => ?_)
        · have hf := (if_neg c_110).symm.trans hf
          refine lv_iconst (v := 0) hx hb dL_isSound_313 (by decide) ?_
          exact W.zret (v := 0) (ty := .boolean) hx hb hr (by decide) (fun t9 ht hW => ⟨⟨0, (), rfl, Option.some.inj hf, trivial⟩, hS.F ht⟩) hS.2.2 dL_isSound_314
        · have hf := (if_pos c_110).symm.trans hf
          refine lv_aload_n hx hb dL_isSound_251 rfl (lv_at hl 0 rfl) ?_
          refine lv_iload hx hb dL_isSound_252 (lv_at hl 5 rfl) ?_
          obtain ⟨r_111, hc_112, hf⟩ := bnO_some hf
          refine va_calli (va_runV (As := [.int x5]) (rest := []) ⟨hx, hb, hml, hown, hts⟩ (c_X8_free l hg hX μ x5  hc_112) (cwV 1 hts (gd_V q1255 q855 q856 q37 q857) rfl rfl rfl hd_X8_free ⟨Nat.le_of_ble_eq_true rfl, Nat.le_of_ble_eq_true rfl⟩) ⟨Pz.blind, r_recv hT hP (inX hX) (fs := (fun _ => [.ref (g.ad 112), .ref (g.ad 266), .ref (g.ad 0), .ref (g.ad 273)])) (obX g) rfl, fun U hU hW => ⟨rfl, Tb.warm hW hT, by rw [hU]; exact hP⟩⟩ rfl rfl hl.1 rfl (lv_room (Nat.le_of_ble_eq_true rfl)) dL_isSound_254 ⟨Nat.le_of_ble_eq_true rfl, Nat.le_of_ble_eq_true rfl⟩) hS (fun q _ h => h.elim) (fun q h => h.elim) (fun v9 u9 t9 H locs ht9 hvm9 hw9 hB9 hz9 hk9 hS => ?_)
          have hP := Rg.keep hP (fun q h => hk9 q h id)
          have hx3 := And.intro hx3.1 (P_keep hx3.2 (fun q h => hk9 q h id))
          rw [hw9]
          refine lv_if_lt (tgt := 313) hx hb dL_isSound_257 (by decide) (fun c_113 => ?_) (fun c_113 => ?_)
          · have hf := (if_pos c_113).symm.trans hf
            refine lv_iconst (v := 0) hx hb dL_isSound_313 (by decide) ?_
            exact W.zret (v := 0) (ty := .boolean) hx hb hr (by decide) (fun t9 ht hW => ⟨⟨0, (), rfl, Option.some.inj hf, trivial⟩, hS.F ht⟩) hS.2.2 dL_isSound_314
          · have hf := (if_neg c_113).symm.trans hf
            refine lv_aload_n hx hb dL_isSound_260 rfl (lv_at hl 0 rfl) ?_
            refine lv_iload hx hb dL_isSound_261 (lv_at hl 5 rfl) ?_
            obtain ⟨r_114, hc_115, hf⟩ := bnO_some hf
            refine va_calli (va_runV (As := [.int x5]) (rest := []) ⟨hx, hb, hml, hown, hts⟩ (c_X8_busy l hg hX μ x5  hc_115) (cwV 1 hts (gd_V q716 q717 q718 q37 q719) rfl rfl rfl hd_X8_busy ⟨Nat.le_of_ble_eq_true rfl, Nat.le_of_ble_eq_true rfl⟩) ⟨Pz.blind, r_recv hT hP (inX hX) (fs := (fun _ => [.ref (g.ad 112), .ref (g.ad 266), .ref (g.ad 0), .ref (g.ad 273)])) (obX g) rfl, fun U hU hW => ⟨rfl, Tb.warm hW hT, by rw [hU]; exact hP⟩⟩ rfl rfl hl.1 rfl (lv_room (Nat.le_of_ble_eq_true rfl)) dL_isSound_263 ⟨Nat.le_of_ble_eq_true rfl, Nat.le_of_ble_eq_true rfl⟩) hS (fun q _ h => h.elim) (fun q h => h.elim) (fun v9 u9 t9 H locs ht9 hvm9 hw9 hB9 hz9 hk9 hS => ?_)
            have hP := Rg.keep hP (fun q h => hk9 q h id)
            have hx3 := And.intro hx3.1 (P_keep hx3.2 (fun q h => hk9 q h id))
            rw [hw9]
            refine lv_aload_n hx hb dL_isSound_266 rfl (lv_at hl 0 rfl) ?_
            obtain ⟨r_116, hc_117, hf⟩ := bnO_some hf
            refine va_calli (va_runV (As := []) (rest := [.int r_114]) ⟨hx, hb, hml, hown, hts⟩ (c_X8_time l hg hX μ   hc_117) (cwV 0 hts (gd_V q672 q673 q674 q37 q675) rfl rfl rfl hd_X8_time ⟨Nat.le_of_ble_eq_true rfl, Nat.le_of_ble_eq_true rfl⟩) ⟨Pz.blind, r_recv hT hP (inX hX) (fs := (fun _ => [.ref (g.ad 112), .ref (g.ad 266), .ref (g.ad 0), .ref (g.ad 273)])) (obX g) rfl, fun U hU hW => ⟨rfl, Tb.warm hW hT, by rw [hU]; exact hP⟩⟩ rfl rfl hl.1 rfl (lv_room (Nat.le_of_ble_eq_true rfl)) dL_isSound_267 ⟨Nat.le_of_ble_eq_true rfl, Nat.le_of_ble_eq_true rfl⟩) hS (fun q _ h => h.elim) (fun q h => h.elim) (fun v9 u9 t9 H locs ht9 hvm9 hw9 hB9 hz9 hk9 hS => ?_)
            have hP := Rg.keep hP (fun q h => hk9 q h id)
            have hx3 := And.intro hx3.1 (P_keep hx3.2 (fun q h => hk9 q h id))
            rw [hw9]
            refine lv_aload_n hx hb dL_isSound_270 rfl (lv_at hl 1 rfl) ?_
            refine lv_iload hx hb dL_isSound_271 (lv_at hl 5 rfl) ?_
            obtain ⟨hi_118, hf⟩ := grd_some hf
            refine va_iald hx hb hT.1 (P_old hx1 hS) 0 0 rfl rfl hi_118 dL_isSound_273 ?_
            refine lv_imul hx hb dL_isSound_274 ?_
            refine lv_icmp_gt (tgt := 313) hx hb dL_isSound_275 (by decide) (fun c_119 => ?_) (fun c_119 => ?_)
            · have hf := (if_pos c_119).symm.trans hf
              refine lv_iconst (v := 0) hx hb dL_isSound_313 (by decide) ?_
              exact W.zret (v := 0) (ty := .boolean) hx hb hr (by decide) (fun t9 ht hW => ⟨⟨0, (), rfl, Option.some.inj hf, trivial⟩, hS.F ht⟩) hS.2.2 dL_isSound_314
            · have hf := (if_neg c_119).symm.trans hf
              refine lv_aload_n hx hb dL_isSound_278 rfl (lv_at hl 0 rfl) ?_
              refine lv_iload hx hb dL_isSound_279 (lv_at hl 5 rfl) ?_
              obtain ⟨r_120, hc_121, hf⟩ := bnO_some hf
              refine va_calli (va_runV (As := [.int x5]) (rest := []) ⟨hx, hb, hml, hown, hts⟩ (c_X8_longest l hg hX μ x5  hc_121) (cwV 1 hts (gd_V q1256 q877 q878 q37 q879) rfl rfl rfl hd_X8_longest ⟨Nat.le_of_ble_eq_true rfl, Nat.le_of_ble_eq_true rfl⟩) ⟨Pz.blind, r_recv hT hP (inX hX) (fs := (fun _ => [.ref (g.ad 112), .ref (g.ad 266), .ref (g.ad 0), .ref (g.ad 273)])) (obX g) rfl, fun U hU hW => ⟨rfl, Tb.warm hW hT, by rw [hU]; exact hP⟩⟩ rfl rfl hl.1 rfl (lv_room (Nat.le_of_ble_eq_true rfl)) dL_isSound_281 ⟨Nat.le_of_ble_eq_true rfl, Nat.le_of_ble_eq_true rfl⟩) hS (fun q _ h => h.elim) (fun q h => h.elim) (fun v9 u9 t9 H locs ht9 hvm9 hw9 hB9 hz9 hk9 hS => ?_)
              have hP := Rg.keep hP (fun q h => hk9 q h id)
              have hx3 := And.intro hx3.1 (P_keep hx3.2 (fun q h => hk9 q h id))
              rw [hw9]
              refine lv_aload_n hx hb dL_isSound_284 rfl (lv_at hl 0 rfl) ?_
              refine lv_iload hx hb dL_isSound_285 (lv_at hl 5 rfl) ?_
              obtain ⟨r_122, hc_123, hf⟩ := bnO_some hf
              refine va_calli (va_runV (As := [.int x5]) (rest := [.int r_120]) ⟨hx, hb, hml, hown, hts⟩ (c_X8_queued l hg hX μ x5  hc_123) (cwV 1 hts (gd_V q1257 q850 q851 q37 q852) rfl rfl rfl hd_X8_queued ⟨Nat.le_of_ble_eq_true rfl, Nat.le_of_ble_eq_true rfl⟩) ⟨Pz.blind, r_recv hT hP (inX hX) (fs := (fun _ => [.ref (g.ad 112), .ref (g.ad 266), .ref (g.ad 0), .ref (g.ad 273)])) (obX g) rfl, fun U hU hW => ⟨rfl, Tb.warm hW hT, by rw [hU]; exact hP⟩⟩ rfl rfl hl.1 rfl (lv_room (Nat.le_of_ble_eq_true rfl)) dL_isSound_287 ⟨Nat.le_of_ble_eq_true rfl, Nat.le_of_ble_eq_true rfl⟩) hS (fun q _ h => h.elim) (fun q h => h.elim) (fun v9 u9 t9 H locs ht9 hvm9 hw9 hB9 hz9 hk9 hS => ?_)
              have hP := Rg.keep hP (fun q h => hk9 q h id)
              have hx3 := And.intro hx3.1 (P_keep hx3.2 (fun q h => hk9 q h id))
              rw [hw9]
              refine lv_icmp_lt (tgt := 313) hx hb dL_isSound_290 (by decide) (fun c_124 => ?_) (fun c_124 => ?_)
              · have hf := (if_pos c_124).symm.trans hf
                refine lv_iconst (v := 0) hx hb dL_isSound_313 (by decide) ?_
                exact W.zret (v := 0) (ty := .boolean) hx hb hr (by decide) (fun t9 ht hW => ⟨⟨0, (), rfl, Option.some.inj hf, trivial⟩, hS.F ht⟩) hS.2.2 dL_isSound_314
              · have hf := (if_neg c_124).symm.trans hf
                refine lv_aload_n hx hb dL_isSound_293 rfl (lv_at hl 0 rfl) ?_
                refine lv_iload hx hb dL_isSound_294 (lv_at hl 5 rfl) ?_
                obtain ⟨r_125, hc_126, hf⟩ := bnO_some hf
                refine va_calli (va_runV (As := [.int x5]) (rest := []) ⟨hx, hb, hml, hown, hts⟩ (c_X8_queueing l hg hX μ x5  hc_126) (cwV 1 hts (gd_V q1258 q873 q874 q37 q875) rfl rfl rfl hd_X8_queueing ⟨Nat.le_of_ble_eq_true rfl, Nat.le_of_ble_eq_true rfl⟩) ⟨Pz.blind, r_recv hT hP (inX hX) (fs := (fun _ => [.ref (g.ad 112), .ref (g.ad 266), .ref (g.ad 0), .ref (g.ad 273)])) (obX g) rfl, fun U hU hW => ⟨rfl, Tb.warm hW hT, by rw [hU]; exact hP⟩⟩ rfl rfl hl.1 rfl (lv_room (Nat.le_of_ble_eq_true rfl)) dL_isSound_296 ⟨Nat.le_of_ble_eq_true rfl, Nat.le_of_ble_eq_true rfl⟩) hS (fun q _ h => h.elim) (fun q h => h.elim) (fun v9 u9 t9 H locs ht9 hvm9 hw9 hB9 hz9 hk9 hS => ?_)
                have hP := Rg.keep hP (fun q h => hk9 q h id)
                have hx3 := And.intro hx3.1 (P_keep hx3.2 (fun q h => hk9 q h id))
                rw [hw9]
                refine lv_aload_n hx hb dL_isSound_299 rfl (lv_at hl 0 rfl) ?_
                obtain ⟨r_127, hc_128, hf⟩ := bnO_some hf
                refine va_calli (va_runV (As := []) (rest := [.int r_125]) ⟨hx, hb, hml, hown, hts⟩ (c_X8_time l hg hX μ   hc_128) (cwV 0 hts (gd_V q672 q673 q674 q37 q675) rfl rfl rfl hd_X8_time ⟨Nat.le_of_ble_eq_true rfl, Nat.le_of_ble_eq_true rfl⟩) ⟨Pz.blind, r_recv hT hP (inX hX) (fs := (fun _ => [.ref (g.ad 112), .ref (g.ad 266), .ref (g.ad 0), .ref (g.ad 273)])) (obX g) rfl, fun U hU hW => ⟨rfl, Tb.warm hW hT, by rw [hU]; exact hP⟩⟩ rfl rfl hl.1 rfl (lv_room (Nat.le_of_ble_eq_true rfl)) dL_isSound_300 ⟨Nat.le_of_ble_eq_true rfl, Nat.le_of_ble_eq_true rfl⟩) hS (fun q _ h => h.elim) (fun q h => h.elim) (fun v9 u9 t9 H locs ht9 hvm9 hw9 hB9 hz9 hk9 hS => ?_)
                have hP := Rg.keep hP (fun q h => hk9 q h id)
                have hx3 := And.intro hx3.1 (P_keep hx3.2 (fun q h => hk9 q h id))
                rw [hw9]
                refine lv_aload_n hx hb dL_isSound_303 rfl (lv_at hl 0 rfl) ?_
                refine lv_iload hx hb dL_isSound_304 (lv_at hl 5 rfl) ?_
                obtain ⟨r_129, hc_130, hf⟩ := bnO_some hf
                refine va_calli (va_runV (As := [.int x5]) (rest := [.int r_127, .int r_125]) ⟨hx, hb, hml, hown, hts⟩ (c_X8_longest l hg hX μ x5  hc_130) (cwV 1 hts (gd_V q1256 q877 q878 q37 q879) rfl rfl rfl hd_X8_longest ⟨Nat.le_of_ble_eq_true rfl, Nat.le_of_ble_eq_true rfl⟩) ⟨Pz.blind, r_recv hT hP (inX hX) (fs := (fun _ => [.ref (g.ad 112), .ref (g.ad 266), .ref (g.ad 0), .ref (g.ad 273)])) (obX g) rfl, fun U hU hW => ⟨rfl, Tb.warm hW hT, by rw [hU]; exact hP⟩⟩ rfl rfl hl.1 rfl (lv_room (Nat.le_of_ble_eq_true rfl)) dL_isSound_306 ⟨Nat.le_of_ble_eq_true rfl, Nat.le_of_ble_eq_true rfl⟩) hS (fun q _ h => h.elim) (fun q h => h.elim) (fun v9 u9 t9 H locs ht9 hvm9 hw9 hB9 hz9 hk9 hS => ?_)
                have hP := Rg.keep hP (fun q h => hk9 q h id)
                have hx3 := And.intro hx3.1 (P_keep hx3.2 (fun q h => hk9 q h id))
                rw [hw9]
                refine lv_imul hx hb dL_isSound_309 ?_
                refine lv_icmp_le (tgt := 315) hx hb dL_isSound_310 (by decide) (fun c_131 => ?_) (fun c_131 => ?_)
                · have hf := (if_pos c_131).symm.trans hf
                  refine lv_iconst (v := 0) hx hb dL_isSound_315 (by decide) ?_
                  refine lv_istore (lv' := [(7, .int 0), (0, .ref (g.ad 272)), (1, .ref au), (2, .ref ar), (3, .ref q0), (4, .int x4), (5, .int x5), (6, .int x6)]) hx hb dL_isSound_316 hl (by decide) rfl (fun ls hl => ?_)
                  exact L318 k9 hkont fu μ x1 x2 x3 x4 x5 0 _ _ _ hP hS (lv_sub hl [1, 2, 3, 4, 5, 6, 0] rfl) hx1 hx2 hx3 hf
                · have hf := (if_neg c_131).symm.trans hf
                  refine lv_iconst (v := 0) hx hb dL_isSound_313 (by decide) ?_
                  exact W.zret (v := 0) (ty := .boolean) hx hb hr (by decide) (fun t9 ht hW => ⟨⟨0, (), rfl, Option.some.inj hf, trivial⟩, hS.F ht⟩) hS.2.2 dL_isSound_314
      · have hf := (if_neg c_106).symm.trans hf
        refine lv_iload hx hb dL_isSound_216 (lv_at hl 6 rfl) ?_
        refine lv_aload_n hx hb dL_isSound_218 rfl (lv_at hl 0 rfl) ?_
        refine lv_iload hx hb dL_isSound_219 (lv_at hl 7 rfl) ?_
        refine lv_iload hx hb dL_isSound_221 (lv_at hl 5 rfl) ?_
        obtain ⟨r_132, hc_133, hf⟩ := bnO_some hf
        refine va_calli (va_runV (As := [.int x7, .int x5]) (rest := [.int x6]) ⟨hx, hb, hml, hown, hts⟩ (c_X8_holds l hg hX μ x7 x5  hc_133) (cwV 2 hts (gd_V q705 q706 q707 q37 q708) rfl rfl rfl hd_X8_holds ⟨Nat.le_of_ble_eq_true rfl, Nat.le_of_ble_eq_true rfl⟩) ⟨Pz.blind, r_recv hT hP (inX hX) (fs := (fun _ => [.ref (g.ad 112), .ref (g.ad 266), .ref (g.ad 0), .ref (g.ad 273)])) (obX g) rfl, fun U hU hW => ⟨rfl, Tb.warm hW hT, by rw [hU]; exact hP⟩⟩ rfl rfl hl.1 rfl (lv_room (Nat.le_of_ble_eq_true rfl)) dL_isSound_223 ⟨Nat.le_of_ble_eq_true rfl, Nat.le_of_ble_eq_true rfl⟩) hS (fun q _ h => h.elim) (fun q h => h.elim) (fun v9 u9 t9 H locs ht9 hvm9 hw9 hB9 hz9 hk9 hS => ?_)
        have hP := Rg.keep hP (fun q h => hk9 q h id)
        have hx3 := And.intro hx3.1 (P_keep hx3.2 (fun q h => hk9 q h id))
        rw [hw9]
        refine lv_iadd hx hb dL_isSound_226 ?_
        refine lv_istore (lv' := [(6, .int (x6 + r_132)), (0, .ref (g.ad 272)), (1, .ref au), (2, .ref ar), (3, .ref q0), (4, .int x4), (5, .int x5), (7, .int x7)]) hx hb dL_isSound_227 hl (by decide) rfl (fun ls hl => ?_)
        refine lv_iinc (v := x7 + 1) (lv' := [(7, .int (x7 + 1)), (6, .int (x6 + r_132)), (0, .ref (g.ad 272)), (1, .ref au), (2, .ref ar), (3, .ref q0), (4, .int x4), (5, .int x5)]) hx hb dL_isSound_229 hl (k := 7) rfl rfl (by decide) rfl (fun ls hl => ?_)
        refine lv_goto (tgt := 207) hx hb dL_isSound_232 (by decide) ?_
        exact ih μ x1 x2 x3 x4 x5 (x6 + r_132) (x7 + 1) _ _ _ hP hS (lv_sub hl [2, 3, 4, 5, 6, 7, 1, 0] rfl) hx1 hx2 hx3 hf
  have L457 : ∀ {q0 : Nat} (n : Nat) (μ : Mem) (x3 : (Nat → Int32)) (x4 : Int32) (x5 : Int32) (x6 : Int32) (x7 : Int32) (H : Heap) (locs : List Loc) (ls : Array Slot), Rg g μ H → va_S (fun q : Nat => s.heap.size ≤ q) s.heap H locs → lv_has ls 8 [(0, .ref (g.ad 272)), (3, .ref q0), (4, .int x4), (5, .int x5), (6, .int x6), (7, .int x7)] → (s.heap.size ≤ q0 ∧ va_P g.D vwCl [(q0, .inl (g.cy 0, 8, .inl x3))] H) → b_L_isSound_457 g.F n μ x3 x4 x5 x6 x7 = some r → W p l e (headSpec (ws_ yL_isSound cL_isSound 8 (some .boolean)) (rm_ 6 131 1 8)).room s m ([.ref (g.ad 272), .ref au, .ref ar] : List Value).toArray below meth c H locs 1 8 (MQ below (va_Qi (fun (v : Int32) (_ : Unit) => v = r) (fun _ _ => True) (fun q : Nat => s.heap.size ≤ q)) ([.ref (g.ad 272), .ref au, .ref ar] : List Value).toArray s 1 8 (fun q : Nat => s.heap.size ≤ q)) (F0 m 457 ls []) := by
    intro q0 n
    induction n with
    | zero => intro μ x3 x4 x5 x6 x7 H locs ls hP hS hl hx3 hf; cases hf
    | succ n ih =>
      intro μ x3 x4 x5 x6 x7 H locs ls hP hS hl hx3 hf
      rw [b_L_isSound_457] at hf
      refine lv_iload hx hb dL_isSound_457 (lv_at hl 5 rfl) ?_
      refine lv_iconst (v := 4) hx hb dL_isSound_459 (by decide) ?_
      refine lv_icmp_ge (tgt := 480) hx hb dL_isSound_460 (by decide) (fun c_134 => ?_) (fun c_134 => ?_)
      · have hf := (if_pos c_134).symm.trans hf
        refine lv_iload hx hb dL_isSound_480 (lv_at hl 2 rfl) ?_
        refine lv_aload_n hx hb dL_isSound_482 rfl (lv_at hl 1 rfl) ?_
        refine lv_iconst (v := 2) hx hb dL_isSound_483 (by decide) ?_
        obtain ⟨hi_135, hf⟩ := grd_some hf
        refine va_iald hx hb hT.1 hx3.2 0 0 rfl rfl hi_135 dL_isSound_484 ?_
        refine lv_icmp_ne (tgt := 508) hx hb dL_isSound_485 (by decide) (fun c_136 => ?_) (fun c_136 => ?_)
        · have hf := (if_neg c_136).symm.trans hf
          refine lv_iconst (v := 0) hx hb dL_isSound_508 (by decide) ?_
          exact W.zret (v := 0) (ty := .boolean) hx hb hr (by decide) (fun t9 ht hW => ⟨⟨0, (), rfl, Option.some.inj hf, trivial⟩, hS.F ht⟩) hS.2.2 dL_isSound_509
        · have hf := (if_pos c_136).symm.trans hf
          refine lv_iload hx hb dL_isSound_488 (lv_at hl 3 rfl) ?_
          refine lv_aload_n hx hb dL_isSound_490 rfl (lv_at hl 1 rfl) ?_
          refine lv_iconst (v := 3) hx hb dL_isSound_491 (by decide) ?_
          obtain ⟨hi_137, hf⟩ := grd_some hf
          refine va_iald hx hb hT.1 hx3.2 0 0 rfl rfl hi_137 dL_isSound_492 ?_
          refine lv_icmp_ne (tgt := 508) hx hb dL_isSound_493 (by decide) (fun c_138 => ?_) (fun c_138 => ?_)
          · have hf := (if_neg c_138).symm.trans hf
            refine lv_iconst (v := 0) hx hb dL_isSound_508 (by decide) ?_
            exact W.zret (v := 0) (ty := .boolean) hx hb hr (by decide) (fun t9 ht hW => ⟨⟨0, (), rfl, Option.some.inj hf, trivial⟩, hS.F ht⟩) hS.2.2 dL_isSound_509
          · have hf := (if_pos c_138).symm.trans hf
            refine lv_iload hx hb dL_isSound_496 (lv_at hl 4 rfl) ?_
            refine lv_aload_n hx hb dL_isSound_498 rfl (lv_at hl 1 rfl) ?_
            refine lv_iconst (v := 4) hx hb dL_isSound_499 (by decide) ?_
            obtain ⟨hi_139, hf⟩ := grd_some hf
            refine va_iald hx hb hT.1 hx3.2 0 0 rfl rfl hi_139 dL_isSound_500 ?_
            refine lv_icmp_ne (tgt := 508) hx hb dL_isSound_501 (by decide) (fun c_140 => ?_) (fun c_140 => ?_)
            · have hf := (if_neg c_140).symm.trans hf
              refine lv_iconst (v := 0) hx hb dL_isSound_508 (by decide) ?_
              exact W.zret (v := 0) (ty := .boolean) hx hb hr (by decide) (fun t9 ht hW => ⟨⟨0, (), rfl, Option.some.inj hf, trivial⟩, hS.F ht⟩) hS.2.2 dL_isSound_509
            · have hf := (if_pos c_140).symm.trans hf
              refine lv_iconst (v := 1) hx hb dL_isSound_504 (by decide) ?_
              refine lv_goto (tgt := 509) hx hb dL_isSound_505 (by decide) ?_
              exact W.zret (v := 1) (ty := .boolean) hx hb hr (by decide) (fun t9 ht hW => ⟨⟨1, (), rfl, Option.some.inj hf, trivial⟩, hS.F ht⟩) hS.2.2 dL_isSound_509
      · have hf := (if_neg c_134).symm.trans hf
        refine lv_iload hx hb dL_isSound_463 (lv_at hl 4 rfl) ?_
        refine lv_aload_n hx hb dL_isSound_465 rfl (lv_at hl 0 rfl) ?_
        refine lv_iload hx hb dL_isSound_466 (lv_at hl 5 rfl) ?_
        obtain ⟨r_141, hc_142, hf⟩ := bnO_some hf
        refine va_calli (va_runV (As := [.int x7]) (rest := [.int x6]) ⟨hx, hb, hml, hown, hts⟩ (c_X8_awaiting l hg hX μ x7  hc_142) (cwV 1 hts (gd_V q1263 q904 q905 q37 q906) rfl rfl rfl hd_X8_awaiting ⟨Nat.le_of_ble_eq_true rfl, Nat.le_of_ble_eq_true rfl⟩) ⟨Pz.blind, r_recv hT hP (inX hX) (fs := (fun _ => [.ref (g.ad 112), .ref (g.ad 266), .ref (g.ad 0), .ref (g.ad 273)])) (obX g) rfl, fun U hU hW => ⟨rfl, Tb.warm hW hT, by rw [hU]; exact hP⟩⟩ rfl rfl hl.1 rfl (lv_room (Nat.le_of_ble_eq_true rfl)) dL_isSound_468 ⟨Nat.le_of_ble_eq_true rfl, Nat.le_of_ble_eq_true rfl⟩) hS (fun q _ h => h.elim) (fun q h => h.elim) (fun v9 u9 t9 H locs ht9 hvm9 hw9 hB9 hz9 hk9 hS => ?_)
        have hP := Rg.keep hP (fun q h => hk9 q h id)
        have hx3 := And.intro hx3.1 (P_keep hx3.2 (fun q h => hk9 q h id))
        rw [hw9]
        refine lv_iadd hx hb dL_isSound_471 ?_
        refine lv_istore (lv' := [(6, .int (x6 + r_141)), (0, .ref (g.ad 272)), (3, .ref q0), (4, .int x4), (5, .int x5), (7, .int x7)]) hx hb dL_isSound_472 hl (by decide) rfl (fun ls hl => ?_)
        refine lv_iinc (v := x7 + 1) (lv' := [(7, .int (x7 + 1)), (6, .int (x6 + r_141)), (0, .ref (g.ad 272)), (3, .ref q0), (4, .int x4), (5, .int x5)]) hx hb dL_isSound_474 hl (k := 5) rfl rfl (by decide) rfl (fun ls hl => ?_)
        refine lv_goto (tgt := 457) hx hb dL_isSound_477 (by decide) ?_
        exact ih μ x3 x4 x5 (x6 + r_141) (x7 + 1) _ _ _ hP hS (lv_sub hl [2, 3, 4, 5, 1, 0] rfl) hx3 hf
  have L376 : ∀ {q0 : Nat} (n : Nat) (μ : Mem) (x2 : (Nat → Int32)) (x3 : (Nat → Int32)) (x4 : Int32) (x5 : Int32) (x6 : Int32) (H : Heap) (locs : List Loc) (ls : Array Slot), Rg g μ H → va_S (fun q : Nat => s.heap.size ≤ q) s.heap H locs → lv_has ls 8 [(0, .ref (g.ad 272)), (2, .ref ar), (3, .ref q0), (4, .int x4), (5, .int x5), (6, .int x6)] → va_P g.D vwCl [(ar, .inl (g.cy 0, 2, .inl x2))] s.heap → (s.heap.size ≤ q0 ∧ va_P g.D vwCl [(q0, .inl (g.cy 0, 8, .inl x3))] H) → b_L_isSound_376 g.F n μ x2 x3 x4 x5 x6 = some r → W p l e (headSpec (ws_ yL_isSound cL_isSound 8 (some .boolean)) (rm_ 6 131 1 8)).room s m ([.ref (g.ad 272), .ref au, .ref ar] : List Value).toArray below meth c H locs 1 8 (MQ below (va_Qi (fun (v : Int32) (_ : Unit) => v = r) (fun _ _ => True) (fun q : Nat => s.heap.size ≤ q)) ([.ref (g.ad 272), .ref au, .ref ar] : List Value).toArray s 1 8 (fun q : Nat => s.heap.size ≤ q)) (F0 m 376 ls []) := by
    intro q0 n
    induction n with
    | zero => intro μ x2 x3 x4 x5 x6 H locs ls hP hS hl hx2 hx3 hf; cases hf
    | succ n ih =>
      intro μ x2 x3 x4 x5 x6 H locs ls hP hS hl hx2 hx3 hf
      rw [b_L_isSound_376] at hf
      refine lv_iload hx hb dL_isSound_376 (lv_at hl 5 rfl) ?_
      refine lv_aload_n hx hb dL_isSound_378 rfl (lv_at hl 1 rfl) ?_
      refine va_alen hx hb hT.1 (P_old hx2 hS) 0 0 rfl (ty := .int) rfl (v := 2) rfl dL_isSound_379 ?_
      refine lv_icmp_ge (tgt := 451) hx hb dL_isSound_380 (by decide) (fun c_86 => ?_) (fun c_86 => ?_)
      · have hf := (if_pos c_86).symm.trans hf
        refine lv_iconst (v := 0) hx hb dL_isSound_451 (by decide) ?_
        refine lv_istore (lv' := [(6, .int 0), (0, .ref (g.ad 272)), (2, .ref ar), (3, .ref q0), (4, .int x4), (5, .int x5)]) hx hb dL_isSound_452 hl (by decide) rfl (fun ls hl => ?_)
        refine lv_iconst (v := 0) hx hb dL_isSound_454 (by decide) ?_
        refine lv_istore (lv' := [(7, .int 0), (6, .int 0), (0, .ref (g.ad 272)), (2, .ref ar), (3, .ref q0), (4, .int x4), (5, .int x5)]) hx hb dL_isSound_455 hl (by decide) rfl (fun ls hl => ?_)
        exact L457 fu μ x3 x4 x5 0 0 _ _ _ hP hS (lv_sub hl [2, 4, 5, 6, 1, 0] rfl) hx3 hf
      · have hf := (if_neg c_86).symm.trans hf
        refine lv_aload_n hx hb dL_isSound_383 rfl (lv_at hl 0 rfl) ?_
        refine lv_iload hx hb dL_isSound_384 (lv_at hl 5 rfl) ?_
        obtain ⟨r_87, hc_88, hf⟩ := bnO_some hf
        refine va_calli (va_runV (As := [.int x6]) (rest := []) ⟨hx, hb, hml, hown, hts⟩ (c_X8_level l hg hX μ x6  hc_88) (cwV 1 hts (gd_V q1260 q885 q886 q37 q887) rfl rfl rfl hd_X8_level ⟨Nat.le_of_ble_eq_true rfl, Nat.le_of_ble_eq_true rfl⟩) ⟨Pz.blind, r_recv hT hP (inX hX) (fs := (fun _ => [.ref (g.ad 112), .ref (g.ad 266), .ref (g.ad 0), .ref (g.ad 273)])) (obX g) rfl, fun U hU hW => ⟨rfl, Tb.warm hW hT, by rw [hU]; exact hP⟩⟩ rfl rfl hl.1 rfl (lv_room (Nat.le_of_ble_eq_true rfl)) dL_isSound_386 ⟨Nat.le_of_ble_eq_true rfl, Nat.le_of_ble_eq_true rfl⟩) hS (fun q _ h => h.elim) (fun q h => h.elim) (fun v9 u9 t9 H locs ht9 hvm9 hw9 hB9 hz9 hk9 hS => ?_)
        have hP := Rg.keep hP (fun q h => hk9 q h id)
        have hx3 := And.intro hx3.1 (P_keep hx3.2 (fun q h => hk9 q h id))
        rw [hw9]
        refine lv_if_lt (tgt := 423) hx hb dL_isSound_389 (by decide) (fun c_89 => ?_) (fun c_89 => ?_)
        · have hf := (if_pos c_89).symm.trans hf
          refine lv_iconst (v := 0) hx hb dL_isSound_423 (by decide) ?_
          exact W.zret (v := 0) (ty := .boolean) hx hb hr (by decide) (fun t9 ht hW => ⟨⟨0, (), rfl, Option.some.inj hf, trivial⟩, hS.F ht⟩) hS.2.2 dL_isSound_424
        · have hf := (if_neg c_89).symm.trans hf
          refine lv_aload_n hx hb dL_isSound_392 rfl (lv_at hl 0 rfl) ?_
          refine lv_iload hx hb dL_isSound_393 (lv_at hl 5 rfl) ?_
          obtain ⟨r_90, hc_91, hf⟩ := bnO_some hf
          refine va_calli (va_runV (As := [.int x6]) (rest := []) ⟨hx, hb, hml, hown, hts⟩ (c_X8_level l hg hX μ x6  hc_91) (cwV 1 hts (gd_V q1260 q885 q886 q37 q887) rfl rfl rfl hd_X8_level ⟨Nat.le_of_ble_eq_true rfl, Nat.le_of_ble_eq_true rfl⟩) ⟨Pz.blind, r_recv hT hP (inX hX) (fs := (fun _ => [.ref (g.ad 112), .ref (g.ad 266), .ref (g.ad 0), .ref (g.ad 273)])) (obX g) rfl, fun U hU hW => ⟨rfl, Tb.warm hW hT, by rw [hU]; exact hP⟩⟩ rfl rfl hl.1 rfl (lv_room (Nat.le_of_ble_eq_true rfl)) dL_isSound_395 ⟨Nat.le_of_ble_eq_true rfl, Nat.le_of_ble_eq_true rfl⟩) hS (fun q _ h => h.elim) (fun q h => h.elim) (fun v9 u9 t9 H locs ht9 hvm9 hw9 hB9 hz9 hk9 hS => ?_)
          have hP := Rg.keep hP (fun q h => hk9 q h id)
          have hx3 := And.intro hx3.1 (P_keep hx3.2 (fun q h => hk9 q h id))
          rw [hw9]
          refine lv_aload_n hx hb dL_isSound_398 rfl (lv_at hl 1 rfl) ?_
          refine lv_iload hx hb dL_isSound_399 (lv_at hl 5 rfl) ?_
          obtain ⟨hi_92, hf⟩ := grd_some hf
          refine va_iald hx hb hT.1 (P_old hx2 hS) 0 0 rfl rfl hi_92 dL_isSound_401 ?_
          refine lv_icmp_gt (tgt := 423) hx hb dL_isSound_402 (by decide) (fun c_93 => ?_) (fun c_93 => ?_)
          · have hf := (if_pos c_93).symm.trans hf
            refine lv_iconst (v := 0) hx hb dL_isSound_423 (by decide) ?_
            exact W.zret (v := 0) (ty := .boolean) hx hb hr (by decide) (fun t9 ht hW => ⟨⟨0, (), rfl, Option.some.inj hf, trivial⟩, hS.F ht⟩) hS.2.2 dL_isSound_424
          · have hf := (if_neg c_93).symm.trans hf
            refine lv_aload_n hx hb dL_isSound_405 rfl (lv_at hl 0 rfl) ?_
            refine lv_iload hx hb dL_isSound_406 (lv_at hl 5 rfl) ?_
            obtain ⟨r_94, hc_95, hf⟩ := bnO_some hf
            refine va_calli (va_runV (As := [.int x6]) (rest := []) ⟨hx, hb, hml, hown, hts⟩ (c_X8_area l hg hX μ x6  hc_95) (cwV 1 hts (gd_V q1261 q900 q901 q37 q902) rfl rfl rfl hd_X8_area ⟨Nat.le_of_ble_eq_true rfl, Nat.le_of_ble_eq_true rfl⟩) ⟨Pz.blind, r_recv hT hP (inX hX) (fs := (fun _ => [.ref (g.ad 112), .ref (g.ad 266), .ref (g.ad 0), .ref (g.ad 273)])) (obX g) rfl, fun U hU hW => ⟨rfl, Tb.warm hW hT, by rw [hU]; exact hP⟩⟩ rfl rfl hl.1 rfl (lv_room (Nat.le_of_ble_eq_true rfl)) dL_isSound_408 ⟨Nat.le_of_ble_eq_true rfl, Nat.le_of_ble_eq_true rfl⟩) hS (fun q _ h => h.elim) (fun q h => h.elim) (fun v9 u9 t9 H locs ht9 hvm9 hw9 hB9 hz9 hk9 hS => ?_)
            have hP := Rg.keep hP (fun q h => hk9 q h id)
            have hx3 := And.intro hx3.1 (P_keep hx3.2 (fun q h => hk9 q h id))
            rw [hw9]
            refine lv_aload_n hx hb dL_isSound_411 rfl (lv_at hl 0 rfl) ?_
            obtain ⟨r_96, hc_97, hf⟩ := bnO_some hf
            refine va_calli (va_runV (As := []) (rest := [.int r_94]) ⟨hx, hb, hml, hown, hts⟩ (c_X8_time l hg hX μ   hc_97) (cwV 0 hts (gd_V q672 q673 q674 q37 q675) rfl rfl rfl hd_X8_time ⟨Nat.le_of_ble_eq_true rfl, Nat.le_of_ble_eq_true rfl⟩) ⟨Pz.blind, r_recv hT hP (inX hX) (fs := (fun _ => [.ref (g.ad 112), .ref (g.ad 266), .ref (g.ad 0), .ref (g.ad 273)])) (obX g) rfl, fun U hU hW => ⟨rfl, Tb.warm hW hT, by rw [hU]; exact hP⟩⟩ rfl rfl hl.1 rfl (lv_room (Nat.le_of_ble_eq_true rfl)) dL_isSound_412 ⟨Nat.le_of_ble_eq_true rfl, Nat.le_of_ble_eq_true rfl⟩) hS (fun q _ h => h.elim) (fun q h => h.elim) (fun v9 u9 t9 H locs ht9 hvm9 hw9 hB9 hz9 hk9 hS => ?_)
            have hP := Rg.keep hP (fun q h => hk9 q h id)
            have hx3 := And.intro hx3.1 (P_keep hx3.2 (fun q h => hk9 q h id))
            rw [hw9]
            refine lv_aload_n hx hb dL_isSound_415 rfl (lv_at hl 1 rfl) ?_
            refine lv_iload hx hb dL_isSound_416 (lv_at hl 5 rfl) ?_
            obtain ⟨hi_98, hf⟩ := grd_some hf
            refine va_iald hx hb hT.1 (P_old hx2 hS) 0 0 rfl rfl hi_98 dL_isSound_418 ?_
            refine lv_imul hx hb dL_isSound_419 ?_
            refine lv_icmp_le (tgt := 425) hx hb dL_isSound_420 (by decide) (fun c_99 => ?_) (fun c_99 => ?_)
            · have hf := (if_pos c_99).symm.trans hf
              refine lv_iload hx hb dL_isSound_425 (lv_at hl 4 rfl) ?_
              refine lv_aload_n hx hb dL_isSound_427 rfl (lv_at hl 0 rfl) ?_
              refine lv_iload hx hb dL_isSound_428 (lv_at hl 5 rfl) ?_
              refine lv_iconst (v := 0) hx hb dL_isSound_430 (by decide) ?_
              obtain ⟨r_100, hc_101, hf⟩ := bnO_some hf
              refine va_calli (va_runV (As := [.int x6, .int 0]) (rest := [.int x5]) ⟨hx, hb, hml, hown, hts⟩ (c_X8_blocked l hg hX μ x6 0  hc_101) (cwV 2 hts (gd_V q1262 q895 q896 q37 q897) rfl rfl rfl hd_X8_blocked ⟨Nat.le_of_ble_eq_true rfl, Nat.le_of_ble_eq_true rfl⟩) ⟨Pz.blind, r_recv hT hP (inX hX) (fs := (fun _ => [.ref (g.ad 112), .ref (g.ad 266), .ref (g.ad 0), .ref (g.ad 273)])) (obX g) rfl, fun U hU hW => ⟨rfl, Tb.warm hW hT, by rw [hU]; exact hP⟩⟩ rfl rfl hl.1 rfl (lv_room (Nat.le_of_ble_eq_true rfl)) dL_isSound_431 ⟨Nat.le_of_ble_eq_true rfl, Nat.le_of_ble_eq_true rfl⟩) hS (fun q _ h => h.elim) (fun q h => h.elim) (fun v9 u9 t9 H locs ht9 hvm9 hw9 hB9 hz9 hk9 hS => ?_)
              have hP := Rg.keep hP (fun q h => hk9 q h id)
              have hx3 := And.intro hx3.1 (P_keep hx3.2 (fun q h => hk9 q h id))
              rw [hw9]
              refine lv_aload_n hx hb dL_isSound_434 rfl (lv_at hl 0 rfl) ?_
              refine lv_iload hx hb dL_isSound_435 (lv_at hl 5 rfl) ?_
              refine lv_iconst (v := 1) hx hb dL_isSound_437 (by decide) ?_
              obtain ⟨r_102, hc_103, hf⟩ := bnO_some hf
              refine va_calli (va_runV (As := [.int x6, .int 1]) (rest := [.int r_100, .int x5]) ⟨hx, hb, hml, hown, hts⟩ (c_X8_blocked l hg hX μ x6 1  hc_103) (cwV 2 hts (gd_V q1262 q895 q896 q37 q897) rfl rfl rfl hd_X8_blocked ⟨Nat.le_of_ble_eq_true rfl, Nat.le_of_ble_eq_true rfl⟩) ⟨Pz.blind, r_recv hT hP (inX hX) (fs := (fun _ => [.ref (g.ad 112), .ref (g.ad 266), .ref (g.ad 0), .ref (g.ad 273)])) (obX g) rfl, fun U hU hW => ⟨rfl, Tb.warm hW hT, by rw [hU]; exact hP⟩⟩ rfl rfl hl.1 rfl (lv_room (Nat.le_of_ble_eq_true rfl)) dL_isSound_438 ⟨Nat.le_of_ble_eq_true rfl, Nat.le_of_ble_eq_true rfl⟩) hS (fun q _ h => h.elim) (fun q h => h.elim) (fun v9 u9 t9 H locs ht9 hvm9 hw9 hB9 hz9 hk9 hS => ?_)
              have hP := Rg.keep hP (fun q h => hk9 q h id)
              have hx3 := And.intro hx3.1 (P_keep hx3.2 (fun q h => hk9 q h id))
              rw [hw9]
              refine lv_iadd hx hb dL_isSound_441 ?_
              refine lv_iadd hx hb dL_isSound_442 ?_
              refine lv_istore (lv' := [(5, .int (x5 + (r_100 + r_102))), (0, .ref (g.ad 272)), (2, .ref ar), (3, .ref q0), (4, .int x4), (6, .int x6)]) hx hb dL_isSound_443 hl (by decide) rfl (fun ls hl => ?_)
              refine lv_iinc (v := x6 + 1) (lv' := [(6, .int (x6 + 1)), (5, .int (x5 + (r_100 + r_102))), (0, .ref (g.ad 272)), (2, .ref ar), (3, .ref q0), (4, .int x4)]) hx hb dL_isSound_445 hl (k := 5) rfl rfl (by decide) rfl (fun ls hl => ?_)
              refine lv_goto (tgt := 376) hx hb dL_isSound_448 (by decide) ?_
              exact ih μ x2 x3 x4 (x5 + (r_100 + r_102)) (x6 + 1) _ _ _ hP hS (lv_sub hl [2, 3, 4, 5, 1, 0] rfl) hx2 hx3 hf
            · have hf := (if_neg c_99).symm.trans hf
              refine lv_iconst (v := 0) hx hb dL_isSound_423 (by decide) ?_
              exact W.zret (v := 0) (ty := .boolean) hx hb hr (by decide) (fun t9 ht hW => ⟨⟨0, (), rfl, Option.some.inj hf, trivial⟩, hS.F ht⟩) hS.2.2 dL_isSound_424
  have L194 : ∀ {q0 : Nat} (n : Nat) (μ : Mem) (x1 : (Nat → Int32)) (x2 : (Nat → Int32)) (x3 : (Nat → Int32)) (x4 : Int32) (x5 : Int32) (H : Heap) (locs : List Loc) (ls : Array Slot), Rg g μ H → va_S (fun q : Nat => s.heap.size ≤ q) s.heap H locs → lv_has ls 8 [(0, .ref (g.ad 272)), (1, .ref au), (2, .ref ar), (3, .ref q0), (4, .int x4), (5, .int x5)] → va_P g.D vwCl [(au, .inl (g.cy 0, 2, .inl x1))] s.heap → va_P g.D vwCl [(ar, .inl (g.cy 0, 2, .inl x2))] s.heap → (s.heap.size ≤ q0 ∧ va_P g.D vwCl [(q0, .inl (g.cy 0, 8, .inl x3))] H) → b_L_isSound_194 g.F n μ x1 x2 x3 x4 x5 = some r → W p l e (headSpec (ws_ yL_isSound cL_isSound 8 (some .boolean)) (rm_ 6 131 1 8)).room s m ([.ref (g.ad 272), .ref au, .ref ar] : List Value).toArray below meth c H locs 1 8 (MQ below (va_Qi (fun (v : Int32) (_ : Unit) => v = r) (fun _ _ => True) (fun q : Nat => s.heap.size ≤ q)) ([.ref (g.ad 272), .ref au, .ref ar] : List Value).toArray s 1 8 (fun q : Nat => s.heap.size ≤ q)) (F0 m 194 ls []) := by
    intro q0 n
    induction n with
    | zero => intro μ x1 x2 x3 x4 x5 H locs ls hP hS hl hx1 hx2 hx3 hf; cases hf
    | succ n ih =>
      intro μ x1 x2 x3 x4 x5 H locs ls hP hS hl hx1 hx2 hx3 hf
      rw [b_L_isSound_194] at hf
      refine lv_iload hx hb dL_isSound_194 (lv_at hl 5 rfl) ?_
      refine lv_aload_n hx hb dL_isSound_196 rfl (lv_at hl 1 rfl) ?_
      refine va_alen hx hb hT.1 (P_old hx1 hS) 0 0 rfl (ty := .int) rfl (v := 2) rfl dL_isSound_197 ?_
      refine lv_icmp_ge (tgt := 370) hx hb dL_isSound_198 (by decide) (fun c_80 => ?_) (fun c_80 => ?_)
      · have hf := (if_pos c_80).symm.trans hf
        refine lv_iconst (v := 0) hx hb dL_isSound_370 (by decide) ?_
        refine lv_istore (lv' := [(5, .int 0), (0, .ref (g.ad 272)), (1, .ref au), (2, .ref ar), (3, .ref q0), (4, .int x4)]) hx hb dL_isSound_371 hl (by decide) rfl (fun ls hl => ?_)
        refine lv_iconst (v := 0) hx hb dL_isSound_373 (by decide) ?_
        refine lv_istore (lv' := [(6, .int 0), (5, .int 0), (0, .ref (g.ad 272)), (1, .ref au), (2, .ref ar), (3, .ref q0), (4, .int x4)]) hx hb dL_isSound_374 hl (by decide) rfl (fun ls hl => ?_)
        exact L376 fu μ x2 x3 x4 0 0 _ _ _ hP hS (lv_sub hl [2, 4, 5, 6, 1, 0] rfl) hx2 hx3 hf
      · have hf := (if_neg c_80).symm.trans hf
        refine lv_iconst (v := 0) hx hb dL_isSound_201 (by decide) ?_
        refine lv_istore (lv' := [(6, .int 0), (0, .ref (g.ad 272)), (1, .ref au), (2, .ref ar), (3, .ref q0), (4, .int x4), (5, .int x5)]) hx hb dL_isSound_202 hl (by decide) rfl (fun ls hl => ?_)
        refine lv_iconst (v := 0) hx hb dL_isSound_204 (by decide) ?_
        refine lv_istore (lv' := [(7, .int 0), (6, .int 0), (0, .ref (g.ad 272)), (1, .ref au), (2, .ref ar), (3, .ref q0), (4, .int x4), (5, .int x5)]) hx hb dL_isSound_205 hl (by decide) rfl (fun ls hl => ?_)
        exact L207 _ (fun m9 y1 y2 y3 y4 y5 H locs ls hP hS hl hy1 hy2 hy3 hf => ih m9 y1 y2 y3 y4 y5 H locs ls hP hS hl hy1 hy2 hy3 hf) fu μ x1 x2 x3 x4 x5 0 0 _ _ _ hP hS (lv_sub hl [2, 3, 4, 5, 6, 7, 1, 0] rfl) hx1 hx2 hx3 hf
  have L8 : ∀ {q0 : Nat} (n : Nat) (μ : Mem) (x1 : (Nat → Int32)) (x2 : (Nat → Int32)) (x3 : (Nat → Int32)) (x4 : Int32) (H : Heap) (locs : List Loc) (ls : Array Slot), Rg g μ H → va_S (fun q : Nat => s.heap.size ≤ q) s.heap H locs → lv_has ls 8 [(0, .ref (g.ad 272)), (1, .ref au), (2, .ref ar), (3, .ref q0), (4, .int x4)] → va_P g.D vwCl [(au, .inl (g.cy 0, 2, .inl x1))] s.heap → va_P g.D vwCl [(ar, .inl (g.cy 0, 2, .inl x2))] s.heap → (s.heap.size ≤ q0 ∧ va_P g.D vwCl [(q0, .inl (g.cy 0, 8, .inl x3))] H) → b_L_isSound_8 g.F n μ x1 x2 x3 x4 = some r → W p l e (headSpec (ws_ yL_isSound cL_isSound 8 (some .boolean)) (rm_ 6 131 1 8)).room s m ([.ref (g.ad 272), .ref au, .ref ar] : List Value).toArray below meth c H locs 1 8 (MQ below (va_Qi (fun (v : Int32) (_ : Unit) => v = r) (fun _ _ => True) (fun q : Nat => s.heap.size ≤ q)) ([.ref (g.ad 272), .ref au, .ref ar] : List Value).toArray s 1 8 (fun q : Nat => s.heap.size ≤ q)) (F0 m 8 ls []) := by
    intro q0 n
    induction n with
    | zero => intro μ x1 x2 x3 x4 H locs ls hP hS hl hx1 hx2 hx3 hf; cases hf
    | succ n ih =>
      intro μ x1 x2 x3 x4 H locs ls hP hS hl hx1 hx2 hx3 hf
      rw [b_L_isSound_8] at hf
      refine lv_iload hx hb dL_isSound_8 (lv_at hl 4 rfl) ?_
      refine lv_aload_n hx hb dL_isSound_10 rfl (lv_at hl 0 rfl) ?_
      obtain ⟨r_1, hc_2, hf⟩ := bnO_some hf
      refine va_calli (va_runV (As := []) (rest := [.int x4]) ⟨hx, hb, hml, hown, hts⟩ (c_X8_processes l hg hX μ   hc_2) (cwV 0 hts (gd_V q689 q690 q691 q37 q692) rfl rfl rfl hd_X8_processes ⟨Nat.le_of_ble_eq_true rfl, Nat.le_of_ble_eq_true rfl⟩) ⟨Pz.blind, r_recv hT hP (inX hX) (fs := (fun _ => [.ref (g.ad 112), .ref (g.ad 266), .ref (g.ad 0), .ref (g.ad 273)])) (obX g) rfl, fun U hU hW => ⟨rfl, Tb.warm hW hT, by rw [hU]; exact hP⟩⟩ rfl rfl hl.1 rfl (lv_room (Nat.le_of_ble_eq_true rfl)) dL_isSound_11 ⟨Nat.le_of_ble_eq_true rfl, Nat.le_of_ble_eq_true rfl⟩) hS (fun q _ h => h.elim) (fun q h => h.elim) (fun v9 u9 t9 H locs ht9 hvm9 hw9 hB9 hz9 hk9 hS => ?_)
      have hP := Rg.keep hP (fun q h => hk9 q h id)
      have hx3 := And.intro hx3.1 (P_keep hx3.2 (fun q h => hk9 q h id))
      rw [hw9]
      refine lv_icmp_ge (tgt := 145) hx hb dL_isSound_14 (by decide) (fun c_3 => ?_) (fun c_3 => ?_)
      · have hf := (if_pos c_3).symm.trans hf
        refine lv_aload_n hx hb dL_isSound_145 rfl (lv_at hl 0 rfl) ?_
        obtain ⟨r_4, hc_5, hf⟩ := bnO_some hf
        refine va_calli (va_runV (As := []) (rest := []) ⟨hx, hb, hml, hown, hts⟩ (c_X8_events l hg hX μ   hc_5) (cwV 0 hts (gd_V q676 q677 q678 q37 q679) rfl rfl rfl hd_X8_events ⟨Nat.le_of_ble_eq_true rfl, Nat.le_of_ble_eq_true rfl⟩) ⟨Pz.blind, r_recv hT hP (inX hX) (fs := (fun _ => [.ref (g.ad 112), .ref (g.ad 266), .ref (g.ad 0), .ref (g.ad 273)])) (obX g) rfl, fun U hU hW => ⟨rfl, Tb.warm hW hT, by rw [hU]; exact hP⟩⟩ rfl rfl hl.1 rfl (lv_room (Nat.le_of_ble_eq_true rfl)) dL_isSound_146 ⟨Nat.le_of_ble_eq_true rfl, Nat.le_of_ble_eq_true rfl⟩) hS (fun q _ h => h.elim) (fun q h => h.elim) (fun v9 u9 t9 H locs ht9 hvm9 hw9 hB9 hz9 hk9 hS => ?_)
        have hP := Rg.keep hP (fun q h => hk9 q h id)
        have hx3 := And.intro hx3.1 (P_keep hx3.2 (fun q h => hk9 q h id))
        rw [hw9]
        refine lv_aload_n hx hb dL_isSound_149 rfl (lv_at hl 3 rfl) ?_
        refine lv_iconst (v := 0) hx hb dL_isSound_150 (by decide) ?_
        obtain ⟨hi_6, hf⟩ := grd_some hf
        refine va_iald hx hb hT.1 hx3.2 0 0 rfl rfl hi_6 dL_isSound_151 ?_
        refine lv_aload_n hx hb dL_isSound_152 rfl (lv_at hl 3 rfl) ?_
        refine lv_iconst (v := 1) hx hb dL_isSound_153 (by decide) ?_
        obtain ⟨hi_7, hf⟩ := grd_some hf
        refine va_iald hx hb hT.1 hx3.2 0 0 rfl rfl hi_7 dL_isSound_154 ?_
        refine lv_iadd hx hb dL_isSound_155 ?_
        refine lv_icmp_ne (tgt := 186) hx hb dL_isSound_156 (by decide) (fun c_8 => ?_) (fun c_8 => ?_)
        · have hf := (if_neg c_8).symm.trans hf
          refine lv_iconst (v := 0) hx hb dL_isSound_186 (by decide) ?_
          exact W.zret (v := 0) (ty := .boolean) hx hb hr (by decide) (fun t9 ht hW => ⟨⟨0, (), rfl, Option.some.inj hf, trivial⟩, hS.F ht⟩) hS.2.2 dL_isSound_187
        · have hf := (if_pos c_8).symm.trans hf
          refine lv_aload_n hx hb dL_isSound_159 rfl (lv_at hl 0 rfl) ?_
          obtain ⟨r_9, hc_10, hf⟩ := bnO_some hf
          refine va_calli (va_runV (As := []) (rest := []) ⟨hx, hb, hml, hown, hts⟩ (c_X8_nextTime l hg hX μ   hc_10) (cwV 0 hts (gd_V q684 q685 q686 q37 q687) rfl rfl rfl hd_X8_nextTime ⟨Nat.le_of_ble_eq_true rfl, Nat.le_of_ble_eq_true rfl⟩) ⟨Pz.blind, r_recv hT hP (inX hX) (fs := (fun _ => [.ref (g.ad 112), .ref (g.ad 266), .ref (g.ad 0), .ref (g.ad 273)])) (obX g) rfl, fun U hU hW => ⟨rfl, Tb.warm hW hT, by rw [hU]; exact hP⟩⟩ rfl rfl hl.1 rfl (lv_room (Nat.le_of_ble_eq_true rfl)) dL_isSound_160 ⟨Nat.le_of_ble_eq_true rfl, Nat.le_of_ble_eq_true rfl⟩) hS (fun q _ h => h.elim) (fun q h => h.elim) (fun v9 u9 t9 H locs ht9 hvm9 hw9 hB9 hz9 hk9 hS => ?_)
          have hP := Rg.keep hP (fun q h => hk9 q h id)
          have hx3 := And.intro hx3.1 (P_keep hx3.2 (fun q h => hk9 q h id))
          rw [hw9]
          refine lv_if_ge (tgt := 170) hx hb dL_isSound_163 (by decide) (fun c_11 => ?_) (fun c_11 => ?_)
          · have hf := (if_pos c_11).symm.trans hf
            refine lv_iconst (v := 0) hx hb dL_isSound_170 (by decide) ?_
            refine lv_aload_n hx hb dL_isSound_171 rfl (lv_at hl 0 rfl) ?_
            obtain ⟨r_12, hc_13, hf⟩ := bnO_some hf
            refine va_calli (va_runV (As := []) (rest := [.int 0]) ⟨hx, hb, hml, hown, hts⟩ (c_X8_events l hg hX μ   hc_13) (cwV 0 hts (gd_V q676 q677 q678 q37 q679) rfl rfl rfl hd_X8_events ⟨Nat.le_of_ble_eq_true rfl, Nat.le_of_ble_eq_true rfl⟩) ⟨Pz.blind, r_recv hT hP (inX hX) (fs := (fun _ => [.ref (g.ad 112), .ref (g.ad 266), .ref (g.ad 0), .ref (g.ad 273)])) (obX g) rfl, fun U hU hW => ⟨rfl, Tb.warm hW hT, by rw [hU]; exact hP⟩⟩ rfl rfl hl.1 rfl (lv_room (Nat.le_of_ble_eq_true rfl)) dL_isSound_172 ⟨Nat.le_of_ble_eq_true rfl, Nat.le_of_ble_eq_true rfl⟩) hS (fun q _ h => h.elim) (fun q h => h.elim) (fun v9 u9 t9 H locs ht9 hvm9 hw9 hB9 hz9 hk9 hS => ?_)
            have hP := Rg.keep hP (fun q h => hk9 q h id)
            have hx3 := And.intro hx3.1 (P_keep hx3.2 (fun q h => hk9 q h id))
            rw [hw9]
            refine lv_if_ne (tgt := 182) hx hb dL_isSound_175 (by decide) (fun c_14 => ?_) (fun c_14 => ?_)
            · have hf := (if_neg c_14).symm.trans hf
              refine lv_iconst (v := 0) hx hb dL_isSound_182 (by decide) ?_
              refine lv_icmp_eq (tgt := 188) hx hb dL_isSound_183 (by decide) (fun c_15 => ?_) (fun c_15 => absurd (by decide) c_15)
              refine lv_iconst (v := 0) hx hb dL_isSound_188 (by decide) ?_
              refine lv_istore (lv' := [(4, .int 0), (0, .ref (g.ad 272)), (1, .ref au), (2, .ref ar), (3, .ref q0)]) hx hb dL_isSound_189 hl (by decide) rfl (fun ls hl => ?_)
              refine lv_iconst (v := 0) hx hb dL_isSound_191 (by decide) ?_
              refine lv_istore (lv' := [(5, .int 0), (4, .int 0), (0, .ref (g.ad 272)), (1, .ref au), (2, .ref ar), (3, .ref q0)]) hx hb dL_isSound_192 hl (by decide) rfl (fun ls hl => ?_)
              exact L194 fu μ x1 x2 x3 0 0 _ _ _ hP hS (lv_sub hl [2, 3, 4, 5, 1, 0] rfl) hx1 hx2 hx3 hf
            · have hf := (if_pos c_14).symm.trans hf
              refine lv_iconst (v := 1) hx hb dL_isSound_178 (by decide) ?_
              refine lv_goto (tgt := 183) hx hb dL_isSound_179 (by decide) ?_
              refine lv_icmp_eq (tgt := 188) hx hb dL_isSound_183 (by decide) (fun c_16 => absurd c_16 (by decide)) (fun c_16 => ?_)
              refine lv_iconst (v := 0) hx hb dL_isSound_186 (by decide) ?_
              exact W.zret (v := 0) (ty := .boolean) hx hb hr (by decide) (fun t9 ht hW => ⟨⟨0, (), rfl, Option.some.inj hf, trivial⟩, hS.F ht⟩) hS.2.2 dL_isSound_187
          · have hf := (if_neg c_11).symm.trans hf
            refine lv_iconst (v := 1) hx hb dL_isSound_166 (by decide) ?_
            refine lv_goto (tgt := 171) hx hb dL_isSound_167 (by decide) ?_
            refine lv_aload_n hx hb dL_isSound_171 rfl (lv_at hl 0 rfl) ?_
            obtain ⟨r_17, hc_18, hf⟩ := bnO_some hf
            refine va_calli (va_runV (As := []) (rest := [.int 1]) ⟨hx, hb, hml, hown, hts⟩ (c_X8_events l hg hX μ   hc_18) (cwV 0 hts (gd_V q676 q677 q678 q37 q679) rfl rfl rfl hd_X8_events ⟨Nat.le_of_ble_eq_true rfl, Nat.le_of_ble_eq_true rfl⟩) ⟨Pz.blind, r_recv hT hP (inX hX) (fs := (fun _ => [.ref (g.ad 112), .ref (g.ad 266), .ref (g.ad 0), .ref (g.ad 273)])) (obX g) rfl, fun U hU hW => ⟨rfl, Tb.warm hW hT, by rw [hU]; exact hP⟩⟩ rfl rfl hl.1 rfl (lv_room (Nat.le_of_ble_eq_true rfl)) dL_isSound_172 ⟨Nat.le_of_ble_eq_true rfl, Nat.le_of_ble_eq_true rfl⟩) hS (fun q _ h => h.elim) (fun q h => h.elim) (fun v9 u9 t9 H locs ht9 hvm9 hw9 hB9 hz9 hk9 hS => ?_)
            have hP := Rg.keep hP (fun q h => hk9 q h id)
            have hx3 := And.intro hx3.1 (P_keep hx3.2 (fun q h => hk9 q h id))
            rw [hw9]
            refine lv_if_ne (tgt := 182) hx hb dL_isSound_175 (by decide) (fun c_19 => ?_) (fun c_19 => ?_)
            · have hf := (if_neg c_19).symm.trans hf
              refine lv_iconst (v := 0) hx hb dL_isSound_182 (by decide) ?_
              refine lv_icmp_eq (tgt := 188) hx hb dL_isSound_183 (by decide) (fun c_20 => absurd c_20 (by decide)) (fun c_20 => ?_)
              refine lv_iconst (v := 0) hx hb dL_isSound_186 (by decide) ?_
              exact W.zret (v := 0) (ty := .boolean) hx hb hr (by decide) (fun t9 ht hW => ⟨⟨0, (), rfl, Option.some.inj hf, trivial⟩, hS.F ht⟩) hS.2.2 dL_isSound_187
            · have hf := (if_pos c_19).symm.trans hf
              refine lv_iconst (v := 1) hx hb dL_isSound_178 (by decide) ?_
              refine lv_goto (tgt := 183) hx hb dL_isSound_179 (by decide) ?_
              refine lv_icmp_eq (tgt := 188) hx hb dL_isSound_183 (by decide) (fun c_21 => ?_) (fun c_21 => absurd (by decide) c_21)
              refine lv_iconst (v := 0) hx hb dL_isSound_188 (by decide) ?_
              refine lv_istore (lv' := [(4, .int 0), (0, .ref (g.ad 272)), (1, .ref au), (2, .ref ar), (3, .ref q0)]) hx hb dL_isSound_189 hl (by decide) rfl (fun ls hl => ?_)
              refine lv_iconst (v := 0) hx hb dL_isSound_191 (by decide) ?_
              refine lv_istore (lv' := [(5, .int 0), (4, .int 0), (0, .ref (g.ad 272)), (1, .ref au), (2, .ref ar), (3, .ref q0)]) hx hb dL_isSound_192 hl (by decide) rfl (fun ls hl => ?_)
              exact L194 fu μ x1 x2 x3 0 0 _ _ _ hP hS (lv_sub hl [2, 3, 4, 5, 1, 0] rfl) hx1 hx2 hx3 hf
      · have hf := (if_neg c_3).symm.trans hf
        refine lv_aload_n hx hb dL_isSound_17 rfl (lv_at hl 0 rfl) ?_
        refine lv_iload hx hb dL_isSound_18 (lv_at hl 4 rfl) ?_
        obtain ⟨r_22, hc_23, hf⟩ := bnO_some hf
        refine va_calli (va_runV (As := [.int x4]) (rest := []) ⟨hx, hb, hml, hown, hts⟩ (c_X8_stateOf l hg hX μ x4  hc_23) (cwV 1 hts (gd_V q697 q698 q699 q37 q700) rfl rfl rfl hd_X8_stateOf ⟨Nat.le_of_ble_eq_true rfl, Nat.le_of_ble_eq_true rfl⟩) ⟨Pz.blind, r_recv hT hP (inX hX) (fs := (fun _ => [.ref (g.ad 112), .ref (g.ad 266), .ref (g.ad 0), .ref (g.ad 273)])) (obX g) rfl, fun U hU hW => ⟨rfl, Tb.warm hW hT, by rw [hU]; exact hP⟩⟩ rfl rfl hl.1 rfl (lv_room (Nat.le_of_ble_eq_true rfl)) dL_isSound_20 ⟨Nat.le_of_ble_eq_true rfl, Nat.le_of_ble_eq_true rfl⟩) hS (fun q _ h => h.elim) (fun q h => h.elim) (fun v9 u9 t9 H locs ht9 hvm9 hw9 hB9 hz9 hk9 hS => ?_)
        have hP := Rg.keep hP (fun q h => hk9 q h id)
        have hx3 := And.intro hx3.1 (P_keep hx3.2 (fun q h => hk9 q h id))
        rw [hw9]
        refine lv_istore (lv' := [(5, .int r_22), (0, .ref (g.ad 272)), (1, .ref au), (2, .ref ar), (3, .ref q0), (4, .int x4)]) hx hb dL_isSound_23 hl (by decide) rfl (fun ls hl => ?_)
        refine lv_aload_n hx hb dL_isSound_25 rfl (lv_at hl 4 rfl) ?_
        refine lv_iload hx hb dL_isSound_26 (lv_at hl 0 rfl) ?_
        refine lv_dup2_11 hx hb dL_isSound_28 rfl rfl ?_
        obtain ⟨hi_24, hf⟩ := grd_some hf
        refine va_iald hx hb hT.1 hx3.2 0 0 rfl rfl hi_24 dL_isSound_29 ?_
        refine lv_iconst (v := 1) hx hb dL_isSound_30 (by decide) ?_
        refine lv_iadd hx hb dL_isSound_31 ?_
        obtain ⟨hi_25, hf⟩ := grd_some hf
        have hS0 := hS
        refine va_iast hx hb hT.1 hx3.2 (D1 (A := fun q : Nat => s.heap.size ≤ q) hx3.1) hS 0 0 rfl rfl hi_25 dL_isSound_32 (fun H locs h1 _ hS => ?_)
        have hP := hP.swap hS0 hS hO
        obtain ⟨σ_26, eσ_26⟩ : ∃ z : Nat → Int32, upd x3 r_22.toNatClampNeg ((x3 r_22.toNatClampNeg) + 1) = z := ⟨_, rfl⟩
        have hσ_26 : s.heap.size ≤ q0 ∧ va_P g.D vwCl [(q0, .inl (g.cy 0, 8, .inl σ_26))] H := ⟨hx3.1, by rw [← eσ_26]; exact h1⟩
        have hf := bnd_eq hf _ eσ_26
        refine lv_aload_n hx hb dL_isSound_33 rfl (lv_at hl 1 rfl) ?_
        refine lv_iload hx hb dL_isSound_34 (lv_at hl 5 rfl) ?_
        obtain ⟨r_27, hc_28, hf⟩ := bnO_some hf
        refine va_calli (va_runV (As := [.int x4]) (rest := []) ⟨hx, hb, hml, hown, hts⟩ (c_X8_eventOf l hg hX μ x4  hc_28) (cwV 1 hts (gd_V q701 q702 q703 q37 q704) rfl rfl rfl hd_X8_eventOf ⟨Nat.le_of_ble_eq_true rfl, Nat.le_of_ble_eq_true rfl⟩) ⟨Pz.blind, r_recv hT hP (inX hX) (fs := (fun _ => [.ref (g.ad 112), .ref (g.ad 266), .ref (g.ad 0), .ref (g.ad 273)])) (obX g) rfl, fun U hU hW => ⟨rfl, Tb.warm hW hT, by rw [hU]; exact hP⟩⟩ rfl rfl hl.1 rfl (lv_room (Nat.le_of_ble_eq_true rfl)) dL_isSound_36 ⟨Nat.le_of_ble_eq_true rfl, Nat.le_of_ble_eq_true rfl⟩) hS (fun q _ h => h.elim) (fun q h => h.elim) (fun v9 u9 t9 H locs ht9 hvm9 hw9 hB9 hz9 hk9 hS => ?_)
        have hP := Rg.keep hP (fun q h => hk9 q h id)
        have hσ_26 := And.intro hσ_26.1 (P_keep hσ_26.2 (fun q h => hk9 q h id))
        rw [hw9]
        refine lv_if_lt (tgt := 46) hx hb dL_isSound_39 (by decide) (fun c_29 => ?_) (fun c_29 => ?_)
        · have hf := (if_pos c_29).symm.trans hf
          refine lv_iconst (v := 0) hx hb dL_isSound_46 (by decide) ?_
          refine lv_iload hx hb dL_isSound_47 (lv_at hl 0 rfl) ?_
          refine lv_iconst (v := 2) hx hb dL_isSound_49 (by decide) ?_
          refine lv_icmp_ge (tgt := 57) hx hb dL_isSound_50 (by decide) (fun c_30 => ?_) (fun c_30 => ?_)
          · have hf := (if_pos c_30).symm.trans hf
            refine lv_iconst (v := 0) hx hb dL_isSound_57 (by decide) ?_
            refine lv_icmp_ne (tgt := 102) hx hb dL_isSound_58 (by decide) (fun c_31 => absurd (by decide) c_31) (fun c_31 => ?_)
            refine lv_iload hx hb dL_isSound_61 (lv_at hl 0 rfl) ?_
            refine lv_iconst (v := 2) hx hb dL_isSound_63 (by decide) ?_
            refine lv_icmp_ge (tgt := 80) hx hb dL_isSound_64 (by decide) (fun c_32 => ?_) (fun c_32 => ?_)
            · have hf := (if_pos c_32).symm.trans hf
              refine lv_aload_n hx hb dL_isSound_80 rfl (lv_at hl 1 rfl) ?_
              refine lv_iload hx hb dL_isSound_81 (lv_at hl 5 rfl) ?_
              obtain ⟨r_33, hc_34, hf⟩ := bnO_some hf
              refine va_calli (va_runV (As := [.int x4]) (rest := []) ⟨hx, hb, hml, hown, hts⟩ (c_X8_restOf l hg hX μ x4  hc_34) (cwV 1 hts (gd_V q1253 q835 q836 q37 q837) rfl rfl rfl hd_X8_restOf ⟨Nat.le_of_ble_eq_true rfl, Nat.le_of_ble_eq_true rfl⟩) ⟨Pz.blind, r_recv hT hP (inX hX) (fs := (fun _ => [.ref (g.ad 112), .ref (g.ad 266), .ref (g.ad 0), .ref (g.ad 273)])) (obX g) rfl, fun U hU hW => ⟨rfl, Tb.warm hW hT, by rw [hU]; exact hP⟩⟩ rfl rfl hl.1 rfl (lv_room (Nat.le_of_ble_eq_true rfl)) dL_isSound_83 ⟨Nat.le_of_ble_eq_true rfl, Nat.le_of_ble_eq_true rfl⟩) hS (fun q _ h => h.elim) (fun q h => h.elim) (fun v9 u9 t9 H locs ht9 hvm9 hw9 hB9 hz9 hk9 hS => ?_)
              have hP := Rg.keep hP (fun q h => hk9 q h id)
              have hσ_26 := And.intro hσ_26.1 (P_keep hσ_26.2 (fun q h => hk9 q h id))
              rw [hw9]
              refine lv_if_lt (tgt := 102) hx hb dL_isSound_86 (by decide) (fun c_35 => ?_) (fun c_35 => ?_)
              · have hf := (if_pos c_35).symm.trans hf
                refine lv_iconst (v := 0) hx hb dL_isSound_102 (by decide) ?_
                exact W.zret (v := 0) (ty := .boolean) hx hb hr (by decide) (fun t9 ht hW => ⟨⟨0, (), rfl, Option.some.inj hf, trivial⟩, hS.F ht⟩) hS.2.2 dL_isSound_103
              · have hf := (if_neg c_35).symm.trans hf
                refine lv_aload_n hx hb dL_isSound_89 rfl (lv_at hl 1 rfl) ?_
                refine lv_iload hx hb dL_isSound_90 (lv_at hl 5 rfl) ?_
                obtain ⟨r_36, hc_37, hf⟩ := bnO_some hf
                refine va_calli (va_runV (As := [.int x4]) (rest := []) ⟨hx, hb, hml, hown, hts⟩ (c_X8_markOf l hg hX μ x4  hc_37) (cwV 1 hts (gd_V q1254 q839 q840 q37 q841) rfl rfl rfl hd_X8_markOf ⟨Nat.le_of_ble_eq_true rfl, Nat.le_of_ble_eq_true rfl⟩) ⟨Pz.blind, r_recv hT hP (inX hX) (fs := (fun _ => [.ref (g.ad 112), .ref (g.ad 266), .ref (g.ad 0), .ref (g.ad 273)])) (obX g) rfl, fun U hU hW => ⟨rfl, Tb.warm hW hT, by rw [hU]; exact hP⟩⟩ rfl rfl hl.1 rfl (lv_room (Nat.le_of_ble_eq_true rfl)) dL_isSound_92 ⟨Nat.le_of_ble_eq_true rfl, Nat.le_of_ble_eq_true rfl⟩) hS (fun q _ h => h.elim) (fun q h => h.elim) (fun v9 u9 t9 H locs ht9 hvm9 hw9 hB9 hz9 hk9 hS => ?_)
                have hP := Rg.keep hP (fun q h => hk9 q h id)
                have hσ_26 := And.intro hσ_26.1 (P_keep hσ_26.2 (fun q h => hk9 q h id))
                rw [hw9]
                refine lv_aload_n hx hb dL_isSound_95 rfl (lv_at hl 1 rfl) ?_
                obtain ⟨r_38, hc_39, hf⟩ := bnO_some hf
                refine va_calli (va_runV (As := []) (rest := [.int r_36]) ⟨hx, hb, hml, hown, hts⟩ (c_X8_time l hg hX μ   hc_39) (cwV 0 hts (gd_V q672 q673 q674 q37 q675) rfl rfl rfl hd_X8_time ⟨Nat.le_of_ble_eq_true rfl, Nat.le_of_ble_eq_true rfl⟩) ⟨Pz.blind, r_recv hT hP (inX hX) (fs := (fun _ => [.ref (g.ad 112), .ref (g.ad 266), .ref (g.ad 0), .ref (g.ad 273)])) (obX g) rfl, fun U hU hW => ⟨rfl, Tb.warm hW hT, by rw [hU]; exact hP⟩⟩ rfl rfl hl.1 rfl (lv_room (Nat.le_of_ble_eq_true rfl)) dL_isSound_96 ⟨Nat.le_of_ble_eq_true rfl, Nat.le_of_ble_eq_true rfl⟩) hS (fun q _ h => h.elim) (fun q h => h.elim) (fun v9 u9 t9 H locs ht9 hvm9 hw9 hB9 hz9 hk9 hS => ?_)
                have hP := Rg.keep hP (fun q h => hk9 q h id)
                have hσ_26 := And.intro hσ_26.1 (P_keep hσ_26.2 (fun q h => hk9 q h id))
                rw [hw9]
                refine lv_icmp_le (tgt := 104) hx hb dL_isSound_99 (by decide) (fun c_40 => ?_) (fun c_40 => ?_)
                · have hf := (if_pos c_40).symm.trans hf
                  refine lv_iconst (v := 0) hx hb dL_isSound_104 (by decide) ?_
                  refine lv_istore (lv' := [(6, .int 0), (5, .int r_22), (0, .ref (g.ad 272)), (1, .ref au), (2, .ref ar), (3, .ref q0), (4, .int x4)]) hx hb dL_isSound_105 hl (by decide) rfl (fun ls hl => ?_)
                  exact L107 _ (fun m9 y1 y2 y3 y4 H locs ls hP hS hl hy1 hy2 hy3 hf => ih m9 y1 y2 y3 y4 H locs ls hP hS hl hy1 hy2 hy3 hf) fu μ x1 x2 σ_26 x4 r_22 0 _ _ _ hP hS (lv_sub hl [2, 3, 4, 5, 6, 1, 0] rfl) hx1 hx2 hσ_26 hf
                · have hf := (if_neg c_40).symm.trans hf
                  refine lv_iconst (v := 0) hx hb dL_isSound_102 (by decide) ?_
                  exact W.zret (v := 0) (ty := .boolean) hx hb hr (by decide) (fun t9 ht hW => ⟨⟨0, (), rfl, Option.some.inj hf, trivial⟩, hS.F ht⟩) hS.2.2 dL_isSound_103
            · have hf := (if_neg c_32).symm.trans hf
              refine lv_aload_n hx hb dL_isSound_67 rfl (lv_at hl 1 rfl) ?_
              refine lv_iload hx hb dL_isSound_68 (lv_at hl 5 rfl) ?_
              obtain ⟨r_41, hc_42, hf⟩ := bnO_some hf
              refine va_calli (va_runV (As := [.int x4]) (rest := []) ⟨hx, hb, hml, hown, hts⟩ (c_X8_eventOf l hg hX μ x4  hc_42) (cwV 1 hts (gd_V q701 q702 q703 q37 q704) rfl rfl rfl hd_X8_eventOf ⟨Nat.le_of_ble_eq_true rfl, Nat.le_of_ble_eq_true rfl⟩) ⟨Pz.blind, r_recv hT hP (inX hX) (fs := (fun _ => [.ref (g.ad 112), .ref (g.ad 266), .ref (g.ad 0), .ref (g.ad 273)])) (obX g) rfl, fun U hU hW => ⟨rfl, Tb.warm hW hT, by rw [hU]; exact hP⟩⟩ rfl rfl hl.1 rfl (lv_room (Nat.le_of_ble_eq_true rfl)) dL_isSound_70 ⟨Nat.le_of_ble_eq_true rfl, Nat.le_of_ble_eq_true rfl⟩) hS (fun q _ h => h.elim) (fun q h => h.elim) (fun v9 u9 t9 H locs ht9 hvm9 hw9 hB9 hz9 hk9 hS => ?_)
              have hP := Rg.keep hP (fun q h => hk9 q h id)
              have hσ_26 := And.intro hσ_26.1 (P_keep hσ_26.2 (fun q h => hk9 q h id))
              rw [hw9]
              refine lv_aload_n hx hb dL_isSound_73 rfl (lv_at hl 1 rfl) ?_
              obtain ⟨r_43, hc_44, hf⟩ := bnO_some hf
              refine va_calli (va_runV (As := []) (rest := [.int r_41]) ⟨hx, hb, hml, hown, hts⟩ (c_X8_time l hg hX μ   hc_44) (cwV 0 hts (gd_V q672 q673 q674 q37 q675) rfl rfl rfl hd_X8_time ⟨Nat.le_of_ble_eq_true rfl, Nat.le_of_ble_eq_true rfl⟩) ⟨Pz.blind, r_recv hT hP (inX hX) (fs := (fun _ => [.ref (g.ad 112), .ref (g.ad 266), .ref (g.ad 0), .ref (g.ad 273)])) (obX g) rfl, fun U hU hW => ⟨rfl, Tb.warm hW hT, by rw [hU]; exact hP⟩⟩ rfl rfl hl.1 rfl (lv_room (Nat.le_of_ble_eq_true rfl)) dL_isSound_74 ⟨Nat.le_of_ble_eq_true rfl, Nat.le_of_ble_eq_true rfl⟩) hS (fun q _ h => h.elim) (fun q h => h.elim) (fun v9 u9 t9 H locs ht9 hvm9 hw9 hB9 hz9 hk9 hS => ?_)
              have hP := Rg.keep hP (fun q h => hk9 q h id)
              have hσ_26 := And.intro hσ_26.1 (P_keep hσ_26.2 (fun q h => hk9 q h id))
              rw [hw9]
              refine lv_icmp_lt (tgt := 102) hx hb dL_isSound_77 (by decide) (fun c_45 => ?_) (fun c_45 => ?_)
              · have hf := (if_pos c_45).symm.trans hf
                refine lv_iconst (v := 0) hx hb dL_isSound_102 (by decide) ?_
                exact W.zret (v := 0) (ty := .boolean) hx hb hr (by decide) (fun t9 ht hW => ⟨⟨0, (), rfl, Option.some.inj hf, trivial⟩, hS.F ht⟩) hS.2.2 dL_isSound_103
              · have hf := (if_neg c_45).symm.trans hf
                refine lv_aload_n hx hb dL_isSound_80 rfl (lv_at hl 1 rfl) ?_
                refine lv_iload hx hb dL_isSound_81 (lv_at hl 5 rfl) ?_
                obtain ⟨r_46, hc_47, hf⟩ := bnO_some hf
                refine va_calli (va_runV (As := [.int x4]) (rest := []) ⟨hx, hb, hml, hown, hts⟩ (c_X8_restOf l hg hX μ x4  hc_47) (cwV 1 hts (gd_V q1253 q835 q836 q37 q837) rfl rfl rfl hd_X8_restOf ⟨Nat.le_of_ble_eq_true rfl, Nat.le_of_ble_eq_true rfl⟩) ⟨Pz.blind, r_recv hT hP (inX hX) (fs := (fun _ => [.ref (g.ad 112), .ref (g.ad 266), .ref (g.ad 0), .ref (g.ad 273)])) (obX g) rfl, fun U hU hW => ⟨rfl, Tb.warm hW hT, by rw [hU]; exact hP⟩⟩ rfl rfl hl.1 rfl (lv_room (Nat.le_of_ble_eq_true rfl)) dL_isSound_83 ⟨Nat.le_of_ble_eq_true rfl, Nat.le_of_ble_eq_true rfl⟩) hS (fun q _ h => h.elim) (fun q h => h.elim) (fun v9 u9 t9 H locs ht9 hvm9 hw9 hB9 hz9 hk9 hS => ?_)
                have hP := Rg.keep hP (fun q h => hk9 q h id)
                have hσ_26 := And.intro hσ_26.1 (P_keep hσ_26.2 (fun q h => hk9 q h id))
                rw [hw9]
                refine lv_if_lt (tgt := 102) hx hb dL_isSound_86 (by decide) (fun c_48 => ?_) (fun c_48 => ?_)
                · have hf := (if_pos c_48).symm.trans hf
                  refine lv_iconst (v := 0) hx hb dL_isSound_102 (by decide) ?_
                  exact W.zret (v := 0) (ty := .boolean) hx hb hr (by decide) (fun t9 ht hW => ⟨⟨0, (), rfl, Option.some.inj hf, trivial⟩, hS.F ht⟩) hS.2.2 dL_isSound_103
                · have hf := (if_neg c_48).symm.trans hf
                  refine lv_aload_n hx hb dL_isSound_89 rfl (lv_at hl 1 rfl) ?_
                  refine lv_iload hx hb dL_isSound_90 (lv_at hl 5 rfl) ?_
                  obtain ⟨r_49, hc_50, hf⟩ := bnO_some hf
                  refine va_calli (va_runV (As := [.int x4]) (rest := []) ⟨hx, hb, hml, hown, hts⟩ (c_X8_markOf l hg hX μ x4  hc_50) (cwV 1 hts (gd_V q1254 q839 q840 q37 q841) rfl rfl rfl hd_X8_markOf ⟨Nat.le_of_ble_eq_true rfl, Nat.le_of_ble_eq_true rfl⟩) ⟨Pz.blind, r_recv hT hP (inX hX) (fs := (fun _ => [.ref (g.ad 112), .ref (g.ad 266), .ref (g.ad 0), .ref (g.ad 273)])) (obX g) rfl, fun U hU hW => ⟨rfl, Tb.warm hW hT, by rw [hU]; exact hP⟩⟩ rfl rfl hl.1 rfl (lv_room (Nat.le_of_ble_eq_true rfl)) dL_isSound_92 ⟨Nat.le_of_ble_eq_true rfl, Nat.le_of_ble_eq_true rfl⟩) hS (fun q _ h => h.elim) (fun q h => h.elim) (fun v9 u9 t9 H locs ht9 hvm9 hw9 hB9 hz9 hk9 hS => ?_)
                  have hP := Rg.keep hP (fun q h => hk9 q h id)
                  have hσ_26 := And.intro hσ_26.1 (P_keep hσ_26.2 (fun q h => hk9 q h id))
                  rw [hw9]
                  refine lv_aload_n hx hb dL_isSound_95 rfl (lv_at hl 1 rfl) ?_
                  obtain ⟨r_51, hc_52, hf⟩ := bnO_some hf
                  refine va_calli (va_runV (As := []) (rest := [.int r_49]) ⟨hx, hb, hml, hown, hts⟩ (c_X8_time l hg hX μ   hc_52) (cwV 0 hts (gd_V q672 q673 q674 q37 q675) rfl rfl rfl hd_X8_time ⟨Nat.le_of_ble_eq_true rfl, Nat.le_of_ble_eq_true rfl⟩) ⟨Pz.blind, r_recv hT hP (inX hX) (fs := (fun _ => [.ref (g.ad 112), .ref (g.ad 266), .ref (g.ad 0), .ref (g.ad 273)])) (obX g) rfl, fun U hU hW => ⟨rfl, Tb.warm hW hT, by rw [hU]; exact hP⟩⟩ rfl rfl hl.1 rfl (lv_room (Nat.le_of_ble_eq_true rfl)) dL_isSound_96 ⟨Nat.le_of_ble_eq_true rfl, Nat.le_of_ble_eq_true rfl⟩) hS (fun q _ h => h.elim) (fun q h => h.elim) (fun v9 u9 t9 H locs ht9 hvm9 hw9 hB9 hz9 hk9 hS => ?_)
                  have hP := Rg.keep hP (fun q h => hk9 q h id)
                  have hσ_26 := And.intro hσ_26.1 (P_keep hσ_26.2 (fun q h => hk9 q h id))
                  rw [hw9]
                  refine lv_icmp_le (tgt := 104) hx hb dL_isSound_99 (by decide) (fun c_53 => ?_) (fun c_53 => ?_)
                  · have hf := (if_pos c_53).symm.trans hf
                    refine lv_iconst (v := 0) hx hb dL_isSound_104 (by decide) ?_
                    refine lv_istore (lv' := [(6, .int 0), (5, .int r_22), (0, .ref (g.ad 272)), (1, .ref au), (2, .ref ar), (3, .ref q0), (4, .int x4)]) hx hb dL_isSound_105 hl (by decide) rfl (fun ls hl => ?_)
                    exact L107 _ (fun m9 y1 y2 y3 y4 H locs ls hP hS hl hy1 hy2 hy3 hf => ih m9 y1 y2 y3 y4 H locs ls hP hS hl hy1 hy2 hy3 hf) fu μ x1 x2 σ_26 x4 r_22 0 _ _ _ hP hS (lv_sub hl [2, 3, 4, 5, 6, 1, 0] rfl) hx1 hx2 hσ_26 hf
                  · have hf := (if_neg c_53).symm.trans hf
                    refine lv_iconst (v := 0) hx hb dL_isSound_102 (by decide) ?_
                    exact W.zret (v := 0) (ty := .boolean) hx hb hr (by decide) (fun t9 ht hW => ⟨⟨0, (), rfl, Option.some.inj hf, trivial⟩, hS.F ht⟩) hS.2.2 dL_isSound_103
          · have hf := (if_neg c_30).symm.trans hf
            refine lv_iconst (v := 1) hx hb dL_isSound_53 (by decide) ?_
            refine lv_goto (tgt := 58) hx hb dL_isSound_54 (by decide) ?_
            refine lv_icmp_ne (tgt := 102) hx hb dL_isSound_58 (by decide) (fun c_54 => ?_) (fun c_54 => absurd c_54 (by decide))
            refine lv_iconst (v := 0) hx hb dL_isSound_102 (by decide) ?_
            exact W.zret (v := 0) (ty := .boolean) hx hb hr (by decide) (fun t9 ht hW => ⟨⟨0, (), rfl, Option.some.inj hf, trivial⟩, hS.F ht⟩) hS.2.2 dL_isSound_103
        · have hf := (if_neg c_29).symm.trans hf
          refine lv_iconst (v := 1) hx hb dL_isSound_42 (by decide) ?_
          refine lv_goto (tgt := 47) hx hb dL_isSound_43 (by decide) ?_
          refine lv_iload hx hb dL_isSound_47 (lv_at hl 0 rfl) ?_
          refine lv_iconst (v := 2) hx hb dL_isSound_49 (by decide) ?_
          refine lv_icmp_ge (tgt := 57) hx hb dL_isSound_50 (by decide) (fun c_55 => ?_) (fun c_55 => ?_)
          · have hf := (if_pos c_55).symm.trans hf
            refine lv_iconst (v := 0) hx hb dL_isSound_57 (by decide) ?_
            refine lv_icmp_ne (tgt := 102) hx hb dL_isSound_58 (by decide) (fun c_56 => ?_) (fun c_56 => absurd c_56 (by decide))
            refine lv_iconst (v := 0) hx hb dL_isSound_102 (by decide) ?_
            exact W.zret (v := 0) (ty := .boolean) hx hb hr (by decide) (fun t9 ht hW => ⟨⟨0, (), rfl, Option.some.inj hf, trivial⟩, hS.F ht⟩) hS.2.2 dL_isSound_103
          · have hf := (if_neg c_55).symm.trans hf
            refine lv_iconst (v := 1) hx hb dL_isSound_53 (by decide) ?_
            refine lv_goto (tgt := 58) hx hb dL_isSound_54 (by decide) ?_
            refine lv_icmp_ne (tgt := 102) hx hb dL_isSound_58 (by decide) (fun c_57 => absurd (by decide) c_57) (fun c_57 => ?_)
            refine lv_iload hx hb dL_isSound_61 (lv_at hl 0 rfl) ?_
            refine lv_iconst (v := 2) hx hb dL_isSound_63 (by decide) ?_
            refine lv_icmp_ge (tgt := 80) hx hb dL_isSound_64 (by decide) (fun c_58 => ?_) (fun c_58 => ?_)
            · have hf := (if_pos c_58).symm.trans hf
              refine lv_aload_n hx hb dL_isSound_80 rfl (lv_at hl 1 rfl) ?_
              refine lv_iload hx hb dL_isSound_81 (lv_at hl 5 rfl) ?_
              obtain ⟨r_59, hc_60, hf⟩ := bnO_some hf
              refine va_calli (va_runV (As := [.int x4]) (rest := []) ⟨hx, hb, hml, hown, hts⟩ (c_X8_restOf l hg hX μ x4  hc_60) (cwV 1 hts (gd_V q1253 q835 q836 q37 q837) rfl rfl rfl hd_X8_restOf ⟨Nat.le_of_ble_eq_true rfl, Nat.le_of_ble_eq_true rfl⟩) ⟨Pz.blind, r_recv hT hP (inX hX) (fs := (fun _ => [.ref (g.ad 112), .ref (g.ad 266), .ref (g.ad 0), .ref (g.ad 273)])) (obX g) rfl, fun U hU hW => ⟨rfl, Tb.warm hW hT, by rw [hU]; exact hP⟩⟩ rfl rfl hl.1 rfl (lv_room (Nat.le_of_ble_eq_true rfl)) dL_isSound_83 ⟨Nat.le_of_ble_eq_true rfl, Nat.le_of_ble_eq_true rfl⟩) hS (fun q _ h => h.elim) (fun q h => h.elim) (fun v9 u9 t9 H locs ht9 hvm9 hw9 hB9 hz9 hk9 hS => ?_)
              have hP := Rg.keep hP (fun q h => hk9 q h id)
              have hσ_26 := And.intro hσ_26.1 (P_keep hσ_26.2 (fun q h => hk9 q h id))
              rw [hw9]
              refine lv_if_lt (tgt := 102) hx hb dL_isSound_86 (by decide) (fun c_61 => ?_) (fun c_61 => ?_)
              · have hf := (if_pos c_61).symm.trans hf
                refine lv_iconst (v := 0) hx hb dL_isSound_102 (by decide) ?_
                exact W.zret (v := 0) (ty := .boolean) hx hb hr (by decide) (fun t9 ht hW => ⟨⟨0, (), rfl, Option.some.inj hf, trivial⟩, hS.F ht⟩) hS.2.2 dL_isSound_103
              · have hf := (if_neg c_61).symm.trans hf
                refine lv_aload_n hx hb dL_isSound_89 rfl (lv_at hl 1 rfl) ?_
                refine lv_iload hx hb dL_isSound_90 (lv_at hl 5 rfl) ?_
                obtain ⟨r_62, hc_63, hf⟩ := bnO_some hf
                refine va_calli (va_runV (As := [.int x4]) (rest := []) ⟨hx, hb, hml, hown, hts⟩ (c_X8_markOf l hg hX μ x4  hc_63) (cwV 1 hts (gd_V q1254 q839 q840 q37 q841) rfl rfl rfl hd_X8_markOf ⟨Nat.le_of_ble_eq_true rfl, Nat.le_of_ble_eq_true rfl⟩) ⟨Pz.blind, r_recv hT hP (inX hX) (fs := (fun _ => [.ref (g.ad 112), .ref (g.ad 266), .ref (g.ad 0), .ref (g.ad 273)])) (obX g) rfl, fun U hU hW => ⟨rfl, Tb.warm hW hT, by rw [hU]; exact hP⟩⟩ rfl rfl hl.1 rfl (lv_room (Nat.le_of_ble_eq_true rfl)) dL_isSound_92 ⟨Nat.le_of_ble_eq_true rfl, Nat.le_of_ble_eq_true rfl⟩) hS (fun q _ h => h.elim) (fun q h => h.elim) (fun v9 u9 t9 H locs ht9 hvm9 hw9 hB9 hz9 hk9 hS => ?_)
                have hP := Rg.keep hP (fun q h => hk9 q h id)
                have hσ_26 := And.intro hσ_26.1 (P_keep hσ_26.2 (fun q h => hk9 q h id))
                rw [hw9]
                refine lv_aload_n hx hb dL_isSound_95 rfl (lv_at hl 1 rfl) ?_
                obtain ⟨r_64, hc_65, hf⟩ := bnO_some hf
                refine va_calli (va_runV (As := []) (rest := [.int r_62]) ⟨hx, hb, hml, hown, hts⟩ (c_X8_time l hg hX μ   hc_65) (cwV 0 hts (gd_V q672 q673 q674 q37 q675) rfl rfl rfl hd_X8_time ⟨Nat.le_of_ble_eq_true rfl, Nat.le_of_ble_eq_true rfl⟩) ⟨Pz.blind, r_recv hT hP (inX hX) (fs := (fun _ => [.ref (g.ad 112), .ref (g.ad 266), .ref (g.ad 0), .ref (g.ad 273)])) (obX g) rfl, fun U hU hW => ⟨rfl, Tb.warm hW hT, by rw [hU]; exact hP⟩⟩ rfl rfl hl.1 rfl (lv_room (Nat.le_of_ble_eq_true rfl)) dL_isSound_96 ⟨Nat.le_of_ble_eq_true rfl, Nat.le_of_ble_eq_true rfl⟩) hS (fun q _ h => h.elim) (fun q h => h.elim) (fun v9 u9 t9 H locs ht9 hvm9 hw9 hB9 hz9 hk9 hS => ?_)
                have hP := Rg.keep hP (fun q h => hk9 q h id)
                have hσ_26 := And.intro hσ_26.1 (P_keep hσ_26.2 (fun q h => hk9 q h id))
                rw [hw9]
                refine lv_icmp_le (tgt := 104) hx hb dL_isSound_99 (by decide) (fun c_66 => ?_) (fun c_66 => ?_)
                · have hf := (if_pos c_66).symm.trans hf
                  refine lv_iconst (v := 0) hx hb dL_isSound_104 (by decide) ?_
                  refine lv_istore (lv' := [(6, .int 0), (5, .int r_22), (0, .ref (g.ad 272)), (1, .ref au), (2, .ref ar), (3, .ref q0), (4, .int x4)]) hx hb dL_isSound_105 hl (by decide) rfl (fun ls hl => ?_)
                  exact L107 _ (fun m9 y1 y2 y3 y4 H locs ls hP hS hl hy1 hy2 hy3 hf => ih m9 y1 y2 y3 y4 H locs ls hP hS hl hy1 hy2 hy3 hf) fu μ x1 x2 σ_26 x4 r_22 0 _ _ _ hP hS (lv_sub hl [2, 3, 4, 5, 6, 1, 0] rfl) hx1 hx2 hσ_26 hf
                · have hf := (if_neg c_66).symm.trans hf
                  refine lv_iconst (v := 0) hx hb dL_isSound_102 (by decide) ?_
                  exact W.zret (v := 0) (ty := .boolean) hx hb hr (by decide) (fun t9 ht hW => ⟨⟨0, (), rfl, Option.some.inj hf, trivial⟩, hS.F ht⟩) hS.2.2 dL_isSound_103
            · have hf := (if_neg c_58).symm.trans hf
              refine lv_aload_n hx hb dL_isSound_67 rfl (lv_at hl 1 rfl) ?_
              refine lv_iload hx hb dL_isSound_68 (lv_at hl 5 rfl) ?_
              obtain ⟨r_67, hc_68, hf⟩ := bnO_some hf
              refine va_calli (va_runV (As := [.int x4]) (rest := []) ⟨hx, hb, hml, hown, hts⟩ (c_X8_eventOf l hg hX μ x4  hc_68) (cwV 1 hts (gd_V q701 q702 q703 q37 q704) rfl rfl rfl hd_X8_eventOf ⟨Nat.le_of_ble_eq_true rfl, Nat.le_of_ble_eq_true rfl⟩) ⟨Pz.blind, r_recv hT hP (inX hX) (fs := (fun _ => [.ref (g.ad 112), .ref (g.ad 266), .ref (g.ad 0), .ref (g.ad 273)])) (obX g) rfl, fun U hU hW => ⟨rfl, Tb.warm hW hT, by rw [hU]; exact hP⟩⟩ rfl rfl hl.1 rfl (lv_room (Nat.le_of_ble_eq_true rfl)) dL_isSound_70 ⟨Nat.le_of_ble_eq_true rfl, Nat.le_of_ble_eq_true rfl⟩) hS (fun q _ h => h.elim) (fun q h => h.elim) (fun v9 u9 t9 H locs ht9 hvm9 hw9 hB9 hz9 hk9 hS => ?_)
              have hP := Rg.keep hP (fun q h => hk9 q h id)
              have hσ_26 := And.intro hσ_26.1 (P_keep hσ_26.2 (fun q h => hk9 q h id))
              rw [hw9]
              refine lv_aload_n hx hb dL_isSound_73 rfl (lv_at hl 1 rfl) ?_
              obtain ⟨r_69, hc_70, hf⟩ := bnO_some hf
              refine va_calli (va_runV (As := []) (rest := [.int r_67]) ⟨hx, hb, hml, hown, hts⟩ (c_X8_time l hg hX μ   hc_70) (cwV 0 hts (gd_V q672 q673 q674 q37 q675) rfl rfl rfl hd_X8_time ⟨Nat.le_of_ble_eq_true rfl, Nat.le_of_ble_eq_true rfl⟩) ⟨Pz.blind, r_recv hT hP (inX hX) (fs := (fun _ => [.ref (g.ad 112), .ref (g.ad 266), .ref (g.ad 0), .ref (g.ad 273)])) (obX g) rfl, fun U hU hW => ⟨rfl, Tb.warm hW hT, by rw [hU]; exact hP⟩⟩ rfl rfl hl.1 rfl (lv_room (Nat.le_of_ble_eq_true rfl)) dL_isSound_74 ⟨Nat.le_of_ble_eq_true rfl, Nat.le_of_ble_eq_true rfl⟩) hS (fun q _ h => h.elim) (fun q h => h.elim) (fun v9 u9 t9 H locs ht9 hvm9 hw9 hB9 hz9 hk9 hS => ?_)
              have hP := Rg.keep hP (fun q h => hk9 q h id)
              have hσ_26 := And.intro hσ_26.1 (P_keep hσ_26.2 (fun q h => hk9 q h id))
              rw [hw9]
              refine lv_icmp_lt (tgt := 102) hx hb dL_isSound_77 (by decide) (fun c_71 => ?_) (fun c_71 => ?_)
              · have hf := (if_pos c_71).symm.trans hf
                refine lv_iconst (v := 0) hx hb dL_isSound_102 (by decide) ?_
                exact W.zret (v := 0) (ty := .boolean) hx hb hr (by decide) (fun t9 ht hW => ⟨⟨0, (), rfl, Option.some.inj hf, trivial⟩, hS.F ht⟩) hS.2.2 dL_isSound_103
              · have hf := (if_neg c_71).symm.trans hf
                refine lv_aload_n hx hb dL_isSound_80 rfl (lv_at hl 1 rfl) ?_
                refine lv_iload hx hb dL_isSound_81 (lv_at hl 5 rfl) ?_
                obtain ⟨r_72, hc_73, hf⟩ := bnO_some hf
                refine va_calli (va_runV (As := [.int x4]) (rest := []) ⟨hx, hb, hml, hown, hts⟩ (c_X8_restOf l hg hX μ x4  hc_73) (cwV 1 hts (gd_V q1253 q835 q836 q37 q837) rfl rfl rfl hd_X8_restOf ⟨Nat.le_of_ble_eq_true rfl, Nat.le_of_ble_eq_true rfl⟩) ⟨Pz.blind, r_recv hT hP (inX hX) (fs := (fun _ => [.ref (g.ad 112), .ref (g.ad 266), .ref (g.ad 0), .ref (g.ad 273)])) (obX g) rfl, fun U hU hW => ⟨rfl, Tb.warm hW hT, by rw [hU]; exact hP⟩⟩ rfl rfl hl.1 rfl (lv_room (Nat.le_of_ble_eq_true rfl)) dL_isSound_83 ⟨Nat.le_of_ble_eq_true rfl, Nat.le_of_ble_eq_true rfl⟩) hS (fun q _ h => h.elim) (fun q h => h.elim) (fun v9 u9 t9 H locs ht9 hvm9 hw9 hB9 hz9 hk9 hS => ?_)
                have hP := Rg.keep hP (fun q h => hk9 q h id)
                have hσ_26 := And.intro hσ_26.1 (P_keep hσ_26.2 (fun q h => hk9 q h id))
                rw [hw9]
                refine lv_if_lt (tgt := 102) hx hb dL_isSound_86 (by decide) (fun c_74 => ?_) (fun c_74 => ?_)
                · have hf := (if_pos c_74).symm.trans hf
                  refine lv_iconst (v := 0) hx hb dL_isSound_102 (by decide) ?_
                  exact W.zret (v := 0) (ty := .boolean) hx hb hr (by decide) (fun t9 ht hW => ⟨⟨0, (), rfl, Option.some.inj hf, trivial⟩, hS.F ht⟩) hS.2.2 dL_isSound_103
                · have hf := (if_neg c_74).symm.trans hf
                  refine lv_aload_n hx hb dL_isSound_89 rfl (lv_at hl 1 rfl) ?_
                  refine lv_iload hx hb dL_isSound_90 (lv_at hl 5 rfl) ?_
                  obtain ⟨r_75, hc_76, hf⟩ := bnO_some hf
                  refine va_calli (va_runV (As := [.int x4]) (rest := []) ⟨hx, hb, hml, hown, hts⟩ (c_X8_markOf l hg hX μ x4  hc_76) (cwV 1 hts (gd_V q1254 q839 q840 q37 q841) rfl rfl rfl hd_X8_markOf ⟨Nat.le_of_ble_eq_true rfl, Nat.le_of_ble_eq_true rfl⟩) ⟨Pz.blind, r_recv hT hP (inX hX) (fs := (fun _ => [.ref (g.ad 112), .ref (g.ad 266), .ref (g.ad 0), .ref (g.ad 273)])) (obX g) rfl, fun U hU hW => ⟨rfl, Tb.warm hW hT, by rw [hU]; exact hP⟩⟩ rfl rfl hl.1 rfl (lv_room (Nat.le_of_ble_eq_true rfl)) dL_isSound_92 ⟨Nat.le_of_ble_eq_true rfl, Nat.le_of_ble_eq_true rfl⟩) hS (fun q _ h => h.elim) (fun q h => h.elim) (fun v9 u9 t9 H locs ht9 hvm9 hw9 hB9 hz9 hk9 hS => ?_)
                  have hP := Rg.keep hP (fun q h => hk9 q h id)
                  have hσ_26 := And.intro hσ_26.1 (P_keep hσ_26.2 (fun q h => hk9 q h id))
                  rw [hw9]
                  refine lv_aload_n hx hb dL_isSound_95 rfl (lv_at hl 1 rfl) ?_
                  obtain ⟨r_77, hc_78, hf⟩ := bnO_some hf
                  refine va_calli (va_runV (As := []) (rest := [.int r_75]) ⟨hx, hb, hml, hown, hts⟩ (c_X8_time l hg hX μ   hc_78) (cwV 0 hts (gd_V q672 q673 q674 q37 q675) rfl rfl rfl hd_X8_time ⟨Nat.le_of_ble_eq_true rfl, Nat.le_of_ble_eq_true rfl⟩) ⟨Pz.blind, r_recv hT hP (inX hX) (fs := (fun _ => [.ref (g.ad 112), .ref (g.ad 266), .ref (g.ad 0), .ref (g.ad 273)])) (obX g) rfl, fun U hU hW => ⟨rfl, Tb.warm hW hT, by rw [hU]; exact hP⟩⟩ rfl rfl hl.1 rfl (lv_room (Nat.le_of_ble_eq_true rfl)) dL_isSound_96 ⟨Nat.le_of_ble_eq_true rfl, Nat.le_of_ble_eq_true rfl⟩) hS (fun q _ h => h.elim) (fun q h => h.elim) (fun v9 u9 t9 H locs ht9 hvm9 hw9 hB9 hz9 hk9 hS => ?_)
                  have hP := Rg.keep hP (fun q h => hk9 q h id)
                  have hσ_26 := And.intro hσ_26.1 (P_keep hσ_26.2 (fun q h => hk9 q h id))
                  rw [hw9]
                  refine lv_icmp_le (tgt := 104) hx hb dL_isSound_99 (by decide) (fun c_79 => ?_) (fun c_79 => ?_)
                  · have hf := (if_pos c_79).symm.trans hf
                    refine lv_iconst (v := 0) hx hb dL_isSound_104 (by decide) ?_
                    refine lv_istore (lv' := [(6, .int 0), (5, .int r_22), (0, .ref (g.ad 272)), (1, .ref au), (2, .ref ar), (3, .ref q0), (4, .int x4)]) hx hb dL_isSound_105 hl (by decide) rfl (fun ls hl => ?_)
                    exact L107 _ (fun m9 y1 y2 y3 y4 H locs ls hP hS hl hy1 hy2 hy3 hf => ih m9 y1 y2 y3 y4 H locs ls hP hS hl hy1 hy2 hy3 hf) fu μ x1 x2 σ_26 x4 r_22 0 _ _ _ hP hS (lv_sub hl [2, 3, 4, 5, 6, 1, 0] rfl) hx1 hx2 hσ_26 hf
                  · have hf := (if_neg c_79).symm.trans hf
                    refine lv_iconst (v := 0) hx hb dL_isSound_102 (by decide) ?_
                    exact W.zret (v := 0) (ty := .boolean) hx hb hr (by decide) (fun t9 ht hW => ⟨⟨0, (), rfl, Option.some.inj hf, trivial⟩, hS.F ht⟩) hS.2.2 dL_isSound_103
  have hl := lv_entry ([.ref (g.ad 272), .ref au, .ref ar]) (n := 8) (Nat.le_of_ble_eq_true rfl)
  rw [lg_entry_eq]
  generalize (lg_sl ([.ref (g.ad 272), .ref au, .ref ar]) ++ List.replicate (8 - (lg_sl ([.ref (g.ad 272), .ref au, .ref ar])).length) Slot.unset).toArray = ls at hl ⊢
  have hl : lv_has ls 8 [(0, .ref (g.ad 272)), (1, .ref au), (2, .ref ar)] := hl
  unfold f_L_isSound at hf
  refine lv_bipush (v := 8) hx hb dL_isSound_0 (by decide) ?_
  refine va_newa (atype := .int) (ty := .int) (N' := 8) (a0 := (8, .inl (fun _ => 0))) (ws := []) hx hb (hts _ q187) rfl hT.1 P0 D0 hS (fun _ h => h) (fun _ => rfl) (by decide) rfl (Nat.le_of_ble_eq_true rfl) (Nat.le_of_ble_eq_true rfl) (Nat.le_of_ble_eq_true rfl) dL_isSound_2 (fun q0 cA H hK9 hP9 hD9 hS9 => ?_)
  have e9 : cA = g.cy 0 := RAi hK9 (show g.tys[0]? = some (g.cy 0, .int) from rfl)
  rw [e9] at hP9 hD9
  have hP := hP.swap hS hS9 hO
  have hS := hS9
  obtain ⟨σ0, eσ0⟩ : ∃ z : Nat → Int32, (fun _ => 0) = z := ⟨_, rfl⟩
  have hZ : s.heap.size ≤ q0 ∧ va_P g.D vwCl [(q0, .inl (g.cy 0, 8, .inl σ0))] H := ⟨hD9.2 0 _ rfl, by rw [← eσ0]; exact hP9⟩
  have hf := bnd_eq hf _ eσ0
  refine lv_astore_n (lv' := [(3, .ref q0), (0, .ref (g.ad 272)), (1, .ref au), (2, .ref ar)]) hx hb dL_isSound_4 rfl hl (by decide) rfl (fun ls hl => ?_)
  refine lv_iconst (v := 0) hx hb dL_isSound_5 (by decide) ?_
  refine lv_istore (lv' := [(4, .int 0), (3, .ref q0), (0, .ref (g.ad 272)), (1, .ref au), (2, .ref ar)]) hx hb dL_isSound_6 hl (by decide) rfl (fun ls hl => ?_)
  exact L8 fu μ un ro σ0 0 _ _ _ hP hS (lv_sub hl [2, 3, 4, 1, 0] rfl) hun hro hZ hf
