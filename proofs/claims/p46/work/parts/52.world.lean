/-! World, Sandglass made -/
theorem Psw {D : va_G} {cl : List vw_C} (a : va_W) {b c : va_W} {H : Heap} (h : va_P D cl ((a ++ b) ++ c) H) : va_P D cl (a ++ (c ++ b)) H := Pp h (by rw [List.append_assoc]; exact List.Perm.append_left a List.perm_append_comm)
theorem Dsw {A : Nat → Prop} (a : va_W) {b c : va_W} (h : va_D A ((a ++ b) ++ c)) : va_D A (a ++ (c ++ b)) := Dp h (by rw [List.append_assoc]; exact List.Perm.append_left a List.perm_append_comm)
/-- the processes' row when i of them are made -/
def rowF (i : Nat) (ad : Nat → Nat) : Nat → Option Nat := fun j => if j < i then some (ad (j + 1)) else none
abbrev prE (ad : Nat → Nat) (j : Nat) : va_E := .inr (3, [.int (nI j), .null, .int 0, .int 0, .int 0, .int 0, .int 0, .int (-1), .int 0, .int (-1), .int 0, .int 0, .int 0, .int 0, .ref (ad (j + 25)), .ref (ad (j + 49)), .ref (ad (j + 73))])
/-- i processes with their rows -/
def PLd (c0 : ClassId) (i : Nat) (pl : va_W) (ad : Nat → Nat) : Prop := pl.length = 4 * i ∧ ∀ j, j < i → pl[4 * j]? = some (ad (j + 1), prE ad j) ∧ pl[4 * j + 1]? = some (ad (j + 25), .inl (c0, 16, .inl (fun _ => 0))) ∧ pl[4 * j + 2]? = some (ad (j + 49), .inl (c0, 6, .inl (fun _ => 0))) ∧ pl[4 * j + 3]? = some (ad (j + 73), .inl (c0, 6, .inl (fun _ => 0)))
/-- one process more -/
def ad4 (i : Nat) (ad : Nat → Nat) (q q1 q2 q3 : Nat) : Nat → Nat := fun k => if k = i + 1 then q else if k = i + 25 then q1 else if k = i + 49 then q2 else if k = i + 73 then q3 else ad k
theorem PLd.next {c0 : ClassId} {i : Nat} {pl : va_W} {ad : Nat → Nat} (h : PLd c0 i pl ad) (hi : i < 24) (q q1 q2 q3 : Nat) : PLd c0 (i + 1) (pl ++ [(q, prE (ad4 i ad q q1 q2 q3) i), (q1, .inl (c0, 16, .inl (fun _ => 0))), (q2, .inl (c0, 6, .inl (fun _ => 0))), (q3, .inl (c0, 6, .inl (fun _ => 0)))]) (ad4 i ad q q1 q2 q3) := by
  obtain ⟨h1, h2⟩ := h
  refine ⟨by simp [h1]; omega, fun j hj => ?_⟩
  by_cases hji : j = i
  · subst hji
    have e0 : ad4 j ad q q1 q2 q3 (j + 1) = q := by unfold ad4; rw [if_pos rfl]
    have e1 : ad4 j ad q q1 q2 q3 (j + 25) = q1 := by unfold ad4; rw [if_neg (by omega), if_pos rfl]
    have e2 : ad4 j ad q q1 q2 q3 (j + 49) = q2 := by unfold ad4; rw [if_neg (by omega), if_neg (by omega), if_pos rfl]
    have e3 : ad4 j ad q q1 q2 q3 (j + 73) = q3 := by unfold ad4; rw [if_neg (by omega), if_neg (by omega), if_neg (by omega), if_pos rfl]
    rw [List.getElem?_append_right (by omega), List.getElem?_append_right (by omega), List.getElem?_append_right (by omega), List.getElem?_append_right (by omega), h1, e0, e1, e2, e3]
    rw [show 4 * j - 4 * j = 0 by omega, show 4 * j + 1 - 4 * j = 1 by omega, show 4 * j + 2 - 4 * j = 2 by omega, show 4 * j + 3 - 4 * j = 3 by omega]
    exact ⟨rfl, rfl, rfl, rfl⟩
  · have hj2 : j < i := by omega
    obtain ⟨a0, a1, a2, a3⟩ := h2 j hj2
    have e0 : ad4 i ad q q1 q2 q3 (j + 1) = ad (j + 1) := by unfold ad4; rw [if_neg (by omega), if_neg (by omega), if_neg (by omega), if_neg (by omega)]
    have e1 : ad4 i ad q q1 q2 q3 (j + 25) = ad (j + 25) := by unfold ad4; rw [if_neg (by omega), if_neg (by omega), if_neg (by omega), if_neg (by omega)]
    have e2 : ad4 i ad q q1 q2 q3 (j + 49) = ad (j + 49) := by unfold ad4; rw [if_neg (by omega), if_neg (by omega), if_neg (by omega), if_neg (by omega)]
    have e3 : ad4 i ad q q1 q2 q3 (j + 73) = ad (j + 73) := by unfold ad4; rw [if_neg (by omega), if_neg (by omega), if_neg (by omega), if_neg (by omega)]
    rw [List.getElem?_append_left (by omega), List.getElem?_append_left (by omega), List.getElem?_append_left (by omega), List.getElem?_append_left (by omega)]
    refine ⟨?_, by rw [e1]; exact a1, by rw [e2]; exact a2, by rw [e3]; exact a3⟩
    rw [a0]
    unfold prE
    rw [e0, e1, e2, e3]
theorem rowF_next {i : Nat} {ad : Nat → Nat} (hi : i < 24) (q q1 q2 q3 : Nat) : va_up (rowF i ad) (nI i).toNatClampNeg (some q) = rowF (i + 1) (ad4 i ad q q1 q2 q3) := by
  rw [nI_clamp (by omega)]
  funext j
  unfold va_up rowF
  by_cases hji : j = i
  · subst hji
    rw [if_pos rfl, if_pos (by omega)]
    unfold ad4
    rw [if_pos rfl]
  · rw [if_neg hji]
    by_cases hj : j < i
    · rw [if_pos hj, if_pos (by omega)]
      unfold ad4
      rw [if_neg (by omega), if_neg (by omega), if_neg (by omega), if_neg (by omega)]
    · rw [if_neg hj, if_neg (by omega)]
theorem hd_X7_init : yX7_init.cls = RX7 ∧ yX7_init.cls ≠ "java/lang/invoke/MethodHandle" ∧ yX7_init.cls ≠ "java/lang/invoke/VarHandle" ∧ (parseMethodDescriptor yX7_init.desc).map (fun d => d.parameters.length) = some 2 := by decide +kernel
set_option maxHeartbeats 8000000 in
set_option maxRecDepth 100000 in
theorem x_X7_init (l : Launch) {D : va_G} {tys : List (ClassId × FieldType)} {z b : Nat} {k0 k1 k2 : Nat} {c0 c1 c2 : ClassId} (h0 : tys[k0]? = some (c0, .int)) (h2 : tys[k2]? = some (c2, .object "java/lang/Object")) (h1 : tys[k1]? = some (c1, .object "Sandglass$Proc")) (w sl tl : Nat) (sz : Nat) : Met l yX7_init (ws_ yX7_init cX7_init 4 none) (rm_ 4 72 99 1110) (Xe D tys z b c2 [.ref w, .ref sl, .ref tl] (fun H9 => H9.size = sz) [(w, .inr (8, [.null, .null, .null, .null, .null, .int 0, .int 0, .int 0, .int 0, .int 0]))]) (va_Qv (fun _ : Unit => True) (fun _ t => ∃ (rl st row : Nat) (ad : Nat → Nat) (pl : va_W), PLd c0 24 pl ad ∧ va_P D vwCl ((w, .inr (8, [.ref sl, .ref tl, .ref rl, .ref st, .ref row, .int 0, .int 0, .int 0, .int 0, .int 0])) :: (rl, .inr (0, [.int 0, .ref z, .int 0])) :: (st, .inr (0, [.int 0, .ref z, .int 0])) :: (row, .inl (c1, 24, .inr (.inr (.inr (.inr (rowF 24 ad)))))) :: pl) t.heap ∧ va_D (va_A [(w, .inr (8, [.null, .null, .null, .null, .null, .int 0, .int 0, .int 0, .int 0, .int 0]))] sz) ((w, .inr (8, [.ref sl, .ref tl, .ref rl, .ref st, .ref row, .int 0, .int 0, .int 0, .int 0, .int 0])) :: (rl, .inr (0, [.int 0, .ref z, .int 0])) :: (st, .inr (0, [.int 0, .ref z, .int 0])) :: (row, .inl (c1, 24, .inr (.inr (.inr (.inr (rowF 24 ad)))))) :: pl)) (va_A [(w, .inr (8, [.null, .null, .null, .null, .null, .int 0, .int 0, .int 0, .int 0, .int 0]))] sz)) 99 1110 (va_A [(w, .inr (8, [.null, .null, .null, .null, .null, .int 0, .int 0, .int 0, .int 0, .int 0]))] sz) := by
  refine Met.ofW (cc := cX7_init) (maxL := 4) (ret := none) (by decide) rfl ?_
  intro p e9 s m args below meth c s₁ B hml hv
  obtain ⟨rfl, ⟨hT, hE⟩, hsz, hP, hD0⟩ := hv
  have hx := B.exec
  have hb := B.bytes
  have hr := B.returns
  have hts : ∀ w ∈ lw_all, w.before _ s = true := fun w h => atoms_spec (ws := (ws_ yX7_init cX7_init 4 none)) B.pre w (List.mem_cons_of_mem _ h)
  have hown : s.vm.findClass RX7 = some m.cls := findClass_of_methodNamed B.named
  have hlocks := B.notSynchronized
  have hin9 : meth.name = "<init>" := (name_of_methodNamed B.named B.method).1
  subst hsz
  have hD := hD0.self (sz := s.heap.size)
  have hAb : ∀ q, va_A [(w, .inr (8, [.null, .null, .null, .null, .null, .int 0, .int 0, .int 0, .int 0, .int 0]))] s.heap.size q → b ≤ q := fun q h => h.elim (fun ⟨k, e, h⟩ => hD0.2 k _ h) (fun h => Nat.le_trans hE.2.2.1 h)
  generalize hAe : va_A [(w, .inr (8, [.null, .null, .null, .null, .null, .int 0, .int 0, .int 0, .int 0, .int 0]))] s.heap.size = A at hD hAb ⊢
  have hA : ∀ q : Nat, s.heap.size ≤ q → A q := fun q h => by rw [← hAe]; exact Or.inr h
  have hS : va_S A s.heap s.heap [] := va_S.rf
  have hZ := hE.1.narrow hAb
  have hE0 := fun (H9 : Heap) (l9 : List Loc) (h9 : va_S A s.heap H9 l9) => Em.row hE h9 hAb
  have L47 : ∀ (n i : Nat) (rl st row : Nat) (pl : va_W) (ad : Nat → Nat) (H : Heap) (locs : List Loc) (ls : Array Slot), i + n = 24 → PLd c0 i pl ad → va_P D vwCl ((w, .inr (8, [.ref sl, .ref tl, .ref rl, .ref st, .ref row, .int 0, .int 0, .int 0, .int 0, .int 0])) :: (row, .inl (c1, 24, .inr (.inr (.inr (.inr (rowF i ad)))))) :: (rl, .inr (0, [.int 0, .ref z, .int 0])) :: (st, .inr (0, [.int 0, .ref z, .int 0])) :: pl) H → va_D A ((w, .inr (8, [.ref sl, .ref tl, .ref rl, .ref st, .ref row, .int 0, .int 0, .int 0, .int 0, .int 0])) :: (row, .inl (c1, 24, .inr (.inr (.inr (.inr (rowF i ad)))))) :: (rl, .inr (0, [.int 0, .ref z, .int 0])) :: (st, .inr (0, [.int 0, .ref z, .int 0])) :: pl) → va_S A s.heap H locs → lv_has ls 4 [(0, .ref w), (3, .int (nI i))] → W p l e9 (headSpec (ws_ yX7_init cX7_init 4 none) (rm_ 4 72 99 1110)).room s m ([.ref w, .ref sl, .ref tl] : List Value).toArray below meth c H locs (3 + 4 * i) (30 + 45 * i) (MQ below (va_Qv (fun _ : Unit => True) (fun _ t => ∃ (rl st row : Nat) (ad : Nat → Nat) (pl : va_W), PLd c0 24 pl ad ∧ va_P D vwCl ((w, .inr (8, [.ref sl, .ref tl, .ref rl, .ref st, .ref row, .int 0, .int 0, .int 0, .int 0, .int 0])) :: (rl, .inr (0, [.int 0, .ref z, .int 0])) :: (st, .inr (0, [.int 0, .ref z, .int 0])) :: (row, .inl (c1, 24, .inr (.inr (.inr (.inr (rowF 24 ad)))))) :: pl) t.heap ∧ va_D A ((w, .inr (8, [.ref sl, .ref tl, .ref rl, .ref st, .ref row, .int 0, .int 0, .int 0, .int 0, .int 0])) :: (rl, .inr (0, [.int 0, .ref z, .int 0])) :: (st, .inr (0, [.int 0, .ref z, .int 0])) :: (row, .inl (c1, 24, .inr (.inr (.inr (.inr (rowF 24 ad)))))) :: pl)) A) ([.ref w, .ref sl, .ref tl] : List Value).toArray s 99 1110 A) (F0 m 47 ls []) := by
    intro n
    induction n with
    | zero =>
      intro i rl st row pl ad H locs ls hin hPL hP hD hS hl
      refine lv_iload_n hx hb dX7_init_47 rfl (lv_at hl 1 rfl) ?_
      refine lv_aload_n hx hb dX7_init_48 rfl (lv_at hl 0 rfl) ?_
      refine va_get hx hb hts i_X7 hown hT.1 hP 0 rfl rfl 4 (by decide) (hts _ q194) (fun _ h9 => h9) rfl dX7_init_49 ?_
      refine va_alen hx hb hT.1 hP 1 k1 rfl h1 (v := 24) rfl dX7_init_52 ?_
      obtain rfl : i = 24 := by omega
      refine lv_icmp_ge (tgt := 76) hx hb dX7_init_53 (by decide) (fun _ => ?_) (fun h9 => absurd ((lp_le (i := 24) (by decide)).mpr (Nat.le_refl _)) h9)
      have hP : va_P D vwCl ((w, .inr (8, [.ref sl, .ref tl, .ref rl, .ref st, .ref row, .int 0, .int 0, .int 0, .int 0, .int 0])) :: (rl, .inr (0, [.int 0, .ref z, .int 0])) :: (st, .inr (0, [.int 0, .ref z, .int 0])) :: (row, .inl (c1, 24, .inr (.inr (.inr (.inr (rowF 24 ad)))))) :: pl) H := Pp hP (by
        refine List.Perm.cons _ ?_
        exact (List.perm_middle (l₁ := ([(rl, .inr (0, [.int 0, .ref z, .int 0])), (st, .inr (0, [.int 0, .ref z, .int 0]))] : va_W))))
      have hD : va_D A ((w, .inr (8, [.ref sl, .ref tl, .ref rl, .ref st, .ref row, .int 0, .int 0, .int 0, .int 0, .int 0])) :: (rl, .inr (0, [.int 0, .ref z, .int 0])) :: (st, .inr (0, [.int 0, .ref z, .int 0])) :: (row, .inl (c1, 24, .inr (.inr (.inr (.inr (rowF 24 ad)))))) :: pl) := Dp hD (by
        refine List.Perm.cons _ ?_
        exact (List.perm_middle (l₁ := ([(rl, .inr (0, [.int 0, .ref z, .int 0])), (st, .inr (0, [.int 0, .ref z, .int 0]))] : va_W))))
      exact W.vret hx hb hr (fun t9 ht hW => ⟨⟨(), rfl, trivial, rl, st, row, ad, pl, hPL, by rw [ht]; exact hP, hD⟩, hS.F ht⟩) hS.2.2 dX7_init_76
    | succ n ih =>
      intro i rl st row pl ad H locs ls hin hPL hP hD hS hl
      refine lv_iload_n hx hb dX7_init_47 rfl (lv_at hl 1 rfl) ?_
      refine lv_aload_n hx hb dX7_init_48 rfl (lv_at hl 0 rfl) ?_
      refine va_get hx hb hts i_X7 hown hT.1 hP 0 rfl rfl 4 (by decide) (hts _ q194) (fun _ h9 => h9) rfl dX7_init_49 ?_
      refine va_alen hx hb hT.1 hP 1 k1 rfl h1 (v := 24) rfl dX7_init_52 ?_
      have hi : i < 24 := by omega
      refine lv_icmp_ge (tgt := 76) hx hb dX7_init_53 (by decide) (fun h9 => absurd ((lp_le (by omega)).mp h9) (by omega)) (fun _ => ?_)
      refine lv_aload_n hx hb dX7_init_56 rfl (lv_at hl 0 rfl) ?_
      refine va_get hx hb hts i_X7 hown hT.1 hP 0 rfl rfl 4 (by decide) (hts _ q194) (fun _ h9 => h9) rfl dX7_init_57 ?_
      refine lv_iload_n hx hb dX7_init_60 rfl (lv_at hl 1 rfl) ?_
      refine va_new (ci := 3) (fs := [.int 0, .null, .int 0, .int 0, .int 0, .int 0, .int 0, .int 0, .int 0, .int 0, .int 0, .int 0, .int 0, .int 0, .null, .null, .null]) (C := RX2) (T := TX2) (N := 17) hx hb hts i_X2 tyX2 tyX2_ok hown (hts _ q104) (hts _ q106) (hts _ q42) hT.1 hP hD hS hA rfl (fun j hj => by rcases (show j = 0 ∨ j = 1 ∨ j = 2 ∨ j = 3 ∨ j = 4 ∨ j = 5 ∨ j = 6 ∨ j = 7 ∨ j = 8 ∨ j = 9 ∨ j = 10 ∨ j = 11 ∨ j = 12 ∨ j = 13 ∨ j = 14 ∨ j = 15 ∨ j = 16 by omega) with rfl | rfl | rfl | rfl | rfl | rfl | rfl | rfl | rfl | rfl | rfl | rfl | rfl | rfl | rfl | rfl | rfl <;> rfl) (by show 3 + 4 * i + 1 ≤ 99; omega) (by show 30 + 45 * i + 17 ≤ 1110; omega) dX7_init_61 (fun q H hP hD hS => ?_)
      have hP := Pnw hP
      have hD := Dnw hD
      have hPc := Pl [(q, .inr (3, [.int 0, .null, .int 0, .int 0, .int 0, .int 0, .int 0, .int 0, .int 0, .int 0, .int 0, .int 0, .int 0, .int 0, .null, .null, .null]))] (w2 := ((w, .inr (8, [.ref sl, .ref tl, .ref rl, .ref st, .ref row, .int 0, .int 0, .int 0, .int 0, .int 0])) :: (row, .inl (c1, 24, .inr (.inr (.inr (.inr (rowF i ad)))))) :: (rl, .inr (0, [.int 0, .ref z, .int 0])) :: (st, .inr (0, [.int 0, .ref z, .int 0])) :: pl)) hP
      have hDc := Dl [(q, .inr (3, [.int 0, .null, .int 0, .int 0, .int 0, .int 0, .int 0, .int 0, .int 0, .int 0, .int 0, .int 0, .int 0, .int 0, .null, .null, .null]))] (w2 := ((w, .inr (8, [.ref sl, .ref tl, .ref rl, .ref st, .ref row, .int 0, .int 0, .int 0, .int 0, .int 0])) :: (row, .inl (c1, 24, .inr (.inr (.inr (.inr (rowF i ad)))))) :: (rl, .inr (0, [.int 0, .ref z, .int 0])) :: (st, .inr (0, [.int 0, .ref z, .int 0])) :: pl)) hD
      have hFc := Ff (w1 := [(q, .inr (3, [.int 0, .null, .int 0, .int 0, .int 0, .int 0, .int 0, .int 0, .int 0, .int 0, .int 0, .int 0, .int 0, .int 0, .null, .null, .null]))]) (w2 := ((w, .inr (8, [.ref sl, .ref tl, .ref rl, .ref st, .ref row, .int 0, .int 0, .int 0, .int 0, .int 0])) :: (row, .inl (c1, 24, .inr (.inr (.inr (.inr (rowF i ad)))))) :: (rl, .inr (0, [.int 0, .ref z, .int 0])) :: (st, .inr (0, [.int 0, .ref z, .int 0])) :: pl)) hD hS hA
      refine lv_dup hx hb dX7_init_64 rfl ?_
      refine lv_iload_n hx hb dX7_init_65 rfl (lv_at hl 1 rfl) ?_
      refine va_callv (va_runI (As := [.int (nI i)]) (rest := [.ref q, .int (nI i), .ref row]) ⟨hx, hb, hml, hown, hts⟩ (x_X2_init l h0 h2 q (nI i) H.size) (cwI 1 hts (gd_code q109) rfl rfl rfl (hts _ q42) (hts _ q107) (hts _ q108) rfl hd_X2_init.2 ⟨Nat.le_of_ble_eq_true rfl, Nat.le_of_ble_eq_true rfl⟩) ⟨Xe.blind, fun U hU hW => ⟨rfl, Xe.warm hW hT hE hS hAb hU, by show U.heap.size = _; rw [hU], by rw [hU]; exact hPc, hDc.weaken (fun k q _ h => hAb _ h)⟩⟩ rfl rfl hl.1 rfl (lv_room (Nat.le_of_ble_eq_true rfl)) dX7_init_66 ⟨(by show 3 + 4 * i + 1 + 3 ≤ 99; omega), (by show 30 + 45 * i + 17 + 28 ≤ 1110; omega)⟩) hS (fun q _ h => hFc q h) hFc (fun u9 t9 H1 locs ht9 hvm9 hw9 hB9 hz9 hk9 hS => ?_)
      obtain ⟨q1, q2, q3, hP1, hD1⟩ := hB9
      rw [ht9] at hP1
      obtain ⟨hP, hD⟩ := Jn (wc := [(q, .inr (3, [.int 0, .null, .int 0, .int 0, .int 0, .int 0, .int 0, .int 0, .int 0, .int 0, .int 0, .int 0, .int 0, .int 0, .null, .null, .null]))]) (wr := ((w, .inr (8, [.ref sl, .ref tl, .ref rl, .ref st, .ref row, .int 0, .int 0, .int 0, .int 0, .int 0])) :: (row, .inl (c1, 24, .inr (.inr (.inr (.inr (rowF i ad)))))) :: (rl, .inr (0, [.int 0, .ref z, .int 0])) :: (st, .inr (0, [.int 0, .ref z, .int 0])) :: pl)) hP hD hk9 hFc hP1 hD1
      generalize H1 = H at hP hS ⊢
      have hP : va_P D vwCl ((q, .inr (3, [.int (nI i), .null, .int 0, .int 0, .int 0, .int 0, .int 0, .int (-1), .int 0, .int (-1), .int 0, .int 0, .int 0, .int 0, .ref q1, .ref q2, .ref q3])) :: (q1, .inl (c0, 16, .inl (fun _ => 0))) :: (q2, .inl (c0, 6, .inl (fun _ => 0))) :: (q3, .inl (c0, 6, .inl (fun _ => 0))) :: (w, .inr (8, [.ref sl, .ref tl, .ref rl, .ref st, .ref row, .int 0, .int 0, .int 0, .int 0, .int 0])) :: (row, .inl (c1, 24, .inr (.inr (.inr (.inr (rowF i ad)))))) :: (rl, .inr (0, [.int 0, .ref z, .int 0])) :: (st, .inr (0, [.int 0, .ref z, .int 0])) :: pl) H := hP
      have hD : va_D A ((q, .inr (3, [.int (nI i), .null, .int 0, .int 0, .int 0, .int 0, .int 0, .int (-1), .int 0, .int (-1), .int 0, .int 0, .int 0, .int 0, .ref q1, .ref q2, .ref q3])) :: (q1, .inl (c0, 16, .inl (fun _ => 0))) :: (q2, .inl (c0, 6, .inl (fun _ => 0))) :: (q3, .inl (c0, 6, .inl (fun _ => 0))) :: (w, .inr (8, [.ref sl, .ref tl, .ref rl, .ref st, .ref row, .int 0, .int 0, .int 0, .int 0, .int 0])) :: (row, .inl (c1, 24, .inr (.inr (.inr (.inr (rowF i ad)))))) :: (rl, .inr (0, [.int 0, .ref z, .int 0])) :: (st, .inr (0, [.int 0, .ref z, .int 0])) :: pl) := hD
      refine va_astq hx hb hT.1 hP hD hS 5 k1 0 3 rfl h1 rfl rfl (vp_in_nI hi (by decide)) dX7_init_69 (fun H locs hP hD hS => ?_)
      rw [rowF_next hi q q1 q2 q3] at hP hD
      have e9 : ((q, .inr (3, [.int (nI i), .null, .int 0, .int 0, .int 0, .int 0, .int 0, .int (-1), .int 0, .int (-1), .int 0, .int 0, .int 0, .int 0, .ref q1, .ref q2, .ref q3])) : Nat × va_E) = (q, prE (ad4 i ad q q1 q2 q3) i) := by
        unfold prE ad4
        rw [if_neg (by omega), if_pos rfl, if_neg (by omega), if_neg (by omega), if_pos rfl, if_neg (by omega), if_neg (by omega), if_neg (by omega), if_pos rfl]
      have hP : va_P D vwCl ((q, .inr (3, [.int (nI i), .null, .int 0, .int 0, .int 0, .int 0, .int 0, .int (-1), .int 0, .int (-1), .int 0, .int 0, .int 0, .int 0, .ref q1, .ref q2, .ref q3])) :: (q1, .inl (c0, 16, .inl (fun _ => 0))) :: (q2, .inl (c0, 6, .inl (fun _ => 0))) :: (q3, .inl (c0, 6, .inl (fun _ => 0))) :: (w, .inr (8, [.ref sl, .ref tl, .ref rl, .ref st, .ref row, .int 0, .int 0, .int 0, .int 0, .int 0])) :: (row, .inl (c1, 24, .inr (.inr (.inr (.inr (rowF (i + 1) (ad4 i ad q q1 q2 q3))))))) :: (rl, .inr (0, [.int 0, .ref z, .int 0])) :: (st, .inr (0, [.int 0, .ref z, .int 0])) :: pl) H := hP
      have hD : va_D A ((q, .inr (3, [.int (nI i), .null, .int 0, .int 0, .int 0, .int 0, .int 0, .int (-1), .int 0, .int (-1), .int 0, .int 0, .int 0, .int 0, .ref q1, .ref q2, .ref q3])) :: (q1, .inl (c0, 16, .inl (fun _ => 0))) :: (q2, .inl (c0, 6, .inl (fun _ => 0))) :: (q3, .inl (c0, 6, .inl (fun _ => 0))) :: (w, .inr (8, [.ref sl, .ref tl, .ref rl, .ref st, .ref row, .int 0, .int 0, .int 0, .int 0, .int 0])) :: (row, .inl (c1, 24, .inr (.inr (.inr (.inr (rowF (i + 1) (ad4 i ad q q1 q2 q3))))))) :: (rl, .inr (0, [.int 0, .ref z, .int 0])) :: (st, .inr (0, [.int 0, .ref z, .int 0])) :: pl) := hD
      rw [e9] at hP hD
      have hP : va_P D vwCl ((w, .inr (8, [.ref sl, .ref tl, .ref rl, .ref st, .ref row, .int 0, .int 0, .int 0, .int 0, .int 0])) :: (row, .inl (c1, 24, .inr (.inr (.inr (.inr (rowF (i + 1) (ad4 i ad q q1 q2 q3))))))) :: (rl, .inr (0, [.int 0, .ref z, .int 0])) :: (st, .inr (0, [.int 0, .ref z, .int 0])) :: (pl ++ [(q, prE (ad4 i ad q q1 q2 q3) i), (q1, .inl (c0, 16, .inl (fun _ => 0))), (q2, .inl (c0, 6, .inl (fun _ => 0))), (q3, .inl (c0, 6, .inl (fun _ => 0)))])) H := Pp hP (List.perm_append_comm (l₁ := ((w, .inr (8, [.ref sl, .ref tl, .ref rl, .ref st, .ref row, .int 0, .int 0, .int 0, .int 0, .int 0])) :: (row, .inl (c1, 24, .inr (.inr (.inr (.inr (rowF (i + 1) (ad4 i ad q q1 q2 q3))))))) :: (rl, .inr (0, [.int 0, .ref z, .int 0])) :: (st, .inr (0, [.int 0, .ref z, .int 0])) :: pl : va_W)) (l₂ := ([(q, prE (ad4 i ad q q1 q2 q3) i), (q1, .inl (c0, 16, .inl (fun _ => 0))), (q2, .inl (c0, 6, .inl (fun _ => 0))), (q3, .inl (c0, 6, .inl (fun _ => 0)))] : va_W)))
      have hD : va_D A ((w, .inr (8, [.ref sl, .ref tl, .ref rl, .ref st, .ref row, .int 0, .int 0, .int 0, .int 0, .int 0])) :: (row, .inl (c1, 24, .inr (.inr (.inr (.inr (rowF (i + 1) (ad4 i ad q q1 q2 q3))))))) :: (rl, .inr (0, [.int 0, .ref z, .int 0])) :: (st, .inr (0, [.int 0, .ref z, .int 0])) :: (pl ++ [(q, prE (ad4 i ad q q1 q2 q3) i), (q1, .inl (c0, 16, .inl (fun _ => 0))), (q2, .inl (c0, 6, .inl (fun _ => 0))), (q3, .inl (c0, 6, .inl (fun _ => 0)))])) := Dp hD (List.perm_append_comm (l₁ := ((w, .inr (8, [.ref sl, .ref tl, .ref rl, .ref st, .ref row, .int 0, .int 0, .int 0, .int 0, .int 0])) :: (row, .inl (c1, 24, .inr (.inr (.inr (.inr (rowF (i + 1) (ad4 i ad q q1 q2 q3))))))) :: (rl, .inr (0, [.int 0, .ref z, .int 0])) :: (st, .inr (0, [.int 0, .ref z, .int 0])) :: pl : va_W)) (l₂ := ([(q, prE (ad4 i ad q q1 q2 q3) i), (q1, .inl (c0, 16, .inl (fun _ => 0))), (q2, .inl (c0, 6, .inl (fun _ => 0))), (q3, .inl (c0, 6, .inl (fun _ => 0)))] : va_W)))
      refine lv_iinc (v := nI (i + 1)) (lv' := [(3, .int (nI (i + 1))), (0, .ref w)]) hx hb dX7_init_70 hl (k := 1) rfl (nI_1 i) (by decide) rfl (fun ls hl => ?_)
      refine lv_goto (tgt := 47) hx hb dX7_init_73 (by decide) ?_
      refine W.widen (k := 3 + 4 * (i + 1)) (n := 30 + 45 * (i + 1)) (by omega) (by omega) ?_
      exact ih (i + 1) rl st row _ (ad4 i ad q q1 q2 q3) H locs ls (by omega) (hPL.next hi q q1 q2 q3) hP hD hS (lv_sub hl [1, 0] rfl)
  obtain ⟨H, hHe⟩ : ∃ H : Heap, H = s.heap := ⟨_, rfl⟩
  have hP : va_P D vwCl [(w, .inr (8, [.null, .null, .null, .null, .null, .int 0, .int 0, .int 0, .int 0, .int 0]))] s.heap := hP
  have hl := lv_entry ([.ref w, .ref sl, .ref tl]) (n := 4) (Nat.le_of_ble_eq_true rfl)
  rw [lg_entry_eq]
  generalize (lg_sl ([.ref w, .ref sl, .ref tl]) ++ List.replicate (4 - (lg_sl ([.ref w, .ref sl, .ref tl])).length) Slot.unset).toArray = ls at hl ⊢
  have hl : lv_has ls 4 [(0, .ref w), (1, .ref sl), (2, .ref tl)] := hl
  clear hHe H
  refine lv_aload_n hx hb dX7_init_0 rfl (lv_at hl 0 rfl) ?_
  refine W.objInit hx hb hown (hts _ q101) (hts _ q68) (hts _ q69) rfl (by rw [hml]; exact hl.1) rfl dX7_init_1 (Nat.le_of_ble_eq_true rfl) (Nat.le_of_ble_eq_true rfl) ?_
  refine W.eq (g2 := F0 m 4 ls []) rfl ?_
  refine lv_aload_n hx hb dX7_init_4 rfl (lv_at hl 0 rfl) ?_
  refine va_new (ci := 0) (fs := [.int 0, .null, .int 0]) (C := RJx4a65c) (T := TJx4a65c) (N := 3) hx hb hts i_Jx4a65c tyJx4a65c tyJx4a65c_ok hown (hts _ q102) (hts _ q71) (hts _ q40) hT.1 hP hD hS hA rfl (fun j hj => by rcases (show j = 0 ∨ j = 1 ∨ j = 2 by omega) with rfl | rfl | rfl <;> rfl) (Nat.le_of_ble_eq_true rfl) (Nat.le_of_ble_eq_true rfl) dX7_init_5 (fun q1 H hP hD hS => ?_)
  have hP := Pnw hP
  have hD := Dnw hD
  have hP : va_P D vwCl [(q1, .inr (0, [.int 0, .null, .int 0])), (w, .inr (8, [.null, .null, .null, .null, .null, .int 0, .int 0, .int 0, .int 0, .int 0]))] H := hP
  have hD : va_D A [(q1, .inr (0, [.int 0, .null, .int 0])), (w, .inr (8, [.null, .null, .null, .null, .null, .int 0, .int 0, .int 0, .int 0, .int 0]))] := hD
  refine lv_dup hx hb dX7_init_8 rfl ?_
  have hPc := Pl [(q1, .inr (0, [.int 0, .null, .int 0]))] hP
  have hDc := Dl [(q1, .inr (0, [.int 0, .null, .int 0]))] hD
  have hFc := Ff (w1 := [(q1, .inr (0, [.int 0, .null, .int 0]))]) hD hS hA
  refine va_callv (va_runI (As := []) (rest := [.ref q1, .ref w]) ⟨hx, hb, hml, hown, hts⟩ (x_Jx4a65c_init_da8c8 l h0 h2 q1 H.size) (cwI 0 hts (gd_code q74) rfl rfl rfl (hts _ q40) (hts _ q103) (hts _ q73) rfl hd_Jx4a65c_init_da8c8.2 ⟨Nat.le_of_ble_eq_true rfl, Nat.le_of_ble_eq_true rfl⟩) ⟨Xe.blind, fun U hU hW => ⟨rfl, Xe.warm hW hT hE hS hAb hU, by show U.heap.size = _; rw [hU], by rw [hU]; exact hPc, hDc.weaken (fun k q _ h => hAb _ h)⟩⟩ rfl rfl hl.1 rfl (lv_room (Nat.le_of_ble_eq_true rfl)) dX7_init_9 ⟨Nat.le_of_ble_eq_true rfl, Nat.le_of_ble_eq_true rfl⟩) hS (fun q _ h => hFc q h) hFc (fun u9 t9 H1 locs ht9 hvm9 hw9 hB9 hz9 hk9 hS => ?_)
  obtain ⟨hP1, hD1⟩ := hB9
  rw [ht9] at hP1
  obtain ⟨hP, hD⟩ := Jn (wc := [(q1, .inr (0, [.int 0, .null, .int 0]))]) hP hD hk9 hFc hP1 hD1
  generalize H1 = H at hP hS ⊢
  have hP : va_P D vwCl [(q1, .inr (0, [.int 0, .ref z, .int 0])), (w, .inr (8, [.null, .null, .null, .null, .null, .int 0, .int 0, .int 0, .int 0, .int 0]))] H := hP
  have hD : va_D A [(q1, .inr (0, [.int 0, .ref z, .int 0])), (w, .inr (8, [.null, .null, .null, .null, .null, .int 0, .int 0, .int 0, .int 0, .int 0]))] := hD
  refine va_putF (D := D) (ci := 8) (v := .ref q1) (ty := (.object "java/util/ArrayList")) hx hb hts i_X7 tyX7 tyX7_ok nmX7 hown hT.1 hP hD hS 1 rfl rfl 2 (by decide) (hts _ q190) (fun _ h9 => h9) rfl hin9 rfl (by decide +kernel) rfl rfl (Nat.le_of_ble_eq_true rfl) dX7_init_12 (fun H locs hP hD hS => ?_)
  have hP : va_P D vwCl [(q1, .inr (0, [.int 0, .ref z, .int 0])), (w, .inr (8, [.null, .null, .ref q1, .null, .null, .int 0, .int 0, .int 0, .int 0, .int 0]))] H := hP
  have hD : va_D A [(q1, .inr (0, [.int 0, .ref z, .int 0])), (w, .inr (8, [.null, .null, .ref q1, .null, .null, .int 0, .int 0, .int 0, .int 0, .int 0]))] := hD
  refine lv_aload_n hx hb dX7_init_15 rfl (lv_at hl 0 rfl) ?_
  refine va_new (ci := 0) (fs := [.int 0, .null, .int 0]) (C := RJx4a65c) (T := TJx4a65c) (N := 3) hx hb hts i_Jx4a65c tyJx4a65c tyJx4a65c_ok hown (hts _ q102) (hts _ q71) (hts _ q40) hT.1 hP hD hS hA rfl (fun j hj => by rcases (show j = 0 ∨ j = 1 ∨ j = 2 by omega) with rfl | rfl | rfl <;> rfl) (Nat.le_of_ble_eq_true rfl) (Nat.le_of_ble_eq_true rfl) dX7_init_16 (fun q2 H hP hD hS => ?_)
  have hP := Pnw hP
  have hD := Dnw hD
  have hP : va_P D vwCl [(q2, .inr (0, [.int 0, .null, .int 0])), (q1, .inr (0, [.int 0, .ref z, .int 0])), (w, .inr (8, [.null, .null, .ref q1, .null, .null, .int 0, .int 0, .int 0, .int 0, .int 0]))] H := hP
  have hD : va_D A [(q2, .inr (0, [.int 0, .null, .int 0])), (q1, .inr (0, [.int 0, .ref z, .int 0])), (w, .inr (8, [.null, .null, .ref q1, .null, .null, .int 0, .int 0, .int 0, .int 0, .int 0]))] := hD
  refine lv_dup hx hb dX7_init_19 rfl ?_
  have hPc := Pl [(q2, .inr (0, [.int 0, .null, .int 0]))] hP
  have hDc := Dl [(q2, .inr (0, [.int 0, .null, .int 0]))] hD
  have hFc := Ff (w1 := [(q2, .inr (0, [.int 0, .null, .int 0]))]) hD hS hA
  refine va_callv (va_runI (As := []) (rest := [.ref q2, .ref w]) ⟨hx, hb, hml, hown, hts⟩ (x_Jx4a65c_init_da8c8 l h0 h2 q2 H.size) (cwI 0 hts (gd_code q74) rfl rfl rfl (hts _ q40) (hts _ q103) (hts _ q73) rfl hd_Jx4a65c_init_da8c8.2 ⟨Nat.le_of_ble_eq_true rfl, Nat.le_of_ble_eq_true rfl⟩) ⟨Xe.blind, fun U hU hW => ⟨rfl, Xe.warm hW hT hE hS hAb hU, by show U.heap.size = _; rw [hU], by rw [hU]; exact hPc, hDc.weaken (fun k q _ h => hAb _ h)⟩⟩ rfl rfl hl.1 rfl (lv_room (Nat.le_of_ble_eq_true rfl)) dX7_init_20 ⟨Nat.le_of_ble_eq_true rfl, Nat.le_of_ble_eq_true rfl⟩) hS (fun q _ h => hFc q h) hFc (fun u9 t9 H1 locs ht9 hvm9 hw9 hB9 hz9 hk9 hS => ?_)
  obtain ⟨hP1, hD1⟩ := hB9
  rw [ht9] at hP1
  obtain ⟨hP, hD⟩ := Jn (wc := [(q2, .inr (0, [.int 0, .null, .int 0]))]) hP hD hk9 hFc hP1 hD1
  generalize H1 = H at hP hS ⊢
  have hP : va_P D vwCl [(q2, .inr (0, [.int 0, .ref z, .int 0])), (q1, .inr (0, [.int 0, .ref z, .int 0])), (w, .inr (8, [.null, .null, .ref q1, .null, .null, .int 0, .int 0, .int 0, .int 0, .int 0]))] H := hP
  have hD : va_D A [(q2, .inr (0, [.int 0, .ref z, .int 0])), (q1, .inr (0, [.int 0, .ref z, .int 0])), (w, .inr (8, [.null, .null, .ref q1, .null, .null, .int 0, .int 0, .int 0, .int 0, .int 0]))] := hD
  refine va_putF (D := D) (ci := 8) (v := .ref q2) (ty := (.object "java/util/ArrayList")) hx hb hts i_X7 tyX7 tyX7_ok nmX7 hown hT.1 hP hD hS 2 rfl rfl 3 (by decide) (hts _ q192) (fun _ h9 => h9) rfl hin9 rfl (by decide +kernel) rfl rfl (Nat.le_of_ble_eq_true rfl) dX7_init_23 (fun H locs hP hD hS => ?_)
  have hP : va_P D vwCl [(q2, .inr (0, [.int 0, .ref z, .int 0])), (q1, .inr (0, [.int 0, .ref z, .int 0])), (w, .inr (8, [.null, .null, .ref q1, .ref q2, .null, .int 0, .int 0, .int 0, .int 0, .int 0]))] H := hP
  have hD : va_D A [(q2, .inr (0, [.int 0, .ref z, .int 0])), (q1, .inr (0, [.int 0, .ref z, .int 0])), (w, .inr (8, [.null, .null, .ref q1, .ref q2, .null, .int 0, .int 0, .int 0, .int 0, .int 0]))] := hD
  refine lv_aload_n hx hb dX7_init_26 rfl (lv_at hl 0 rfl) ?_
  refine lv_bipush (v := 24) hx hb dX7_init_27 (by decide) ?_
  refine va_newq (C := "Sandglass$Proc") (N' := 24) hx hb hown (hts _ q104) hT.2.2.2.1 hT.1 hP hD hS hA (by decide) rfl (Nat.le_of_ble_eq_true rfl) (Nat.le_of_ble_eq_true rfl) (Nat.le_of_ble_eq_true rfl) dX7_init_29 (fun row cA H hK9 hP hD hS => ?_)
  have e9 : cA = c1 := RAo hK9 h1
  rw [e9] at hP hD
  have hP := Pnw hP
  have hD := Dnw hD
  have hP : va_P D vwCl [(row, .inl (c1, 24, .inr (.inr (.inr (.inr (fun _ => none)))))), (q2, .inr (0, [.int 0, .ref z, .int 0])), (q1, .inr (0, [.int 0, .ref z, .int 0])), (w, .inr (8, [.null, .null, .ref q1, .ref q2, .null, .int 0, .int 0, .int 0, .int 0, .int 0]))] H := hP
  have hD : va_D A [(row, .inl (c1, 24, .inr (.inr (.inr (.inr (fun _ => none)))))), (q2, .inr (0, [.int 0, .ref z, .int 0])), (q1, .inr (0, [.int 0, .ref z, .int 0])), (w, .inr (8, [.null, .null, .ref q1, .ref q2, .null, .int 0, .int 0, .int 0, .int 0, .int 0]))] := hD
  refine va_putF (D := D) (ci := 8) (v := .ref row) (ty := (.array (.object "Sandglass$Proc"))) hx hb hts i_X7 tyX7 tyX7_ok nmX7 hown hT.1 hP hD hS 3 rfl rfl 4 (by decide) (hts _ q194) (fun _ h9 => h9) rfl hin9 rfl (by decide +kernel) rfl rfl (Nat.le_of_ble_eq_true rfl) dX7_init_32 (fun H locs hP hD hS => ?_)
  have hP : va_P D vwCl [(row, .inl (c1, 24, .inr (.inr (.inr (.inr (fun _ => none)))))), (q2, .inr (0, [.int 0, .ref z, .int 0])), (q1, .inr (0, [.int 0, .ref z, .int 0])), (w, .inr (8, [.null, .null, .ref q1, .ref q2, .ref row, .int 0, .int 0, .int 0, .int 0, .int 0]))] H := hP
  have hD : va_D A [(row, .inl (c1, 24, .inr (.inr (.inr (.inr (fun _ => none)))))), (q2, .inr (0, [.int 0, .ref z, .int 0])), (q1, .inr (0, [.int 0, .ref z, .int 0])), (w, .inr (8, [.null, .null, .ref q1, .ref q2, .ref row, .int 0, .int 0, .int 0, .int 0, .int 0]))] := hD
  refine lv_aload_n hx hb dX7_init_35 rfl (lv_at hl 0 rfl) ?_
  refine lv_aload_n hx hb dX7_init_36 rfl (lv_at hl 1 rfl) ?_
  refine va_putF (D := D) (ci := 8) (v := .ref sl) (ty := (.object "java/util/ArrayList")) hx hb hts i_X7 tyX7 tyX7_ok nmX7 hown hT.1 hP hD hS 3 rfl rfl 0 (by decide) (hts _ q188) (fun _ h9 => h9) rfl hin9 rfl (by decide +kernel) rfl rfl (Nat.le_of_ble_eq_true rfl) dX7_init_37 (fun H locs hP hD hS => ?_)
  have hP : va_P D vwCl [(row, .inl (c1, 24, .inr (.inr (.inr (.inr (fun _ => none)))))), (q2, .inr (0, [.int 0, .ref z, .int 0])), (q1, .inr (0, [.int 0, .ref z, .int 0])), (w, .inr (8, [.ref sl, .null, .ref q1, .ref q2, .ref row, .int 0, .int 0, .int 0, .int 0, .int 0]))] H := hP
  have hD : va_D A [(row, .inl (c1, 24, .inr (.inr (.inr (.inr (fun _ => none)))))), (q2, .inr (0, [.int 0, .ref z, .int 0])), (q1, .inr (0, [.int 0, .ref z, .int 0])), (w, .inr (8, [.ref sl, .null, .ref q1, .ref q2, .ref row, .int 0, .int 0, .int 0, .int 0, .int 0]))] := hD
  refine lv_aload_n hx hb dX7_init_40 rfl (lv_at hl 0 rfl) ?_
  refine lv_aload_n hx hb dX7_init_41 rfl (lv_at hl 2 rfl) ?_
  refine va_putF (D := D) (ci := 8) (v := .ref tl) (ty := (.object "java/util/ArrayList")) hx hb hts i_X7 tyX7 tyX7_ok nmX7 hown hT.1 hP hD hS 3 rfl rfl 1 (by decide) (hts _ q189) (fun _ h9 => h9) rfl hin9 rfl (by decide +kernel) rfl rfl (Nat.le_of_ble_eq_true rfl) dX7_init_42 (fun H locs hP hD hS => ?_)
  have hP : va_P D vwCl [(row, .inl (c1, 24, .inr (.inr (.inr (.inr (fun _ => none)))))), (q2, .inr (0, [.int 0, .ref z, .int 0])), (q1, .inr (0, [.int 0, .ref z, .int 0])), (w, .inr (8, [.ref sl, .ref tl, .ref q1, .ref q2, .ref row, .int 0, .int 0, .int 0, .int 0, .int 0]))] H := hP
  have hD : va_D A [(row, .inl (c1, 24, .inr (.inr (.inr (.inr (fun _ => none)))))), (q2, .inr (0, [.int 0, .ref z, .int 0])), (q1, .inr (0, [.int 0, .ref z, .int 0])), (w, .inr (8, [.ref sl, .ref tl, .ref q1, .ref q2, .ref row, .int 0, .int 0, .int 0, .int 0, .int 0]))] := hD
  refine lv_iconst (v := 0) hx hb dX7_init_45 (by decide) ?_
  refine lv_istore_n (lv' := [(3, .int 0), (0, .ref w), (1, .ref sl), (2, .ref tl)]) hx hb dX7_init_46 rfl hl (by decide) rfl (fun ls hl => ?_)
  have hP := Pmv [(row, .inl (c1, 24, .inr (.inr (.inr (.inr (fun _ => none))))))] hP
  have hD := Dmv [(row, .inl (c1, 24, .inr (.inr (.inr (.inr (fun _ => none))))))] hD
  have hP : va_P D vwCl [(q2, .inr (0, [.int 0, .ref z, .int 0])), (row, .inl (c1, 24, .inr (.inr (.inr (.inr (fun _ => none)))))), (q1, .inr (0, [.int 0, .ref z, .int 0])), (w, .inr (8, [.ref sl, .ref tl, .ref q1, .ref q2, .ref row, .int 0, .int 0, .int 0, .int 0, .int 0]))] H := hP
  have hD : va_D A [(q2, .inr (0, [.int 0, .ref z, .int 0])), (row, .inl (c1, 24, .inr (.inr (.inr (.inr (fun _ => none)))))), (q1, .inr (0, [.int 0, .ref z, .int 0])), (w, .inr (8, [.ref sl, .ref tl, .ref q1, .ref q2, .ref row, .int 0, .int 0, .int 0, .int 0, .int 0]))] := hD
  have hP := Pmv [(q2, .inr (0, [.int 0, .ref z, .int 0])), (row, .inl (c1, 24, .inr (.inr (.inr (.inr (fun _ => none))))))] hP
  have hD := Dmv [(q2, .inr (0, [.int 0, .ref z, .int 0])), (row, .inl (c1, 24, .inr (.inr (.inr (.inr (fun _ => none))))))] hD
  have hP : va_P D vwCl [(q1, .inr (0, [.int 0, .ref z, .int 0])), (q2, .inr (0, [.int 0, .ref z, .int 0])), (row, .inl (c1, 24, .inr (.inr (.inr (.inr (fun _ => none)))))), (w, .inr (8, [.ref sl, .ref tl, .ref q1, .ref q2, .ref row, .int 0, .int 0, .int 0, .int 0, .int 0]))] H := hP
  have hD : va_D A [(q1, .inr (0, [.int 0, .ref z, .int 0])), (q2, .inr (0, [.int 0, .ref z, .int 0])), (row, .inl (c1, 24, .inr (.inr (.inr (.inr (fun _ => none)))))), (w, .inr (8, [.ref sl, .ref tl, .ref q1, .ref q2, .ref row, .int 0, .int 0, .int 0, .int 0, .int 0]))] := hD
  have hP := Pmv [(q1, .inr (0, [.int 0, .ref z, .int 0])), (q2, .inr (0, [.int 0, .ref z, .int 0]))] hP
  have hD := Dmv [(q1, .inr (0, [.int 0, .ref z, .int 0])), (q2, .inr (0, [.int 0, .ref z, .int 0]))] hD
  have hP : va_P D vwCl [(row, .inl (c1, 24, .inr (.inr (.inr (.inr (fun _ => none)))))), (q1, .inr (0, [.int 0, .ref z, .int 0])), (q2, .inr (0, [.int 0, .ref z, .int 0])), (w, .inr (8, [.ref sl, .ref tl, .ref q1, .ref q2, .ref row, .int 0, .int 0, .int 0, .int 0, .int 0]))] H := hP
  have hD : va_D A [(row, .inl (c1, 24, .inr (.inr (.inr (.inr (fun _ => none)))))), (q1, .inr (0, [.int 0, .ref z, .int 0])), (q2, .inr (0, [.int 0, .ref z, .int 0])), (w, .inr (8, [.ref sl, .ref tl, .ref q1, .ref q2, .ref row, .int 0, .int 0, .int 0, .int 0, .int 0]))] := hD
  have hP := Pmv [(row, .inl (c1, 24, .inr (.inr (.inr (.inr (fun _ => none)))))), (q1, .inr (0, [.int 0, .ref z, .int 0])), (q2, .inr (0, [.int 0, .ref z, .int 0]))] hP
  have hD := Dmv [(row, .inl (c1, 24, .inr (.inr (.inr (.inr (fun _ => none)))))), (q1, .inr (0, [.int 0, .ref z, .int 0])), (q2, .inr (0, [.int 0, .ref z, .int 0]))] hD
  have hP : va_P D vwCl [(w, .inr (8, [.ref sl, .ref tl, .ref q1, .ref q2, .ref row, .int 0, .int 0, .int 0, .int 0, .int 0])), (row, .inl (c1, 24, .inr (.inr (.inr (.inr (fun _ => none)))))), (q1, .inr (0, [.int 0, .ref z, .int 0])), (q2, .inr (0, [.int 0, .ref z, .int 0]))] H := hP
  have hD : va_D A [(w, .inr (8, [.ref sl, .ref tl, .ref q1, .ref q2, .ref row, .int 0, .int 0, .int 0, .int 0, .int 0])), (row, .inl (c1, 24, .inr (.inr (.inr (.inr (fun _ => none)))))), (q1, .inr (0, [.int 0, .ref z, .int 0])), (q2, .inr (0, [.int 0, .ref z, .int 0]))] := hD
  have er : (fun _ => none) = rowF 0 (fun _ => 0) := by
    funext j
    unfold rowF
    rw [if_neg (Nat.not_lt_zero _)]
  rw [er] at hP hD
  exact L47 24 0 q1 q2 row [] (fun _ => 0) H locs ls rfl ⟨rfl, fun j hj => absurd hj (Nat.not_lt_zero _)⟩ hP hD hS (lv_sub hl [1, 0] rfl)
