/-! ROWS over the flat memory: an instruction of a method that works on a kernel -/
/-- what the tables give any method: the classes, the private statics of a nest mate -/
def xnest : List (String × Nat × MethodName) := [(RX2, 66, yX8_copyRow), (RX2, 76, yX8_at), (RX5, 24, yX8_isIn), (RX7, 251, yX8_at), (RX7, 255, yX8_set), (RX6, 83, yX8_set), (RX6, 87, yX8_at), (RX8, 86, yX4_init), (RX6, 70, yX0_init)]
/-- what can stand in a row of things -/
def xcast : List String := ["Sandglass$Resource", "Sandglass$Store", "Sandglass$Tally", "Sandglass$Script", "Sandglass$Instruction", "Sandglass$Chunk"]
def Tb (g : Geo) (U : State) : Prop := va_K g.D vwCl g.tys U ∧ (∀ q ∈ xnest, va_Nw (.methodLinkNest q.1 q.2.1 q.2.2 "Sandglass") U) ∧ (∀ C ∈ xcast, va_Nw (.castable C "java/lang/Object") U) ∧ va_AO "Sandglass$Proc" U ∧ va_AO "java/lang/Object" U
theorem Tb.warm {g : Geo} {s U : State} (hW : s.WarmedH U.vm) (h : Tb g s) : Tb g U := ⟨va_K.moved hW.alike h.1, fun q hq => va_Nw.warmM hW (h.2.1 q hq), fun C hC => va_Nw.warmC hW (h.2.2.1 C hC), va_AO.moved hW.alike h.2.2.2.1, va_AO.moved hW.alike h.2.2.2.2⟩
theorem Tb.call {g : Geo} {U : State} {f : JFrame} {mk : MethodId} {a : Array Value} (h : Tb g U) : Tb g (U.calling f mk a) := ⟨va_K.moved (u := U) (U := U.calling f mk a) (Vm.Alike.refl U.vm) h.1, fun q hq => va_Nw.same (u := U) (U := U.calling f mk a) rfl rfl (h.2.1 q hq), fun C hC => va_Nw.same (u := U) (U := U.calling f mk a) rfl rfl (h.2.2.1 C hC), va_AO.moved (u := U) (U := U.calling f mk a) (Vm.Alike.refl U.vm) h.2.2.2.1, va_AO.moved (u := U) (U := U.calling f mk a) (Vm.Alike.refl U.vm) h.2.2.2.2⟩
/-- a method's start: its arguments, the tables, a picture of the heap -/
def Pz (g : Geo) (av : List Value) (PH : Heap → Prop) : Array Value → State → Prop := va_Pc av (fun U => Tb g U ∧ PH U.heap)
theorem Pz.blind {g : Geo} {av : List Value} {PH : Heap → Prop} : FrameBlind (Pz g av PH) := fun _ _ _ _ h => ⟨h.1, Tb.call h.2.1, h.2.2⟩
/-- what a method that writes may change -/
def Ag (g : Geo) (sz : Nat) : Nat → Prop := fun q => (∃ k, k ∈ g.mut ∧ q = g.ad k) ∨ sz ≤ q
theorem Ag.sub {g : Geo} {z : Nat} {H0 H : Heap} {locs : List Loc} (hz : z = H0.size) (hS : va_S (Ag g z) H0 H locs) : ∀ q, Ag g H.size q → Ag g z q := fun q h => h.elim Or.inl (fun h => Or.inr (by have := hS.1; omega))
theorem Ag.apart {g : Geo} (hg : Good g) (z : Nat) (ν : Mem) : va_D (Ag g z) (obs g g.mut ν) := obs_apart hg (fun k hk => Or.inl ⟨k, hk, rfl⟩) ν
theorem Ag.shr {g : Geo} (hg : Good g) {μ : Mem} {H : Heap} (h : Rg g μ H) : Nf g (Ag g H.size) := by
  refine ⟨fun k hk h1 h2 => ?_, fun k hk h2 => ?_⟩
  · rcases h2 with ⟨j, hj, e⟩ | h2
    · have := hg.1 k j hk (mem_mut.mp hj).1 e
      have := (mem_mut.mp hj).2
      omega
    · have := (h.1 k hk).lt
      exact absurd h2 (Nat.not_le.mpr this)
  · rcases h2 with ⟨j, hj, e⟩ | h2
    · exact hg.2.2.2.2.2.2.2.2 j k (mem_mut.mp hj).1 hk e.symm
    · have := (h.2 k hk).lt
      exact absurd h2 (Nat.not_le.mpr this)
/-- the code's words -/
abbrev ws_ (y : MethodName) (b : ByteArray) (n : Nat) (r : Option FieldType) : List Cond := Cond.code y b n r :: lw_all
abbrev rm_ (f l mc ms : Nat) : Room := { frames := f, cells := mc, slots := ms, locals := l }
/-! combinators of the functions that say what a method does -/
def bnd {α β : Type} (x : α) (k : α → β) : β := k x
theorem bnd_eq {α β : Type} {x : α} {k : α → Option β} {r : β} (h : bnd x k = some r) : ∀ y, x = y → k y = some r := fun _ e => e ▸ h
def grd {α : Type} (c : Prop) [Decidable c] (x : Option α) : Option α := if c then x else none
theorem grd_some {α : Type} {c : Prop} [Decidable c] {x : Option α} {r : α} (h : grd c x = some r) : c ∧ x = some r := by
  unfold grd at h
  by_cases hc : c
  · rw [if_pos hc] at h; exact ⟨hc, h⟩
  · rw [if_neg hc] at h; cases h
def bnO {α β : Type} (x : Option α) (k : α → Option β) : Option β := match x with
  | none => none
  | some a => k a
theorem bnO_some {α β : Type} {x : Option α} {k : α → Option β} {r : β} (h : bnO x k = some r) : ∃ a, x = some a ∧ k a = some r := by
  cases x with
  | none => cases h
  | some a => exact ⟨a, rfl, h⟩
def bn2 {α γ β : Type} (x : Option (α × γ)) (k : α → γ → Option β) : Option β := match x with
  | none => none
  | some a => k a.1 a.2
theorem bn2_some {α γ β : Type} {x : Option (α × γ)} {k : α → γ → Option β} {r : β} (h : bn2 x k = some r) : ∃ a c, x = some (a, c) ∧ k a c = some r := by
  cases x with
  | none => cases h
  | some a => exact ⟨a.1, a.2, rfl, h⟩
def bn3 {α γ δ β : Type} (x : Option (α × γ × δ)) (k : α → γ → δ → Option β) : Option β := match x with
  | none => none
  | some a => k a.1 a.2.1 a.2.2
theorem bn3_some {α γ δ β : Type} {x : Option (α × γ × δ)} {k : α → γ → δ → Option β} {r : β} (h : bn3 x k = some r) : ∃ a c d, x = some (a, c, d) ∧ k a c d = some r := by
  cases x with
  | none => cases h
  | some a => exact ⟨a.1, a.2.1, a.2.2, rfl, h⟩
/-- what was tallied, in order: which tally, which number -/
abbrev Log : Type := List (Int32 × Int32)
def csQ {α β : Type} (x : Option α) (a : β) (k : α → β) : β := match x with
  | none => a
  | some v => k v
def fu : Nat := 3000
/-- the script that a number tells -/
def srf (x : Int32) : Option Nat := if x < 0 then none else some (114 + x.toNatClampNeg)
theorem sref_srf (g : Geo) (x : Int32) : sref g x = va_rf ((srf x).map g.ad) := by
  unfold sref srf
  by_cases h : x < 0
  · rw [if_pos h, if_pos h]; rfl
  · rw [if_neg h, if_neg h]; rfl
theorem sref_nI {g : Geo} {k : Nat} (h : isC g k) : sref g (nI (k - 114)) = .ref (g.ad k) := by
  obtain ⟨h1, -, h2⟩ := h
  unfold sref
  rw [if_neg (nI_pos (by omega)), nI_clamp (by omega)]
  congr 2
  omega
theorem set_script {g : Geo} {t k : Nat} {n : Nat → Int32} (h : isC g k) : fsP g t (upd n 1 (nI (k - 114))) = (fsP g t n).set 1 (.ref (g.ad k)) := by
  rw [← sref_nI h]
  rfl
theorem set_scriptN {g : Geo} {t : Nat} {n : Nat → Int32} : fsP g t (upd n 1 (-1)) = (fsP g t n).set 1 .null := by
  rw [← (show sref g (-1) = .null from if_pos (by decide))]
  rfl
theorem nar01 {x : Int32} (h : x = 0 ∨ x = 1) : narrow .boolean (.int x) = .int x := by
  rcases h with rfl | rfl <;> rfl
theorem fit01 {x : Int32} (h : x = 0 ∨ x = 1) : fits .boolean (.int x) = true := by
  rcases h with rfl | rfl <;> rfl
theorem sw_out {x : Int32} {n : Nat} (h : ∀ k, k < n → ¬ x = nI k) : x.toInt < 0 ∨ (n : Int) - 1 < x.toInt := by
  by_cases h0 : x < 0
  · exact Or.inl (by simpa using Int32.lt_iff_toInt_lt.mp h0)
  · obtain ⟨j, hj, e⟩ := nI_of h0
    subst e
    right
    rw [nI_toInt hj]
    rcases Nat.lt_or_ge j n with q | q
    · exact absurd rfl (h j q)
    · omega
theorem nst_0 : ((RX2, 66, yX8_copyRow) : String × Nat × MethodName) ∈ xnest := List.mem_of_getElem? (i := 0) rfl
theorem nst_1 : ((RX2, 76, yX8_at) : String × Nat × MethodName) ∈ xnest := List.mem_of_getElem? (i := 1) rfl
theorem nst_2 : ((RX5, 24, yX8_isIn) : String × Nat × MethodName) ∈ xnest := List.mem_of_getElem? (i := 2) rfl
theorem nst_3 : ((RX7, 251, yX8_at) : String × Nat × MethodName) ∈ xnest := List.mem_of_getElem? (i := 3) rfl
theorem nst_4 : ((RX7, 255, yX8_set) : String × Nat × MethodName) ∈ xnest := List.mem_of_getElem? (i := 4) rfl
theorem nst_5 : ((RX6, 83, yX8_set) : String × Nat × MethodName) ∈ xnest := List.mem_of_getElem? (i := 5) rfl
theorem nst_7 : ((RX8, 86, yX4_init) : String × Nat × MethodName) ∈ xnest := List.mem_of_getElem? (i := 7) rfl
theorem nst_8 : ((RX6, 70, yX0_init) : String × Nat × MethodName) ∈ xnest := List.mem_of_getElem? (i := 8) rfl
theorem nst_6 : ((RX6, 87, yX8_at) : String × Nat × MethodName) ∈ xnest := List.mem_of_getElem? (i := 6) rfl
section RG
variable {p : Program} {l : Launch} {e : Env} {R : Room} {s : State} {m : MethodId} {args : Array Value} {below : List Frame} {meth : Method} {c : Code} {H : Heap} {locs : List Loc} {cells slots : Nat} {Q : State → Prop}
variable {cc : ByteArray} {pc : Nat} {ls : Array Slot} {rest : List Value} {A : Nat → Prop} {H0 : Heap} {g : Geo} {μ : Mem} {k : Nat}
theorem r_get (hx : p.tables.exec = Jvm.exec) (hb : c.code = cc) (hts : ∀ w ∈ lw_all, w.before args s = true) {own ref C : String} {T : u_T} {N ci index : Nat} (hin : ∀ w ∈ u_ws C T N, w ∈ lw_all) (hown : s.vm.findClass own = some m.cls) (hT : Tb g s) (hP : Rg g μ H) (hk : k ∈ g.idx) {fs : (Nat → Int32) → List Value} (he : ∀ n, ob g k n = .inr (ci, fs n)) (hc : vwCl[ci]? = some (C, T, N)) (j : Nat) (hj : j < N) (hlink : Cond.fieldLink own index ref (T j).2.1 (T j).2.2.1 ∈ lw_all) (hsame : ∀ x, s.fieldFound? (T j).1 (T j).2.1 (T j).2.2.1 = some x → s.fieldFound? ref (T j).2.1 (T j).2.2.1 = some x) {v : Value} (hv : (fs (μ k))[j]? = some v) (hdg : decode cc pc = .ok (.getfield index, 3))
    (kk : W p l e R s m args below meth c H locs cells slots Q (F0 m (pc + 3) ls (v :: rest))) : W p l e R s m args below meth c H locs cells slots Q (F0 m pc ls (.ref (g.ad k) :: rest)) := by
  obtain ⟨j0, -, hj0⟩ := obs_get (g := g) (L := g.idx) (μ := μ) hk
  rw [he] at hj0
  exact va_get hx hb hts hin hown hT.1 hP.all j0 hj0 hc j hj (hts _ hlink) hsame hv hdg kk
theorem r_put (hx : p.tables.exec = Jvm.exec) (hb : c.code = cc) (hts : ∀ w ∈ lw_all, w.before args s = true) {own ref C : String} {T : u_T} {N ci index : Nat} (hin : ∀ w ∈ u_ws C T N, w ∈ lw_all) (ty0 : Nat → FieldType) (hty : ∀ k, k < N → parseFieldDescriptor (T k).2.2.1 = some (ty0 k)) (hnm : ∀ a, a < N → ∀ b, b < N → a ≠ b → (T a).2.1 ≠ (T b).2.1) (hown : s.vm.findClass own = some m.cls) (hT : Tb g s) (hP : Rg g μ H) (hD : ∀ ν, va_D A (obs g g.mut ν)) (hC : Rc g H0) (hN : Nf g A) (hS : va_S A H0 H locs) (hk : k ∈ g.mut) {fs : (Nat → Int32) → List Value} (he : ∀ n, ob g k n = .inr (ci, fs n)) (hc : vwCl[ci]? = some (C, T, N)) (j : Nat) (hj : j < N) (hlink : Cond.fieldLink own index ref (T j).2.1 (T j).2.2.1 ∈ lw_all) (hsame : ∀ x, s.fieldFound? (T j).1 (T j).2.1 (T j).2.2.1 = some x → s.fieldFound? ref (T j).2.1 (T j).2.2.1 = some x) (hfin : (T j).2.2.2 = false) {ty : FieldType} {v : Value} {x : Int32} (hd : parseFieldDescriptor (T j).2.2.1 = some ty) (hn : narrow ty v = v) (hfit : fits ty v = true) (hset : ∀ n, fs (upd n j x) = (fs n).set j v) (hl : j < (fs (μ k)).length) (hdg : decode cc pc = .ok (.putfield index, 3))
    (kk : ∀ (H1 : Heap) (locs1 : List Loc), Rg g (put μ k j x) H1 → va_S A H0 H1 locs1 → W p l e R s m args below meth c H1 locs1 cells slots Q (F0 m (pc + 3) ls rest)) : W p l e R s m args below meth c H locs cells slots Q (F0 m pc ls (v :: .ref (g.ad k) :: rest)) := by
  obtain ⟨j0, hi0, hj0⟩ := obs_get (g := g) (L := g.mut) (μ := μ) hk
  rw [he] at hj0
  refine va_put hx hb hts hin ty0 hty hnm hown hT.1 (hP.list (fun _ h => (mem_mut.mp h).1)) (hD μ) hS j0 hj0 hc j hj (hts _ hlink) hsame hfin hd hn hfit hl hdg (fun H1 locs1 h1 _ h3 => kk H1 locs1 (Rg.put hC hN h3 ?_) h3)
  have h2 := obs_set (g := g) (mut_nodup g) (μ := μ) (μ' := put μ k j x) hi0 (fun y hy => put_ne μ j x hy)
  rw [he, put_at, hset] at h2
  rw [h2] at h1
  exact h1
theorem r_iald (hx : p.tables.exec = Jvm.exec) (hb : c.code = cc) (hT : Tb g s) (hP : Rg g μ H) (hk : isA k) {i : Int32} (hin : ¬ (i < 0 ∨ alen k ≤ i.toNatClampNeg)) (hdg : decode cc pc = .ok (.iaload, 1))
    (kk : W p l e R s m args below meth c H locs cells slots Q (F0 m (pc + 1) ls (.int (μ k i.toNatClampNeg) :: rest))) : W p l e R s m args below meth c H locs cells slots Q (F0 m pc ls (.int i :: .ref (g.ad k) :: rest)) := by
  obtain ⟨j0, -, hj0⟩ := obs_get (g := g) (L := g.idx) (μ := μ) (inA hk)
  rw [obA hk] at hj0
  exact va_iald hx hb hT.1 hP.all j0 0 hj0 rfl hin hdg kk
theorem r_iast (hx : p.tables.exec = Jvm.exec) (hb : c.code = cc) (hT : Tb g s) (hP : Rg g μ H) (hD : ∀ ν, va_D A (obs g g.mut ν)) (hC : Rc g H0) (hN : Nf g A) (hS : va_S A H0 H locs) (hk : isA k) {i x : Int32} (hin : ¬ (i < 0 ∨ alen k ≤ i.toNatClampNeg)) (hdg : decode cc pc = .ok (.iastore, 1))
    (kk : ∀ (H1 : Heap) (locs1 : List Loc), Rg g (put μ k i.toNatClampNeg x) H1 → va_S A H0 H1 locs1 → W p l e R s m args below meth c H1 locs1 cells slots Q (F0 m (pc + 1) ls rest)) : W p l e R s m args below meth c H locs cells slots Q (F0 m pc ls (.int x :: .int i :: .ref (g.ad k) :: rest)) := by
  obtain ⟨j0, hi0, hj0⟩ := obs_get (g := g) (L := g.mut) (μ := μ) (mtA hk)
  rw [obA hk] at hj0
  refine va_iast hx hb hT.1 (hP.list (fun _ h => (mem_mut.mp h).1)) (hD μ) hS j0 0 hj0 rfl hin hdg (fun H1 locs1 h1 _ h3 => kk H1 locs1 (Rg.put hC hN h3 ?_) h3)
  have h2 := obs_set (g := g) (mut_nodup g) (μ := μ) (μ' := put μ k i.toNatClampNeg x) hi0 (fun y hy => put_ne μ _ x hy)
  rw [obA hk, put_at] at h2
  rw [h2] at h1
  exact h1
theorem r_alenA (hx : p.tables.exec = Jvm.exec) (hb : c.code = cc) (hT : Tb g s) (hP : Rg g μ H) (hk : isA k) (hdg : decode cc pc = .ok (.arraylength, 1))
    (kk : W p l e R s m args below meth c H locs cells slots Q (F0 m (pc + 1) ls (.int (nI (alen k)) :: rest))) : W p l e R s m args below meth c H locs cells slots Q (F0 m pc ls (.ref (g.ad k) :: rest)) := by
  obtain ⟨j0, -, hj0⟩ := obs_get (g := g) (L := g.idx) (μ := μ) (inA hk)
  rw [obA hk] at hj0
  exact va_alen hx hb hT.1 hP.all j0 0 hj0 (ty := .int) rfl (v := nI (alen k)) rfl hdg kk
theorem r_alenP (hx : p.tables.exec = Jvm.exec) (hb : c.code = cc) (hT : Tb g s) (hP : Rg g μ H) (hdg : decode cc pc = .ok (.arraylength, 1))
    (kk : W p l e R s m args below meth c H locs cells slots Q (F0 m (pc + 1) ls (.int 24 :: rest))) : W p l e R s m args below meth c H locs cells slots Q (F0 m pc ls (.ref (g.ad 97) :: rest)) := by
  obtain ⟨j0, -, hj0⟩ := obs_get (g := g) (L := g.idx) (μ := μ) (inBase (g := g) (k := 97) (by decide))
  rw [obPA] at hj0
  exact va_alen hx hb hT.1 hP.all j0 1 hj0 (ty := .object "Sandglass$Proc") rfl (v := 24) rfl hdg kk
theorem r_aaldP (hx : p.tables.exec = Jvm.exec) (hb : c.code = cc) (hT : Tb g s) (hP : Rg g μ H) {i : Int32} (hin : ¬ (i < 0 ∨ 24 ≤ i.toNatClampNeg)) (hdg : decode cc pc = .ok (.aaload, 1))
    (kk : isP (i.toNatClampNeg + 1) → W p l e R s m args below meth c H locs cells slots Q (F0 m (pc + 1) ls (.ref (g.ad (i.toNatClampNeg + 1)) :: rest))) : W p l e R s m args below meth c H locs cells slots Q (F0 m pc ls (.int i :: .ref (g.ad 97) :: rest)) := by
  obtain ⟨j0, -, hj0⟩ := obs_get (g := g) (L := g.idx) (μ := μ) (inBase (g := g) (k := 97) (by decide))
  rw [obPA] at hj0
  exact va_aldq hx hb hT.1 hP.all j0 1 hj0 rfl hin hdg (kk ⟨by omega, by omega⟩)
theorem r_recv (hT : Tb g s) (hP : Rg g μ H) (hk : k ∈ g.idx) {ci : Nat} {fs : (Nat → Int32) → List Value} (he : ∀ n, ob g k n = .inr (ci, fs n)) {q : vw_C} (hc : vwCl[ci]? = some q) : ∃ cell : Cell, H[g.ad k]? = some cell ∧ cell.vm.isStatics = false ∧ s.vm.findClass q.1 = some cell.cls := by
  obtain ⟨j0, -, hj0⟩ := obs_get (g := g) (L := g.idx) (μ := μ) hk
  rw [he] at hj0
  exact va_recv hT.1 hP.all hc hj0
theorem r_acmp_eq (hx : p.tables.exec = Jvm.exec) (hb : c.code = cc) (hg : Good g) {x y : Nat} (h1 : x ∈ g.idx) (h2 : y ∈ g.idx) {off : Int} {tgt : Nat} (hdg : decode cc pc = .ok (.if_acmp .eq off, 3)) (ht : (pc : Int) + off = (tgt : Int))
    (kt : x = y → W p l e R s m args below meth c H locs cells slots Q (F0 m tgt ls rest)) (kf : ¬ x = y → W p l e R s m args below meth c H locs cells slots Q (F0 m (pc + 3) ls rest)) : W p l e R s m args below meth c H locs cells slots Q (F0 m pc ls (.ref (g.ad y) :: .ref (g.ad x) :: rest)) :=
  lv_acmp_eq (rx := some (g.ad x)) (ry := some (g.ad y)) hx hb hdg ht (fun h => kt (hg.1 x y h1 h2 (Option.some.inj h))) (fun h => kf (fun z => h (by rw [z])))
theorem r_acmp_ne (hx : p.tables.exec = Jvm.exec) (hb : c.code = cc) (hg : Good g) {x y : Nat} (h1 : x ∈ g.idx) (h2 : y ∈ g.idx) {off : Int} {tgt : Nat} (hdg : decode cc pc = .ok (.if_acmp .ne off, 3)) (ht : (pc : Int) + off = (tgt : Int))
    (kt : ¬ x = y → W p l e R s m args below meth c H locs cells slots Q (F0 m tgt ls rest)) (kf : x = y → W p l e R s m args below meth c H locs cells slots Q (F0 m (pc + 3) ls rest)) : W p l e R s m args below meth c H locs cells slots Q (F0 m pc ls (.ref (g.ad y) :: .ref (g.ad x) :: rest)) :=
  lv_acmp_ne (rx := some (g.ad x)) (ry := some (g.ad y)) hx hb hdg ht (fun h => kt (fun z => h (by rw [z]))) (fun h => kf (hg.1 x y h1 h2 (Option.some.inj h)))
theorem r_acmp_neN (hx : p.tables.exec = Jvm.exec) (hb : c.code = cc) {x : Nat} {off : Int} {tgt : Nat} (hdg : decode cc pc = .ok (.if_acmp .ne off, 3)) (ht : (pc : Int) + off = (tgt : Int))
    (kt : W p l e R s m args below meth c H locs cells slots Q (F0 m tgt ls rest)) : W p l e R s m args below meth c H locs cells slots Q (F0 m pc ls (.ref x :: .null :: rest)) :=
  lv_acmp_ne (rx := none) (ry := some x) hx hb hdg ht (fun _ => kt) (fun h => by cases h)
theorem r_popQ (hx : p.tables.exec = Jvm.exec) (hb : c.code = cc) {o : Option Nat} (hdg : decode cc pc = .ok (.pop, 1)) (kk : W p l e R s m args below meth c H locs cells slots Q (F0 m (pc + 1) ls rest)) : W p l e R s m args below meth c H locs cells slots Q (F0 m pc ls (va_rf o :: rest)) :=
  lv_pop hx hb hdg (by cases o <;> rfl) kk
theorem rk_cell (hP : Rg g μ H) {k : Nat} (hk : k ∈ g.tdx) {ci : Nat} {fs : List Value} (he : obT g k = .inr (ci, fs)) : va_P g.D vwCl [(g.ta k, .inr (ci, fs))] H := by
  have h := hP.2 k hk
  rw [he] at h
  exact P1 h
theorem rk_get (hx : p.tables.exec = Jvm.exec) (hb : c.code = cc) (hts : ∀ w ∈ lw_all, w.before args s = true) {own ref : String} {index : Nat} (hin : ∀ w ∈ u_ws RX0 TX0 1, w ∈ lw_all) (hown : s.vm.findClass own = some m.cls) (hT : Tb g s) (hP : Rg g μ H) (hk : isK g k) (hlink : Cond.fieldLink own index ref (TX0 0).2.1 (TX0 0).2.2.1 ∈ lw_all) (hsame : ∀ x, s.fieldFound? (TX0 0).1 (TX0 0).2.1 (TX0 0).2.2.1 = some x → s.fieldFound? ref (TX0 0).2.1 (TX0 0).2.2.1 = some x) (hdg : decode cc pc = .ok (.getfield index, 3))
    (kk : W p l e R s m args below meth c H locs cells slots Q (F0 m (pc + 3) ls (.ref (g.ta (k + 1)) :: rest))) : W p l e R s m args below meth c H locs cells slots Q (F0 m pc ls (.ref (g.ta k) :: rest)) :=
  va_get hx hb hts hin hown hT.1 (rk_cell hP (inK hk) (obK hk)) 0 rfl rfl 0 (by decide) (hts _ hlink) hsame rfl hdg kk
theorem rk_cast (hx : p.tables.exec = Jvm.exec) (hb : c.code = cc) (hts : ∀ w ∈ lw_all, w.before args s = true) {own : String} {index : Nat} (hown : s.vm.findClass own = some m.cls) (hT : Tb g s) (hP : Rg g μ H) (hk : isK g k) (hlink : Cond.classLink own index RX0 ∈ lw_all) (hdg : decode cc pc = .ok (.checkcast index, 3))
    (kk : W p l e R s m args below meth c H locs cells slots Q (F0 m (pc + 3) ls (.ref (g.ta k) :: rest))) : W p l e R s m args below meth c H locs cells slots Q (F0 m pc ls (.ref (g.ta k) :: rest)) :=
  va_castS hx hb hown (hts _ hlink) (hT.1.1 1 _ rfl).2 (va_recv hT.1 (rk_cell hP (inK hk) (obK hk)) (q := (RX0, TX0, 1)) (ci := 1) rfl (q0 := 0) rfl) hdg kk
theorem rz_iald (hx : p.tables.exec = Jvm.exec) (hb : c.code = cc) (hT : Tb g s) (hP : Rg g μ H) (hk : isZ g k) {i : Int32} (hin : ¬ (i < 0 ∨ 512 ≤ i.toNatClampNeg)) (hdg : decode cc pc = .ok (.iaload, 1))
    (kk : W p l e R s m args below meth c H locs cells slots Q (F0 m (pc + 1) ls (.int (g.ts k i.toNatClampNeg) :: rest))) : W p l e R s m args below meth c H locs cells slots Q (F0 m pc ls (.int i :: .ref (g.ta k) :: rest)) := by
  have h := hP.2 k (inZ hk)
  rw [obZ hk] at h
  exact va_iald hx hb hT.1 (P1 h) 0 0 rfl rfl hin hdg kk
theorem rz_alen (hx : p.tables.exec = Jvm.exec) (hb : c.code = cc) (hT : Tb g s) (hP : Rg g μ H) (hk : isZ g k) (hdg : decode cc pc = .ok (.arraylength, 1))
    (kk : W p l e R s m args below meth c H locs cells slots Q (F0 m (pc + 1) ls (.int 512 :: rest))) : W p l e R s m args below meth c H locs cells slots Q (F0 m pc ls (.ref (g.ta k) :: rest)) := by
  have h := hP.2 k (inZ hk)
  rw [obZ hk] at h
  exact va_alen hx hb hT.1 (P1 h) 0 0 rfl (ty := .int) rfl (v := 512) rfl hdg kk
end RG
theorem sw_out13 {x : Int32} (h0 : ¬ x = 0) (h1 : ¬ x = 1) (h2 : ¬ x = 2) (h3 : ¬ x = 3) (h4 : ¬ x = 4) (h5 : ¬ x = 5) (h6 : ¬ x = 6) (h7 : ¬ x = 7) (h8 : ¬ x = 8) (h9 : ¬ x = 9) (h10 : ¬ x = 10) (h11 : ¬ x = 11) (h12 : ¬ x = 12) : x.toInt < 0 ∨ 12 < x.toInt := by
  have h := sw_out (x := x) (n := 13) (fun k hk => by
    rcases (show k = 0 ∨ k = 1 ∨ k = 2 ∨ k = 3 ∨ k = 4 ∨ k = 5 ∨ k = 6 ∨ k = 7 ∨ k = 8 ∨ k = 9 ∨ k = 10 ∨ k = 11 ∨ k = 12 by omega) with rfl | rfl | rfl | rfl | rfl | rfl | rfl | rfl | rfl | rfl | rfl | rfl | rfl
    · exact h0
    · exact h1
    · exact h2
    · exact h3
    · exact h4
    · exact h5
    · exact h6
    · exact h7
    · exact h8
    · exact h9
    · exact h10
    · exact h11
    · exact h12)
  rcases h with h | h
  · exact Or.inl h
  · exact Or.inr (by omega)
theorem sw_out4 {x : Int32} (h0 : ¬ x = 0) (h1 : ¬ x = 1) (h2 : ¬ x = 2) (h3 : ¬ x = 3) : x.toInt < 0 ∨ 3 < x.toInt := by
  have h := sw_out (x := x) (n := 4) (fun k hk => by
    rcases (show k = 0 ∨ k = 1 ∨ k = 2 ∨ k = 3 by omega) with rfl | rfl | rfl | rfl
    · exact h0
    · exact h1
    · exact h2
    · exact h3)
  rcases h with h | h
  · exact Or.inl h
  · exact Or.inr (by omega)
theorem sw_out14 {x : Int32} (h0 : ¬ x = 0) (h1 : ¬ x = 1) (h2 : ¬ x = 2) (h3 : ¬ x = 3) (h4 : ¬ x = 4) (h5 : ¬ x = 5) (h6 : ¬ x = 6) (h7 : ¬ x = 7) (h8 : ¬ x = 8) (h9 : ¬ x = 9) (h10 : ¬ x = 10) (h11 : ¬ x = 11) (h12 : ¬ x = 12) (h13 : ¬ x = 13) : x.toInt < 0 ∨ 13 < x.toInt := by
  have h := sw_out (x := x) (n := 14) (fun k hk => by
    rcases (show k = 0 ∨ k = 1 ∨ k = 2 ∨ k = 3 ∨ k = 4 ∨ k = 5 ∨ k = 6 ∨ k = 7 ∨ k = 8 ∨ k = 9 ∨ k = 10 ∨ k = 11 ∨ k = 12 ∨ k = 13 by omega) with rfl | rfl | rfl | rfl | rfl | rfl | rfl | rfl | rfl | rfl | rfl | rfl | rfl | rfl
    · exact h0
    · exact h1
    · exact h2
    · exact h3
    · exact h4
    · exact h5
    · exact h6
    · exact h7
    · exact h8
    · exact h9
    · exact h10
    · exact h11
    · exact h12
    · exact h13)
  rcases h with h | h
  · exact Or.inl h
  · exact Or.inr (by omega)
