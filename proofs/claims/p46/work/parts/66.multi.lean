/-! rows of rows made at once: a row of the machine for multianewarray -/
def mrow (M : Nat) (cI : ClassId) : Cell := { cls := cI, slots := Array.replicate M (.int 0), vm := .none }
def mout (cA : ClassId) (N a : Nat) : Nat → Cell
  | 0 => { cls := cA, slots := Array.replicate N .null, vm := .none }
  | i + 1 => (mout cA N a i).setSlot i (.ref (a + (i + 1)))
def mst (s : State) (cA cI : ClassId) (N M : Nat) : Nat → State
  | 0 => s.pushCell (mout cA N s.heap.size 0)
  | i + 1 => ((mst s cA cI N M i).pushCell (mrow M cI)).setCell s.heap.size (mout cA N s.heap.size (i + 1))
theorem mout_is (cA : ClassId) (N a i : Nat) : (mout cA N a i).cls = cA ∧ (mout cA N a i).vm = .none ∧ (mout cA N a i).slots.size = N := by
  induction i with
  | zero => exact ⟨rfl, rfl, Array.size_replicate⟩
  | succ i ih =>
    obtain ⟨h1, h2, h3⟩ := ih
    refine ⟨?_, ?_, ?_⟩
    · simp [mout, Cell.setSlot, h1]
    · simp [mout, Cell.setSlot, h2]
    · simp [mout, Cell.setSlot, h3]
theorem mst_is (s : State) (cA cI : ClassId) (N M i : Nat) : (mst s cA cI N M i).heap.size = s.heap.size + (1 + i) ∧ (mst s cA cI N M i).heap[s.heap.size]? = some (mout cA N s.heap.size i) ∧ (mst s cA cI N M i).vm = s.vm ∧ (mst s cA cI N M i).slotsUsed = s.slotsUsed + (N + i * M) ∧ ∀ a : Nat, a < s.heap.size → (mst s cA cI N M i).heap[a]? = s.heap[a]? := by
  induction i with
  | zero =>
    refine ⟨?_, State.heap_pushCell_size _ _, rfl, ?_, fun a ha => State.heap_pushCell_of_lt _ _ ha⟩
    · simp [mst]
    · simp [mst, mout]
  | succ i ih =>
    obtain ⟨h1, h2, h3, h4, h5⟩ := ih
    have hlt : s.heap.size < (mst s cA cI N M i).heap.size := by omega
    have h6 : ((mst s cA cI N M i).pushCell (mrow M cI)).heap[s.heap.size]? = some (mout cA N s.heap.size i) := (State.heap_pushCell_of_lt _ _ hlt).trans h2
    refine ⟨?_, State.heap_setCell_self h6, ?_, ?_, fun a ha => ?_⟩
    · simp [mst, State.setCell, h1]
      omega
    · simp [mst, h3]
    · simp [mst, h4, mrow, Nat.succ_mul]
      omega
    · show (((mst s cA cI N M i).pushCell (mrow M cI)).setCell s.heap.size _).heap[a]? = _
      rw [State.heap_setCell_other (Nat.ne_of_gt ha)]
      exact (State.heap_pushCell_of_lt _ _ (Nat.lt_trans ha hlt)).trans (h5 a ha)
theorem mst_top (s : State) (f : JFrame) (cA cI : ClassId) (N M i : Nat) : mst (s.setTop f) cA cI N M i = (mst s cA cI N M i).setTop f := by
  induction i with
  | zero => rfl
  | succ i ih => simp only [mst, ih, State.heap_setTop, State.pushCell_setTop, State.setCell_setTop]
section
variable {p : Program} {l : Launch} {e : Env} {R : Room} {s : State} {m : MethodId} {args : Array Value} {below : List Frame} {meth : Method} {c : Code} {T : State} {locs : List Loc} {cells slots : Nat}
theorem mst_stand (X : Stand p l e R s m args below meth c T locs cells slots) (cA cI : ClassId) (N M i : Nat) : Stand p l e R s m args below meth c (mst T cA cI N M i) locs (cells + (1 + i)) (slots + (N + i * M)) := by
  induction i with
  | zero =>
    have h := X.pushed (mout cA N T.heap.size 0)
    rw [(mout_is cA N T.heap.size 0).2.2] at h
    simpa [mst] using h
  | succ i ih =>
    obtain ⟨f1, f2, -, -, -⟩ := mst_is T cA cI N M i
    have hlt : T.heap.size < (mst T cA cI N M i).heap.size := by omega
    have h6 : ((mst T cA cI N M i).pushCell (mrow M cI)).heap[T.heap.size]? = some (mout cA N T.heap.size i) := (State.heap_pushCell_of_lt _ _ hlt).trans f2
    have h := (ih.pushed (mrow M cI)).stored h6 i (.ref (T.heap.size + (i + 1)))
    have e1 : (mrow M cI).slots.size = M := Array.size_replicate
    rw [e1] at h
    have h7 := Stand.dropFresh h (fun x hx => by rw [List.mem_singleton.mp hx]; exact X.heapGrown)
    have e2 : slots + (N + (i + 1) * M) = slots + (N + i * M) + M := by rw [Nat.succ_mul]; omega
    rw [e2, show cells + (1 + (i + 1)) = cells + (1 + i) + 1 by omega]
    exact h7
theorem wp_arr {E : CtlPost} {d : Bool} {acts : List Action} {U : State} {k comp : ClassId} {K : Class} {ty : FieldType} {n : Nat} {v : Value} (hk : U.vm.classes[k]? = some K) (hkd : K.kind = .array comp ty) (hl : n ≤ e.platform.arrayLengthLimit) (hh : n * componentBytes ty ≤ e.platform.maxHeapBytes) (hf : fits ty v = true) (hd : v.isDefault = true) (h1 : U.heap.size < e.platform.maxCells) (h2 : U.slotsUsed + n ≤ e.platform.maxSlots) {Q : Addr → Pre} (hq : Q U.heap.size d acts (U.pushCell { cls := k, slots := Array.replicate n v, vm := .none })) : wp (Jvm.newArray k n v) Q E e d acts U := by
  have hfit : ∀ (i : Nat) (x : Value), (Array.replicate n v)[i]? = some x → U.fitsSlot k .none i x = true := fun i x hx => by
    rw [Array.getElem?_replicate] at hx
    split at hx
    · cases hx
      simp [State.fitsSlot, State.slotType?, hk, hkd, hf]
    · cases hx
  have hact : allocActs (Array.replicate n v) U.heap.size acts = acts := by
    unfold allocActs
    rw [if_pos (by rw [Array.all_replicate]; split <;> simp [hd])]
  simp only [Jvm.newArray, Jvm.arrayFits, wp_bind', W.ask, W.ite, wp_pure', W.theClass, hk, hkd, W.alloc, W.stop, Option.some.injEq, exists_eq_left', Array.size_replicate, hact]
  rw [if_neg (by omega), if_neg (by omega), if_neg (by omega)]
  exact ⟨h1, h2, hfit, hq⟩
theorem wp_grid {E : CtlPost} {d : Bool} {acts : List Action} {U : State} {cA cI cc : ClassId} {kA kI : Class} {n k : Int32} (hA : U.vm.classes[cA]? = some kA) (hAk : kA.kind = .array cI (.array .int)) (hI : U.vm.classes[cI]? = some kI) (hIk : kI.kind = .array cc .int) (hn : ¬ n < 0) (hk : ¬ k < 0) (hl1 : n.toNatClampNeg ≤ e.platform.arrayLengthLimit) (hh1 : n.toNatClampNeg * 4 ≤ e.platform.maxHeapBytes) (hl2 : k.toNatClampNeg ≤ e.platform.arrayLengthLimit) (hh2 : k.toNatClampNeg * 4 ≤ e.platform.maxHeapBytes)
    (hc : U.heap.size + (1 + n.toNatClampNeg) ≤ e.platform.maxCells) (hs : U.slotsUsed + (n.toNatClampNeg + n.toNatClampNeg * k.toNatClampNeg) ≤ e.platform.maxSlots) {Q : Addr → Pre} (hq : ∀ d' acts', Q U.heap.size d' acts' (mst U cA cI n.toNatClampNeg k.toNatClampNeg n.toNatClampNeg)) : wp (Jvm.Op.multianewarray.make cA [n, k]) Q E e d acts U := by
  have hfi : ([k].find? (· < 0)) = none := by simp [hk]
  rw [Jvm.Op.multianewarray.make]
  simp only [wp_bind', W.ite, hn, if_false, wp_pure', W.theClass, hA, hAk, Option.some.injEq, exists_eq_left']
  have hmul : ∀ i, i < n.toNatClampNeg → i * k.toNatClampNeg + k.toNatClampNeg ≤ n.toNatClampNeg * k.toNatClampNeg := fun i hi => by
    have := Nat.mul_le_mul_right k.toNatClampNeg (show i + 1 ≤ n.toNatClampNeg from hi)
    rw [Nat.succ_mul] at this
    exact this
  refine wp_arr hA hAk hl1 hh1 rfl rfl (by omega) (by omega) ?_
  simp only [hfi]
  rw [ite_self, wp_bind', Std.Legacy.Range.forIn_eq_forIn_range', show ([:n.toNatClampNeg] : Std.Legacy.Range).size = n.toNatClampNeg by simp [Std.Legacy.Range.size]]
  show wp (forIn (List.range' 0 n.toNatClampNeg 1) PUnit.unit _) _ E e d acts _
  refine wp_forIn_inv (fun rest U' => ∃ i, i + rest.length = n.toNatClampNeg ∧ rest = List.range' i rest.length ∧ U' = mst U cA cI n.toNatClampNeg k.toNatClampNeg i) _ _ ⟨0, by simp, by simp, rfl⟩ ?_ ?_
  · rintro x rest U' d' acts' Q' ⟨i, hi, hr, rfl⟩ hnext
    rw [List.length_cons] at hi hr
    rw [List.range'_succ] at hr
    obtain ⟨hxi, hr⟩ := List.cons.inj hr
    subst hxi
    have hlt : x < n.toNatClampNeg := by omega
    have hml := hmul x hlt
    obtain ⟨f1, f2, f3, f4, -⟩ := mst_is U cA cI n.toNatClampNeg k.toNatClampNeg x
    obtain ⟨o1, o2, o3⟩ := mout_is cA n.toNatClampNeg U.heap.size x
    simp only [wp_bind']
    rw [Jvm.Op.multianewarray.make]
    simp only [wp_bind', W.ite, hk, if_false, wp_pure', W.theClass, f3, hI, hIk, Option.some.injEq, exists_eq_left']
    refine wp_arr (by rw [f3]; exact hI) hIk hl2 hh2 rfl rfl (by rw [f1]; omega) (by rw [f4]; omega) ?_
    have hlt0 : U.heap.size < (mst U cA cI n.toNatClampNeg k.toNatClampNeg x).heap.size := by omega
    simp only [wp_bind', W.writeLoc, wp_pure']
    refine ⟨mout cA n.toNatClampNeg U.heap.size x, (State.heap_pushCell_of_lt _ _ hlt0).trans f2, by rw [o2]; simp, by rw [o3]; exact hlt, ?_, hnext _ _ _ ⟨x + 1, by omega, hr, ?_⟩⟩
    · rw [o1, o2]
      simp [State.fitsSlot, State.slotType?, f3, hA, hAk, fits]
    · rw [f1, show U.heap.size + (1 + x) = U.heap.size + (x + 1) by omega]
      rfl
  · rintro U' d' acts' ⟨i, hi, -, rfl⟩
    have : i = n.toNatClampNeg := by simpa using hi
    subst this
    simp only [wp_pure']
    exact hq _ _
end
section
variable {p : Program} {l : Launch} {e : Env} {R : Room} {s : State} {m : MethodId} {args : Array Value} {below : List Frame} {meth : Method} {c : Code} {H : Heap} {locs : List Loc} {cells slots : Nat} {Q : State → Prop}
variable {cc : ByteArray} {pc : Nat} {ls : Array Slot} {rest : List Value} {A : Nat → Prop} {H0 : Heap}
theorem va_multi (hx : p.tables.exec = Jvm.exec) (hb : c.code = cc) {own : String} {index : Nat} (hown : s.vm.findClass own = some m.cls) (hclink : (Cond.classLink own index "[[I").before args s = true) (hover : (Cond.arrayOver (.array .int)).before args s = true) (harr : (Cond.arrayClass .int).before args s = true) (hS : va_S A H0 H locs) {n k : Int32} {N M : Nat} (hn : n = nI N) (hk : k = nI M) (hN : N ≤ 1000) (hM : M ≤ 10000) (hcells : cells + (1 + N) ≤ R.cells) (hslots : slots + (N + N * M) ≤ R.slots) (hdg : decode cc pc = .ok (.multianewarray index 2, 4))
    (kk : ∀ (q : Nat) (H1 : Heap), H.size ≤ q → q < H1.size → H.size ≤ H1.size → (∀ x : Nat, x < H.size → H1[x]? = H[x]?) → va_S A H0 H1 locs → W p l e R s m args below meth c H1 locs (cells + (1 + N)) (slots + (N + N * M)) Q (F0 m (pc + 4) ls (.ref q :: rest))) : W p l e R s m args below meth c H locs cells slots Q (F0 m pc ls (.int k :: .int n :: rest)) := by
  intro T hT X
  subst hT
  subst hb
  have n1 : n.toNatClampNeg = N := by rw [hn, nI_clamp (by omega)]
  have k1 : k.toNatClampNeg = M := by rw [hk, nI_clamp (by omega)]
  have hn0 : ¬ n < 0 := by rw [hn]; exact nI_pos (by omega)
  have hk0 : ¬ k < 0 := by rw [hk]; exact nI_pos (by omega)
  obtain ⟨cI, cA, kA, hfI, -, hkA, hdA, hfA⟩ := arrayOverA_spec hover
  obtain ⟨cI', kI, cc, hfI', hkI, hdI⟩ := Cond.arrayClass_spec harr
  have ecI : cI' = cI := Option.some.inj (hfI'.symm.trans hfI)
  subst ecI
  obtain ⟨c0, hfc0, hcl⟩ := Cond.classLink_spec hown hclink e.platform (by rw [X.admits.platform])
  have ecA : c0 = cA := Option.some.inj (hfc0.symm.trans hfA)
  subst ecA
  obtain ⟨hg1, hwarm1, hready1⟩ := State.classEntry (e := e) X.warmed hcl
  generalize T.vm.noted m.cls index (.cls c0) = vm1 at hg1 hwarm1 hready1
  have hal : s.vm.Alike vm1 := hwarm1.alike
  obtain ⟨kA1, hkA1, heA⟩ := hal.2.2 _ _ hkA
  obtain ⟨kI1, hkI1, heI⟩ := hal.2.2 _ _ hkI
  have hdA1 : kA1.kind = .array cI' (.array .int) := by rw [heA]; exact hdA
  have hdI1 : kI1.kind = .array cc .int := by rw [heI]; exact hdI
  have X1 := X.noted hwarm1
  obtain ⟨hr1, hr2⟩ := X.roomAbove hcells hslots
  have XF := mst_stand X1 c0 cI' N M N
  obtain ⟨f1, -, -, -, f5⟩ := mst_is (T.setVm vm1) c0 cI' N M N
  have f1 : (mst (T.setVm vm1) c0 cI' N M N).heap.size = T.heap.size + (1 + N) := f1
  have f5 : ∀ a : Nat, a < T.heap.size → (mst (T.setVm vm1) c0 cI' N M N).heap[a]? = T.heap[a]? := f5
  obtain ⟨t, a1, b1⟩ := kk T.heap.size (mst (T.setVm vm1) c0 cI' N M N).heap (Nat.le_refl _) (by omega) (by omega) f5 ⟨Nat.le_trans hS.1 (by omega), fun q h1 h2 => (f5 q (Nat.lt_of_lt_of_le h1 hS.1)).trans (hS.2.1 q h1 h2), hS.2.2⟩ _ rfl XF
  refine ⟨t, ?_, b1⟩
  have hl1 : n.toNatClampNeg ≤ e.platform.arrayLengthLimit := by rw [Launch.admits_arrayLengthLimit X.admits, n1]; omega
  have hh1 : n.toNatClampNeg * 4 ≤ e.platform.maxHeapBytes := by rw [Launch.admits_maxHeapBytes X.admits, n1]; omega
  have hl2 : k.toNatClampNeg ≤ e.platform.arrayLengthLimit := by rw [Launch.admits_arrayLengthLimit X.admits, k1]; omega
  have hh2 : k.toNatClampNeg * 4 ≤ e.platform.maxHeapBytes := by rw [Launch.admits_maxHeapBytes X.admits, k1]; omega
  have hdg9 : decode c.code (F0 m pc ls (.int k :: .int n :: rest)).pc = .ok (.multianewarray index 2, 4) := hdg
  generalize hg9 : F0 m pc ls (.int k :: .int n :: rest) = g at hdg9 ⊢
  have hgm : g.method = m := by rw [← hg9]
  have hgs : g.stack = .int k :: .int n :: rest := by rw [← hg9]
  have hg1 : (Jvm.resolveClass g.method.cls index).Gives e.toSetting T.vm (.ok c0) vm1 := by rw [hgm]; exact hg1
  subst hgm
  jvm_step X.here [hx, hdg9]
  simp only [Jvm.Op.multianewarray.sem, wp_bind', W.resolveClassAt_links (State.method?_setTop g X.here.top) hg1]
  rw [W.popN, if_neg (by decide)]
  refine ⟨g, State.topJava?_setTop' (s := T.setVm vm1) g X.here.top, [.int n, .int k], rest, rfl, hgs, ?_⟩
  simp only [List.mapM_cons, List.mapM_nil, wp_bind', wp_pure']
  refine wp_grid (kA := kA1) (kI := kI1) (cI := cI') (cc := cc) hkA1 hdA1 hkI1 hdI1 hn0 hk0 hl1 hh1 hl2 hh2 (by show T.heap.size + _ ≤ _; rw [n1]; exact hr1) (by show T.slotsUsed + _ ≤ _; rw [n1, k1]; exact hr2) (fun d' acts' => ?_)
  rw [n1, k1]
  have eS : ((T.setTop g).setVm vm1).setTop { g with stack := rest } = (T.setVm vm1).setTop { g with stack := rest } := by
    show ((T.setVm vm1).setTop g).setTop _ = _
    rw [State.setTop_setTop]
  rw [eS, mst_top]
  simp only [wp_bind', W.mark, W.pushRef, State.topJava?_setTop' _ XF.here.top, Option.some.injEq, exists_eq_left', State.setTop_setTop, State.heap_setTop]
  intro acts
  simp [jvm, XF.here.top]
  rw [← hg9]
  exact a1
end
