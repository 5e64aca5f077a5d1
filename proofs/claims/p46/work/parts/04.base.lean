/-! THE FLAT MEMORY of one kernel: object k, slot j, and how the heap holds it -/
abbrev Mem : Type := Nat → Nat → Int32
/-- one slot anew -/
def put (μ : Mem) (k j : Nat) (v : Int32) : Mem := fun x => if x = k then upd (μ k) j v else μ x
theorem put_at (μ : Mem) (k j : Nat) (v : Int32) : put μ k j v k = upd (μ k) j v := by simp [put]
theorem put_ne (μ : Mem) {k x : Nat} (j : Nat) (v : Int32) (h : x ≠ k) : put μ k j v x = μ x := by simp [put, h]
/-- the tally: sizes (0: how many tallies there are, 1: 1 where the face is object 272, 2: how many chunks), what the tally (row 1000) and the chunks' rows hold, where the chunks and their row lie -/
abbrev Tp : Type := (Nat → Nat) × Mem × (Nat → Nat)
/-- where it lies: addresses, classes of the tables, classes of arrays, sizes (0 resources, 1 stores, 2 scripts, 10 + j length of script j), what scripts and instructions hold, the tally -/
abbrev Geo : Type := (Nat → Nat) × va_G × (Nat → ClassId) × (Nat → Nat) × Mem × Tp
abbrev Geo.ad (g : Geo) : Nat → Nat := g.1
abbrev Geo.D (g : Geo) : va_G := g.2.1
abbrev Geo.cy (g : Geo) : Nat → ClassId := g.2.2.1
abbrev Geo.sz (g : Geo) : Nat → Nat := g.2.2.2.1
/-- what the scripts and their instructions hold: nothing that a kernel writes -/
abbrev Geo.sh (g : Geo) : Mem := g.2.2.2.2.1
abbrev Geo.T (g : Geo) : Tp := g.2.2.2.2.2
abbrev Geo.tz (g : Geo) : Nat → Nat := g.2.2.2.2.2.1
abbrev Geo.ts (g : Geo) : Mem := g.2.2.2.2.2.2.1
abbrev Geo.ta (g : Geo) : Nat → Nat := g.2.2.2.2.2.2.2
/-- with another tally -/
abbrev Geo.tw (g : Geo) (x : Tp) : Geo := (g.1, g.2.1, g.2.2.1, g.2.2.2.1, g.2.2.2.2.1, x)
/-- what the functions know of it -/
abbrev Fg : Type := (Nat → Nat) × Mem
abbrev Fg.sz (g : Fg) : Nat → Nat := g.1
abbrev Fg.sh (g : Fg) : Mem := g.2
abbrev Geo.F (g : Geo) : Fg := (g.2.2.2.1, g.2.2.2.2.1)
/-- the classes of arrays: ints, processes, things -/
abbrev Geo.tys (g : Geo) : List (ClassId × FieldType) := [(g.cy 0, .int), (g.cy 1, .object "Sandglass$Proc"), (g.cy 2, .object "java/lang/Object")]
/-- a script by its number, none below 0 -/
def sref (g : Geo) (x : Int32) : Value := if x < 0 then .null else .ref (g.ad (114 + x.toNatClampNeg))
/-- a list of n things, its row lying at e -/
def obL (e n : Nat) : va_E := .inr (0, [.int (nI n), .ref e, .int (nI n)])
/-- what object k holds -/
def ob (g : Geo) (k : Nat) (m : Nat → Int32) : va_E :=
  if k = 0 then .inr (8, [.ref (g.ad 112), .ref (g.ad 266), .ref (g.ad 98), .ref (g.ad 100), .ref (g.ad 97), .int (m 5), .int (m 6), .int (m 7), .int (m 8), .int (m 9)])
  else if k < 25 then .inr (3, [.int (m 0), sref g (m 1), .int (m 2), .int (m 3), .int (m 4), .int (m 5), .int (m 6), .int (m 7), .int (m 8), .int (m 9), .int (m 10), .int (m 11), .int (m 12), .int (m 13), .ref (g.ad (k + 24)), .ref (g.ad (k + 48)), .ref (g.ad (k + 72))])
  else if k < 49 then .inl (g.cy 0, 16, .inl m)
  else if k < 97 then .inl (g.cy 0, 6, .inl m)
  else if k = 97 then .inl (g.cy 1, 24, .inr (.inr (.inr (.inr (fun i => some (g.ad (i + 1)))))))
  else if k = 98 then obL (g.ad 99) (g.sz 0)
  else if k = 99 then .inl (g.cy 2, 10, .inr (.inr (.inr (.inr (fun i => if i < g.sz 0 then some (g.ad (102 + i)) else none)))))
  else if k = 100 then obL (g.ad 101) (g.sz 1)
  else if k = 101 then .inl (g.cy 2, 10, .inr (.inr (.inr (.inr (fun i => if i < g.sz 1 then some (g.ad (108 + i)) else none)))))
  else if k < 108 then .inr (4, [.int (m 0), .int (m 1), .int (m 2), .int (m 3), .int (m 4), .int (m 5), .int (m 6)])
  else if k < 112 then .inr (6, [.int (m 0), .int (m 1), .int (m 2), .int (m 3)])
  else if k = 112 then obL (g.ad 113) (g.sz 2)
  else if k = 113 then .inl (g.cy 2, 10, .inr (.inr (.inr (.inr (fun i => if i < g.sz 2 then some (g.ad (114 + i)) else none)))))
  else if k < 122 then .inr (5, [.ref (g.ad (k + 8)), .int (g.sh k 1)])
  else if k < 130 then obL (g.ad (k + 8)) (g.sz (k - 112))
  else if k < 138 then .inl (g.cy 2, 10, .inr (.inr (.inr (.inr (fun i => if i < g.sz (k - 120) then some (g.ad (138 + 16 * (k - 130) + i)) else none)))))
  else if k < 266 then .inr (2, [.int (g.sh k 0), .int (g.sh k 1), .int (g.sh k 2), .int (g.sh k 3)])
  else if k = 266 then obL (g.ad 267) (g.tz 0)
  else if k = 267 then .inl (g.cy 2, 10, .inr (.inr (.inr (.inr (fun i => if i < g.tz 0 then some (g.ad (268 + i)) else none)))))
  else if k = 268 then .inr (7, [.int (g.ts 1000 0), .int (g.ts 1000 1), .int (g.ts 1000 2), .int (g.ts 1000 3), .int (g.ts 1000 4), .int (g.ts 1000 5), .int (g.ts 1000 6), .int (g.ts 1000 7), .int (g.ts 1000 8), .ref (g.ad 274)])
  else if k = 274 then obL (g.ta 0) (g.tz 2)
  else .inr (9, [.ref (g.ad 112), .ref (g.ad 266), .ref (g.ad 0), .ref (g.ad 273)])
/-- which objects there are -/
def pres (g : Geo) (k : Nat) : Bool :=
  if k < 99 then true
  else if k = 99 then decide (0 < g.sz 0)
  else if k = 100 then true
  else if k = 101 then decide (0 < g.sz 1)
  else if k < 108 then decide (k < 102 + g.sz 0)
  else if k < 112 then decide (k < 108 + g.sz 1)
  else if k < 113 then true
  else if k = 113 then decide (0 < g.sz 2)
  else if k < 122 then decide (k < 114 + g.sz 2)
  else if k < 130 then decide (k < 122 + g.sz 2)
  else if k < 138 then decide (k < 130 + g.sz 2 ∧ 0 < g.sz (k - 120))
  else if k < 266 then decide ((k - 138) / 16 < g.sz 2 ∧ (k - 138) % 16 < g.sz (10 + (k - 138) / 16))
  else if k = 266 then true
  else if k = 267 then decide (0 < g.tz 0)
  else if k = 268 then decide (g.tz 0 = 1)
  else if k = 274 then decide (g.tz 0 = 1)
  else decide (k = 272 ∧ g.tz 1 = 1)
/-- the chunks' row (0), the chunks (1, 3 ..), their numbers (2, 4 ..) -/
def Geo.tdx (g : Geo) : List Nat := if g.tz 2 = 0 then [] else List.range (1 + 2 * g.tz 2)
/-- what there is of the chunks -/
def obT (g : Geo) (k : Nat) : va_E :=
  if k = 0 then .inl (g.cy 2, 10, .inr (.inr (.inr (.inr (fun i => if i < g.tz 2 then some (g.ta (1 + 2 * i)) else none)))))
  else if k % 2 = 1 then .inr (1, [.ref (g.ta (k + 1))])
  else .inl (g.cy 0, 512, .inl (g.ts k))
def Geo.idx (g : Geo) : List Nat := (List.range 275).filter (pres g)
/-- those that a kernel writes -/
def Geo.mut (g : Geo) : List Nat := g.idx.filter (fun k => decide (k < 112))
def obs (g : Geo) (L : List Nat) (μ : Mem) : va_W := L.map (fun k => (g.ad k, ob g k (μ k)))
/-- different objects lie apart, and there are not more than can be -/
def Good (g : Geo) : Prop := (∀ i j, i ∈ g.idx → j ∈ g.idx → g.ad i = g.ad j → i = j) ∧ g.sz 0 ≤ 6 ∧ g.sz 1 ≤ 4 ∧ g.sz 2 ≤ 8 ∧ (∀ j, g.sz (10 + j) ≤ 10) ∧ g.tz 0 ≤ 1 ∧ g.tz 2 ≤ 10 ∧ (∀ i j, i ∈ g.tdx → j ∈ g.tdx → g.ta i = g.ta j → i = j) ∧ ∀ i j, i ∈ g.idx → j ∈ g.tdx → ¬ g.ad i = g.ta j
theorem idx_nodup (g : Geo) : g.idx.Nodup := List.Nodup.sublist (List.filter_sublist) (List.nodup_range)
theorem nodup_inj : ∀ (l : List Nat), l.Nodup → ∀ (i j a : Nat), l[i]? = some a → l[j]? = some a → i = j
  | [], _, i, j, a, h, _ => by simp at h
  | b :: l, hn, i, j, a, h1, h2 => by
    obtain ⟨hb, hl⟩ := List.nodup_cons.mp hn
    cases i with
    | zero =>
      cases j with
      | zero => rfl
      | succ j =>
        rw [List.getElem?_cons_zero] at h1
        rw [List.getElem?_cons_succ] at h2
        cases h1
        exact absurd (List.mem_of_getElem? h2) hb
    | succ i =>
      rw [List.getElem?_cons_succ] at h1
      cases j with
      | zero =>
        rw [List.getElem?_cons_zero] at h2
        cases h2
        exact absurd (List.mem_of_getElem? h1) hb
      | succ j =>
        rw [List.getElem?_cons_succ] at h2
        rw [nodup_inj l hl i j a h1 h2]
theorem mem_idx {g : Geo} {k : Nat} : k ∈ g.idx ↔ k < 275 ∧ pres g k = true := by simp [Geo.idx, List.mem_filter]
theorem mem_mut {g : Geo} {k : Nat} : k ∈ g.mut ↔ k ∈ g.idx ∧ k < 112 := by simp [Geo.mut, List.mem_filter]
theorem mut_nodup (g : Geo) : g.mut.Nodup := List.Nodup.sublist (List.filter_sublist) (idx_nodup g)
theorem obs_get {g : Geo} {L : List Nat} {μ : Mem} {k : Nat} (h : k ∈ L) : ∃ j : Nat, L[j]? = some k ∧ (obs g L μ)[j]? = some (g.ad k, ob g k (μ k)) := by
  obtain ⟨j, hj⟩ := List.getElem?_of_mem h
  exact ⟨j, hj, by simp [obs, hj]⟩
theorem obs_set {g : Geo} {L : List Nat} (hL : L.Nodup) {μ μ' : Mem} {k j : Nat} (hj : L[j]? = some k) (ho : ∀ x, x ≠ k → μ' x = μ x) : (obs g L μ).set j (g.ad k, ob g k (μ' k)) = obs g L μ' := by
  have hl : j < L.length := (List.getElem?_eq_some_iff.mp hj).1
  apply List.ext_getElem?
  intro i
  by_cases hi : i = j
  · subst hi
    rw [List.getElem?_set_self (by simp [obs]; exact hl)]
    simp [obs, hj]
  · rw [List.getElem?_set_ne (Ne.symm hi)]
    simp only [obs, List.getElem?_map]
    cases hx : L[i]? with
    | none => rfl
    | some x =>
      have hne : x ≠ k := by
        intro e
        subst e
        exact hi (nodup_inj _ hL i j x hx hj)
      simp [ho x hne]
theorem obs_apart {g : Geo} (hg : Good g) {A : Nat → Prop} (hA : ∀ k, k ∈ g.mut → A (g.ad k)) (μ : Mem) : va_D A (obs g g.mut μ) := by
  refine ⟨fun i j p q hi hj hpq => ?_, fun k q hk => ?_⟩
  · simp only [obs, List.getElem?_map] at hi hj
    cases hx : g.mut[i]? with
    | none => rw [hx] at hi; cases hi
    | some x =>
      cases hy : g.mut[j]? with
      | none => rw [hy] at hj; cases hj
      | some y =>
        rw [hx] at hi; rw [hy] at hj
        have e1 : (g.ad x, ob g x (μ x)) = p := Option.some.inj hi
        have e2 : (g.ad y, ob g y (μ y)) = q := Option.some.inj hj
        subst e1 e2
        have e := hg.1 x y (mem_mut.mp (List.mem_of_getElem? hx)).1 (mem_mut.mp (List.mem_of_getElem? hy)).1 hpq
        subst e
        exact nodup_inj _ (mut_nodup g) i j x hx hy
  · simp only [obs, List.getElem?_map] at hk
    cases hx : g.mut[k]? with
    | none => rw [hx] at hk; cases hk
    | some x =>
      rw [hx] at hk
      have e1 : (g.ad x, ob g x (μ x)) = q := Option.some.inj hk
      subst e1
      exact hA x (List.mem_of_getElem? hx)
/-- the kernel lies in H -/
def Rg (g : Geo) (μ : Mem) (H : Heap) : Prop := (∀ k, k ∈ g.idx → va_at g.D vwCl (g.ad k, ob g k (μ k)) H) ∧ ∀ k, k ∈ g.tdx → va_at g.D vwCl (g.ta k, obT g k) H
/-- where nothing may be written: of the objects from 112 on and the chunks; of them all -/
def Nf (g : Geo) (A : Nat → Prop) : Prop := (∀ k, k ∈ g.idx → 112 ≤ k → ¬ A (g.ad k)) ∧ ∀ k, k ∈ g.tdx → ¬ A (g.ta k)
def Of (g : Geo) (A : Nat → Prop) : Prop := (∀ k, k ∈ g.idx → ¬ A (g.ad k)) ∧ ∀ k, k ∈ g.tdx → ¬ A (g.ta k)
theorem Rg.list {g : Geo} {μ : Mem} {H : Heap} (h : Rg g μ H) {L : List Nat} (hL : ∀ k, k ∈ L → k ∈ g.idx) : va_P g.D vwCl (obs g L μ) H := by
  intro k q hk
  simp only [obs, List.getElem?_map] at hk
  cases hx : L[k]? with
  | none => rw [hx] at hk; cases hk
  | some x =>
    rw [hx] at hk
    have e1 : (g.ad x, ob g x (μ x)) = q := Option.some.inj hk
    subst e1
    exact h.1 x (hL x (List.mem_of_getElem? hx))
theorem Rg.all {g : Geo} {μ : Mem} {H : Heap} (h : Rg g μ H) : va_P g.D vwCl (obs g g.idx μ) H := h.list (fun _ h => h)
theorem Rg.keep {g : Geo} {μ : Mem} {H H1 : Heap} (h : Rg g μ H) (hk : ∀ q : Nat, q < H.size → H1[q]? = H[q]?) : Rg g μ H1 := ⟨fun k hx => (h.1 k hx).kept (hk _ (h.1 k hx).lt), fun k hx => (h.2 k hx).kept (hk _ (h.2 k hx).lt)⟩
/-- a part that nobody writes: told of the heap with which a method began -/
theorem Rg.off {g : Geo} {μ : Mem} {A : Nat → Prop} {H0 H : Heap} {locs : List Loc} (h : Rg g μ H0) (hS : va_S A H0 H locs) (hN : Of g A) : Rg g μ H := ⟨fun k hx => (h.1 k hx).kept (hS.2.1 _ (h.1 k hx).lt (hN.1 k hx)), fun k hx => (h.2 k hx).kept (hS.2.1 _ (h.2 k hx).lt (hN.2 k hx))⟩
/-- scripts and instructions are there, whatever the kernel holds -/
def Rc (g : Geo) (H : Heap) : Prop := (∀ k, k ∈ g.idx → 112 ≤ k → ∀ m, va_at g.D vwCl (g.ad k, ob g k m) H) ∧ ∀ k, k ∈ g.tdx → va_at g.D vwCl (g.ta k, obT g k) H
theorem ob_sh {g : Geo} {k : Nat} (h : 112 ≤ k) (m m' : Nat → Int32) : ob g k m = ob g k m' := by
  unfold ob
  simp only [if_neg (show ¬ k = 0 by omega), if_neg (show ¬ k < 25 by omega), if_neg (show ¬ k < 49 by omega), if_neg (show ¬ k < 97 by omega), if_neg (show ¬ k = 97 by omega), if_neg (show ¬ k = 98 by omega), if_neg (show ¬ k = 99 by omega), if_neg (show ¬ k = 100 by omega), if_neg (show ¬ k = 101 by omega), if_neg (show ¬ k < 108 by omega), if_neg (show ¬ k < 112 by omega)]
theorem Rg.sh {g : Geo} {μ : Mem} {H : Heap} (h : Rg g μ H) : Rc g H := ⟨fun k hk h1 m => by rw [ob_sh h1 m (μ k)]; exact h.1 k hk, h.2⟩
theorem Rg.put {g : Geo} {μ' : Mem} {A : Nat → Prop} {H0 H1 : Heap} {locs : List Loc} (hC : Rc g H0) (hN : Nf g A) (hS : va_S A H0 H1 locs) (hM : va_P g.D vwCl (obs g g.mut μ') H1) : Rg g μ' H1 := by
  refine ⟨fun k hk => ?_, fun k hk => (hC.2 k hk).kept (hS.2.1 _ (hC.2 k hk).lt (hN.2 k hk))⟩
  by_cases h : k < 112
  · obtain ⟨j, -, hj⟩ := obs_get (g := g) (L := g.mut) (μ := μ') (mem_mut.mpr ⟨hk, h⟩)
    exact hM j _ hj
  · have h1 := hC.1 k hk (by omega) (μ' k)
    exact h1.kept (hS.2.1 _ h1.lt (hN.1 k hk (by omega)))
/-! kinds of objects, by their numbers -/
def isP (k : Nat) : Prop := 1 ≤ k ∧ k < 25
def isA (k : Nat) : Prop := 25 ≤ k ∧ k < 97
def isR (g : Geo) (k : Nat) : Prop := 102 ≤ k ∧ k < 102 + g.sz 0 ∧ k < 108
def isS (g : Geo) (k : Nat) : Prop := 108 ≤ k ∧ k < 108 + g.sz 1 ∧ k < 112
def isC (g : Geo) (k : Nat) : Prop := 114 ≤ k ∧ k < 114 + g.sz 2 ∧ k < 122
def isN (g : Geo) (k : Nat) : Prop := 138 ≤ k ∧ k < 266 ∧ (k - 138) / 16 < g.sz 2 ∧ (k - 138) % 16 < g.sz (10 + (k - 138) / 16)
def alen (k : Nat) : Nat := if k < 49 then 16 else 6
abbrev fsW (g : Geo) (m : Nat → Int32) : List Value := [.ref (g.ad 112), .ref (g.ad 266), .ref (g.ad 98), .ref (g.ad 100), .ref (g.ad 97), .int (m 5), .int (m 6), .int (m 7), .int (m 8), .int (m 9)]
abbrev fsP (g : Geo) (k : Nat) (m : Nat → Int32) : List Value := [.int (m 0), sref g (m 1), .int (m 2), .int (m 3), .int (m 4), .int (m 5), .int (m 6), .int (m 7), .int (m 8), .int (m 9), .int (m 10), .int (m 11), .int (m 12), .int (m 13), .ref (g.ad (k + 24)), .ref (g.ad (k + 48)), .ref (g.ad (k + 72))]
abbrev fsR (m : Nat → Int32) : List Value := [.int (m 0), .int (m 1), .int (m 2), .int (m 3), .int (m 4), .int (m 5), .int (m 6)]
abbrev fsS (m : Nat → Int32) : List Value := [.int (m 0), .int (m 1), .int (m 2), .int (m 3)]
abbrev fsC (g : Geo) (k : Nat) (m : Nat → Int32) : List Value := [.ref (g.ad (k + 8)), .int (m 1)]
theorem obW (g : Geo) (m : Nat → Int32) : ob g 0 m = .inr (8, fsW g m) := by simp [ob]
theorem obP {g : Geo} {k : Nat} (h : isP k) (m : Nat → Int32) : ob g k m = .inr (3, fsP g k m) := by
  obtain ⟨h1, h2⟩ := h
  unfold ob
  rw [if_neg (by omega), if_pos h2]
theorem obA {g : Geo} {k : Nat} (h : isA k) (m : Nat → Int32) : ob g k m = .inl (g.cy 0, alen k, .inl m) := by
  obtain ⟨h1, h2⟩ := h
  unfold ob alen
  rw [if_neg (by omega), if_neg (by omega)]
  by_cases h3 : k < 49
  · rw [if_pos h3, if_pos h3]
  · rw [if_neg h3, if_neg h3, if_pos h2]
theorem obPA (g : Geo) (m : Nat → Int32) : ob g 97 m = .inl (g.cy 1, 24, .inr (.inr (.inr (.inr (fun i => some (g.ad (i + 1))))))) := by simp [ob]
theorem obR {g : Geo} {k : Nat} (h : isR g k) (m : Nat → Int32) : ob g k m = .inr (4, fsR m) := by
  obtain ⟨h1, -, h2⟩ := h
  unfold ob
  rw [if_neg (by omega), if_neg (by omega), if_neg (by omega), if_neg (by omega), if_neg (by omega), if_neg (by omega), if_neg (by omega), if_neg (by omega), if_neg (by omega), if_pos h2]
theorem obS {g : Geo} {k : Nat} (h : isS g k) (m : Nat → Int32) : ob g k m = .inr (6, fsS m) := by
  obtain ⟨h1, -, h2⟩ := h
  unfold ob
  rw [if_neg (by omega), if_neg (by omega), if_neg (by omega), if_neg (by omega), if_neg (by omega), if_neg (by omega), if_neg (by omega), if_neg (by omega), if_neg (by omega), if_neg (by omega), if_pos h2]
theorem obC {g : Geo} {k : Nat} (h : isC g k) (m : Nat → Int32) : ob g k m = .inr (5, fsC g k (g.sh k)) := by
  obtain ⟨h1, -, h2⟩ := h
  unfold ob
  rw [if_neg (by omega), if_neg (by omega), if_neg (by omega), if_neg (by omega), if_neg (by omega), if_neg (by omega), if_neg (by omega), if_neg (by omega), if_neg (by omega), if_neg (by omega), if_neg (by omega), if_neg (by omega), if_neg (by omega), if_pos h2]
theorem obN {g : Geo} {k : Nat} (h : isN g k) (m : Nat → Int32) : ob g k m = .inr (2, fsS (g.sh k)) := by
  obtain ⟨h1, h2, -⟩ := h
  unfold ob
  rw [if_neg (by omega), if_neg (by omega), if_neg (by omega), if_neg (by omega), if_neg (by omega), if_neg (by omega), if_neg (by omega), if_neg (by omega), if_neg (by omega), if_neg (by omega), if_neg (by omega), if_neg (by omega), if_neg (by omega), if_neg (by omega), if_neg (by omega), if_neg (by omega), if_pos h2]
theorem inBase {g : Geo} {k : Nat} (h : k < 99) : k ∈ g.idx := mem_idx.mpr ⟨by omega, by simp [pres, h]⟩
theorem inW {g : Geo} : 0 ∈ g.idx := inBase (by decide)
theorem inP {g : Geo} {k : Nat} (h : isP k) : k ∈ g.idx := inBase (by have := h.2; omega)
theorem inA {g : Geo} {k : Nat} (h : isA k) : k ∈ g.idx := inBase (by have := h.2; omega)
theorem inR {g : Geo} {k : Nat} (h : isR g k) : k ∈ g.idx := by
  obtain ⟨h1, h2, h3⟩ := h
  exact mem_idx.mpr ⟨by omega, by unfold pres; rw [if_neg (by omega), if_neg (by omega), if_neg (by omega), if_neg (by omega), if_pos h3]; exact decide_eq_true h2⟩
theorem inS {g : Geo} {k : Nat} (h : isS g k) : k ∈ g.idx := by
  obtain ⟨h1, h2, h3⟩ := h
  exact mem_idx.mpr ⟨by omega, by unfold pres; rw [if_neg (by omega), if_neg (by omega), if_neg (by omega), if_neg (by omega), if_neg (by omega), if_pos h3]; exact decide_eq_true h2⟩
theorem inC {g : Geo} {k : Nat} (h : isC g k) : k ∈ g.idx := by
  obtain ⟨h1, h2, h3⟩ := h
  exact mem_idx.mpr ⟨by omega, by unfold pres; rw [if_neg (by omega), if_neg (by omega), if_neg (by omega), if_neg (by omega), if_neg (by omega), if_neg (by omega), if_neg (by omega), if_neg (by omega), if_pos h3]; exact decide_eq_true h2⟩
theorem inN {g : Geo} {k : Nat} (h : isN g k) : k ∈ g.idx := by
  obtain ⟨h1, h2, h3, h4⟩ := h
  exact mem_idx.mpr ⟨by omega, by unfold pres; rw [if_neg (by omega), if_neg (by omega), if_neg (by omega), if_neg (by omega), if_neg (by omega), if_neg (by omega), if_neg (by omega), if_neg (by omega), if_neg (by omega), if_neg (by omega), if_neg (by omega), if_pos h2]; exact decide_eq_true ⟨h3, h4⟩⟩
theorem isP.cnt {k : Nat} (h : isP k) : isA (k + 24) := ⟨by have := h.1; omega, by have := h.2; omega⟩
theorem isP.hld {k : Nat} (h : isP k) : isA (k + 48) := ⟨by have := h.1; omega, by have := h.2; omega⟩
theorem isP.got {k : Nat} (h : isP k) : isA (k + 72) := ⟨by have := h.1; omega, by have := h.2; omega⟩
theorem mtW {g : Geo} : 0 ∈ g.mut := mem_mut.mpr ⟨inW, by decide⟩
theorem mtP {g : Geo} {k : Nat} (h : isP k) : k ∈ g.mut := mem_mut.mpr ⟨inP h, by have := h.2; omega⟩
theorem mtA {g : Geo} {k : Nat} (h : isA k) : k ∈ g.mut := mem_mut.mpr ⟨inA h, by have := h.2; omega⟩
theorem mtR {g : Geo} {k : Nat} (h : isR g k) : k ∈ g.mut := mem_mut.mpr ⟨inR h, by have := h.2.2; omega⟩
theorem mtS {g : Geo} {k : Nat} (h : isS g k) : k ∈ g.mut := mem_mut.mpr ⟨inS h, by have := h.2.2; omega⟩
/-- the kernel's face, where there is one -/
theorem obX (g : Geo) (m : Nat → Int32) : ob g 272 m = .inr (9, [.ref (g.ad 112), .ref (g.ad 266), .ref (g.ad 0), .ref (g.ad 273)]) := by simp [ob]
theorem inX {g : Geo} (h : g.tz 1 = 1) : 272 ∈ g.idx := mem_idx.mpr ⟨by omega, by simp [pres, h]⟩
/-- the tally, the list of its chunks, the chunks, their rows of numbers -/
def isY (g : Geo) (k : Nat) : Prop := k = 268 ∧ g.tz 0 = 1
def isK (g : Geo) (k : Nat) : Prop := k % 2 = 1 ∧ k < 1 + 2 * g.tz 2
def isZ (g : Geo) (k : Nat) : Prop := k % 2 = 0 ∧ 0 < k ∧ k < 1 + 2 * g.tz 2
abbrev fsY (g : Geo) : List Value := [.int (g.ts 1000 0), .int (g.ts 1000 1), .int (g.ts 1000 2), .int (g.ts 1000 3), .int (g.ts 1000 4), .int (g.ts 1000 5), .int (g.ts 1000 6), .int (g.ts 1000 7), .int (g.ts 1000 8), .ref (g.ad 274)]
theorem obY {g : Geo} {k : Nat} (h : isY g k) (m : Nat → Int32) : ob g k m = .inr (7, fsY g) := by rw [h.1]; simp [ob]
theorem inY {g : Geo} {k : Nat} (h : isY g k) : k ∈ g.idx := by rw [h.1]; exact mem_idx.mpr ⟨by omega, by simp [pres, h.2]⟩
theorem in274 {g : Geo} {k : Nat} (h : isY g k) : 274 ∈ g.idx := mem_idx.mpr ⟨by omega, by simp [pres, h.2]⟩
theorem szK (g : Geo) (m : Nat → Int32) : ob g 274 m = obL (g.ta 0) (g.tz 2) := by simp [ob]
theorem mem_tdx {g : Geo} {k : Nat} : k ∈ g.tdx ↔ 0 < g.tz 2 ∧ k < 1 + 2 * g.tz 2 := by
  unfold Geo.tdx
  by_cases h : g.tz 2 = 0
  · rw [if_pos h]; simp; omega
  · rw [if_neg h]; simp; omega
theorem inK {g : Geo} {k : Nat} (h : isK g k) : k ∈ g.tdx := mem_tdx.mpr ⟨by have := h.1; have := h.2; omega, h.2⟩
theorem inZ {g : Geo} {k : Nat} (h : isZ g k) : k ∈ g.tdx := mem_tdx.mpr ⟨by have := h.2.1; have := h.2.2; omega, h.2.2⟩
theorem isK.row {g : Geo} {k : Nat} (h : isK g k) : isZ g (k + 1) := ⟨by have := h.1; omega, by omega, by have := h.1; have := h.2; omega⟩
theorem obK {g : Geo} {k : Nat} (h : isK g k) : obT g k = .inr (1, [.ref (g.ta (k + 1))]) := by
  have h1 := h.1
  unfold obT
  rw [if_neg (by omega), if_pos h1]
theorem obZ {g : Geo} {k : Nat} (h : isZ g k) : obT g k = .inl (g.cy 0, 512, .inl (g.ts k)) := by
  have h1 := h.1
  have h2 := h.2.1
  unfold obT
  rw [if_neg (by omega), if_neg (by omega)]
theorem P1 {D : va_G} {cl : List vw_C} {q : Nat × va_E} {H : Heap} (h : va_at D cl q H) : va_P D cl [q] H := by
  intro k x hk
  cases k with
  | zero => rw [List.getElem?_cons_zero] at hk; rw [← Option.some.inj hk]; exact h
  | succ k => rw [List.getElem?_cons_succ] at hk; simp at hk
