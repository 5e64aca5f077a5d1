/-! ROWS for a kernel with its tally: what may be written are the kernel's objects, the tally, its list, the chunks -/
def tobs (g : Geo) : va_W := (g.ad 268, ob g 268 (fun _ => 0)) :: (g.ad 274, ob g 274 (fun _ => 0)) :: g.tdx.map (fun k => (g.ta k, obT g k))
def hws (g : Geo) (μ : Mem) : va_W := obs g g.mut μ ++ tobs g
/-- what nobody writes: lists, scripts, the face -/
def Rc' (g : Geo) (H : Heap) : Prop := ∀ k, k ∈ g.idx → 112 ≤ k → ¬ k = 268 → ¬ k = 274 → ∀ m, va_at g.D vwCl (g.ad k, ob g k m) H
def Nf' (g : Geo) (A : Nat → Prop) : Prop := ∀ k, k ∈ g.idx → 112 ≤ k → ¬ k = 268 → ¬ k = 274 → ¬ A (g.ad k)
theorem P_of {D : va_G} {cl : List vw_C} {ws : va_W} {H : Heap} (h : ∀ q, q ∈ ws → va_at D cl q H) : va_P D cl ws H := fun _ q hk => h q (List.mem_of_getElem? hk)
theorem P_mem {D : va_G} {cl : List vw_C} {ws : va_W} {H : Heap} (h : va_P D cl ws H) {q : Nat × va_E} (hq : q ∈ ws) : va_at D cl q H := by
  obtain ⟨k, hk⟩ := List.getElem?_of_mem hq
  exact h k q hk
theorem tobs_mem {g : Geo} {q : Nat × va_E} : q ∈ tobs g ↔ q = (g.ad 268, ob g 268 (fun _ => 0)) ∨ q = (g.ad 274, ob g 274 (fun _ => 0)) ∨ ∃ k, k ∈ g.tdx ∧ q = (g.ta k, obT g k) := by
  constructor
  · intro h
    rcases List.mem_cons.mp h with h | h
    · exact Or.inl h
    · rcases List.mem_cons.mp h with h | h
      · exact Or.inr (Or.inl h)
      · obtain ⟨k, h1, h2⟩ := List.mem_map.mp h
        exact Or.inr (Or.inr ⟨k, h1, h2.symm⟩)
  · intro h
    rcases h with h | h | ⟨k, h1, h2⟩
    · exact List.mem_cons.mpr (Or.inl h)
    · exact List.mem_cons.mpr (Or.inr (List.mem_cons.mpr (Or.inl h)))
    · exact List.mem_cons.mpr (Or.inr (List.mem_cons.mpr (Or.inr (List.mem_map.mpr ⟨k, h1, h2.symm⟩))))
theorem Rg.pw {g : Geo} {μ : Mem} {H : Heap} (h : Rg g μ H) (hY : g.tz 0 = 1) : va_P g.D vwCl (hws g μ) H := by
  refine va_P.app (h.list (fun _ h => (mem_mut.mp h).1)) (P_of (fun q hq => ?_))
  rcases tobs_mem.mp hq with rfl | rfl | ⟨k, h1, rfl⟩
  · rw [ob_sh (by decide) (fun _ => 0) (μ 268)]; exact h.1 268 (in268 hY)
  · rw [ob_sh (by decide) (fun _ => 0) (μ 274)]; exact h.1 274 (in274 (k := 268) ⟨rfl, hY⟩)
  · exact h.2 k h1
theorem Rg.sh' {g : Geo} {μ : Mem} {H : Heap} (h : Rg g μ H) : Rc' g H := fun k hk h1 _ _ m => by rw [ob_sh h1 m (μ k)]; exact h.1 k hk
theorem Rg.hput {g : Geo} {μ' : Mem} {A : Nat → Prop} {H0 H1 : Heap} {locs : List Loc} (hC : Rc' g H0) (hN : Nf' g A) (hS : va_S A H0 H1 locs) (hM : va_P g.D vwCl (hws g μ') H1) : Rg g μ' H1 := by
  refine ⟨fun k hk => ?_, fun k hk => P_mem hM (List.mem_append_right _ (tobs_mem.mpr (Or.inr (Or.inr ⟨k, hk, rfl⟩))))⟩
  by_cases h : k < 112
  · obtain ⟨j, -, hj⟩ := obs_get (g := g) (L := g.mut) (μ := μ') (mem_mut.mpr ⟨hk, h⟩)
    exact P_mem hM (List.mem_append_left _ (List.mem_of_getElem? hj))
  · by_cases h1 : k = 268
    · subst h1
      rw [ob_sh (by decide) (μ' 268) (fun _ => 0)]
      exact P_mem hM (List.mem_append_right _ (tobs_mem.mpr (Or.inl rfl)))
    · by_cases h2 : k = 274
      · subst h2
        rw [ob_sh (by decide) (μ' 274) (fun _ => 0)]
        exact P_mem hM (List.mem_append_right _ (tobs_mem.mpr (Or.inr (Or.inl rfl))))
      · have h3 := hC k hk (by omega) h1 h2 (μ' k)
        exact h3.kept (hS.2.1 _ h3.lt (hN k hk (by omega) h1 h2))
theorem obs_in {g : Geo} {L : List Nat} {μ : Mem} {q : Nat × va_E} {i : Nat} (h : (obs g L μ)[i]? = some q) : ∃ k, k ∈ L ∧ q.1 = g.ad k := by
  have := List.mem_of_getElem? h
  obtain ⟨k, h1, h2⟩ := List.mem_map.mp this
  exact ⟨k, h1, by rw [← h2]⟩
theorem tobs_apart {g : Geo} (hg : Good g) (hY : g.tz 0 = 1) {A : Nat → Prop} (a1 : A (g.ad 268)) (a2 : A (g.ad 274)) (a3 : ∀ k, k ∈ g.tdx → A (g.ta k)) : va_D A (tobs g) := by
  have i1 : 268 ∈ g.idx := in268 hY
  have i2 : 274 ∈ g.idx := in274 (k := 268) ⟨rfl, hY⟩
  have hnd : g.tdx.Nodup := by
    unfold Geo.tdx
    by_cases h : g.tz 2 = 0
    · rw [if_pos h]; exact List.nodup_nil
    · rw [if_neg h]; exact List.nodup_range
  refine Dcons a1 (fun k p hp => ?_) (Dcons a2 (fun k p hp => ?_) ⟨fun i j p q hi hj hpq => ?_, fun k q hk => ?_⟩)
  · cases k with
    | zero => rw [← Option.some.inj hp]; exact fun e => absurd (hg.1 268 274 i1 i2 e) (by decide)
    | succ k =>
      rw [List.getElem?_cons_succ] at hp
      obtain ⟨j, h1, h2⟩ := List.mem_map.mp (List.mem_of_getElem? hp)
      rw [← h2]
      exact hg.2.2.2.2.2.2.2.2 268 j i1 h1
  · obtain ⟨j, h1, h2⟩ := List.mem_map.mp (List.mem_of_getElem? hp)
    rw [← h2]
    exact hg.2.2.2.2.2.2.2.2 274 j i2 h1
  · rw [List.getElem?_map] at hi hj
    cases hx : g.tdx[i]? with
    | none => rw [hx] at hi; cases hi
    | some x =>
      cases hy : g.tdx[j]? with
      | none => rw [hy] at hj; cases hj
      | some y =>
        rw [hx] at hi; rw [hy] at hj
        have e1 := Option.some.inj hi
        have e2 := Option.some.inj hj
        subst e1 e2
        have e := hg.2.2.2.2.2.2.2.1 x y (List.mem_of_getElem? hx) (List.mem_of_getElem? hy) hpq
        subst e
        exact nodup_inj _ hnd i j x hx hy
  · obtain ⟨j, h1, h2⟩ := List.mem_map.mp (List.mem_of_getElem? hk)
    rw [← h2]
    exact a3 j h1
theorem hws_apart {g : Geo} (hg : Good g) (hY : g.tz 0 = 1) {A : Nat → Prop} (a0 : ∀ k, k ∈ g.mut → A (g.ad k)) (a1 : A (g.ad 268)) (a2 : A (g.ad 274)) (a3 : ∀ k, k ∈ g.tdx → A (g.ta k)) (μ : Mem) : va_D A (hws g μ) := by
  refine va_D.app (obs_apart hg a0 μ) (tobs_apart hg hY a1 a2 a3) (fun i j p q hp hq e => ?_)
  obtain ⟨k, h1, h2⟩ := obs_in hp
  have hk := mem_mut.mp h1
  rcases tobs_mem.mp (List.mem_of_getElem? hq) with rfl | rfl | ⟨k2, h3, rfl⟩
  · have := hg.1 k 268 hk.1 (in268 hY) (h2.symm.trans e)
    have := hk.2
    omega
  · have := hg.1 k 274 hk.1 (in274 (k := 268) ⟨rfl, hY⟩) (h2.symm.trans e)
    have := hk.2
    omega
  · exact hg.2.2.2.2.2.2.2.2 k k2 hk.1 h3 (h2.symm.trans e)
/-- the chunks of another tally are among what may be written -/
def Tk (g : Geo) (sz : Nat) (X : Tp) : Prop := ∀ k, k ∈ (g.tw X).tdx → At g sz (X.2.2 k)
theorem Tk.self {g : Geo} {sz : Nat} : Tk g sz g.T := fun k hk => Or.inr (Or.inr (Or.inr (Or.inl ⟨k, hk, rfl⟩)))
theorem Tk.next {g : Geo} {sz z' : Nat} {X X' : Tp} (h : Tk g sz X) (hz : sz ≤ z') (hn : Tn g X X' z') : Tk g sz X' := fun k hk => by
  rcases hn k hk with ⟨j, h1, h2⟩ | h1
  · rw [h2]; exact h j h1
  · exact Or.inr (Or.inr (Or.inr (Or.inr (Nat.le_trans hz h1))))
theorem mut_tw {g : Geo} {X X' : Tp} (e0 : X'.1 0 = X.1 0) (e1 : X'.1 1 = X.1 1) {k : Nat} (h : k ∈ (g.tw X').mut) : k ∈ (g.tw X).mut := mem_mut.mpr ⟨idx_tw e0 e1 (mem_mut.mp h).1, (mem_mut.mp h).2⟩
theorem At.apart {g : Geo} {sz : Nat} {X : Tp} (hg : Good (g.tw X)) (hY : X.1 0 = 1) (e0 : X.1 0 = g.tz 0) (e1 : X.1 1 = g.tz 1) (hk : Tk g sz X) (ν : Mem) : va_D (At g sz) (hws (g.tw X) ν) :=
  hws_apart hg hY (fun k h => Or.inl ⟨k, mut_tw (X := g.T) e0 e1 h, rfl⟩) (Or.inr (Or.inl rfl)) (Or.inr (Or.inr (Or.inl rfl))) hk ν
theorem At.shr {g : Geo} (hg : Good g) (hY : g.tz 0 = 1) {μ : Mem} {H : Heap} (h : Rg g μ H) : Nf' g (At g H.size) := by
  intro k hk h1 h2 h3 h4
  rcases h4 with ⟨j, hj, e⟩ | e | e | ⟨j, hj, e⟩ | e
  · have := hg.1 k j hk (mem_mut.mp hj).1 e
    have := (mem_mut.mp hj).2
    omega
  · exact h2 (hg.1 k 268 hk (in268 hY) e)
  · exact h3 (hg.1 k 274 hk (in274 (k := 268) ⟨rfl, hY⟩) e)
  · exact hg.2.2.2.2.2.2.2.2 k j hk hj e
  · exact absurd (h.1 k hk).lt (Nat.not_lt.mpr e)
theorem Rc'.tw {g : Geo} {X : Tp} {H : Heap} (e0 : X.1 0 = g.tz 0) (e1 : X.1 1 = g.tz 1) (h : Rc' g H) : Rc' (g.tw X) H := fun k hk h1 h2 h3 m => by
  rw [ob_tw (X := g.T) e0 h2 h3]
  exact h k (idx_tw (X := g.T) e0 e1 hk) h1 h2 h3 m
theorem Nf'.tw {g : Geo} {X : Tp} {A : Nat → Prop} (e0 : X.1 0 = g.tz 0) (e1 : X.1 1 = g.tz 1) (h : Nf' g A) : Nf' (g.tw X) A := fun k hk h1 h2 h3 => h k (idx_tw (X := g.T) e0 e1 hk) h1 h2 h3
theorem At.sub {g : Geo} {z : Nat} {H0 H : Heap} {locs : List Loc} {X : Tp} (hz : z = H0.size) (hS : va_S (At g z) H0 H locs) (e0 : X.1 0 = g.tz 0) (e1 : X.1 1 = g.tz 1) : ∀ q, Ag (g.tw X) H.size q → At g z q := fun q h => by
  rcases h with ⟨k, h1, h2⟩ | h
  · exact Or.inl ⟨k, mut_tw (X := g.T) e0 e1 h1, h2⟩
  · exact Or.inr (Or.inr (Or.inr (Or.inr (by have := hS.1; omega))))
theorem At.subT {g : Geo} {z : Nat} {H0 H : Heap} {locs : List Loc} {X : Tp} (hz : z = H0.size) (hS : va_S (At g z) H0 H locs) (e0 : X.1 0 = g.tz 0) (e1 : X.1 1 = g.tz 1) (hk : Tk g z X) : ∀ q, At (g.tw X) H.size q → At g z q := fun q h => by
  rcases h with ⟨k, h1, h2⟩ | h | h | ⟨k, h1, h2⟩ | h
  · exact Or.inl ⟨k, mut_tw (X := g.T) e0 e1 h1, h2⟩
  · exact Or.inr (Or.inl h)
  · exact Or.inr (Or.inr (Or.inl h))
  · rw [h2]; exact hk k h1
  · exact Or.inr (Or.inr (Or.inr (Or.inr (by have := hS.1; omega))))
theorem TI.mono {z n n' : Nat} {X : Tp} (h : TI z X n) (hn : n ≤ n') : TI z X n' := by
  obtain ⟨h0, m, k, o, ba, os, h1, h2⟩ := h
  exact ⟨h0, m, k, o, ba, os, Nat.le_trans h1 hn, h2⟩
/-- everything that is written lies at b or behind it -/
theorem At.b {g : Geo} {b sz : Nat} (hA : Ab g b) (hY : g.tz 0 = 1) (hb : b ≤ sz) : ∀ q, At g sz q → b ≤ q := fun q h => by
  rcases h with ⟨k, h1, h2⟩ | h | h | ⟨k, h1, h2⟩ | h
  · rw [h2]; exact hA.1 k (mem_mut.mp h1).1
  · rw [h]; exact hA.1 268 (in268 hY)
  · rw [h]; exact hA.1 274 (in274 (k := 268) ⟨rfl, hY⟩)
  · rw [h2]; exact hA.2 k h1
  · exact Nat.le_trans hb h
section RH
variable {p : Program} {l : Launch} {e : Env} {R : Room} {s : State} {m : MethodId} {args : Array Value} {below : List Frame} {meth : Method} {c : Code} {H : Heap} {locs : List Loc} {cells slots : Nat} {Q : State → Prop}
variable {cc : ByteArray} {pc : Nat} {ls : Array Slot} {rest : List Value} {A : Nat → Prop} {H0 : Heap} {g : Geo} {μ : Mem} {k : Nat}
theorem rh_put (hY : g.tz 0 = 1) (hx : p.tables.exec = Jvm.exec) (hb : c.code = cc) (hts : ∀ w ∈ lw_all, w.before args s = true) {own ref C : String} {T : u_T} {N ci index : Nat} (hin : ∀ w ∈ u_ws C T N, w ∈ lw_all) (ty0 : Nat → FieldType) (hty : ∀ k, k < N → parseFieldDescriptor (T k).2.2.1 = some (ty0 k)) (hnm : ∀ a, a < N → ∀ b, b < N → a ≠ b → (T a).2.1 ≠ (T b).2.1) (hown : s.vm.findClass own = some m.cls) (hT : Tb g s) (hP : Rg g μ H) (hD : ∀ ν, va_D A (hws g ν)) (hC : Rc' g H0) (hN : Nf' g A) (hS : va_S A H0 H locs) (hk : k ∈ g.mut) {fs : (Nat → Int32) → List Value} (he : ∀ n, ob g k n = .inr (ci, fs n)) (hc : vwCl[ci]? = some (C, T, N)) (j : Nat) (hj : j < N) (hlink : Cond.fieldLink own index ref (T j).2.1 (T j).2.2.1 ∈ lw_all) (hsame : ∀ x, s.fieldFound? (T j).1 (T j).2.1 (T j).2.2.1 = some x → s.fieldFound? ref (T j).2.1 (T j).2.2.1 = some x) (hfin : (T j).2.2.2 = false) {ty : FieldType} {v : Value} {x : Int32} (hd : parseFieldDescriptor (T j).2.2.1 = some ty) (hn : narrow ty v = v) (hfit : fits ty v = true) (hset : ∀ n, fs (upd n j x) = (fs n).set j v) (hl : j < (fs (μ k)).length) (hdg : decode cc pc = .ok (.putfield index, 3))
    (kk : ∀ (H1 : Heap) (locs1 : List Loc), Rg g (put μ k j x) H1 → va_S A H0 H1 locs1 → W p l e R s m args below meth c H1 locs1 cells slots Q (F0 m (pc + 3) ls rest)) : W p l e R s m args below meth c H locs cells slots Q (F0 m pc ls (v :: .ref (g.ad k) :: rest)) := by
  obtain ⟨j0, hi0, hj0⟩ := obs_get (g := g) (L := g.mut) (μ := μ) hk
  have hlt : j0 < (obs g g.mut μ).length := (List.getElem?_eq_some_iff.mp hj0).1
  have hj1 : (hws g μ)[j0]? = some (g.ad k, ob g k (μ k)) := by unfold hws; rw [List.getElem?_append_left hlt]; exact hj0
  rw [he] at hj1
  refine va_put hx hb hts hin ty0 hty hnm hown hT.1 (hP.pw hY) (hD μ) hS j0 hj1 hc j hj (hts _ hlink) hsame hfin hd hn hfit hl hdg (fun H1 locs1 h1 _ h3 => kk H1 locs1 (Rg.hput hC hN h3 ?_) h3)
  have h2 := obs_set (g := g) (mut_nodup g) (μ := μ) (μ' := put μ k j x) hi0 (fun y hy => put_ne μ j x hy)
  rw [he, put_at, hset] at h2
  unfold hws at h1 ⊢
  rw [List.set_append_left _ _ hlt, h2] at h1
  exact h1
theorem rh_iast (hY : g.tz 0 = 1) (hx : p.tables.exec = Jvm.exec) (hb : c.code = cc) (hT : Tb g s) (hP : Rg g μ H) (hD : ∀ ν, va_D A (hws g ν)) (hC : Rc' g H0) (hN : Nf' g A) (hS : va_S A H0 H locs) (hk : isA k) {i x : Int32} (hin : ¬ (i < 0 ∨ alen k ≤ i.toNatClampNeg)) (hdg : decode cc pc = .ok (.iastore, 1))
    (kk : ∀ (H1 : Heap) (locs1 : List Loc), Rg g (put μ k i.toNatClampNeg x) H1 → va_S A H0 H1 locs1 → W p l e R s m args below meth c H1 locs1 cells slots Q (F0 m (pc + 1) ls rest)) : W p l e R s m args below meth c H locs cells slots Q (F0 m pc ls (.int x :: .int i :: .ref (g.ad k) :: rest)) := by
  obtain ⟨j0, hi0, hj0⟩ := obs_get (g := g) (L := g.mut) (μ := μ) (mtA hk)
  have hlt : j0 < (obs g g.mut μ).length := (List.getElem?_eq_some_iff.mp hj0).1
  have hj1 : (hws g μ)[j0]? = some (g.ad k, ob g k (μ k)) := by unfold hws; rw [List.getElem?_append_left hlt]; exact hj0
  rw [obA hk] at hj1
  refine va_iast hx hb hT.1 (hP.pw hY) (hD μ) hS j0 0 hj1 rfl hin hdg (fun H1 locs1 h1 _ h3 => kk H1 locs1 (Rg.hput hC hN h3 ?_) h3)
  have h2 := obs_set (g := g) (mut_nodup g) (μ := μ) (μ' := put μ k i.toNatClampNeg x) hi0 (fun y hy => put_ne μ _ x hy)
  rw [obA hk, put_at] at h2
  unfold hws at h1 ⊢
  rw [List.set_append_left _ _ hlt, h2] at h1
  exact h1
end RH
