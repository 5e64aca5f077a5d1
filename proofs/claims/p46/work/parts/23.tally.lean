/-! what a tally does with a number, over the flat memory: its picture TI, kept -/
theorem Met.conseq {l : Launch} {y : MethodName} {ws : List Cond} {rm : Room} {P' : Array Value → State → Prop} {Q' : Array Value → State → Outcome → State → Prop} {mc ms : Nat} {free' : Addr → Prop} (h : ∀ (args : Array Value) (s : State), P' args s → ∃ (Pc : Array Value → State → Prop) (Qc : Array Value → State → Outcome → State → Prop) (free : Addr → Prop), Met l y ws rm Pc Qc mc ms free ∧ Pc args s ∧ (∀ (o : Outcome) (t : State), Qc args s o t → Q' args s o t) ∧ ∀ q, free q → free' q) : Met l y ws rm P' Q' mc ms free' := by
  intro p e ha hc hk s m args below hf happ hP hK
  obtain ⟨Pc, Qc, free, hM, h1, h2, h3⟩ := h args s hP
  obtain ⟨n, o, q1, q2, q3, q4, L, q5, q6⟩ := hM p e ha hc hk s m args below hf happ h1 trivial
  exact ⟨n, o, q1, q2, q3, h2 _ _ q4, L, q5, fun q hq => h3 _ (q6 q hq)⟩
/-- everything lies at b or behind it -/
def Ab (g : Geo) (b : Nat) : Prop := (∀ k, k ∈ g.idx → b ≤ g.ad k) ∧ ∀ k, k ∈ g.tdx → b ≤ g.ta k
def Pe (g : Geo) (z b : Nat) (av : List Value) (PH : Heap → Prop) : Array Value → State → Prop := va_Pc av (fun U => (Tb g U ∧ Em g.D z b (g.cy 2) U) ∧ PH U.heap)
theorem Pe.blind {g : Geo} {z b : Nat} {av : List Value} {PH : Heap → Prop} : FrameBlind (Pe g z b av PH) := fun _ _ _ _ h => ⟨h.1, ⟨Tb.call h.2.1.1, Em.call h.2.1.2⟩, h.2.2⟩
/-- what a method that tallies may change -/
def At (g : Geo) (sz : Nat) : Nat → Prop := fun q => (∃ k, k ∈ g.mut ∧ q = g.ad k) ∨ q = g.ad 268 ∨ q = g.ad 274 ∨ (∃ k, k ∈ g.tdx ∧ q = g.ta k) ∨ sz ≤ q
def stT (ts : Mem) (r : Nat → Int32) : Mem := fun k => if k = 1000 then r else ts k
theorem stT_at (ts : Mem) (r : Nat → Int32) : stT ts r 1000 = r := if_pos rfl
theorem stT_ne (ts : Mem) (r : Nat → Int32) {k : Nat} (h : k ≠ 1000) : stT ts r k = ts k := if_neg h
theorem stT_f (ts : Mem) (r : Nat → Int32) {j : Nat} {v : Int32} (h : r j = v) : stT ts r 1000 j = v := by rw [stT_at]; exact h
theorem stT_le (ts : Mem) (r : Nat → Int32) (h : r 3 ≤ r 4) : stT ts r 1000 3 ≤ stT ts r 1000 4 := by rw [stT_at]; exact h
theorem stT_na (ts : Mem) (r : Nat → Int32) {k j : Nat} {v : Int32} (h : k ≠ 1000) (e : ts k j = v) : stT ts r k j = v := by rw [stT_ne _ _ h]; exact e
def tRow (ba co su le gr la op os fl : Int32) : Nat → Int32 := fun j => match j with
  | 0 => ba
  | 1 => co
  | 2 => su
  | 3 => le
  | 4 => gr
  | 5 => la
  | 6 => op
  | 7 => os
  | _ => fl
/-- a tally behind at most n numbers -/
def TI (z : Nat) (X : Tp) (n : Nat) : Prop := X.1 0 = 1 ∧ ∃ m k o ba os : Nat, m ≤ n ∧ 1 ≤ ba ∧ ba ≤ 3 ∧ m = k * ba + o ∧ o < ba ∧ os ≤ 5000 * o ∧ X.2.1 1000 0 = nI ba ∧ X.2.1 1000 1 = nI m ∧ X.2.1 1000 8 = nI k ∧ X.2.1 1000 6 = nI o ∧ X.2.1 1000 7 = nI os ∧ X.2.1 1000 3 ≤ X.2.1 1000 4 ∧ k ≤ 512 * X.1 2 ∧ 512 * X.1 2 < k + 512 ∧ (X.1 2 = 0 → X.2.2 0 = z) ∧ ∀ i, i < k → ∃ s, s ≤ 15000 ∧ X.2.1 (2 + 2 * (i / 512)) (i % 512) = nI s
theorem idx_tw {g : Geo} {X X' : Tp} (e0 : X'.1 0 = X.1 0) (e1 : X'.1 1 = X.1 1) {k : Nat} (h : k ∈ (g.tw X').idx) : k ∈ (g.tw X).idx := by
  have h' := mem_idx.mp h
  refine mem_idx.mpr ⟨h'.1, ?_⟩
  have h2 := h'.2
  have a0 : (g.tw X').tz 0 = (g.tw X).tz 0 := e0
  have a1 : (g.tw X').tz 1 = (g.tw X).tz 1 := e1
  unfold pres at h2 ⊢
  rw [a0, a1] at h2
  exact h2
theorem ob_tw {g : Geo} {X X' : Tp} (e0 : X'.1 0 = X.1 0) {k : Nat} (h1 : ¬ k = 268) (h2 : ¬ k = 274) (m : Nat → Int32) : ob (g.tw X') k m = ob (g.tw X) k m := by
  have a0 : (g.tw X').tz 0 = (g.tw X).tz 0 := e0
  unfold ob
  rw [a0]
  simp only [if_neg h1, if_neg h2]
  rfl
theorem in268 {g : Geo} (h : g.tz 0 = 1) : 268 ∈ g.idx := inY (k := 268) ⟨rfl, h⟩
theorem Rg.retal {g : Geo} {X X' : Tp} {μ : Mem} {H H1 : Heap} {A : Nat → Prop} (hg : Good (g.tw X)) (hR : Rg (g.tw X) μ H) (hY : X.1 0 = 1) (e0 : X'.1 0 = 1) (e1 : X'.1 1 = X.1 1) (hA : ∀ q, A q → q = g.ad 268 ∨ q = g.ad 274 ∨ (∃ k, k ∈ (g.tw X).tdx ∧ q = X.2.2 k) ∨ H.size ≤ q) (hk : ∀ q : Nat, q < H.size → ¬ A q → H1[q]? = H[q]?) (c1 : va_at g.D vwCl (g.ad 268, ob (g.tw X') 268 (μ 268)) H1) (c2 : va_at g.D vwCl (g.ad 274, ob (g.tw X') 274 (μ 274)) H1) (ct : ∀ k, k ∈ (g.tw X').tdx → va_at g.D vwCl (X'.2.2 k, obT (g.tw X') k) H1) : Rg (g.tw X') μ H1 := by
  refine ⟨fun k hk9 => ?_, ct⟩
  have hkX : k ∈ (g.tw X).idx := idx_tw (e0.trans hY.symm) e1 hk9
  have i1 : 268 ∈ (g.tw X).idx := in268 hY
  have i2 : 274 ∈ (g.tw X).idx := in274 (k := 268) ⟨rfl, hY⟩
  by_cases h1 : k = 268
  · subst h1; exact c1
  by_cases h2 : k = 274
  · subst h2; exact c2
  have h3 := hR.1 k hkX
  rw [ob_tw (e0.trans hY.symm) h1 h2]
  refine h3.kept (hk _ h3.lt (fun q => ?_))
  rcases hA _ q with e | e | ⟨j, hj, e⟩ | e
  · exact h1 (hg.1 k 268 hkX i1 e)
  · exact h2 (hg.1 k 274 hkX i2 e)
  · exact hg.2.2.2.2.2.2.2.2 k j hkX hj e
  · exact absurd h3.lt (Nat.not_lt.mpr e)
theorem Good.retal {g : Geo} {X X' : Tp} (hg : Good (g.tw X)) (hY : X.1 0 = 1) (e0 : X'.1 0 = 1) (e1 : X'.1 1 = X.1 1) (h2 : X'.1 2 ≤ 10) (ha : ∀ i j, i ∈ (g.tw X').tdx → j ∈ (g.tw X').tdx → X'.2.2 i = X'.2.2 j → i = j) (hb : ∀ i j, i ∈ (g.tw X).idx → j ∈ (g.tw X').tdx → ¬ g.ad i = X'.2.2 j) : Good (g.tw X') :=
  ⟨fun i j hi hj => hg.1 i j (idx_tw (e0.trans hY.symm) e1 hi) (idx_tw (e0.trans hY.symm) e1 hj), hg.2.1, hg.2.2.1, hg.2.2.2.1, hg.2.2.2.2.1, Nat.le_of_eq e0, h2, ha, fun i j hi hj => hb i j (idx_tw (e0.trans hY.symm) e1 hi) hj⟩
theorem Pcons {D : va_G} {cl : List vw_C} {q : Nat × va_E} {ws : va_W} {H : Heap} (h : va_at D cl q H) (hs : va_P D cl ws H) : va_P D cl (q :: ws) H := by
  intro k x hk
  cases k with
  | zero => rw [List.getElem?_cons_zero] at hk; rw [← Option.some.inj hk]; exact h
  | succ k => rw [List.getElem?_cons_succ] at hk; exact hs k x hk
theorem P0 {D : va_G} {cl : List vw_C} {H : Heap} : va_P D cl [] H := fun k x hk => by simp at hk
theorem D0 {A : Nat → Prop} : va_D A [] := ⟨fun i j p q hi => by simp at hi, fun k q hk => by simp at hk⟩
theorem Dcons {A : Nat → Prop} {q : Nat × va_E} {ws : va_W} (hA : A q.1) (hn : ∀ (k : Nat) (p : Nat × va_E), ws[k]? = some p → ¬ q.1 = p.1) (hs : va_D A ws) : va_D A (q :: ws) := by
  refine ⟨fun i j x y hi hj hxy => ?_, fun k x hk => ?_⟩
  · cases i with
    | zero =>
      cases j with
      | zero => rfl
      | succ j =>
        rw [List.getElem?_cons_zero] at hi
        rw [List.getElem?_cons_succ] at hj
        rw [← Option.some.inj hi] at hxy
        exact absurd hxy (hn j y hj)
    | succ i =>
      rw [List.getElem?_cons_succ] at hi
      cases j with
      | zero =>
        rw [List.getElem?_cons_zero] at hj
        rw [← Option.some.inj hj] at hxy
        exact absurd hxy.symm (hn i x hi)
      | succ j =>
        rw [List.getElem?_cons_succ] at hj
        rw [hs.1 i j x y hi hj hxy]
  · cases k with
    | zero => rw [List.getElem?_cons_zero] at hk; rw [← Option.some.inj hk]; exact hA
    | succ k => rw [List.getElem?_cons_succ] at hk; exact hs.2 k x hk
/-- a number more, no batch full by it -/
theorem TI.more {z : Nat} {X : Tp} {n m k o ba os xi : Nat} {su le gr : Int32} (hx : xi ≤ 5000) (hn : n ≤ 1300) (h0 : X.1 0 = 1) (h1 : m ≤ n) (h2 : 1 ≤ ba) (h3 : ba ≤ 3) (h4 : m = k * ba + o) (h5 : o + 1 < ba) (h6 : os ≤ 5000 * o) (hlg : le ≤ gr) (h12 : k ≤ 512 * X.1 2) (h13 : 512 * X.1 2 < k + 512) (h14 : X.1 2 = 0 → X.2.2 0 = z) (h15 : ∀ i, i < k → ∃ s, s ≤ 15000 ∧ X.2.1 (2 + 2 * (i / 512)) (i % 512) = nI s) :
    TI z (X.1, stT X.2.1 (tRow (nI ba) (nI m + 1) su le gr (nI xi) (nI o + 1) (nI os + nI xi) (nI k)), X.2.2) (n + 1) := by
  have hk : k ≤ m := by rw [h4]; have := Nat.le_mul_of_pos_right k h2; omega
  refine ⟨h0, m + 1, k, o + 1, ba, os + xi, by omega, h2, h3, by omega, h5, by omega, ?_, ?_, ?_, ?_, ?_, ?_, h12, h13, h14, fun i hi => ?_⟩
  · dsimp only
    exact stT_f _ _ rfl
  · dsimp only
    exact stT_f _ _ (nI_1 m)
  · dsimp only
    exact stT_f _ _ rfl
  · dsimp only
    exact stT_f _ _ (nI_1 o)
  · dsimp only
    exact stT_f _ _ (nI_add os xi)
  · dsimp only
    exact stT_le _ _ hlg
  · obtain ⟨s, s1, s2⟩ := h15 i hi
    refine ⟨s, s1, ?_⟩
    dsimp only
    exact stT_na _ _ (by omega) s2
/-- a number more, with which a batch is full -/
theorem TI.keep {z : Nat} {X : Tp} {n m k o ba os xi c : Nat} {su le gr : Int32} {tz ta : Nat → Nat} {base : Nat → Int32} (hx : xi ≤ 5000) (hn : n ≤ 1300) (h1 : m ≤ n) (h2 : 1 ≤ ba) (h3 : ba ≤ 3) (h4 : m = k * ba + o) (h5 : o + 1 = ba) (h6 : os ≤ 5000 * o) (hlg : le ≤ gr) (h15 : ∀ i, i < k → ∃ s, s ≤ 15000 ∧ X.2.1 (2 + 2 * (i / 512)) (i % 512) = nI s) (hb : ∀ i, i < k → i / 512 = k / 512 → base (i % 512) = X.2.1 (2 + 2 * (i / 512)) (i % 512)) (z0 : tz 0 = 1) (z2 : tz 2 = c) (c1 : k + 1 ≤ 512 * c) (c2 : 512 * c < k + 1 + 512) :
    TI z (tz, stT (fun j => if j = 2 + 2 * (k / 512) then upd base (k % 512) (nI os + nI xi) else X.2.1 j) (tRow (nI ba) (nI m + 1) su le gr (nI xi) 0 0 (nI k + 1)), ta) (n + 1) := by
  have hk : k ≤ m := by rw [h4]; have := Nat.le_mul_of_pos_right k h2; omega
  have hm : (k + 1) * ba = k * ba + ba := Nat.succ_mul k ba
  refine ⟨z0, m + 1, k + 1, 0, ba, 0, by omega, h2, h3, by rw [hm]; omega, by omega, by omega, ?_, ?_, ?_, ?_, ?_, ?_, by show k + 1 ≤ 512 * tz 2; rw [z2]; exact c1, by show 512 * tz 2 < k + 1 + 512; rw [z2]; exact c2, fun e => ?_, fun i hi => ?_⟩
  · dsimp only
    exact stT_f _ _ rfl
  · dsimp only
    exact stT_f _ _ (nI_1 m)
  · dsimp only
    exact stT_f _ _ (nI_1 k)
  · dsimp only
    exact stT_f _ _ rfl
  · dsimp only
    exact stT_f _ _ rfl
  · dsimp only
    exact stT_le _ _ hlg
  · have e2 : tz 2 = 0 := e
    omega
  · have hne : ¬ 2 + 2 * (i / 512) = 1000 := by omega
    by_cases hik : i = k
    · subst hik
      refine ⟨os + xi, by omega, ?_⟩
      dsimp only
      refine stT_na _ _ hne ?_
      show (if 2 + 2 * (i / 512) = 2 + 2 * (i / 512) then upd base (i % 512) (nI os + nI xi) else X.2.1 (2 + 2 * (i / 512))) (i % 512) = _
      rw [if_pos rfl, pk_us, nI_add]
    · obtain ⟨s, s1, s2⟩ := h15 i (by omega)
      refine ⟨s, s1, ?_⟩
      dsimp only
      refine stT_na _ _ hne ?_
      show (if 2 + 2 * (i / 512) = 2 + 2 * (k / 512) then upd base (k % 512) (nI os + nI xi) else X.2.1 (2 + 2 * (i / 512))) (i % 512) = _
      by_cases hd : i / 512 = k / 512
      · rw [if_pos (by rw [hd]), pk_un (by omega), hb i (by omega) hd]
        exact s2
      · rw [if_neg (by omega)]
        exact s2
