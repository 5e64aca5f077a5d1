/-! Tally.take over the flat memory: a full batch -/
theorem rem_at {k : Nat} (h : k < 2 ^ 31) : (nI k - nI k / 512 * 512).toNatClampNeg = k % 512 := by
  have e : nI k - nI k / 512 * 512 = nI (k % 512) := pk_rem (d := 512) h (by decide) (by decide)
  rw [e, nI_clamp (by omega)]
theorem obT_up {g : Geo} {tz ta : Nat → Nat} {ts : Mem} {r : Nat → Int32} {j k : Nat} (h : k ≠ j) : obT (g.tw (tz, (fun i => if i = j then r else ts i), ta)) k = obT (g.tw (tz, ts, ta)) k := by
  have e : (g.tw (tz, (fun i => if i = j then r else ts i), ta)).ts k = (g.tw (tz, ts, ta)).ts k := if_neg h
  unfold obT
  rw [e]
theorem tk_into {g : Geo} {X : Tp} {z b : Nat} {μ : Mem} {sz n m k o ba os xi j : Nat} {su le gr : Int32} {A : Nat → Prop} {s t : State} (hg : Good (g.tw X)) (hAb : Ab (g.tw X) b) (hx : xi ≤ 5000) (hn : n ≤ 1300) (h0 : X.1 0 = 1) (h1 : m ≤ n) (h2 : 1 ≤ ba) (h3 : ba ≤ 3) (h4 : m = k * ba + o) (h5 : o + 1 = ba) (h6 : os ≤ 5000 * o) (hlg : le ≤ gr) (h15 : ∀ i, i < k → ∃ s, s ≤ 15000 ∧ X.2.1 (2 + 2 * (i / 512)) (i % 512) = nI s)
    (hc : X.1 2 = j + 1) (hk1 : k < 512 * (j + 1)) (hk2 : 512 * (j + 1) < k + 512) (hR : Rg (g.tw X) μ s.heap) (hsz : s.heap.size = sz)
    (hA : ∀ q, A q → q = g.ad 268 ∨ q = g.ad 274 ∨ q = X.2.2 0 ∨ q = X.2.2 (1 + 2 * j) ∨ q = X.2.2 (2 + 2 * j) ∨ sz ≤ q) (hF : va_F A s t)
    (F1 : va_at g.D vwCl (g.ad 268, .inr (7, [.int (nI ba), .int (nI m + 1), .int su, .int le, .int gr, .int (nI xi), .int 0, .int 0, .int (nI k + 1), .ref (g.ad 274)])) t.heap)
    (F2 : va_at g.D vwCl (g.ad 274, .inr (0, [.int (nI (j + 1)), .ref (X.2.2 0), .int (nI (j + 1))])) t.heap)
    (F3 : va_at g.D vwCl (X.2.2 0, .inl (g.cy 2, 10, .inr (.inr (.inr (.inr (fnK (g.tw X))))))) t.heap)
    (F4 : va_at g.D vwCl (X.2.2 (1 + 2 * j), .inr (1, [.ref (X.2.2 (2 + 2 * j))])) t.heap)
    (F5 : va_at g.D vwCl (X.2.2 (2 + 2 * j), .inl (g.cy 0, 512, .inl (upd (X.2.1 (2 + 2 * j)) (nI k - nI k / 512 * 512).toNatClampNeg (nI os + nI xi)))) t.heap) :
    ∃ X' : Tp, TI z X' (n + 1) ∧ X'.1 1 = X.1 1 ∧ Good (g.tw X') ∧ Ab (g.tw X') b ∧ Rg (g.tw X') μ t.heap ∧ Tn g X X' sz := by
  have hc9 : X.1 2 ≤ 10 := hg.2.2.2.2.2.2.1
  have hkm : k ≤ m := by rw [h4]; have := Nat.le_mul_of_pos_right k h2; omega
  have hd : k / 512 = j := by omega
  rw [rem_at (by omega)] at F5
  have T := TI.keep (z := z) (X := X) (c := j + 1) (su := su) (le := le) (gr := gr) (tz := X.1) (ta := X.2.2) (base := X.2.1 (2 + 2 * (k / 512))) hx hn h1 h2 h3 h4 h5 h6 hlg h15 (fun i _ e => by rw [e]) h0 hc (by omega) (by omega)
  rw [hd] at T
  refine ⟨_, T, rfl, hg.retal h0 h0 rfl hc9 hg.2.2.2.2.2.2.2.1 hg.2.2.2.2.2.2.2.2, ⟨fun i hi => hAb.1 i (idx_tw rfl rfl hi), hAb.2⟩, Rg.retal (A := A) hg hR h0 h0 rfl (fun q hq => ?_) hF.2 ?_ ?_ ?_, fun k hk => Or.inl ⟨k, hk, rfl⟩⟩
  · have t0 : 0 ∈ (g.tw X).tdx := mem_tdx.mpr ⟨by show 0 < X.1 2; omega, by omega⟩
    have t1 : 1 + 2 * j ∈ (g.tw X).tdx := mem_tdx.mpr ⟨by show 0 < X.1 2; omega, by show _ < 1 + 2 * X.1 2; omega⟩
    have t2 : 2 + 2 * j ∈ (g.tw X).tdx := mem_tdx.mpr ⟨by show 0 < X.1 2; omega, by show _ < 1 + 2 * X.1 2; omega⟩
    rcases hA q hq with e | e | e | e | e | e
    · exact Or.inl e
    · exact Or.inr (Or.inl e)
    · exact Or.inr (Or.inr (Or.inl ⟨0, t0, e⟩))
    · exact Or.inr (Or.inr (Or.inl ⟨_, t1, e⟩))
    · exact Or.inr (Or.inr (Or.inl ⟨_, t2, e⟩))
    · exact Or.inr (Or.inr (Or.inr (by rw [hsz]; exact e)))
  · rw [obY (g := g.tw (X.1, stT _ _, X.2.2)) (k := 268) ⟨rfl, h0⟩, fsY_st]
    exact F1
  · rw [tk_list]
    show va_at g.D vwCl (g.ad 274, .inr (0, [.int (nI (X.1 2)), .ref (X.2.2 0), .int (nI (X.1 2))])) t.heap
    rw [hc]
    exact F2
  · intro k9 hk9
    have hlt : k9 < 1 + 2 * X.1 2 := (mem_tdx.mp hk9).2
    have hkX : k9 ∈ (g.tw X).tdx := hk9
    rw [obT_st (by omega)]
    by_cases a2 : k9 = 2 + 2 * j
    · subst a2
      rw [obZ (g := g.tw (X.1, (fun i => if i = 2 + 2 * j then upd (X.2.1 (2 + 2 * j)) (k % 512) (nI os + nI xi) else X.2.1 i), X.2.2)) (k := 2 + 2 * j) ⟨by omega, by omega, hlt⟩]
      show va_at g.D vwCl (X.2.2 (2 + 2 * j), .inl (g.cy 0, 512, .inl (if 2 + 2 * j = 2 + 2 * j then upd (X.2.1 (2 + 2 * j)) (k % 512) (nI os + nI xi) else X.2.1 (2 + 2 * j)))) t.heap
      rw [if_pos rfl]
      exact F5
    · rw [obT_up a2]
      by_cases a0 : k9 = 0
      · subst a0; exact F3
      · by_cases a1 : k9 = 1 + 2 * j
        · subst a1
          rw [obK (g := g.tw (X.1, X.2.1, X.2.2)) ⟨by omega, hlt⟩]
          rw [show 1 + 2 * j + 1 = 2 + 2 * j by omega]
          exact F4
        · have h := hR.2 k9 hkX
          have t0 : 0 ∈ (g.tw X).tdx := mem_tdx.mpr ⟨by show 0 < X.1 2; omega, by omega⟩
          have t1 : 1 + 2 * j ∈ (g.tw X).tdx := mem_tdx.mpr ⟨by show 0 < X.1 2; omega, by show _ < 1 + 2 * X.1 2; omega⟩
          have t2 : 2 + 2 * j ∈ (g.tw X).tdx := mem_tdx.mpr ⟨by show 0 < X.1 2; omega, by show _ < 1 + 2 * X.1 2; omega⟩
          refine h.kept (hF.2 _ h.lt (fun q => ?_))
          rcases hA _ q with e | e | e | e | e | e
          · exact hg.2.2.2.2.2.2.2.2 268 k9 (in268 h0) hkX e.symm
          · exact hg.2.2.2.2.2.2.2.2 274 k9 (in274 (k := 268) ⟨rfl, h0⟩) hkX e.symm
          · exact a0 (hg.2.2.2.2.2.2.2.1 k9 0 hkX t0 e)
          · exact a1 (hg.2.2.2.2.2.2.2.1 k9 _ hkX t1 e)
          · exact a2 (hg.2.2.2.2.2.2.2.1 k9 _ hkX t2 e)
          · have := h.lt; rw [hsz] at this; exact absurd this (Nat.not_lt.mpr e)
/-- where things lie behind a new chunk -/
def tzN (c : Nat) (tz : Nat → Nat) : Nat → Nat := fun i => if i = 2 then c + 1 else tz i
theorem tzN0 (c : Nat) (tz : Nat → Nat) : tzN c tz 0 = tz 0 := if_neg (by decide)
theorem tzN1 (c : Nat) (tz : Nat → Nat) : tzN c tz 1 = tz 1 := if_neg (by decide)
theorem tzN2 (c : Nat) (tz : Nat → Nat) : tzN c tz 2 = c + 1 := if_pos rfl
def taN (c e q1 q2 : Nat) (ta : Nat → Nat) : Nat → Nat := fun i => if i = 0 then e else if i = 1 + 2 * c then q1 else if i = 2 + 2 * c then q2 else ta i
theorem tk_new {g : Geo} {X : Tp} {z b : Nat} {μ : Mem} {sz n m k o ba os xi c e q1 q2 : Nat} {su le gr : Int32} {A : Nat → Prop} {s t : State} {f : Nat → Option Nat} (hg : Good (g.tw X)) (hAb : Ab (g.tw X) b) (hx : xi ≤ 5000) (hn : n ≤ 1300) (h0 : X.1 0 = 1) (h1 : m ≤ n) (h2 : 1 ≤ ba) (h3 : ba ≤ 3) (h4 : m = k * ba + o) (h5 : o + 1 = ba) (h6 : os ≤ 5000 * o) (hlg : le ≤ gr) (h15 : ∀ i, i < k → ∃ s, s ≤ 15000 ∧ X.2.1 (2 + 2 * (i / 512)) (i % 512) = nI s)
    (hc : X.1 2 = c) (hkc : k = 512 * c) (hR : Rg (g.tw X) μ s.heap) (hsz : s.heap.size = sz)
    (hA : ∀ q, A q → q = g.ad 268 ∨ q = g.ad 274 ∨ (0 < c ∧ q = X.2.2 0) ∨ sz ≤ q) (hF : va_F A s t)
    (F1 : va_at g.D vwCl (g.ad 268, .inr (7, [.int (nI ba), .int (nI m + 1), .int su, .int le, .int gr, .int (nI xi), .int 0, .int 0, .int (nI k + 1), .ref (g.ad 274)])) t.heap)
    (F2 : va_at g.D vwCl (g.ad 274, .inr (0, [.int (nI (c + 1)), .ref e, .int (nI (c + 1))])) t.heap)
    (F3 : va_at g.D vwCl (e, .inl (g.cy 2, 10, .inr (.inr (.inr (.inr f))))) t.heap)
    (F4 : va_at g.D vwCl (q1, .inr (1, [.ref q2])) t.heap)
    (F5 : va_at g.D vwCl (q2, .inl (g.cy 0, 512, .inl (upd (fun _ => 0) (nI k - nI k / 512 * 512).toNatClampNeg (nI os + nI xi)))) t.heap)
    (p1 : sz ≤ q1) (p2 : sz ≤ q2) (p12 : ¬ q1 = q2) (pe : (0 < c ∧ e = X.2.2 0) ∨ (c = 0 ∧ sz ≤ e ∧ ¬ e = q1 ∧ ¬ e = q2)) (hf : ∀ i, f i = if i < c + 1 then some (if i = c then q1 else X.2.2 (1 + 2 * i)) else none) :
    ∃ X' : Tp, TI z X' (n + 1) ∧ X'.1 1 = X.1 1 ∧ Good (g.tw X') ∧ Ab (g.tw X') b ∧ Rg (g.tw X') μ t.heap ∧ Tn g X X' sz := by
  have hkm : k ≤ m := by rw [h4]; have := Nat.le_mul_of_pos_right k h2; omega
  have hc2 : c ≤ 2 := by omega
  have hd : k / 512 = c := by omega
  rw [rem_at (by omega)] at F5
  have i1 : 268 ∈ (g.tw X).idx := in268 h0
  have i2 : 274 ∈ (g.tw X).idx := in274 (k := 268) ⟨rfl, h0⟩
  have l1 := (hR.1 268 i1).lt
  have hbs : b ≤ sz := by have := hAb.1 268 i1; rw [hsz] at l1; exact Nat.le_of_lt (Nat.lt_of_le_of_lt this l1)
  have T := TI.keep (z := z) (X := X) (c := c + 1) (su := su) (le := le) (gr := gr) (tz := tzN c X.1) (ta := taN c e q1 q2 X.2.2) (base := fun _ => 0) hx hn h1 h2 h3 h4 h5 h6 hlg h15 (fun i hi e => absurd e (by omega)) ((tzN0 c X.1).trans h0) (tzN2 c X.1) (by omega) (by omega)
  rw [hd] at T
  -- an old chunk's place
  have old : ∀ i, 0 < i → i < 1 + 2 * c → i ∈ (g.tw X).tdx := fun i j1 j2 => mem_tdx.mpr ⟨by show 0 < X.1 2; omega, by show i < 1 + 2 * X.1 2; omega⟩
  have olt : ∀ i, i ∈ (g.tw X).tdx → X.2.2 i < sz := fun i hi => by rw [← hsz]; exact (hR.2 i hi).lt
  have t0 : 0 < c → 0 ∈ (g.tw X).tdx := fun h => mem_tdx.mpr ⟨by show 0 < X.1 2; omega, by omega⟩
  -- taN's values
  have v0 : taN c e q1 q2 X.2.2 0 = e := if_pos rfl
  have v1 : taN c e q1 q2 X.2.2 (1 + 2 * c) = q1 := by unfold taN; rw [if_neg (by omega), if_pos rfl]
  have v2 : taN c e q1 q2 X.2.2 (2 + 2 * c) = q2 := by unfold taN; rw [if_neg (by omega), if_neg (by omega), if_pos rfl]
  have vo : ∀ i, 0 < i → i < 1 + 2 * c → taN c e q1 q2 X.2.2 i = X.2.2 i := fun i j1 j2 => by unfold taN; rw [if_neg (by omega), if_neg (by omega), if_neg (by omega)]
  have cases9 : ∀ i, i < 1 + 2 * (c + 1) → i = 0 ∨ (0 < i ∧ i < 1 + 2 * c) ∨ i = 1 + 2 * c ∨ i = 2 + 2 * c := fun i hi => by omega
  have em : 0 < c → e = X.2.2 0 := fun h => by rcases pe with p | p; exact p.2; omega
  have tin : ∀ i, i ∈ (g.tw ((tzN c X.1), stT (fun j => if j = 2 + 2 * c then upd (fun _ => 0) (k % 512) (nI os + nI xi) else X.2.1 j) (tRow (nI ba) (nI m + 1) su le gr (nI xi) 0 0 (nI k + 1)), taN c e q1 q2 X.2.2)).tdx → i < 1 + 2 * (c + 1) := fun i hi => by
    have h9 : i < 1 + 2 * tzN c X.1 2 := (mem_tdx.mp hi).2
    rw [tzN2] at h9
    exact h9
  -- a place that is old or new
  have loc : ∀ i, i < 1 + 2 * (c + 1) → (∃ j, j ∈ (g.tw X).tdx ∧ taN c e q1 q2 X.2.2 i = X.2.2 j ∧ j = i) ∨ (sz ≤ taN c e q1 q2 X.2.2 i ∧ (i = 1 + 2 * c ∨ i = 2 + 2 * c ∨ (i = 0 ∧ c = 0))) := by
    intro i hi
    rcases cases9 i hi with rfl | ⟨j1, j2⟩ | rfl | rfl
    · rw [v0]
      rcases pe with p | p
      · exact Or.inl ⟨0, t0 p.1, p.2, rfl⟩
      · exact Or.inr ⟨p.2.1, Or.inr (Or.inr ⟨rfl, p.1⟩)⟩
    · exact Or.inl ⟨i, old i j1 j2, vo i j1 j2, rfl⟩
    · rw [v1]; exact Or.inr ⟨p1, Or.inl rfl⟩
    · rw [v2]; exact Or.inr ⟨p2, Or.inr (Or.inl rfl)⟩
  refine ⟨_, T, tzN1 c X.1, hg.retal h0 ((tzN0 c X.1).trans h0) (tzN1 c X.1) (by show tzN c X.1 2 ≤ 10; rw [tzN2]; omega) (fun i j hi hj hij => ?_) (fun i j hi hj hij => ?_), ⟨fun i hi => hAb.1 i (idx_tw (tzN0 c X.1) (tzN1 c X.1) hi), fun i hi => ?_⟩, Rg.retal (A := A) hg hR h0 ((tzN0 c X.1).trans h0) (tzN1 c X.1) (fun q hq => ?_) hF.2 ?_ ?_ ?_, fun i hi => (loc i (tin i hi)).elim (fun ⟨j, a, d, _⟩ => Or.inl ⟨j, a, d⟩) (fun h => Or.inr h.1)⟩
  · -- apart
    have hij : taN c e q1 q2 X.2.2 i = taN c e q1 q2 X.2.2 j := hij
    rcases loc i (tin i hi) with ⟨i', a1, a2, a3⟩ | ⟨a1, a2⟩
    · rcases loc j (tin j hj) with ⟨j', b1, b2, b3⟩ | ⟨b1, b2⟩
      · rw [← a3, ← b3]
        exact hg.2.2.2.2.2.2.2.1 i' j' a1 b1 (a2.symm.trans (hij.trans b2))
      · have := olt i' a1; rw [← a2, hij] at this; exact absurd this (Nat.not_lt.mpr b1)
    · rcases loc j (tin j hj) with ⟨j', b1, b2, b3⟩ | ⟨b1, b2⟩
      · have := olt j' b1; rw [← b2, ← hij] at this; exact absurd this (Nat.not_lt.mpr a1)
      · rcases a2 with rfl | rfl | ⟨rfl, c0⟩
        · rcases b2 with rfl | rfl | ⟨rfl, c0⟩
          · rfl
          · rw [v1, v2] at hij; exact absurd hij p12
          · rw [v1, v0] at hij
            rcases pe with p | p
            · omega
            · exact absurd hij.symm p.2.2.1
        · rcases b2 with rfl | rfl | ⟨rfl, c0⟩
          · rw [v1, v2] at hij; exact absurd hij.symm p12
          · rfl
          · rw [v2, v0] at hij
            rcases pe with p | p
            · omega
            · exact absurd hij.symm p.2.2.2
        · rcases b2 with rfl | rfl | ⟨rfl, c0'⟩
          · rw [v1, v0] at hij
            rcases pe with p | p
            · omega
            · exact absurd hij p.2.2.1
          · rw [v2, v0] at hij
            rcases pe with p | p
            · omega
            · exact absurd hij p.2.2.2
          · rfl
  · have hij : g.ad i = taN c e q1 q2 X.2.2 j := hij
    rcases loc j (tin j hj) with ⟨j', b1, b2, b3⟩ | ⟨b1, b2⟩
    · exact hg.2.2.2.2.2.2.2.2 i j' hi b1 (by rw [hij]; exact b2)
    · have := (hR.1 i hi).lt
      rw [hsz] at this
      have h9 : g.ad i < sz := this
      rw [hij] at h9
      exact absurd h9 (Nat.not_lt.mpr b1)
  · show b ≤ taN c e q1 q2 X.2.2 i
    rcases loc i (tin i hi) with ⟨i', a1, a2, a3⟩ | ⟨a1, a2⟩
    · rw [a2]; exact hAb.2 i' a1
    · omega
  · rcases hA q hq with h | h | h | h
    · exact Or.inl h
    · exact Or.inr (Or.inl h)
    · exact Or.inr (Or.inr (Or.inl ⟨0, t0 h.1, h.2⟩))
    · exact Or.inr (Or.inr (Or.inr (by rw [hsz]; exact h)))
  · have hy : ∀ (ts : Mem) (ta : Nat → Nat), isY (g.tw (tzN c X.1, ts, ta)) 268 := fun _ _ => ⟨rfl, (tzN0 c X.1).trans h0⟩
    rw [obY (hy _ _), fsY_st]
    exact F1
  · rw [tk_list]
    show va_at g.D vwCl (g.ad 274, .inr (0, [.int (nI (tzN c X.1 2)), .ref (taN c e q1 q2 X.2.2 0), .int (nI (tzN c X.1 2))])) t.heap
    rw [tzN2, v0]
    exact F2
  · intro k9 hk9
    have hlt := tin k9 hk9
    rw [obT_st (by omega)]
    show va_at g.D vwCl (taN c e q1 q2 X.2.2 k9, _) t.heap
    rcases cases9 k9 hlt with rfl | ⟨j1, j2⟩ | rfl | rfl
    · rw [v0]
      have e9 : obT (g.tw ((tzN c X.1), (fun j => if j = 2 + 2 * c then upd (fun _ => 0) (k % 512) (nI os + nI xi) else X.2.1 j), taN c e q1 q2 X.2.2)) 0 = .inl (g.cy 2, 10, .inr (.inr (.inr (.inr f)))) := by
        refine (if_pos rfl).trans ?_
        have : (fun i => if i < (g.tw ((tzN c X.1), (fun j => if j = 2 + 2 * c then upd (fun _ => 0) (k % 512) (nI os + nI xi) else X.2.1 j), taN c e q1 q2 X.2.2)).tz 2 then some ((g.tw ((tzN c X.1), (fun j => if j = 2 + 2 * c then upd (fun _ => 0) (k % 512) (nI os + nI xi) else X.2.1 j), taN c e q1 q2 X.2.2)).ta (1 + 2 * i)) else none) = f := by
          funext i
          rw [hf i]
          show (if i < tzN c X.1 2 then some (taN c e q1 q2 X.2.2 (1 + 2 * i)) else none) = _
          rw [tzN2]
          by_cases hi : i < c + 1
          · rw [if_pos hi, if_pos hi]
            by_cases hic : i = c
            · rw [if_pos hic, hic, v1]
            · rw [if_neg hic, vo _ (by omega) (by omega)]
          · rw [if_neg hi, if_neg hi]
        rw [this]
      rw [e9]
      exact F3
    · rw [vo k9 j1 j2, obT_up (by omega)]
      have hkX := old k9 j1 j2
      have h := hR.2 k9 hkX
      have e9 : obT (g.tw ((tzN c X.1), X.2.1, taN c e q1 q2 X.2.2)) k9 = obT (g.tw X) k9 := by
        unfold obT
        rw [if_neg (show ¬ k9 = 0 by omega), if_neg (show ¬ k9 = 0 by omega)]
        by_cases ho : k9 % 2 = 1
        · rw [if_pos ho, if_pos ho]
          show Sum.inr (1, [Value.ref (taN c e q1 q2 X.2.2 (k9 + 1))]) = _
          rw [vo _ (by omega) (by omega)]
        · rw [if_neg ho, if_neg ho]
      rw [e9]
      refine h.kept (hF.2 _ h.lt (fun q => ?_))
      rcases hA _ q with h8 | h8 | h8 | h8
      · exact hg.2.2.2.2.2.2.2.2 268 k9 i1 hkX h8.symm
      · exact hg.2.2.2.2.2.2.2.2 274 k9 i2 hkX h8.symm
      · exact absurd (hg.2.2.2.2.2.2.2.1 k9 0 hkX (t0 h8.1) h8.2) (by omega)
      · have := h.lt; rw [hsz] at this; exact absurd this (Nat.not_lt.mpr h8)
    · rw [v1, obK (g := g.tw (tzN c X.1, (fun j => if j = 2 + 2 * c then upd (fun _ => 0) (k % 512) (nI os + nI xi) else X.2.1 j), taN c e q1 q2 X.2.2)) (k := 1 + 2 * c) ⟨by omega, by show 1 + 2 * c < 1 + 2 * tzN c X.1 2; rw [tzN2]; omega⟩]
      show va_at g.D vwCl (q1, .inr (1, [.ref (taN c e q1 q2 X.2.2 (1 + 2 * c + 1))])) t.heap
      rw [show 1 + 2 * c + 1 = 2 + 2 * c by omega, v2]
      exact F4
    · rw [v2, obZ (g := g.tw (tzN c X.1, (fun j => if j = 2 + 2 * c then upd (fun _ => 0) (k % 512) (nI os + nI xi) else X.2.1 j), taN c e q1 q2 X.2.2)) (k := 2 + 2 * c) ⟨by omega, by omega, by show 2 + 2 * c < 1 + 2 * tzN c X.1 2; rw [tzN2]; omega⟩]
      show va_at g.D vwCl (q2, .inl (g.cy 0, 512, .inl (if 2 + 2 * c = 2 + 2 * c then upd (fun _ => 0) (k % 512) (nI os + nI xi) else X.2.1 (2 + 2 * c)))) t.heap
      rw [if_pos rfl]
      exact F5
