/-! Tally.take over the flat memory -/
theorem fsY_st {g : Geo} {tz ta : Nat → Nat} {ts : Mem} {r : Nat → Int32} : fsY (g.tw (tz, stT ts r, ta)) = [.int (r 0), .int (r 1), .int (r 2), .int (r 3), .int (r 4), .int (r 5), .int (r 6), .int (r 7), .int (r 8), .ref (g.ad 274)] := by
  show [Value.int (stT ts r 1000 0), .int (stT ts r 1000 1), .int (stT ts r 1000 2), .int (stT ts r 1000 3), .int (stT ts r 1000 4), .int (stT ts r 1000 5), .int (stT ts r 1000 6), .int (stT ts r 1000 7), .int (stT ts r 1000 8), .ref (g.ad 274)] = _
  rw [stT_at]
theorem obT_st {g : Geo} {tz ta : Nat → Nat} {ts : Mem} {r : Nat → Int32} {k : Nat} (h : k ≠ 1000) : obT (g.tw (tz, stT ts r, ta)) k = obT (g.tw (tz, ts, ta)) k := by
  have e : (g.tw (tz, stT ts r, ta)).ts k = (g.tw (tz, ts, ta)).ts k := stT_ne ts r h
  unfold obT
  rw [e]
/-- chunks lie where they lay, or anew -/
def Tn (g : Geo) (X X' : Tp) (sz : Nat) : Prop := ∀ k, k ∈ (g.tw X').tdx → (∃ j, j ∈ (g.tw X).tdx ∧ X'.2.2 k = X.2.2 j) ∨ sz ≤ X'.2.2 k
/-- how Tally.take ends -/
def tkQ (g : Geo) (X : Tp) (z b : Nat) (μ : Mem) (n sz : Nat) : Array Value → State → Outcome → State → Prop := va_Qv (fun _ : Unit => True) (fun _ t => ∃ X' : Tp, TI z X' (n + 1) ∧ X'.1 1 = X.1 1 ∧ Good (g.tw X') ∧ Ab (g.tw X') b ∧ Rg (g.tw X') μ t.heap ∧ Tn g X X' sz) (At (g.tw X) sz)
theorem tk_gen {l : Launch} {g : Geo} {X : Tp} {z b : Nat} {μ : Mem} {sz n : Nat} {av : List Value} {ws : List Cond} {rm : Room} {wc : va_W} {B : Unit → State → Prop} (M : Met l yX6_take ws rm (Xe g.D g.tys z b (g.cy 2) av (fun H9 => H9.size = sz) wc) (va_Qv (fun _ : Unit => True) B (va_A wc sz)) 3 523 (va_A wc sz)) (hwc : ∀ H : Heap, Rg (g.tw X) μ H → va_P g.D vwCl wc H) (hD : va_D (fun q => b ≤ q) wc) (hin : ∀ (k : Nat) (q : Nat × va_E), wc[k]? = some q → q.1 = g.ad 268 ∨ q.1 = g.ad 274 ∨ ∃ j, j ∈ (g.tw X).tdx ∧ q.1 = X.2.2 j)
    (hB : ∀ s t : State, Rg (g.tw X) μ s.heap → s.heap.size = sz → (∀ q, va_A wc sz q → q = g.ad 268 ∨ q = g.ad 274 ∨ (∃ j, j ∈ (g.tw X).tdx ∧ q = X.2.2 j) ∨ s.heap.size ≤ q) → B () t → va_F (va_A wc sz) s t → ∃ X' : Tp, TI z X' (n + 1) ∧ X'.1 1 = X.1 1 ∧ Good (g.tw X') ∧ Ab (g.tw X') b ∧ Rg (g.tw X') μ t.heap ∧ Tn g X X' sz) (args : Array Value) (s : State) (hv : Pe (g.tw X) z b av (fun H9 => H9.size = sz ∧ Rg (g.tw X) μ H9) args s) :
    ∃ (Pc : Array Value → State → Prop) (Qc : Array Value → State → Outcome → State → Prop) (free : Addr → Prop), Met l yX6_take ws rm Pc Qc 3 523 free ∧ Pc args s ∧ (∀ (o : Outcome) (t : State), Qc args s o t → tkQ g X z b μ n sz args s o t) ∧ ∀ q, free q → At (g.tw X) sz q := by
  obtain ⟨ha, ⟨hT, hE⟩, hsz, hR⟩ := hv
  have hsub : ∀ q, va_A wc sz q → q = g.ad 268 ∨ q = g.ad 274 ∨ (∃ j, j ∈ (g.tw X).tdx ∧ q = X.2.2 j) ∨ sz ≤ q := by
    intro q h
    rcases h with ⟨k, e, h⟩ | h
    · rcases hin k _ h with h1 | h1 | h1
      · exact Or.inl h1
      · exact Or.inr (Or.inl h1)
      · exact Or.inr (Or.inr (Or.inl h1))
    · exact Or.inr (Or.inr (Or.inr h))
  refine ⟨_, _, _, M, ⟨ha, ⟨Tb.t3 hT, hE⟩, hsz, hwc _ hR, hD⟩, fun o t h => ?_, fun q h => Or.inr (hsub q h)⟩
  obtain ⟨⟨u, h1, -, h2⟩, h3, h4⟩ := h
  exact ⟨⟨(), h1, trivial, hB s t hR hsz (by rw [hsz]; exact hsub) h2 ⟨h3, h4⟩⟩, h3, fun q q1 q2 => h4 q q1 (fun q3 => q2 (Or.inr (hsub q q3)))⟩
theorem tk_row {g : Geo} {X : Tp} {k m o ba os : Nat} (h0 : X.1 0 = 1) (e0 : X.2.1 1000 0 = nI ba) (e1 : X.2.1 1000 1 = nI m) (e8 : X.2.1 1000 8 = nI k) (e6 : X.2.1 1000 6 = nI o) (e7 : X.2.1 1000 7 = nI os) (n : Nat → Int32) : ob (g.tw X) 268 n = .inr (7, [.int (nI ba), .int (nI m), .int (X.2.1 1000 2), .int (X.2.1 1000 3), .int (X.2.1 1000 4), .int (X.2.1 1000 5), .int (nI o), .int (nI os), .int (nI k), .ref (g.ad 274)]) := by
  rw [obY (g := g.tw X) (k := 268) ⟨rfl, h0⟩, ← e0, ← e1, ← e8, ← e6, ← e7]
theorem tk_list {g : Geo} {X : Tp} (n : Nat → Int32) : ob (g.tw X) 274 n = .inr (0, [.int (nI (X.1 2)), .ref (X.2.2 0), .int (nI (X.1 2))]) := szK (g.tw X) n
/-- no batch is full -/
theorem tk_n {l : Launch} {g : Geo} {X : Tp} {z b : Nat} {μ : Mem} {sz n m k o ba os xi : Nat} {le gr : Int32} {ws : List Cond} {rm : Room} (hg : Good (g.tw X)) (hAb : Ab (g.tw X) b) (hx : xi ≤ 5000) (hn : n ≤ 1300) (h0 : X.1 0 = 1) (h1 : m ≤ n) (h2 : 1 ≤ ba) (h3 : ba ≤ 3) (h4 : m = k * ba + o) (h5 : o + 1 < ba) (h6 : os ≤ 5000 * o) (e0 : X.2.1 1000 0 = nI ba) (e1 : X.2.1 1000 1 = nI m) (e8 : X.2.1 1000 8 = nI k) (e6 : X.2.1 1000 6 = nI o) (e7 : X.2.1 1000 7 = nI os) (hlg : le ≤ gr) (h12 : k ≤ 512 * X.1 2) (h13 : 512 * X.1 2 < k + 512) (h14 : X.1 2 = 0 → X.2.2 0 = z) (h15 : ∀ i, i < k → ∃ s, s ≤ 15000 ∧ X.2.1 (2 + 2 * (i / 512)) (i % 512) = nI s)
    (M : Met l yX6_take ws rm (Xe g.D g.tys z b (g.cy 2) [.ref (g.ad 268), .int (nI xi)] (fun H9 => H9.size = sz) [(g.ad 268, .inr (7, [.int (nI ba), .int (nI m), .int (X.2.1 1000 2), .int (X.2.1 1000 3), .int (X.2.1 1000 4), .int (X.2.1 1000 5), .int (nI o), .int (nI os), .int (nI k), .ref (g.ad 274)]))]) (va_Qv (fun _ : Unit => True) (fun _ t => va_P g.D vwCl [(g.ad 268, .inr (7, [.int (nI ba), .int (nI m + 1), .int (X.2.1 1000 2 + nI xi), .int le, .int gr, .int (nI xi), .int (nI o + 1), .int (nI os + nI xi), .int (nI k), .ref (g.ad 274)]))] t.heap ∧ va_D (va_A [(g.ad 268, .inr (7, [.int (nI ba), .int (nI m), .int (X.2.1 1000 2), .int (X.2.1 1000 3), .int (X.2.1 1000 4), .int (X.2.1 1000 5), .int (nI o), .int (nI os), .int (nI k), .ref (g.ad 274)]))] sz) [(g.ad 268, .inr (7, [.int (nI ba), .int (nI m + 1), .int (X.2.1 1000 2 + nI xi), .int le, .int gr, .int (nI xi), .int (nI o + 1), .int (nI os + nI xi), .int (nI k), .ref (g.ad 274)]))]) (va_A [(g.ad 268, .inr (7, [.int (nI ba), .int (nI m), .int (X.2.1 1000 2), .int (X.2.1 1000 3), .int (X.2.1 1000 4), .int (X.2.1 1000 5), .int (nI o), .int (nI os), .int (nI k), .ref (g.ad 274)]))] sz)) 3 523 (va_A [(g.ad 268, .inr (7, [.int (nI ba), .int (nI m), .int (X.2.1 1000 2), .int (X.2.1 1000 3), .int (X.2.1 1000 4), .int (X.2.1 1000 5), .int (nI o), .int (nI os), .int (nI k), .ref (g.ad 274)]))] sz))
    (args : Array Value) (s : State) (hv : Pe (g.tw X) z b [.ref (g.ad 268), .int (nI xi)] (fun H9 => H9.size = sz ∧ Rg (g.tw X) μ H9) args s) :
    ∃ (Pc : Array Value → State → Prop) (Qc : Array Value → State → Outcome → State → Prop) (free : Addr → Prop), Met l yX6_take ws rm Pc Qc 3 523 free ∧ Pc args s ∧ (∀ (o : Outcome) (t : State), Qc args s o t → tkQ g X z b μ n sz args s o t) ∧ ∀ q, free q → At (g.tw X) sz q := by
  have i1 : 268 ∈ (g.tw X).idx := in268 h0
  refine tk_gen M (fun H hR => Pcons ?_ P0) (Dcons (hAb.1 268 i1) (fun k p hk => by simp at hk) D0) (fun k q hk => ?_) ?_ args s hv
  · have h := hR.1 268 i1
    rw [tk_row h0 e0 e1 e8 e6 e7] at h
    exact h
  · cases k with
    | zero => rw [List.getElem?_cons_zero] at hk; rw [← Option.some.inj hk]; exact Or.inl rfl
    | succ k => simp at hk
  · intro s t hR hsz hA hBt hF
    refine ⟨_, TI.more (su := X.2.1 1000 2 + nI xi) hx hn h0 h1 h2 h3 h4 h5 h6 hlg h12 h13 h14 h15, rfl, hg.retal h0 h0 rfl hg.2.2.2.2.2.2.1 hg.2.2.2.2.2.2.2.1 hg.2.2.2.2.2.2.2.2, ⟨fun k hk => hAb.1 k (idx_tw rfl rfl hk), hAb.2⟩, Rg.retal hg hR h0 h0 rfl hA hF.2 ?_ ?_ ?_, fun k hk => Or.inl ⟨k, hk, rfl⟩⟩
    · have h := hBt.1 0 _ rfl
      rw [obY (g := g.tw (X.1, stT X.2.1 _, X.2.2)) (k := 268) ⟨rfl, h0⟩, fsY_st]
      exact h
    · have h := hR.1 274 (in274 (k := 268) ⟨rfl, h0⟩)
      rw [tk_list] at h ⊢
      refine h.kept (hF.2 _ h.lt (fun q => ?_))
      rcases q with ⟨k9, e9, q⟩ | q
      · cases k9 with
        | zero => rw [List.getElem?_cons_zero] at q; exact absurd (hg.1 268 274 i1 (in274 (k := 268) ⟨rfl, h0⟩) (congrArg Prod.fst (Option.some.inj q))) (by decide)
        | succ k9 => simp at q
      · have := h.lt; rw [hsz] at this; exact absurd this (Nat.not_lt.mpr q)
    · intro k9 hk9
      have hlt : k9 < 1 + 2 * X.1 2 := (mem_tdx.mp hk9).2
      have hc := hg.2.2.2.2.2.2.1
      have h := hR.2 k9 hk9
      rw [obT_st (by have : X.1 2 ≤ 10 := hc; omega)]
      refine h.kept (hF.2 _ h.lt (fun q => ?_))
      rcases q with ⟨k8, e9, q⟩ | q
      · cases k8 with
        | zero => rw [List.getElem?_cons_zero] at q; exact hg.2.2.2.2.2.2.2.2 268 k9 i1 hk9 (congrArg Prod.fst (Option.some.inj q))
        | succ k8 => simp at q
      · have := h.lt; rw [hsz] at this; exact absurd this (Nat.not_lt.mpr q)
