/-! the law's loop: both kernels and what is its own -/
/-- the real kernel g2 with its tally, the trial g, the law's own cells cs -/
def LW (b : Nat) (g2 g : Geo) (κ μ : Mem) (cs : va_W) (H : Heap) : Prop := (Good g2 ∧ Ab g2 b ∧ Rg g2 κ H) ∧ (Good g ∧ Ab g b ∧ Rg g μ H) ∧ (Dis g g2 ∧ Shr g g2 ∧ (∀ i, i ∈ g.idx → ∀ j, j ∈ g2.idx → g2.ad j = g.ad i → 112 ≤ j ∧ j < 266) ∧ ∀ i, i ∈ g.idx → ∀ j, j ∈ g2.tdx → ¬ g2.ta j = g.ad i) ∧ (va_P g2.D vwCl cs H ∧ ∀ q, q ∈ cs → (∀ j, j ∈ g2.idx → ¬ g2.ad j = q.1) ∧ (∀ j, j ∈ g2.tdx → ¬ g2.ta j = q.1) ∧ ∀ i, i ∈ g.idx → ¬ g.ad i = q.1) ∧ g2.tz 0 = 1 ∧ g2.tz 1 = 1 ∧ (g.tz 0 = 0 ∧ g.tz 2 = 0) ∧ g2.ad 273 = g.ad 0
section
variable {b : Nat} {g2 g : Geo} {κ μ κ' μ' : Mem} {cs : va_W} {H H1 : Heap}
/-- the real kernel has changed, its tally too -/
theorem LW.real {g0 : Geo} {X X' : Tp} (h : LW b (g0.tw X) g κ μ cs H) (hg : Good (g0.tw X')) (hb : Ab (g0.tw X') b) (hR : Rg (g0.tw X') κ' H1) (e0 : X'.1 0 = 1) (e1 : X'.1 1 = 1) (hn : Tn g0 X X' H.size) (hk : ∀ q : Nat, q < H.size → ¬ At (g0.tw X) H.size q → H1[q]? = H[q]?) : LW b (g0.tw X') g κ' μ cs H1 := by
  obtain ⟨⟨a1, a2, a3⟩, ⟨b1, b2, b3⟩, ⟨c1, c2, c3, c4⟩, ⟨d1, d2⟩, f0, f1, f2, f3⟩ := h
  have hix : ∀ k, k ∈ (g0.tw X').idx → k ∈ (g0.tw X).idx := fun k hk => idx_tw (e0.trans f0.symm) (e1.trans f1.symm) hk
  have i268 : 268 ∈ (g0.tw X).idx := in268 f0
  have i274 : 274 ∈ (g0.tw X).idx := in274 (k := 268) ⟨rfl, f0⟩
  have hoff : ∀ q : Nat, q < H.size → (∀ j, j ∈ (g0.tw X).idx → (g0.tw X).ad j = q → 112 ≤ j ∧ j < 266) → (∀ j, j ∈ (g0.tw X).tdx → ¬ (g0.tw X).ta j = q) → H1[q]? = H[q]? := fun q hq h1 h2 => by
    refine hk q hq ?_
    rintro (⟨k, hk, e⟩ | e | e | ⟨k, hk, e⟩ | e)
    · have := (h1 k (mem_mut.mp hk).1 e.symm).1
      have := (mem_mut.mp hk).2
      omega
    · exact absurd (h1 268 i268 e.symm).2 (by decide)
    · exact absurd (h1 274 i274 e.symm).2 (by decide)
    · exact h2 k hk e.symm
    · omega
  have hT : ∀ q : Nat, q < H.size → (∀ j, j ∈ (g0.tw X).tdx → ¬ (g0.tw X).ta j = q) → ∀ j, j ∈ (g0.tw X').tdx → ¬ (g0.tw X').ta j = q := fun q hq h2 j hj e => by
    rcases hn j hj with ⟨i, hi, e2⟩ | h9
    · exact h2 i hi (e2.symm.trans e)
    · have e3 : X'.2.2 j = q := e
      omega
  refine ⟨⟨hg, hb, hR⟩, ⟨b1, b2, ⟨fun k hk => ?_, fun k hk => ?_⟩⟩, ⟨⟨fun i j hi hj => c1.1 i j hi (hix j hj), fun i j hi hj e => ?_⟩, c2, fun i hi j hj => c3 i hi j (hix j hj), fun i hi => hT _ (b3.1 i hi).lt (c4 i hi)⟩, ⟨fun k q hq => ?_, fun q hq => ?_⟩, e0, e1, f2, f3⟩
  · exact (b3.1 k hk).kept (hoff _ (b3.1 k hk).lt (c3 k hk) (c4 k hk))
  · exact (notd f2.2 hk).elim
  · exact hT _ (b3.1 i (mem_mut.mp hi).1).lt (c4 i (mem_mut.mp hi).1) j hj e.symm
  · have hm := List.mem_of_getElem? hq
    obtain ⟨e4, e5, e6⟩ := d2 q hm
    exact (d1 k q hq).kept (hoff _ (d1 k q hq).lt (fun j hj e => absurd e (e4 j hj)) e5)
  · obtain ⟨e4, e5, e6⟩ := d2 q hq
    exact ⟨fun j hj => e4 j (hix j hj), hT _ (P_mem d1 hq).lt e5, e6⟩
/-- the trial has changed -/
theorem LW.trial (h : LW b g2 g κ μ cs H) (hR : Rg g μ' H1) (hk : ∀ q : Nat, q < H.size → ¬ Ag g H.size q → H1[q]? = H[q]?) : LW b g2 g κ μ' cs H1 := by
  obtain ⟨⟨a1, a2, a3⟩, ⟨b1, b2, b3⟩, ⟨c1, c2, c3, c4⟩, ⟨d1, d2⟩, f0, f1, f2, f3⟩ := h
  refine ⟨⟨a1, a2, ⟨fun k hx => ?_, fun k hx => ?_⟩⟩, ⟨b1, b2, hR⟩, ⟨c1, c2, c3, c4⟩, ⟨fun k q hq => ?_, d2⟩, f0, f1, f2, f3⟩
  · refine (a3.1 k hx).kept (hk _ (a3.1 k hx).lt ?_)
    rintro (⟨i, hi, e⟩ | e)
    · exact c1.1 i k hi hx e.symm
    · exact absurd (a3.1 k hx).lt (Nat.not_lt.mpr e)
  · refine (a3.2 k hx).kept (hk _ (a3.2 k hx).lt ?_)
    rintro (⟨i, hi, e⟩ | e)
    · exact c1.2 i k hi hx e.symm
    · exact absurd (a3.2 k hx).lt (Nat.not_lt.mpr e)
  · refine (d1 k q hq).kept (hk _ (d1 k q hq).lt ?_)
    rintro (⟨i, hi, e⟩ | e)
    · exact (d2 q (List.mem_of_getElem? hq)).2.2 i (mem_mut.mp hi).1 e.symm
    · exact absurd (d1 k q hq).lt (Nat.not_lt.mpr e)
/-- nothing that was there has changed -/
theorem LW.keep (h : LW b g2 g κ μ cs H) (hk : ∀ q : Nat, q < H.size → H1[q]? = H[q]?) : LW b g2 g κ μ cs H1 := by
  obtain ⟨⟨a1, a2, a3⟩, ⟨b1, b2, b3⟩, c, ⟨d1, d2⟩, f⟩ := h
  exact ⟨⟨a1, a2, a3.keep hk⟩, ⟨b1, b2, b3.keep hk⟩, c, ⟨P_keep d1 hk, d2⟩, f⟩
/-- the real kernel has changed, its tally hasn't -/
theorem LW.act {g0 : Geo} {X : Tp} (h : LW b (g0.tw X) g κ μ cs H) (hR : Rg (g0.tw X) κ' H1) (hk : ∀ q : Nat, q < H.size → ¬ Ag (g0.tw X) H.size q → H1[q]? = H[q]?) : LW b (g0.tw X) g κ' μ cs H1 :=
  h.real h.1.1 h.1.2.1 hR h.2.2.2.2.1 h.2.2.2.2.2.1 (fun k hk => Or.inl ⟨k, hk, rfl⟩) (fun q hq hn => hk q hq (fun h9 => hn (h9.elim Or.inl (fun h8 => Or.inr (Or.inr (Or.inr (Or.inr h8)))))))
end
/-- out of what build leaves -/
theorem LW.of {z b : Nat} {ad : Nat → Nat} {D : va_G} {cy : Nat → ClassId} {szf : Nat → Nat} {shf μ : Mem} {trv : Nat → Int32} {cs : va_W} {H : Heap} {A : Nat → Prop} (hK : KB z b (ad, (D, cy, szf, shf, 1, trv)) μ H) (hP : va_P D vwCl (cs ++ KL z (ad, (D, cy, szf, shf, 1, trv)) μ) H) (hD : va_D A (cs ++ KL z (ad, (D, cy, szf, shf, 1, trv)) μ)) : LW b (Bg.r z (ad, (D, cy, szf, shf, 1, trv))) (Bg.t z (ad, (D, cy, szf, shf, 1, trv))) μ μ cs H := by
  have hcs : ∀ q, q ∈ cs → ∀ k, inB (ad, (D, cy, szf, shf, 1, trv)) k → ¬ ad k = q.1 := fun q hq k hk e => Dx hD hq (kl_mem (z := z) (μ := μ) hk) e.symm
  refine ⟨⟨hK.gr, hK.br, hK.rr⟩, ⟨hK.gt, hK.bt, hK.rt⟩, ⟨hK.dis, KB.shr, fun i hi j hj e => ?_, fun i _ j hj => (notd rfl hj).elim⟩, ⟨Pl cs hP, fun q hq => ⟨fun j hj e => ?_, fun j hj => (notd rfl hj).elim, fun i hi e => ?_⟩⟩, rfl, rfl, ⟨rfl, rfl⟩, KB.tr⟩
  · rw [t_ad, (r_idx hj).2.1] at e
    have e2 := hK.1 _ _ (r_idx hj).1 (t_idx hi).1 e
    have h3 := (r_idx hj).2.2
    have h4 := (t_idx hi).2
    unfold ti at e2
    split at e2
    · omega
    · omega
  · rw [(r_idx hj).2.1] at e
    exact hcs q hq j (r_idx hj).1 e
  · rw [t_ad] at e
    exact hcs q hq _ (t_idx hi).1 e
