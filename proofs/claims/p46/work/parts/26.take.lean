/-! Tally.take's contract -/
abbrev tkT (g : Geo) (ba co su le gr la op os fl : Int32) : Nat × va_E := (g.ad 268, .inr (7, [.int ba, .int co, .int su, .int le, .int gr, .int la, .int op, .int os, .int fl, .ref (g.ad 274)]))
theorem min_max {x le gr : Int32} (h : le ≤ gr) : (if x < le then x else le) ≤ (if gr < x then x else gr) := by
  rw [Int32.le_iff_toInt_le] at h
  by_cases h1 : x < le
  · by_cases h2 : gr < x
    · rw [if_pos h1, if_pos h2]; exact Int32.le_refl _
    · rw [if_pos h1, if_neg h2]
      rw [Int32.lt_iff_toInt_lt] at h1 h2
      rw [Int32.le_iff_toInt_le]; omega
  · by_cases h2 : gr < x
    · rw [if_neg h1, if_pos h2]
      rw [Int32.lt_iff_toInt_lt] at h1 h2
      rw [Int32.le_iff_toInt_le]; omega
    · rw [if_neg h1, if_neg h2, Int32.le_iff_toInt_le]; exact h
theorem fnK_last {g : Geo} {j : Nat} (hj : g.tz 2 = j + 1) (hb : j ≤ 10) : fnK g (nI (j + 1) - 1).toNatClampNeg = some (g.ta (1 + 2 * j)) := by
  rw [nI_pred, nI_clamp (by omega)]
  exact fnK_in (by omega)
theorem in5 {α : Type} {a b c d e : α} {k : Nat} {q : α} (h : [a, b, c, d, e][k]? = some q) : q = a ∨ q = b ∨ q = c ∨ q = d ∨ q = e := by
  rcases k with _ | _ | _ | _ | _ | k
  · exact Or.inl (Option.some.inj h).symm
  · exact Or.inr (Or.inl (Option.some.inj h).symm)
  · exact Or.inr (Or.inr (Or.inl (Option.some.inj h).symm))
  · exact Or.inr (Or.inr (Or.inr (Or.inl (Option.some.inj h).symm)))
  · exact Or.inr (Or.inr (Or.inr (Or.inr (Option.some.inj h).symm)))
  · simp at h
theorem in3 {α : Type} {a b c : α} {k : Nat} {q : α} (h : [a, b, c][k]? = some q) : q = a ∨ q = b ∨ q = c := by
  rcases k with _ | _ | _ | k
  · exact Or.inl (Option.some.inj h).symm
  · exact Or.inr (Or.inl (Option.some.inj h).symm)
  · exact Or.inr (Or.inr (Option.some.inj h).symm)
  · simp at h
theorem in2 {α : Type} {a b : α} {k : Nat} {q : α} (h : [a, b][k]? = some q) : q = a ∨ q = b := by
  rcases k with _ | _ | k
  · exact Or.inl (Option.some.inj h).symm
  · exact Or.inr (Option.some.inj h).symm
  · simp at h
/-- an address of the end that none of the first cells has is new -/
theorem va_A.new {wc : va_W} {sz q : Nat} (h : va_A wc sz q) (hn : ∀ (k : Nat) (p : Nat × va_E), wc[k]? = some p → ¬ p.1 = q) : sz ≤ q := by
  rcases h with ⟨k, e, h⟩ | h
  · exact absurd rfl (hn k _ h)
  · exact h
set_option maxHeartbeats 4000000 in
theorem h_X6_take (l : Launch) {g : Geo} {X : Tp} {z b : Nat} (hg : Good (g.tw X)) (hAb : Ab (g.tw X) b) (μ : Mem) (sz n : Nat) (x : Int32) (hx0 : ¬ x < 0) (hx1 : x ≤ 5000) (hn : n ≤ 1300) (hTI : TI z X n) : Met l yX6_take (ws_ yX6_take cX6_take 2 none) (rm_ 6 133 3 523) (Pe (g.tw X) z b [.ref (g.ad 268), .int x] (fun H9 => H9.size = sz ∧ Rg (g.tw X) μ H9)) (tkQ g X z b μ n sz) 3 523 (At (g.tw X) sz) := by
  obtain ⟨xi, hxi, rfl⟩ := nI_of2 (n := 5000) (M := 5000) rfl hx0 hx1
  obtain ⟨h0, m, k, o, ba, os, h1, h2, h3, h4, h5, h6, e0, e1, e8, e6, e7, hlg, h12, h13, h14, h15⟩ := hTI
  have hkm : k ≤ m := by rw [h4]; have := Nat.le_mul_of_pos_right k h2; omega
  have hc9 : X.1 2 ≤ 10 := hg.2.2.2.2.2.2.1
  have g0 : g.tys[0]? = some (g.cy 0, .int) := rfl
  have g2 : g.tys[2]? = some (g.cy 2, .object "java/lang/Object") := rfl
  have i1 : 268 ∈ (g.tw X).idx := in268 h0
  have i2 : 274 ∈ (g.tw X).idx := in274 (k := 268) ⟨rfl, h0⟩
  have hfl : nI k < 8192000 := nI_lt (a := k) (b := 8192000) (by omega) (by decide)
  have hset := rem_in (x := nI k) (nI_pos (by omega))
  have n12 : ¬ g.ad 268 = g.ad 274 := fun h => absurd (hg.1 268 274 i1 i2 h) (by decide)
  have n1 : ∀ j, j ∈ (g.tw X).tdx → ¬ g.ad 268 = X.2.2 j := fun j hj => hg.2.2.2.2.2.2.2.2 268 j i1 hj
  have n2 : ∀ j, j ∈ (g.tw X).tdx → ¬ g.ad 274 = X.2.2 j := fun j hj => hg.2.2.2.2.2.2.2.2 274 j i2 hj
  have w1 : ∀ H : Heap, Rg (g.tw X) μ H → va_at g.D vwCl (tkT g (nI ba) (nI m) (X.2.1 1000 2) (X.2.1 1000 3) (X.2.1 1000 4) (X.2.1 1000 5) (nI o) (nI os) (nI k)) H := fun H hR => by
    have h := hR.1 268 i1
    rw [tk_row h0 e0 e1 e8 e6 e7] at h
    exact h
  have w2 : ∀ H : Heap, Rg (g.tw X) μ H → va_at g.D vwCl (g.ad 274, .inr (0, [.int (nI (X.1 2)), .ref (X.2.2 0), .int (nI (X.1 2))])) H := fun H hR => by
    have h := hR.1 274 i2
    rw [tk_list] at h
    exact h
  have w3 : 0 < X.1 2 → ∀ H : Heap, Rg (g.tw X) μ H → va_at g.D vwCl (X.2.2 0, .inl (g.cy 2, 10, .inr (.inr (.inr (.inr (fnK (g.tw X))))))) H := fun hc H hR => by
    have h := hR.2 0 (mem_tdx.mpr ⟨hc, by omega⟩)
    rw [show obT (g.tw X) 0 = .inl (g.cy 2, 10, .inr (.inr (.inr (.inr (fnK (g.tw X)))))) from if_pos rfl] at h
    exact h
  refine Met.conseq (fun args s hv => ?_)
  by_cases hop : nI o + 1 < nI ba
  · have h5' : o + 1 < ba := by rw [nI_1] at hop; exact (nI_ltI (by omega) (by omega)).mp hop
    by_cases hco : nI m = 0
    · exact tk_n hg hAb hxi hn h0 h1 h2 h3 h4 h5' h6 e0 e1 e8 e6 e7 (Int32.le_refl _) h12 h13 h14 h15 (x_X6_take_0n l g0 g2 (g.ad 268) (g.ad 274) (nI ba) (nI m) (X.2.1 1000 2) (X.2.1 1000 3) (X.2.1 1000 4) (X.2.1 1000 5) (nI o) (nI os) (nI k) (nI xi) hco hop sz) args s hv
    · exact tk_n hg hAb hxi hn h0 h1 h2 h3 h4 h5' h6 e0 e1 e8 e6 e7 (min_max hlg) h12 h13 h14 h15 (x_X6_take_1n l g0 g2 (g.ad 268) (g.ad 274) (nI ba) (nI m) (X.2.1 1000 2) (X.2.1 1000 3) (X.2.1 1000 4) (X.2.1 1000 5) (nI o) (nI os) (nI k) (nI xi) hco hop sz) args s hv
  · have h5' : o + 1 = ba := by
      have : ¬ o + 1 < ba := fun h => hop (by rw [nI_1]; exact nI_lt h (by omega))
      omega
    by_cases hk : k < 512 * X.1 2
    · obtain ⟨j, hj⟩ : ∃ j, X.1 2 = j + 1 := ⟨X.1 2 - 1, by omega⟩
      have t0 : 0 ∈ (g.tw X).tdx := mem_tdx.mpr ⟨by show 0 < X.1 2; omega, by omega⟩
      have t1 : 1 + 2 * j ∈ (g.tw X).tdx := mem_tdx.mpr ⟨by show 0 < X.1 2; omega, by show _ < 1 + 2 * X.1 2; omega⟩
      have t2 : 2 + 2 * j ∈ (g.tw X).tdx := mem_tdx.mpr ⟨by show 0 < X.1 2; omega, by show _ < 1 + 2 * X.1 2; omega⟩
      have hne : ∀ a c, a ∈ (g.tw X).tdx → c ∈ (g.tw X).tdx → ¬ a = c → ¬ X.2.2 a = X.2.2 c := fun a c ha hc h q => h (hg.2.2.2.2.2.2.2.1 a c ha hc q)
      have w4 : ∀ H : Heap, Rg (g.tw X) μ H → va_at g.D vwCl (X.2.2 (1 + 2 * j), .inr (1, [.ref (X.2.2 (2 + 2 * j))])) H := fun H hR => by
        have h := hR.2 (1 + 2 * j) t1
        rw [obK (g := g.tw X) ⟨by omega, by show _ < 1 + 2 * X.1 2; omega⟩, show 1 + 2 * j + 1 = 2 + 2 * j by omega] at h
        exact h
      have w5 : ∀ H : Heap, Rg (g.tw X) μ H → va_at g.D vwCl (X.2.2 (2 + 2 * j), .inl (g.cy 0, 512, .inl (X.2.1 (2 + 2 * j)))) H := fun H hR => by
        have h := hR.2 (2 + 2 * j) t2
        rw [obZ (g := g.tw X) ⟨by omega, by omega, by show _ < 1 + 2 * X.1 2; omega⟩] at h
        exact h
      have hD : va_D (fun q => b ≤ q) [tkT g (nI ba) (nI m) (X.2.1 1000 2) (X.2.1 1000 3) (X.2.1 1000 4) (X.2.1 1000 5) (nI o) (nI os) (nI k), (g.ad 274, .inr (0, [.int (nI (X.1 2)), .ref (X.2.2 0), .int (nI (X.1 2))])), (X.2.2 0, .inl (g.cy 2, 10, .inr (.inr (.inr (.inr (fnK (g.tw X))))))), (X.2.2 (1 + 2 * j), .inr (1, [.ref (X.2.2 (2 + 2 * j))])), (X.2.2 (2 + 2 * j), .inl (g.cy 0, 512, .inl (X.2.1 (2 + 2 * j))))] := by
        refine Dcons (hAb.1 268 i1) (fun k9 p hp => ?_) (Dcons (hAb.1 274 i2) (fun k9 p hp => ?_) (Dcons (hAb.2 0 t0) (fun k9 p hp => ?_) (Dcons (hAb.2 _ t1) (fun k9 p hp => ?_) (Dcons (hAb.2 _ t2) (fun k9 p hp => by simp at hp) D0))))
        · rcases k9 with _ | _ | _ | _ | k9
          · cases hp; exact n12
          · cases hp; exact n1 _ t0
          · cases hp; exact n1 _ t1
          · cases hp; exact n1 _ t2
          · simp at hp
        · rcases in3 hp with rfl | rfl | rfl
          · exact n2 _ t0
          · exact n2 _ t1
          · exact n2 _ t2
        · rcases in2 hp with rfl | rfl
          · exact hne _ _ t0 t1 (by omega)
          · exact hne _ _ t0 t2 (by omega)
        · rcases k9 with _ | k9
          · cases hp; exact hne _ _ t1 t2 (by omega)
          · simp at hp
      have hin : ∀ (k9 : Nat) (q : Nat × va_E), [tkT g (nI ba) (nI m) (X.2.1 1000 2) (X.2.1 1000 3) (X.2.1 1000 4) (X.2.1 1000 5) (nI o) (nI os) (nI k), (g.ad 274, .inr (0, [.int (nI (X.1 2)), .ref (X.2.2 0), .int (nI (X.1 2))])), (X.2.2 0, .inl (g.cy 2, 10, .inr (.inr (.inr (.inr (fnK (g.tw X))))))), (X.2.2 (1 + 2 * j), .inr (1, [.ref (X.2.2 (2 + 2 * j))])), (X.2.2 (2 + 2 * j), .inl (g.cy 0, 512, .inl (X.2.1 (2 + 2 * j))))][k9]? = some q → q.1 = g.ad 268 ∨ q.1 = g.ad 274 ∨ q.1 = X.2.2 0 ∨ q.1 = X.2.2 (1 + 2 * j) ∨ q.1 = X.2.2 (2 + 2 * j) := fun k9 q h => by
        rcases in5 h with rfl | rfl | rfl | rfl | rfl
        · exact Or.inl rfl
        · exact Or.inr (Or.inl rfl)
        · exact Or.inr (Or.inr (Or.inl rfl))
        · exact Or.inr (Or.inr (Or.inr (Or.inl rfl)))
        · exact Or.inr (Or.inr (Or.inr (Or.inr rfl)))
      have hin2 : ∀ (k9 : Nat) (q : Nat × va_E), [tkT g (nI ba) (nI m) (X.2.1 1000 2) (X.2.1 1000 3) (X.2.1 1000 4) (X.2.1 1000 5) (nI o) (nI os) (nI k), (g.ad 274, .inr (0, [.int (nI (X.1 2)), .ref (X.2.2 0), .int (nI (X.1 2))])), (X.2.2 0, .inl (g.cy 2, 10, .inr (.inr (.inr (.inr (fnK (g.tw X))))))), (X.2.2 (1 + 2 * j), .inr (1, [.ref (X.2.2 (2 + 2 * j))])), (X.2.2 (2 + 2 * j), .inl (g.cy 0, 512, .inl (X.2.1 (2 + 2 * j))))][k9]? = some q → q.1 = g.ad 268 ∨ q.1 = g.ad 274 ∨ ∃ i, i ∈ (g.tw X).tdx ∧ q.1 = X.2.2 i := fun k9 q h => by
        rcases hin k9 q h with h | h | h | h | h
        · exact Or.inl h
        · exact Or.inr (Or.inl h)
        · exact Or.inr (Or.inr ⟨0, t0, h⟩)
        · exact Or.inr (Or.inr ⟨_, t1, h⟩)
        · exact Or.inr (Or.inr ⟨_, t2, h⟩)
      have hwc := fun (H : Heap) (hR : Rg (g.tw X) μ H) => Pcons (w1 H hR) (Pcons (w2 H hR) (Pcons (w3 (by omega) H hR) (Pcons (w4 H hR) (Pcons (w5 H hR) P0))))
      have q0 : ¬ nI (X.1 2) = 0 := nI_ne0 (by omega) (by omega)
      have q5 : nI k < nI (X.1 2) * 512 := by
        rw [show (512 : Int32) = nI 512 from rfl, pk_mul]
        exact nI_lt (by omega) (by omega)
      have qc : fnK (g.tw X) (nI (X.1 2) - 1).toNatClampNeg = some (X.2.2 (1 + 2 * j)) := by
        rw [hj]
        exact fnK_last (g := g.tw X) hj (by omega)
      have hA : ∀ q, va_A [tkT g (nI ba) (nI m) (X.2.1 1000 2) (X.2.1 1000 3) (X.2.1 1000 4) (X.2.1 1000 5) (nI o) (nI os) (nI k), (g.ad 274, .inr (0, [.int (nI (X.1 2)), .ref (X.2.2 0), .int (nI (X.1 2))])), (X.2.2 0, .inl (g.cy 2, 10, .inr (.inr (.inr (.inr (fnK (g.tw X))))))), (X.2.2 (1 + 2 * j), .inr (1, [.ref (X.2.2 (2 + 2 * j))])), (X.2.2 (2 + 2 * j), .inl (g.cy 0, 512, .inl (X.2.1 (2 + 2 * j))))] sz q → q = g.ad 268 ∨ q = g.ad 274 ∨ q = X.2.2 0 ∨ q = X.2.2 (1 + 2 * j) ∨ q = X.2.2 (2 + 2 * j) ∨ sz ≤ q := fun q h => by
        rcases h with ⟨k9, e9, h⟩ | h
        · rcases hin k9 _ h with h | h | h | h | h
          · exact Or.inl h
          · exact Or.inr (Or.inl h)
          · exact Or.inr (Or.inr (Or.inl h))
          · exact Or.inr (Or.inr (Or.inr (Or.inl h)))
          · exact Or.inr (Or.inr (Or.inr (Or.inr (Or.inl h))))
        · exact Or.inr (Or.inr (Or.inr (Or.inr (Or.inr h))))
      by_cases hco : nI m = 0
      · exact tk_gen (x_X6_take_02 l g0 g2 (g.ad 268) (g.ad 274) (nI ba) (nI m) (X.2.1 1000 2) (X.2.1 1000 3) (X.2.1 1000 4) (X.2.1 1000 5) (nI o) (nI os) (nI k) (nI xi) (X.2.2 0) (X.1 2) (X.2.2 (1 + 2 * j)) (X.2.2 (2 + 2 * j)) (fnK (g.tw X)) (X.2.1 (2 + 2 * j)) q0 hc9 q5 qc hco hop hfl hset sz) hwc hD hin2 (fun s t hR hsz _ hB hF => tk_into hg hAb hxi hn h0 h1 h2 h3 h4 h5' h6 (Int32.le_refl (nI xi)) h15 hj (by omega) (by omega) hR hsz hA hF (hB.1 0 _ rfl) (hj ▸ hB.1 2 _ rfl) (hB.1 3 _ rfl) (hB.1 1 _ rfl) (hB.1 4 _ rfl)) args s hv
      · exact tk_gen (x_X6_take_12 l g0 g2 (g.ad 268) (g.ad 274) (nI ba) (nI m) (X.2.1 1000 2) (X.2.1 1000 3) (X.2.1 1000 4) (X.2.1 1000 5) (nI o) (nI os) (nI k) (nI xi) (X.2.2 0) (X.1 2) (X.2.2 (1 + 2 * j)) (X.2.2 (2 + 2 * j)) (fnK (g.tw X)) (X.2.1 (2 + 2 * j)) q0 hc9 q5 qc hco hop hfl hset sz) hwc hD hin2 (fun s t hR hsz _ hB hF => tk_into hg hAb hxi hn h0 h1 h2 h3 h4 h5' h6 (min_max (x := nI xi) hlg) h15 hj (by omega) (by omega) hR hsz hA hF (hB.1 0 _ rfl) (hj ▸ hB.1 2 _ rfl) (hB.1 3 _ rfl) (hB.1 1 _ rfl) (hB.1 4 _ rfl)) args s hv
    · have hkc : k = 512 * X.1 2 := by omega
      by_cases hc0 : X.1 2 = 0
      · have ez : X.2.2 0 = z := h14 hc0
        have hD : va_D (fun q => b ≤ q) [tkT g (nI ba) (nI m) (X.2.1 1000 2) (X.2.1 1000 3) (X.2.1 1000 4) (X.2.1 1000 5) (nI o) (nI os) (nI k), (g.ad 274, .inr (0, [.int 0, .ref z, .int 0]))] := by
          refine Dcons (hAb.1 268 i1) (fun k9 p hp => ?_) (Dcons (hAb.1 274 i2) (fun k9 p hp => by simp at hp) D0)
          rcases k9 with _ | k9
          · cases hp; exact n12
          · simp at hp
        have hwc := fun (H : Heap) (hR : Rg (g.tw X) μ H) => Pcons (w1 H hR) (Pcons (q := (g.ad 274, .inr (0, [.int 0, .ref z, .int 0]))) (by have h := w2 H hR; rw [hc0, ez] at h; exact h) P0)
        have hin : ∀ (k9 : Nat) (q : Nat × va_E), [tkT g (nI ba) (nI m) (X.2.1 1000 2) (X.2.1 1000 3) (X.2.1 1000 4) (X.2.1 1000 5) (nI o) (nI os) (nI k), (g.ad 274, .inr (0, [.int 0, .ref z, .int 0]))][k9]? = some q → q.1 = g.ad 268 ∨ q.1 = g.ad 274 := fun k9 q h => by
          rcases in2 h with rfl | rfl
          · exact Or.inl rfl
          · exact Or.inr rfl
        have hA : ∀ q, va_A [tkT g (nI ba) (nI m) (X.2.1 1000 2) (X.2.1 1000 3) (X.2.1 1000 4) (X.2.1 1000 5) (nI o) (nI os) (nI k), (g.ad 274, .inr (0, [.int 0, .ref z, .int 0]))] sz q → q = g.ad 268 ∨ q = g.ad 274 ∨ (0 < X.1 2 ∧ q = X.2.2 0) ∨ sz ≤ q := fun q h => by
          rcases h with ⟨k9, e9, h⟩ | h
          · rcases hin k9 _ h with h | h
            · exact Or.inl h
            · exact Or.inr (Or.inl h)
          · exact Or.inr (Or.inr (Or.inr h))
        have hf : ∀ q1 i, va_up (fun _ => none) (0 : Int32).toNatClampNeg (some q1) i = if i < X.1 2 + 1 then some (if i = X.1 2 then q1 else X.2.2 (1 + 2 * i)) else none := fun q1 i => by
          rw [hc0, show (0 : Int32).toNatClampNeg = 0 from rfl]
          by_cases hi : i = 0
          · rw [hi, va_up_self, if_pos (by omega), if_pos rfl]
          · rw [va_up_ne _ _ hi, if_neg (by omega)]
        by_cases hco : nI m = 0
        · refine tk_gen (x_X6_take_00 l g0 g2 (g.ad 268) (g.ad 274) (nI ba) (nI m) (X.2.1 1000 2) (X.2.1 1000 3) (X.2.1 1000 4) (X.2.1 1000 5) (nI o) (nI os) (nI k) (nI xi) hco hop hfl hset sz) hwc hD (fun k9 q h => (hin k9 q h).elim Or.inl (fun h => Or.inr (Or.inl h))) (fun s t hR hsz _ hB hF => ?_) args s hv
          obtain ⟨q1, q2, q3, hP, hD9⟩ := hB
          refine tk_new (f := va_up (fun _ => none) (0 : Int32).toNatClampNeg (some q1)) hg hAb hxi hn h0 h1 h2 h3 h4 h5' h6 (Int32.le_refl (nI xi)) h15 rfl hkc hR hsz hA hF (hP 0 _ rfl) (by rw [hc0]; exact hP 2 _ rfl) (hP 3 _ rfl) (hP 1 _ rfl) (hP 4 _ rfl) (va_A.new (hD9.2 1 _ rfl) (fun k9 p hp q => ?_)) (va_A.new (hD9.2 4 _ rfl) (fun k9 p hp q => ?_)) (fun q => absurd (hD9.1 1 4 _ _ rfl rfl q) (by decide)) (Or.inr ⟨hc0, va_A.new (hD9.2 3 _ rfl) (fun k9 p hp q => ?_), fun q => absurd (hD9.1 3 1 _ _ rfl rfl q) (by decide), fun q => absurd (hD9.1 3 4 _ _ rfl rfl q) (by decide)⟩) (hf q1)
          · rcases in2 hp with rfl | rfl
            · exact absurd (hD9.1 0 1 _ _ rfl rfl q) (by decide)
            · exact absurd (hD9.1 2 1 _ _ rfl rfl q) (by decide)
          · rcases in2 hp with rfl | rfl
            · exact absurd (hD9.1 0 4 _ _ rfl rfl q) (by decide)
            · exact absurd (hD9.1 2 4 _ _ rfl rfl q) (by decide)
          · rcases in2 hp with rfl | rfl
            · exact absurd (hD9.1 0 3 _ _ rfl rfl q) (by decide)
            · exact absurd (hD9.1 2 3 _ _ rfl rfl q) (by decide)
        · refine tk_gen (x_X6_take_10 l g0 g2 (g.ad 268) (g.ad 274) (nI ba) (nI m) (X.2.1 1000 2) (X.2.1 1000 3) (X.2.1 1000 4) (X.2.1 1000 5) (nI o) (nI os) (nI k) (nI xi) hco hop hfl hset sz) hwc hD (fun k9 q h => (hin k9 q h).elim Or.inl (fun h => Or.inr (Or.inl h))) (fun s t hR hsz _ hB hF => ?_) args s hv
          obtain ⟨q1, q2, q3, hP, hD9⟩ := hB
          refine tk_new (f := va_up (fun _ => none) (0 : Int32).toNatClampNeg (some q1)) hg hAb hxi hn h0 h1 h2 h3 h4 h5' h6 (min_max (x := nI xi) hlg) h15 rfl hkc hR hsz hA hF (hP 0 _ rfl) (by rw [hc0]; exact hP 2 _ rfl) (hP 3 _ rfl) (hP 1 _ rfl) (hP 4 _ rfl) (va_A.new (hD9.2 1 _ rfl) (fun k9 p hp q => ?_)) (va_A.new (hD9.2 4 _ rfl) (fun k9 p hp q => ?_)) (fun q => absurd (hD9.1 1 4 _ _ rfl rfl q) (by decide)) (Or.inr ⟨hc0, va_A.new (hD9.2 3 _ rfl) (fun k9 p hp q => ?_), fun q => absurd (hD9.1 3 1 _ _ rfl rfl q) (by decide), fun q => absurd (hD9.1 3 4 _ _ rfl rfl q) (by decide)⟩) (hf q1)
          · rcases in2 hp with rfl | rfl
            · exact absurd (hD9.1 0 1 _ _ rfl rfl q) (by decide)
            · exact absurd (hD9.1 2 1 _ _ rfl rfl q) (by decide)
          · rcases in2 hp with rfl | rfl
            · exact absurd (hD9.1 0 4 _ _ rfl rfl q) (by decide)
            · exact absurd (hD9.1 2 4 _ _ rfl rfl q) (by decide)
          · rcases in2 hp with rfl | rfl
            · exact absurd (hD9.1 0 3 _ _ rfl rfl q) (by decide)
            · exact absurd (hD9.1 2 3 _ _ rfl rfl q) (by decide)
      · have hcp : 0 < X.1 2 := Nat.pos_of_ne_zero hc0
        have t0 : 0 ∈ (g.tw X).tdx := mem_tdx.mpr ⟨hcp, by omega⟩
        have hD : va_D (fun q => b ≤ q) [tkT g (nI ba) (nI m) (X.2.1 1000 2) (X.2.1 1000 3) (X.2.1 1000 4) (X.2.1 1000 5) (nI o) (nI os) (nI k), (g.ad 274, .inr (0, [.int (nI (X.1 2)), .ref (X.2.2 0), .int (nI (X.1 2))])), (X.2.2 0, .inl (g.cy 2, 10, .inr (.inr (.inr (.inr (fnK (g.tw X)))))))] := by
          refine Dcons (hAb.1 268 i1) (fun k9 p hp => ?_) (Dcons (hAb.1 274 i2) (fun k9 p hp => ?_) (Dcons (hAb.2 0 t0) (fun k9 p hp => by simp at hp) D0))
          · rcases in2 hp with rfl | rfl
            · exact n12
            · exact n1 _ t0
          · rcases k9 with _ | k9
            · cases hp; exact n2 _ t0
            · simp at hp
        have hwc := fun (H : Heap) (hR : Rg (g.tw X) μ H) => Pcons (w1 H hR) (Pcons (w2 H hR) (Pcons (w3 hcp H hR) P0))
        have hin : ∀ (k9 : Nat) (q : Nat × va_E), [tkT g (nI ba) (nI m) (X.2.1 1000 2) (X.2.1 1000 3) (X.2.1 1000 4) (X.2.1 1000 5) (nI o) (nI os) (nI k), (g.ad 274, .inr (0, [.int (nI (X.1 2)), .ref (X.2.2 0), .int (nI (X.1 2))])), (X.2.2 0, .inl (g.cy 2, 10, .inr (.inr (.inr (.inr (fnK (g.tw X)))))))][k9]? = some q → q.1 = g.ad 268 ∨ q.1 = g.ad 274 ∨ q.1 = X.2.2 0 := fun k9 q h => by
          rcases in3 h with rfl | rfl | rfl
          · exact Or.inl rfl
          · exact Or.inr (Or.inl rfl)
          · exact Or.inr (Or.inr rfl)
        have hA : ∀ q, va_A [tkT g (nI ba) (nI m) (X.2.1 1000 2) (X.2.1 1000 3) (X.2.1 1000 4) (X.2.1 1000 5) (nI o) (nI os) (nI k), (g.ad 274, .inr (0, [.int (nI (X.1 2)), .ref (X.2.2 0), .int (nI (X.1 2))])), (X.2.2 0, .inl (g.cy 2, 10, .inr (.inr (.inr (.inr (fnK (g.tw X)))))))] sz q → q = g.ad 268 ∨ q = g.ad 274 ∨ (0 < X.1 2 ∧ q = X.2.2 0) ∨ sz ≤ q := fun q h => by
          rcases h with ⟨k9, e9, h⟩ | h
          · rcases hin k9 _ h with h | h | h
            · exact Or.inl h
            · exact Or.inr (Or.inl h)
            · exact Or.inr (Or.inr (Or.inl ⟨hcp, h⟩))
          · exact Or.inr (Or.inr (Or.inr h))
        have hf : ∀ q1 i, va_up (fnK (g.tw X)) (nI (X.1 2)).toNatClampNeg (some q1) i = if i < X.1 2 + 1 then some (if i = X.1 2 then q1 else X.2.2 (1 + 2 * i)) else none := fun q1 i => by
          rw [nI_clamp (by omega)]
          by_cases hi : i = X.1 2
          · rw [hi, va_up_self, if_pos (by omega), if_pos rfl]
          · rw [va_up_ne _ _ hi, if_neg hi]
            show (if i < X.1 2 then some (X.2.2 (1 + 2 * i)) else none) = _
            by_cases hl : i < X.1 2
            · rw [if_pos hl, if_pos (by omega)]
            · rw [if_neg hl, if_neg (by omega)]
        have q0 : ¬ nI (X.1 2) = 0 := nI_ne0 (by omega) (by omega)
        have q5 : ¬ nI k < nI (X.1 2) * 512 := by
          rw [show (512 : Int32) = nI 512 from rfl, pk_mul]
          exact nI_nlt (by omega) (by omega)
        have hin2 : ∀ (k9 : Nat) (q : Nat × va_E), [tkT g (nI ba) (nI m) (X.2.1 1000 2) (X.2.1 1000 3) (X.2.1 1000 4) (X.2.1 1000 5) (nI o) (nI os) (nI k), (g.ad 274, .inr (0, [.int (nI (X.1 2)), .ref (X.2.2 0), .int (nI (X.1 2))])), (X.2.2 0, .inl (g.cy 2, 10, .inr (.inr (.inr (.inr (fnK (g.tw X)))))))][k9]? = some q → q.1 = g.ad 268 ∨ q.1 = g.ad 274 ∨ ∃ i, i ∈ (g.tw X).tdx ∧ q.1 = X.2.2 i := fun k9 q h => by
          rcases hin k9 q h with h | h | h
          · exact Or.inl h
          · exact Or.inr (Or.inl h)
          · exact Or.inr (Or.inr ⟨0, t0, h⟩)
        by_cases hco : nI m = 0
        · refine tk_gen (x_X6_take_01 l g0 g2 (g.ad 268) (g.ad 274) (nI ba) (nI m) (X.2.1 1000 2) (X.2.1 1000 3) (X.2.1 1000 4) (X.2.1 1000 5) (nI o) (nI os) (nI k) (nI xi) (X.2.2 0) (X.1 2) (fnK (g.tw X)) q0 (by omega) q5 hco hop hfl hset sz) hwc hD hin2 (fun s t hR hsz _ hB hF => ?_) args s hv
          obtain ⟨q1, q2, hP, hD9⟩ := hB
          refine tk_new (f := va_up (fnK (g.tw X)) (nI (X.1 2)).toNatClampNeg (some q1)) hg hAb hxi hn h0 h1 h2 h3 h4 h5' h6 (Int32.le_refl (nI xi)) h15 rfl hkc hR hsz hA hF (hP 0 _ rfl) (by rw [← nI_1]; exact hP 2 _ rfl) (hP 3 _ rfl) (hP 1 _ rfl) (hP 4 _ rfl) (va_A.new (hD9.2 1 _ rfl) (fun k9 p hp q => ?_)) (va_A.new (hD9.2 4 _ rfl) (fun k9 p hp q => ?_)) (fun q => absurd (hD9.1 1 4 _ _ rfl rfl q) (by decide)) (Or.inl ⟨hcp, rfl⟩) (hf q1)
          · rcases in3 hp with rfl | rfl | rfl
            · exact absurd (hD9.1 0 1 _ _ rfl rfl q) (by decide)
            · exact absurd (hD9.1 2 1 _ _ rfl rfl q) (by decide)
            · exact absurd (hD9.1 3 1 _ _ rfl rfl q) (by decide)
          · rcases in3 hp with rfl | rfl | rfl
            · exact absurd (hD9.1 0 4 _ _ rfl rfl q) (by decide)
            · exact absurd (hD9.1 2 4 _ _ rfl rfl q) (by decide)
            · exact absurd (hD9.1 3 4 _ _ rfl rfl q) (by decide)
        · refine tk_gen (x_X6_take_11 l g0 g2 (g.ad 268) (g.ad 274) (nI ba) (nI m) (X.2.1 1000 2) (X.2.1 1000 3) (X.2.1 1000 4) (X.2.1 1000 5) (nI o) (nI os) (nI k) (nI xi) (X.2.2 0) (X.1 2) (fnK (g.tw X)) q0 (by omega) q5 hco hop hfl hset sz) hwc hD hin2 (fun s t hR hsz _ hB hF => ?_) args s hv
          obtain ⟨q1, q2, hP, hD9⟩ := hB
          refine tk_new (f := va_up (fnK (g.tw X)) (nI (X.1 2)).toNatClampNeg (some q1)) hg hAb hxi hn h0 h1 h2 h3 h4 h5' h6 (min_max (x := nI xi) hlg) h15 rfl hkc hR hsz hA hF (hP 0 _ rfl) (by rw [← nI_1]; exact hP 2 _ rfl) (hP 3 _ rfl) (hP 1 _ rfl) (hP 4 _ rfl) (va_A.new (hD9.2 1 _ rfl) (fun k9 p hp q => ?_)) (va_A.new (hD9.2 4 _ rfl) (fun k9 p hp q => ?_)) (fun q => absurd (hD9.1 1 4 _ _ rfl rfl q) (by decide)) (Or.inl ⟨hcp, rfl⟩) (hf q1)
          · rcases in3 hp with rfl | rfl | rfl
            · exact absurd (hD9.1 0 1 _ _ rfl rfl q) (by decide)
            · exact absurd (hD9.1 2 1 _ _ rfl rfl q) (by decide)
            · exact absurd (hD9.1 3 1 _ _ rfl rfl q) (by decide)
          · rcases in3 hp with rfl | rfl | rfl
            · exact absurd (hD9.1 0 4 _ _ rfl rfl q) (by decide)
            · exact absurd (hD9.1 2 4 _ _ rfl rfl q) (by decide)
            · exact absurd (hD9.1 3 4 _ _ rfl rfl q) (by decide)
