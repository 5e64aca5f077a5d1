/-! both kernels as a list of cells, behind others -/
noncomputable def KI (B : Bg) : List Nat := (List.range 575).filter (fun k => @decide (inB B k) (Classical.propDecidable _))
theorem mem_KI {B : Bg} {k : Nat} : k ∈ KI B ↔ inB B k := by
  unfold KI
  rw [List.mem_filter, List.mem_range]
  constructor
  · intro h
    exact @of_decide_eq_true _ (Classical.propDecidable _) h.2
  · intro h
    refine ⟨?_, @decide_eq_true _ (Classical.propDecidable _) h⟩
    rcases h with h | ⟨-, h, -⟩
    · have := h.lt; omega
    · omega
theorem KI_nodup (B : Bg) : (KI B).Nodup := List.Nodup.sublist List.filter_sublist List.nodup_range
noncomputable def KL (z : Nat) (B : Bg) (μ : Mem) : va_W := (KI B).map (fun k => (B.ad k, obB z B μ k))
/-- what of KB doesn't speak of the heap -/
def KBs (z b : Nat) (B : Bg) (μ : Mem) : Prop := (∀ i j, inB B i → inB B j → B.ad i = B.ad j → i = j) ∧ (∀ k, inB B k → b ≤ B.ad k) ∧ BnB B ∧ EzB z B ∧ ∀ k, isP k → μ k 1 = -1
theorem KB.st {z b : Nat} {B : Bg} {μ : Mem} {H : Heap} (h : KB z b B μ H) : KBs z b B μ := ⟨h.1, fun k hk => (h.2.1 k hk).1, h.2.2⟩
theorem KB.ls {z b : Nat} {B : Bg} {μ : Mem} {H : Heap} (h : KB z b B μ H) : va_P B.D vwCl (KL z B μ) H := P_of (fun q hq => by
  obtain ⟨k, hk, rfl⟩ := List.mem_map.mp hq
  exact (h.2.1 k (mem_KI.mp hk)).2)
theorem KBs.kb {z b : Nat} {B : Bg} {μ : Mem} {H : Heap} (h : KBs z b B μ) (hP : va_P B.D vwCl (KL z B μ) H) : KB z b B μ H := ⟨h.1, fun k hk => ⟨h.2.1 k hk, P_mem hP (List.mem_map.mpr ⟨k, mem_KI.mpr hk, rfl⟩)⟩, h.2.2⟩
theorem KB.ld {z b : Nat} {B : Bg} {μ : Mem} {H : Heap} {A : Nat → Prop} (h : KB z b B μ H) (hA : ∀ q, Ka B q → A q) : va_D A (KL z B μ) := by
  refine D_iff.mpr ⟨?_, fun q hq => ?_⟩
  · unfold KL
    rw [List.map_map]
    refine List.pairwise_map.mpr (List.Pairwise.imp_of_mem ?_ (KI_nodup B))
    intro i j hi hj hij e
    exact hij (h.1 i j (mem_KI.mp hi) (mem_KI.mp hj) e)
  · obtain ⟨k, hk, rfl⟩ := List.mem_map.mp hq
    exact hA _ ⟨k, mem_KI.mp hk, rfl⟩
theorem kl_in {z : Nat} {B : Bg} {μ : Mem} {q : Nat × va_E} (h : q ∈ KL z B μ) : Ka B q.1 := by
  obtain ⟨k, hk, rfl⟩ := List.mem_map.mp h
  exact ⟨k, mem_KI.mp hk, rfl⟩
theorem kl_mem {z : Nat} {B : Bg} {μ : Mem} {k : Nat} (h : inB B k) : (B.ad k, obB z B μ k) ∈ KL z B μ := List.mem_map.mpr ⟨k, mem_KI.mpr h, rfl⟩
/-- behind a call on the kernels: the own cells stay, the kernels are as the call tells -/
theorem kl_join {z b : Nat} {D : va_G} {B : Bg} {μ μ' : Mem} {ad' : Nat → Nat} {S' : Sh} {A : Nat → Prop} {cs : va_W} {H H1 : Heap} (hP : va_P D vwCl (cs ++ KL z B μ) H) (hD : va_D A (cs ++ KL z B μ)) (hk9 : ∀ q : Nat, q < H.size → ¬ Ak B H.size q → H1[q]? = H[q]?) (hK : KB z b (ad', S') μ' H1) (hKa : ∀ p, Ka (ad', S') p → Ka B p ∨ H.size ≤ p) (hA : ∀ q, Ak B H.size q → A q) (hDS : S'.1 = D) : va_P D vwCl (cs ++ KL z (ad', S') μ') H1 ∧ va_D A (cs ++ KL z (ad', S') μ') := by
  have hap : ∀ q, q ∈ cs → q.1 < H.size ∧ ¬ Ka B q.1 := fun q hq => by
    refine ⟨(P_mem (Pl cs hP) hq).lt, ?_⟩
    rintro ⟨k, hk, e⟩
    exact Dx hD hq (kl_mem (z := z) (μ := μ) hk) e
  refine ⟨P_of (fun q hq => ?_), D_iff.mpr ⟨?_, fun q hq => ?_⟩⟩
  · rcases List.mem_append.mp hq with h | h
    · refine (P_mem (Pl cs hP) h).kept (hk9 _ (hap q h).1 ?_)
      rintro (h1 | h1)
      · exact (hap q h).2 h1
      · have := (hap q h).1; omega
    · have := P_mem hK.ls h
      rw [show Bg.D (ad', S') = D from hDS] at this
      exact this
  · rw [List.map_append, List.nodup_append]
    refine ⟨(D_iff.mp (Dl cs hD)).1, (D_iff.mp (hK.ld (A := fun _ => True) (fun _ _ => trivial))).1, fun x hx y hy hxy => ?_⟩
    obtain ⟨p, hp, rfl⟩ := List.mem_map.mp hx
    obtain ⟨q, hq, rfl⟩ := List.mem_map.mp hy
    have h1 := hap p hp
    rcases hKa _ (kl_in hq) with h2 | h2
    · exact h1.2 (hxy ▸ h2)
    · have h3 := h1.1; rw [hxy] at h3; exact absurd h3 (Nat.not_lt.mpr h2)
  · rcases List.mem_append.mp hq with h | h
    · exact (D_iff.mp (Dl cs hD)).2 q h
    · exact hA _ (hKa _ (kl_in h))
/-- what the law lets an instruction be -/
def ICh (sn : Nat) (co a b9 : Int32) : Prop :=
  (co = 0 ∧ (∃ j, j < 9 ∧ a = nI j) ∧ ∃ j, j < 7 ∧ b9 = nI j)
  ∨ ((co = 1 ∨ co = 2) ∧ (∃ r, r < 2 ∧ a = nI r) ∧ ∃ j, 1 ≤ j ∧ j < 5 ∧ b9 = nI j)
  ∨ ((co = 3 ∨ co = 4 ∨ co = 13) ∧ (∃ r, r < 2 ∧ a = nI r) ∧ ∃ j, 1 ≤ j ∧ j < 5 ∧ b9 = nI j)
  ∨ ((co = 5 ∨ co = 6) ∧ ∃ r, r < 2 ∧ a = nI r)
  ∨ (co = 7 ∧ (∃ j, j < sn ∧ a = nI j) ∧ ∃ j, j < 10 ∧ b9 = nI j)
  ∨ (co = 8 ∨ co = 11) ∨ (co = 9 ∧ a = 0)
  ∨ (co = 10 ∧ (∃ j, j < 10 ∧ a = nI j) ∧ ∃ j, j < 4 ∧ b9 = nI j)
  ∨ (co = 12 ∧ ∃ j, j < 10 ∧ a = nI j)
theorem ti_n {j : Nat} (h : j < 2147483648) : (nI j).toInt = (j : Int) := nI_toInt h
theorem ICh_IN {F : Fg} {sn i : Nat} {co a b9 : Int32} (h0 : F.sz 0 = 2) (h1 : F.sz 1 = 2) (h2 : F.sz 2 = sn) (h : ICh sn co a b9) : IN F (insF i co a b9) := by
  have e1 : insF i co a b9 1 = co := rfl
  have e2 : insF i co a b9 2 = a := rfl
  have e3 : insF i co a b9 3 = b9 := rfl
  unfold IN
  rw [e1, e2, e3, h0, h1, h2]
  rcases h with ⟨c, ⟨j, hj, rfl⟩, k, hk, rfl⟩ | ⟨c, hr, k, hk1, hk, rfl⟩ | ⟨c, hr, k, hk1, hk, rfl⟩ | ⟨c, r, hr, rfl⟩ | ⟨c, hj, -⟩ | (c | c) | ⟨c, ha⟩ | ⟨c, -⟩ | ⟨c, -⟩
  · refine Or.inl ⟨c, ?_⟩
    rw [ti_n (by omega), ti_n (by omega)]
    omega
  · refine Or.inr (Or.inl ⟨c, hr, ?_⟩)
    rw [ti_n (by omega)]
    omega
  · refine Or.inr (Or.inr (Or.inl ⟨c, hr, ?_⟩))
    rw [ti_n (by omega)]
    omega
  · exact Or.inr (Or.inr (Or.inr (Or.inl ⟨c, r, by omega, rfl⟩)))
  · exact Or.inr (Or.inr (Or.inr (Or.inr (Or.inl ⟨c, hj⟩))))
  · exact Or.inr (Or.inr (Or.inr (Or.inr (Or.inr (Or.inl c)))))
  · exact Or.inr (Or.inr (Or.inr (Or.inr (Or.inr (Or.inr (Or.inr (Or.inr (Or.inl c))))))))
  · exact Or.inr (Or.inr (Or.inr (Or.inr (Or.inr (Or.inr (Or.inl ⟨c, ha⟩))))))
  · exact Or.inr (Or.inr (Or.inr (Or.inr (Or.inr (Or.inr (Or.inr (Or.inl c)))))))
  · exact Or.inr (Or.inr (Or.inr (Or.inr (Or.inr (Or.inr (Or.inr (Or.inr (Or.inr c))))))))
theorem ICh_is {g : Geo} {μ : Mem} {sn : Nat} {co a b9 : Int32} (h0 : g.sz 0 = 2) (h1 : g.sz 1 = 2) (h2 : g.sz 2 = sn) (h3 : sn ≤ 3) (h4 : g.tz 0 = 1) (h : ICh sn co a b9) : f_X8_isInstruction g μ co a b9 = some 1 := by
  have H : Ok (f_X8_isInstruction g μ co a b9) (fun x => x = 1) := by
    unfold f_X8_isInstruction
    rcases h with ⟨c, ⟨j, hj, rfl⟩, k, hk, rfl⟩ | ⟨c, ⟨j, hj, rfl⟩, k, hk1, hk, rfl⟩ | ⟨c, ⟨j, hj, rfl⟩, k, hk1, hk, rfl⟩ | ⟨c, j, hj, rfl⟩ | ⟨c, ⟨j, hj, rfl⟩, k, hk, rfl⟩ | (c | c) | ⟨c, ha⟩ | ⟨c, ⟨j, hj, rfl⟩, k, hk, rfl⟩ | ⟨c, j, hj, rfl⟩
    · subst c
      rw [if_pos rfl]
      rw [p_isIn, if_pos (by rw [ti_n (by omega), show (0 : Int32).toInt = 0 from rfl, show (99 : Int32).toInt = 99 from rfl]; omega)]
      refine ok_bnO (ok_eq rfl) (fun z hz => ?_)
      rw [hz]
      rw [if_neg (by decide)]
      rw [p_isIn, if_pos (by rw [ti_n (by omega), show (0 : Int32).toInt = 0 from rfl, show (50 : Int32).toInt = 50 from rfl]; omega)]
      refine ok_bnO (ok_eq rfl) (fun z hz => ?_)
      rw [hz]
      rw [if_neg (by decide)]
      exact ok_some rfl
    · rcases c with rfl | rfl
      · rw [if_neg (by decide), if_pos rfl]
        rw [p_resource g.F μ (r := j) (by show j < g.sz 0; omega) (by show g.sz 0 ≤ 6; omega)]
        refine ok_bnO (ok_eq rfl) (fun o ho => ?_)
        rw [ho]
        refine ok_cs (fun z => by cases z) (fun v hv => ?_)
        cases hv
        refine ok_grd ⟨by omega, by omega, by omega⟩ ?_
        rw [p_isIn, if_pos (by rw [ti_n (by omega), show (1 : Int32).toInt = 1 from rfl, show (9 : Int32).toInt = 9 from rfl]; omega)]
        refine ok_bnO (ok_eq rfl) (fun z hz => ?_)
        rw [hz]
        rw [if_neg (by decide)]
        exact ok_some rfl
      · rw [if_neg (by decide), if_neg (by decide), if_pos rfl]
        rw [p_resource g.F μ (r := j) (by show j < g.sz 0; omega) (by show g.sz 0 ≤ 6; omega)]
        refine ok_bnO (ok_eq rfl) (fun o ho => ?_)
        rw [ho]
        refine ok_cs (fun z => by cases z) (fun v hv => ?_)
        cases hv
        refine ok_grd ⟨by omega, by omega, by omega⟩ ?_
        rw [p_isIn, if_pos (by rw [ti_n (by omega), show (1 : Int32).toInt = 1 from rfl, show (9 : Int32).toInt = 9 from rfl]; omega)]
        refine ok_bnO (ok_eq rfl) (fun z hz => ?_)
        rw [hz]
        rw [if_neg (by decide)]
        exact ok_some rfl
    · rcases c with rfl | rfl | rfl
      · rw [if_neg (by decide), if_neg (by decide), if_neg (by decide), if_pos rfl]
        rw [p_store g.F μ (r := j) (by show j < g.sz 1; omega) (by show g.sz 1 ≤ 4; omega)]
        refine ok_bnO (ok_eq rfl) (fun o ho => ?_)
        rw [ho]
        refine ok_cs (fun z => by cases z) (fun v hv => ?_)
        cases hv
        refine ok_grd ⟨by omega, by omega, by omega⟩ ?_
        rw [p_isIn, if_pos (by rw [ti_n (by omega), show (1 : Int32).toInt = 1 from rfl, show (99 : Int32).toInt = 99 from rfl]; omega)]
        refine ok_bnO (ok_eq rfl) (fun z hz => ?_)
        rw [hz]
        rw [if_neg (by decide)]
        exact ok_some rfl
      · rw [if_neg (by decide), if_neg (by decide), if_neg (by decide), if_neg (by decide), if_pos rfl]
        rw [p_store g.F μ (r := j) (by show j < g.sz 1; omega) (by show g.sz 1 ≤ 4; omega)]
        refine ok_bnO (ok_eq rfl) (fun o ho => ?_)
        rw [ho]
        refine ok_cs (fun z => by cases z) (fun v hv => ?_)
        cases hv
        refine ok_grd ⟨by omega, by omega, by omega⟩ ?_
        rw [p_isIn, if_pos (by rw [ti_n (by omega), show (1 : Int32).toInt = 1 from rfl, show (99 : Int32).toInt = 99 from rfl]; omega)]
        refine ok_bnO (ok_eq rfl) (fun z hz => ?_)
        rw [hz]
        rw [if_neg (by decide)]
        exact ok_some rfl
      · rw [if_neg (by decide), if_neg (by decide), if_neg (by decide), if_neg (by decide), if_neg (by decide), if_neg (by decide), if_neg (by decide), if_neg (by decide), if_neg (by decide), if_neg (by decide), if_neg (by decide), if_neg (by decide), if_neg (by decide), if_pos rfl]
        rw [p_store g.F μ (r := j) (by show j < g.sz 1; omega) (by show g.sz 1 ≤ 4; omega)]
        refine ok_bnO (ok_eq rfl) (fun o ho => ?_)
        rw [ho]
        refine ok_cs (fun z => by cases z) (fun v hv => ?_)
        cases hv
        refine ok_grd ⟨by omega, by omega, by omega⟩ ?_
        rw [p_isIn, if_pos (by rw [ti_n (by omega), show (1 : Int32).toInt = 1 from rfl, show (99 : Int32).toInt = 99 from rfl]; omega)]
        refine ok_bnO (ok_eq rfl) (fun z hz => ?_)
        rw [hz]
        rw [if_neg (by decide)]
        exact ok_some rfl
    · rcases c with rfl | rfl
      · rw [if_neg (by decide), if_neg (by decide), if_neg (by decide), if_neg (by decide), if_neg (by decide), if_pos rfl]
        unfold f_X8_isSignal
        refine ok_bnO (P := fun x => x = 1) ?_ (fun x hx => ?_)
        · refine ok_bnO (P := fun x => x = 1) ?_ (fun x hx => ?_)
          · rw [p_isIn, if_pos (by rw [ti_n (by omega), show (0 : Int32).toInt = 0 from rfl, show (3 : Int32).toInt = 3 from rfl]; omega)]
            exact ok_some rfl
          · rw [hx]
            exact ok_grd (Or.inr rfl) (ok_some rfl)
        · rw [hx]
          exact ok_grd (Or.inr rfl) (ok_some rfl)
      · rw [if_neg (by decide), if_neg (by decide), if_neg (by decide), if_neg (by decide), if_neg (by decide), if_neg (by decide), if_pos rfl]
        unfold f_X8_isSignal
        refine ok_bnO (P := fun x => x = 1) ?_ (fun x hx => ?_)
        · refine ok_bnO (P := fun x => x = 1) ?_ (fun x hx => ?_)
          · rw [p_isIn, if_pos (by rw [ti_n (by omega), show (0 : Int32).toInt = 0 from rfl, show (3 : Int32).toInt = 3 from rfl]; omega)]
            exact ok_some rfl
          · rw [hx]
            exact ok_grd (Or.inr rfl) (ok_some rfl)
        · rw [hx]
          exact ok_grd (Or.inr rfl) (ok_some rfl)
    · subst c
      rw [if_neg (by decide), if_neg (by decide), if_neg (by decide), if_neg (by decide), if_neg (by decide), if_neg (by decide), if_neg (by decide), if_pos rfl]
      rw [p_script g.F μ (r := j) (by show j < g.sz 2; omega) (by show g.sz 2 ≤ 8; omega)]
      refine ok_bnO (ok_eq rfl) (fun o ho => ?_)
      rw [ho]
      refine ok_cs (fun z => by cases z) (fun v hv => ?_)
      cases hv
      refine ok_grd ⟨by omega, by omega, by omega⟩ ?_
      rw [p_isIn, if_pos (by rw [ti_n (by omega), show (0 : Int32).toInt = 0 from rfl, show (9 : Int32).toInt = 9 from rfl]; omega)]
      refine ok_bnO (ok_eq rfl) (fun z hz => ?_)
      rw [hz]
      rw [if_neg (by decide)]
      exact ok_some rfl
    · subst c
      rw [if_neg (by decide), if_neg (by decide), if_neg (by decide), if_neg (by decide), if_neg (by decide), if_neg (by decide), if_neg (by decide), if_neg (by decide), if_pos rfl]
      exact ok_some rfl
    · subst c
      rw [if_neg (by decide), if_neg (by decide), if_neg (by decide), if_neg (by decide), if_neg (by decide), if_neg (by decide), if_neg (by decide), if_neg (by decide), if_neg (by decide), if_neg (by decide), if_neg (by decide), if_pos rfl]
      exact ok_some rfl
    · subst c
      subst ha
      rw [if_neg (by decide), if_neg (by decide), if_neg (by decide), if_neg (by decide), if_neg (by decide), if_neg (by decide), if_neg (by decide), if_neg (by decide), if_neg (by decide), if_pos rfl]
      unfold f_X7_tally
      rw [h4, if_neg (by decide), if_neg (by decide)]
      refine ok_bnO (P := fun o => o = some 268) ?_ (fun o ho => ?_)
      · exact ok_grd (by decide) (ok_bnd (ok_grd ⟨rfl, rfl⟩ (ok_some rfl)))
      · rw [ho]
        refine ok_cs (fun z => by cases z) (fun v hv => ?_)
        cases hv
        exact ok_grd ⟨rfl, rfl⟩ (ok_some rfl)
    · subst c
      rw [if_neg (by decide), if_neg (by decide), if_neg (by decide), if_neg (by decide), if_neg (by decide), if_neg (by decide), if_neg (by decide), if_neg (by decide), if_neg (by decide), if_neg (by decide), if_pos rfl]
      rw [p_isIn, if_pos (by rw [ti_n (by omega), show (0 : Int32).toInt = 0 from rfl, show (15 : Int32).toInt = 15 from rfl]; omega)]
      refine ok_bnO (ok_eq rfl) (fun z hz => ?_)
      rw [hz]
      rw [if_neg (by decide)]
      rw [p_isIn, if_pos (by rw [ti_n (by omega), show (0 : Int32).toInt = 0 from rfl, show (20 : Int32).toInt = 20 from rfl]; omega)]
      refine ok_bnO (ok_eq rfl) (fun z hz => ?_)
      rw [hz]
      rw [if_neg (by decide)]
      exact ok_some rfl
    · subst c
      rw [if_neg (by decide), if_neg (by decide), if_neg (by decide), if_neg (by decide), if_neg (by decide), if_neg (by decide), if_neg (by decide), if_neg (by decide), if_neg (by decide), if_neg (by decide), if_neg (by decide), if_neg (by decide), if_pos rfl]
      rw [p_isIn, if_pos (by rw [ti_n (by omega), show (0 : Int32).toInt = 0 from rfl, show (9 : Int32).toInt = 9 from rfl]; omega)]
      refine ok_bnO (ok_eq rfl) (fun z hz => ?_)
      rw [hz]
      exact ok_grd (Or.inr rfl) (ok_some rfl)
  obtain ⟨r, h5, h6⟩ := H
  rw [h5, h6]
