/-! CELLS IN ANY NUMBER: some told one by one, ahead of a list of others -/
theorem Pp {D : va_G} {cl : List vw_C} {ws ws' : va_W} {H : Heap} (h : va_P D cl ws H) (hp : ws'.Perm ws) : va_P D cl ws' H := fun k q hk => P_mem h (hp.mem_iff.mp (List.mem_of_getElem? hk))
theorem D_iff {A : Nat → Prop} {ws : va_W} : va_D A ws ↔ (ws.map Prod.fst).Nodup ∧ ∀ q, q ∈ ws → A q.1 := by
  constructor
  · intro h
    refine ⟨?_, fun q hq => ?_⟩
    · refine List.pairwise_iff_getElem.mpr (fun i j hi hj hij e => ?_)
      rw [List.length_map] at hi hj
      rw [List.getElem_map, List.getElem_map] at e
      have := h.1 i j ws[i] ws[j] (List.getElem?_eq_getElem hi) (List.getElem?_eq_getElem hj) e
      omega
    · obtain ⟨k, hk⟩ := List.getElem?_of_mem hq
      exact h.2 k q hk
  · intro h
    refine ⟨fun i j p q hi hj hpq => ?_, fun k q hk => h.2 q (List.mem_of_getElem? hk)⟩
    refine nodup_inj _ h.1 i j p.1 ?_ ?_
    · rw [List.getElem?_map, hi]; rfl
    · rw [List.getElem?_map, hj, hpq]; rfl
theorem Dp {A : Nat → Prop} {ws ws' : va_W} (h : va_D A ws) (hp : ws'.Perm ws) : va_D A ws' := by
  rw [D_iff] at h ⊢
  exact ⟨(hp.map Prod.fst).nodup_iff.mpr h.1, fun q hq => h.2 q (hp.mem_iff.mp hq)⟩
/-- one of them comes to the front -/
theorem Pmv {D : va_G} {cl : List vw_C} (l₁ : va_W) {x : Nat × va_E} {l₂ : va_W} {H : Heap} (h : va_P D cl (l₁ ++ x :: l₂) H) : va_P D cl (x :: (l₁ ++ l₂)) H := Pp h List.perm_middle.symm
theorem Dmv {A : Nat → Prop} (l₁ : va_W) {x : Nat × va_E} {l₂ : va_W} (h : va_D A (l₁ ++ x :: l₂)) : va_D A (x :: (l₁ ++ l₂)) := Dp h List.perm_middle.symm
theorem Pnw {D : va_G} {cl : List vw_C} {x : Nat × va_E} {ws : va_W} {H : Heap} (h : va_P D cl (ws ++ [x]) H) : va_P D cl (x :: ws) H := Pp h (List.perm_append_singleton x ws).symm
theorem Dnw {A : Nat → Prop} {x : Nat × va_E} {ws : va_W} (h : va_D A (ws ++ [x])) : va_D A (x :: ws) := Dp h (List.perm_append_singleton x ws).symm
theorem Pl {D : va_G} {cl : List vw_C} (w1 : va_W) {w2 : va_W} {H : Heap} (h : va_P D cl (w1 ++ w2) H) : va_P D cl w1 H := fun k q hk => P_mem h (List.mem_append_left _ (List.mem_of_getElem? hk))
theorem Pr {D : va_G} {cl : List vw_C} (w1 : va_W) {w2 : va_W} {H : Heap} (h : va_P D cl (w1 ++ w2) H) : va_P D cl w2 H := fun k q hk => P_mem h (List.mem_append_right _ (List.mem_of_getElem? hk))
theorem Dl {A : Nat → Prop} (w1 : va_W) {w2 : va_W} (h : va_D A (w1 ++ w2)) : va_D A w1 := by
  rw [D_iff] at h ⊢
  rw [List.map_append, List.nodup_append] at h
  exact ⟨h.1.1, fun q hq => h.2 q (List.mem_append_left _ hq)⟩
theorem Dr {A : Nat → Prop} (w1 : va_W) {w2 : va_W} (h : va_D A (w1 ++ w2)) : va_D A w2 := by
  rw [D_iff] at h ⊢
  rw [List.map_append, List.nodup_append] at h
  exact ⟨h.1.2.1, fun q hq => h.2 q (List.mem_append_right _ hq)⟩
theorem Dx {A : Nat → Prop} {w1 w2 : va_W} (h : va_D A (w1 ++ w2)) {p q : Nat × va_E} (hp : p ∈ w1) (hq : q ∈ w2) : ¬ p.1 = q.1 := by
  rw [D_iff] at h
  rw [List.map_append, List.nodup_append] at h
  exact h.1.2.2 p.1 (List.mem_map.mpr ⟨p, hp, rfl⟩) q.1 (List.mem_map.mpr ⟨q, hq, rfl⟩)
theorem Ff {A : Nat → Prop} {w1 w2 : va_W} {H0 H : Heap} {locs : List Loc} (hD : va_D A (w1 ++ w2)) (hS : va_S A H0 H locs) (hA : ∀ q : Nat, H0.size ≤ q → A q) : ∀ q, va_A w1 H.size q → A q := fun q h => by
  rcases h with ⟨k, e, h⟩ | h
  · exact (D_iff.mp hD).2 (q, e) (List.mem_append_left _ (List.mem_of_getElem? h))
  · exact hA q (Nat.le_trans hS.1 h)
/-- behind a call: what came back ahead of the rest -/
theorem Jn {A : Nat → Prop} {D : va_G} {cl : List vw_C} {wc w1 wr : va_W} {H H1 : Heap} (hP : va_P D cl (wc ++ wr) H) (hD : va_D A (wc ++ wr)) (hk : ∀ q : Nat, q < H.size → ¬ va_A wc H.size q → H1[q]? = H[q]?) (hF : ∀ q, va_A wc H.size q → A q) (hP1 : va_P D cl w1 H1) (hD1 : va_D (va_A wc H.size) w1) : va_P D cl (w1 ++ wr) H1 ∧ va_D A (w1 ++ wr) := by
  have hap : ∀ q, q ∈ wr → q.1 < H.size ∧ ¬ va_A wc H.size q.1 := fun q hq => by
    have hl := (P_mem (Pr wc hP) hq).lt
    refine ⟨hl, fun h => ?_⟩
    rcases h with ⟨k, e, h⟩ | h
    · exact Dx hD (List.mem_of_getElem? h) hq rfl
    · omega
  refine ⟨P_of (fun q hq => ?_), D_iff.mpr ⟨?_, fun q hq => ?_⟩⟩
  · rcases List.mem_append.mp hq with h | h
    · exact P_mem hP1 h
    · exact (P_mem (Pr wc hP) h).kept (hk _ (hap q h).1 (hap q h).2)
  · rw [List.map_append, List.nodup_append]
    refine ⟨(D_iff.mp hD1).1, (D_iff.mp (Dr wc hD)).1, fun x hx y hy hxy => ?_⟩
    obtain ⟨p, hp, rfl⟩ := List.mem_map.mp hx
    obtain ⟨q, hq, rfl⟩ := List.mem_map.mp hy
    exact (hap q hq).2 (hxy ▸ (D_iff.mp hD1).2 p hp)
  · rcases List.mem_append.mp hq with h | h
    · exact hF _ ((D_iff.mp hD1).2 q h)
    · exact (D_iff.mp hD).2 q (List.mem_append_right _ h)
theorem arr_congr {cA : ClassId} {n : Nat} {f f' : Nat → Int32} (h : ∀ j, j < n → f j = f' j) : vp_cell cA (n, .inl f) = vp_cell cA (n, .inl f') := by
  rw [vp_cell_i, vp_cell_i]
  unfold arrV
  congr 2
  funext j
  dsimp only
  rw [h j.val j.isLt]
theorem arq_congr {cA : ClassId} {n : Nat} {f f' : Nat → Option Nat} (h : ∀ j, j < n → f j = f' j) : vp_cell cA (n, .inr (.inr (.inr (.inr f)))) = vp_cell cA (n, .inr (.inr (.inr (.inr f')))) := by
  rw [vp_cell_q, vp_cell_q]
  unfold arrV
  congr 2
  funext j
  dsimp only
  rw [h j.val j.isLt]
