/-! the law's start: what it stands on -/
abbrev tEm : Term := .static "java/util/ArrayList" "DEFAULTCAPACITY_EMPTY_ELEMENTDATA" "[Ljava/lang/Object;"
theorem len31 {args : Array Value} {s : State} {t : Term} {v : Value} {a : Addr} {cell : Cell} (hv : (Term.length t).eval args s none [] s = some v) (ht : t.eval args s none [] s = some (.ref a)) (harr : s.arrayAt? a = some cell) : cell.slots.size < 2 ^ 31 := by
  simp only [Term.eval, ht, harr, Option.bind_eq_bind, Option.bind_some] at hv
  by_cases hlt : cell.slots.size < 2147483648
  · exact hlt
  · simp [hlt] at hv
theorem law_em {args : Array Value} {s : State} {D : va_G} {c2 : ClassId} (h : (Jvm.Cond.and given_1 narrow_1).before args s = true) (hl : (Cond.laysStatic "java/util/ArrayList" "DEFAULTCAPACITY_EMPTY_ELEMENTDATA" "[Ljava/lang/Object;").before args s = true) (hini : (Cond.initialized "java/util/ArrayList").before args s = true) : ∃ z, Em D z s.heap.size c2 s := by
  have hs := flat_of_before _ h
  have h1 : (Cond.arrayOf tEm (.object "java/lang/Object")).before args s = true := hs _ (by decide +kernel)
  have h2 : (Cond.eq (.length tEm) (.int 0)).before args s = true := hs _ (by decide +kernel)
  cases hv : (Term.length tEm).eval args s none [] s with
  | none => simp [Cond.before, Cond.holds, Cond.value, hv] at h2
  | some v =>
    obtain ⟨a, cell, ht, harr, hv2⟩ := Term.length_spec hv
    have hsz := len31 hv ht harr
    obtain ⟨hcell, -, -, -⟩ := State.arrayAt?_spec harr
    have hof := (Cond.arrayOf_spec h1 ht hcell).1
    subst hv2
    have h3 : decide (cell.slots.size.toInt32 = 0) = true := by
      have h4 := Cond.eq_ints hv (show (Term.int 0).eval args s none [] s = some (.int 0) from rfl)
      simpa [Cond.before, Cond.holds, h4] using h2
    have h5 : cell.slots.size = 0 := (nI_eq (a := cell.slots.size) (b := 0) hsz (by decide)).mp (of_decide_eq_true h3)
    exact ⟨a, va_Zref hl hini ht (fun x hx h9 => by omega), (Array.getElem?_eq_some_iff.mp hcell).1, Nat.le_refl _, cell, hcell, hof, h5⟩
theorem law_K {args : Array Value} {s : State} (hts : ∀ w ∈ lw_all, w.before args s = true) : ∃ D : va_G, ∀ (c : Nat) (q : vw_C), vwCl[c]? = some q → u_Kn s q.1 q.2.1 q.2.2 (D.1 c) (D.2 c) := by
  have H : ∀ c : Nat, ∃ (cC : ClassId) (iS : Nat → Nat), ∀ q : vw_C, vwCl[c]? = some q → u_Kn s q.1 q.2.1 q.2.2 cC iS := by
    intro c
    rcases c with _ | _ | _ | _ | _ | _ | _ | _ | _ | _ | _ | c
    · obtain ⟨cC, iS, hK⟩ := u_known (C := RJx4a65c) (T := TJx4a65c) (N := 3) (n := 3) hts i_Jx4a65c (hts _ q71)
      exact ⟨cC, iS, fun q hq => by cases hq; exact hK⟩
    · obtain ⟨cC, iS, hK⟩ := u_known (C := RX0) (T := TX0) (N := 1) (n := 1) hts i_X0 (hts _ q553)
      exact ⟨cC, iS, fun q hq => by cases hq; exact hK⟩
    · obtain ⟨cC, iS, hK⟩ := u_known (C := RX1) (T := TX1) (N := 4) (n := 4) hts i_X1 (hts _ q1110)
      exact ⟨cC, iS, fun q hq => by cases hq; exact hK⟩
    · obtain ⟨cC, iS, hK⟩ := u_known (C := RX2) (T := TX2) (N := 17) (n := 17) hts i_X2 (hts _ q106)
      exact ⟨cC, iS, fun q hq => by cases hq; exact hK⟩
    · obtain ⟨cC, iS, hK⟩ := u_known (C := RX3) (T := TX3) (N := 7) (n := 7) hts i_X3 (hts _ q942)
      exact ⟨cC, iS, fun q hq => by cases hq; exact hK⟩
    · obtain ⟨cC, iS, hK⟩ := u_known (C := RX4) (T := TX4) (N := 2) (n := 2) hts i_X4 (hts _ q1070)
      exact ⟨cC, iS, fun q hq => by cases hq; exact hK⟩
    · obtain ⟨cC, iS, hK⟩ := u_known (C := RX5) (T := TX5) (N := 4) (n := 4) hts i_X5 (hts _ q989)
      exact ⟨cC, iS, fun q hq => by cases hq; exact hK⟩
    · obtain ⟨cC, iS, hK⟩ := u_known (C := RX6) (T := TX6) (N := 10) (n := 10) hts i_X6 (hts _ q544)
      exact ⟨cC, iS, fun q hq => by cases hq; exact hK⟩
    · obtain ⟨cC, iS, hK⟩ := u_known (C := RX7) (T := TX7) (N := 10) (n := 10) hts i_X7 (hts _ q97)
      exact ⟨cC, iS, fun q hq => by cases hq; exact hK⟩
    · obtain ⟨cC, iS, hK⟩ := u_known (C := RX8) (T := TX8) (N := 4) (n := 4) hts i_X8 (hts _ q63)
      exact ⟨cC, iS, fun q hq => by cases hq; exact hK⟩
    · obtain ⟨cC, iS, hK⟩ := u_known (C := RX9) (T := TX9) (N := 35) (n := 35) hts i_X9 (hts _ q1133)
      exact ⟨cC, iS, fun q hq => by cases hq; exact hK⟩
    · exact ⟨0, fun _ => 0, fun q hq => by simp at hq⟩
  exact ⟨(fun c => Classical.choose (H c), fun c => Classical.choose (Classical.choose_spec (H c))), fun c q hq => Classical.choose_spec (Classical.choose_spec (H c)) q hq⟩
theorem arr_i {args : Array Value} {s : State} (h : (Cond.arrayClass .int).before args s = true) : ∃ cA, ArrOfT s cA .int ∧ va_RA s cA .int := by
  obtain ⟨cA, k, comp, h1, h2, h3⟩ := Cond.arrayClass_spec h
  exact ⟨cA, fun n z => ⟨(fun k h => by cases h), k, h2, comp, h3⟩, h1⟩
theorem arr_o {args : Array Value} {s : State} {C : String} (h : (Cond.arrayOver (.object C)).before args s = true) : ∃ cA, ArrOfT s cA (.object C) ∧ va_RA s cA (.object C) := by
  obtain ⟨comp, cA, k, h1, -, h2, h3, h4⟩ := Cond.arrayOver_spec h
  exact ⟨cA, fun n z => ⟨(fun k h => by cases h), k, h2, comp, h3⟩, k, comp, h2, h3, h1, h4⟩
theorem nest_in : ∀ q ∈ xnest, Cond.methodLinkNest q.1 q.2.1 q.2.2 "Sandglass" ∈ lw_tbl := by decide +kernel
theorem cast_in : ∀ C ∈ xcast, Cond.castable C "java/lang/Object" ∈ lw_tbl := by decide +kernel
theorem law_env {args : Array Value} {s : State} (hts0 : ∀ w ∈ lw_tbl, w.before args s = true) : ∃ (D : va_G) (cy : Nat → ClassId), T3 D (tysB cy) s ∧ Tx s := by
  obtain ⟨D, hK⟩ := law_K (args := args) (s := s) (fun w h => hts0 w (lw_in0 w h))
  obtain ⟨a0, p0, q0⟩ := arr_i (hts0 (.arrayClass .int) (by decide +kernel))
  have o1 := hts0 (.arrayOver (.object "Sandglass$Proc")) (by decide +kernel)
  have o2 := hts0 (.arrayOver (.object "java/lang/Object")) (by decide +kernel)
  have o3 := hts0 (.arrayOver (.array .int)) (by decide +kernel)
  have o4 := hts0 (.arrayOver (.array (.array .int))) (by decide +kernel)
  have o5 := hts0 (.castable "[I" "java/lang/Cloneable") (by decide +kernel)
  obtain ⟨a1, p1, q1⟩ := arr_o o1
  obtain ⟨a2, p2, q2⟩ := arr_o o2
  refine ⟨D, fun k => if k = 0 then a0 else if k = 1 then a1 else a2, ⟨⟨hK, fun k q hk => ?_⟩, fun q hq => va_Nw.of rfl (hts0 _ (nest_in q hq)), fun C hC => va_Nw.of rfl (hts0 _ (cast_in C hC)), va_AO.of o1, va_AO.of o2⟩, o3, o4, va_Nw.of rfl o5⟩
  rcases k with _ | _ | _ | k
  · cases hk; exact ⟨p0, q0⟩
  · cases hk; exact ⟨p1, q1⟩
  · cases hk; exact ⟨p2, q2⟩
  · simp [tysB] at hk
