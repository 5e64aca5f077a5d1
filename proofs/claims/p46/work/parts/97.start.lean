/-! the law from its entry to its end -/
set_option maxHeartbeats 4000000 in
theorem whole_start {p : Program} {e : Env} {s : State} {m : MethodId} {below : List Frame} {meth : Method} {c : Code} (l : Launch) (hflags : l.flags = flags0) {b L : Nat} {xs : Nat → Int32} (hL : L ≤ 260) (C0 : lw_At p s m meth c b L xs) : W p l e room_1 s m #[Value.ref b] below meth c s.heap [] 0 0 (lw_Z below #[Value.ref b] s) (entryFrame m ([Value.ref b] : List Value).toArray 14) := by
  obtain ⟨hx, hb, hr, hml, hown, hts0, hXs, hbl, hlocks, hgv⟩ := C0
  have hts : ∀ w ∈ lw_all, w.before #[Value.ref b] s = true := fun w h => hts0 w (lw_in0 w h)
  refine law_ab l hL hx hb hml hts0 hown hXs hbl hgv (fun z D cy sn fa sim g2 g K κ μ N cs H locs ls hT hX hE h1s hsn hLB hS hl => ?_)
  obtain ⟨hLW, hC, hFF, ⟨eD, ecy, eD2, ecy2⟩, hfa, hz0, hz1, hz2, hTI, hI, hμ, hN, h5, h8, un, ro, fs, fu, fr, hf3, hf5, hcs, hun, hro⟩ := hLB
  have h57 : κ 0 5 = nI 7 := Int32.toInt_inj.mp (by rw [h5]; rfl)
  subst eD
  subst ecy
  have hTb : Tb g2 s := hT
  have hTg : Tb g s := by
    show T3 g.D (tysB g.cy) s
    rw [eD2, ecy2]
    exact hT
  refine W.base ?_
  refine law_d l (z := z) (D := g2.D) (cy := g2.cy) hL hx hb hml hts hown hT hE hX hXs hbl (g0 := g2) (g := g) (X0 := g2.T) hTb hTg hE hFF hfa hC hz0 hz1 hf3 hf5 hcs hun hro (fun H locs ls d1 hS hd1 => ?_) κ μ H locs ls hLW (hI.mono (Int.le_refl _) hN) hμ hTI h57 h8 hS hl
  refine W.widen (k := 600104) (n := 7301314) (Nat.le_of_ble_eq_true rfl) (Nat.le_of_ble_eq_true rfl) ?_
  refine lv_iconst (v := 1) hx hb dL_law_678 (by decide) ?_
  refine W.forget (locs := []) (L := locs) (fun q hq => hS.2.2 q hq) ?_
  exact lw_ret hd1 hx hb hr hlocks dL_law_679
