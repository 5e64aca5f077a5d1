/-! build -/
abbrev tysB (cy : Nat → ClassId) : List (ClassId × FieldType) := [(cy 0, .int), (cy 1, .object "Sandglass$Proc"), (cy 2, .object "java/lang/Object")]
def fun2 (u v : Int32) : Nat → Int32 := fun j => if j = 0 then u else if j = 1 then v else 0
theorem fun2_0 {u : Int32} : upd (fun _ => 0) (0 : Int32).toNatClampNeg u = fun2 u 0 := by
  funext j
  show (if j = 0 then u else 0) = _
  unfold fun2
  by_cases h : j = 0
  · rw [if_pos h, if_pos h]
  · rw [if_neg h, if_neg h]
    by_cases h1 : j = 1
    · rw [if_pos h1]
    · rw [if_neg h1]
theorem fun2_1 {u v : Int32} : upd (fun2 u 0) (1 : Int32).toNatClampNeg v = fun2 u v := by
  funext j
  show (if j = 1 then v else fun2 u 0 j) = _
  unfold fun2
  by_cases h1 : j = 1
  · rw [if_pos h1, if_neg (by omega), if_pos h1]
  · rw [if_neg h1, if_neg h1, if_neg h1]
theorem lit_nI (n : Nat) {j : Nat} : (OfNat.ofNat n : Int32) + nI j = nI (j + n) := by
  show Int32.ofNat n + Int32.ofNat j = Int32.ofNat (j + n)
  rw [Nat.add_comm, Int32.ofNat_add]
theorem P_old2 {D : va_G} {ws : va_W} {H0 : Heap} {A : Nat → Prop} (h : va_P D vwCl ws H0) (hn : ∀ q, q ∈ ws → ¬ A q.1) : ∀ (H : Heap) (locs : List Loc), va_S A H0 H locs → va_P D vwCl ws H := fun H locs hS k q hk => (h k q hk).kept (hS.2.1 _ (h k q hk).lt (hn q (List.mem_of_getElem? hk)))
theorem rcv9 {z b : Nat} {B B' : Bg} {μ : Mem} {s : State} {H : Heap} {fa : Nat} (hT : Tb (B'.r z) s) (hK : KB z b B μ H) (hD : B.D = B'.D) (h272 : B.ad 272 = fa) : ∃ cell : Cell, H[fa]? = some cell ∧ cell.vm.isStatics = false ∧ s.vm.findClass RX8 = some cell.cls := by
  have h := P_mem (D := B.D) (ws := [(B.ad 272, obB z B μ 272)]) (P1 (hK.2.1 272 (Or.inl (Or.inr (Or.inr (Or.inr (Or.inr (Or.inr (Or.inr (Or.inr (Or.inr (Or.inr (Or.inr (Or.inr (Or.inr (Or.inr (Or.inr (Or.inr (Or.inr ⟨rfl, rfl⟩)))))))))))))))))).2) (List.mem_singleton.mpr rfl)
  rw [o272, h272, hD] at h
  exact va_recv (q0 := 0) hT.1 (P1 h) rfl rfl
theorem n_lt {a j : Nat} (h : a ≤ j) (hj : j < 2147483648) : ¬ nI j < nI a := by
  rw [Int32.lt_iff_toInt_lt, nI_toInt hj, nI_toInt (by omega)]
  omega
theorem one_lt {j : Nat} (h : j < 100) : ¬ nI (j + 1) < 1 := n_lt (a := 1) (by omega) (by omega)
theorem nine_lt {j : Nat} (h : j < 9) : ¬ (9 : Int32) < nI (j + 1) := n_lt (j := 9) (by omega) (by decide)
theorem n20_lt {j : Nat} (h : j < 20) : ¬ (20 : Int32) < nI (j + 1) := n_lt (j := 20) (by omega) (by decide)
theorem four_lt {j : Nat} (h : j < 90) : ¬ nI (j + 4) < 1 := n_lt (a := 1) (by omega) (by omega)
theorem n99_lt {j : Nat} (h : j < 90) : ¬ (99 : Int32) < nI (j + 4) := n_lt (j := 99) (by omega) (by decide)
theorem four_le {i j : Nat} (h : i < 4) (hj : j < 90) : ¬ nI (j + 4) < nI i := n_lt (by omega) (by omega)
theorem nn_nI (a c : Nat) : nI a + nI c = nI (a + c) := (Int32.ofNat_add ..).symm
theorem updx {f : Nat → Int32} {i : Nat} {v : Int32} : upd f i v i = v := if_pos rfl
theorem nI_nz0 {j : Nat} (hj : j < 2147483648) (h : ¬ nI j = 0) : j ≠ 0 := fun h9 => h (by rw [h9]; rfl)
theorem nI_iz0 {j : Nat} (hj : j < 2147483648) (h : nI j = 0) : j = 0 := (nI_eq (a := j) (b := 0) hj (by decide)).mp h
theorem nI_lit (n : Nat) : (OfNat.ofNat n : Int32) = nI n := rfl
/-- what the scripts hold -/
def SFI (sn : Nat) (szf : Nat → Nat) (shf : Mem) : Prop := ∀ j i, i < szf (10 + j) → ∃ co a b9, ICh sn co a b9 ∧ shf (138 + 16 * j + i) = insF i co a b9
